set_option maxRecDepth 100000 in
theorem cw_2_7 {l : Launch} {D : va_G} {b0 : Nat} {ad : Nat → Nat} {Hb : Heap} {tau : Nat → Int64} {d n s : Nat} {S : Nat → xS} {Z : xZ} {h : mx_H} {Post : mx_R → Prop} (hx : XH n s S Z h) (hG : GI n S Z)  {x0 x1 : Int} (p0 : 0 ≤ x0 ∧ x0 ≤ 18) (p1 : 0 ≤ x1 ∧ x1 ≤ 18) (hP : ∀ z : Int, 0 ≤ z ∧ z ≤ 385 ∧ z = wy (x0 * 19 + x1) → Post (some (xI z), h)) : mx_J (tB l D b0 ad Hb tau) mt_2 (d + 0) 0 [some (.ref 7), some (xI x0), some (xI x1)] [] h Post := by
    have a7 : 7 < n := lt83 (GI_n hG) rfl
    have s7 : S 7 = .inl (0, [2, 2, 2, 2, 0, 0]) := GI_s hG 7 rfl
    have a8 : 8 < n := lt83 (GI_n hG) rfl
    have s8 : S 8 = .inr (.int, 361, 0) := GI_s hG 8 rfl
    refine mx_J.step (sn_2 0) (fun _ _ => rfl) ?_
    refine JgetR (g := 0) (b := 8) hx (show mx_Sn _ _ 1 (mx_getf 0 0 4) from sn_2 1) a7 s7 rfl rfl (hG.prr 7 0 rfl) ?_
    refine mx_J.step (sn_2 4) (fun _ _ => rfl) ?_
    refine JcI (z := 19) (show mx_Sn _ _ 5 (mx_const (.int 19) 7) from sn_2 5) rfl ?_
    refine Jimul (show mx_Sn _ _ 7 (mx_imul 8) from sn_2 7) ?_
    refine mx_J.step (sn_2 8) (fun _ _ => rfl) ?_
    refine Jiadd (show mx_Sn _ _ 9 (mx_iadd 10) from sn_2 9) ?_
    have b2 : 0 ≤ Z 8 ((x0 * 19) + x1) ∧ Z 8 ((x0 * 19) + x1) ≤ 385 := hG.pr 8 ((x0 * 19) + x1)
    have b3 : ((0 : Int) ≤ ((x0 * 19) + x1) → (((x0 * 19) + x1) : Int) ≤ 360 → (Z 8 ((x0 * 19) + x1)) = wy ((x0 * 19) + x1)) := GI_ex hG 8 ((x0 * 19) + x1)
    refine JialdI (z := Z 8 ((x0 * 19) + x1)) hx (show mx_Sn _ _ 10 (mx_iald 11) from sn_2 10) a8 s8 (by omega) rfl ?_
    exact mx_J.ret (sn_2 11) (fun _ _ => rfl) (hP (Z 8 ((x0 * 19) + x1)) (by omega))
theorem ct_2_7 {l : Launch} {D : va_G} {b0 : Nat} {ad : Nat → Nat} {Hb : Heap} {tau : Nat → Int64} {d n s : Nat} {S : Nat → xS} {Z : xZ} {h : mx_H} (hx : XH n s S Z h) (hG : GI n S Z)  {x0 x1 : Int} (p0 : 0 ≤ x0 ∧ x0 ≤ 18) (p1 : 0 ≤ x1 ∧ x1 ≤ 18) : ∃ z : Int, mx_Ca (tB l D b0 ad Hb tau) (d + 1) 2 [.ref 7, xI x0, xI x1] h (some (xI z), h) ∧ (0 ≤ z ∧ z ≤ 385 ∧ z = wy (x0 * 19 + x1)) := by
  obtain ⟨r, hca, z, e, hp⟩ := Jmt (B := tB l D b0 ad Hb tau) (M := mt_2) (mi := 2) (as := [.ref 7, xI x0, xI x1]) (d := d + 0) (ls := [some (.ref 7), some (xI x0), some (xI x1)]) rfl rfl rfl rfl rfl rfl (cw_2_7 (l := l) (D := D) (b0 := b0) (ad := ad) (Hb := Hb) (tau := tau) (d := d) (Post := fun r => ∃ z : Int, r = (some (xI z), h) ∧ (0 ≤ z ∧ z ≤ 385 ∧ z = wy (x0 * 19 + x1))) hx hG p0 p1 (fun z hz => ⟨z, rfl, hz⟩))
  subst e; exact ⟨z, hca, hp⟩
set_option maxRecDepth 100000 in
theorem cw_5_7 {l : Launch} {D : va_G} {b0 : Nat} {ad : Nat → Nat} {Hb : Heap} {tau : Nat → Int64} {d n s : Nat} {S : Nat → xS} {Z : xZ} {h : mx_H} {Post : mx_R → Prop} (hx : XH n s S Z h) (hG : GI n S Z)  {x0 : Int} (p0 : (-2147483648) ≤ x0 ∧ x0 ≤ 2147483647) (hP : ∀ z : Int, 0 ≤ z ∧ z ≤ 18 ∧ ((z = 0 ∨ (0 ≤ x0 ∧ x0 < Z 7 5 ∧ x0 ≤ 384 ∧ z = Z 10 x0)) ∧ (0 ≤ x0 → x0 < Z 7 5 → z = Z 10 x0)) → Post (some (xI z), h)) : mx_J (tB l D b0 ad Hb tau) mt_5 (d + 0) 0 [some (.ref 7), some (xI x0)] [] h Post := by
    have a7 : 7 < n := lt83 (GI_n hG) rfl
    have s7 : S 7 = .inl (0, [2, 2, 2, 2, 0, 0]) := GI_s hG 7 rfl
    have a10 : 10 < n := lt83 (GI_n hG) rfl
    have s10 : S 10 = .inr (.byte, 385, 0) := GI_s hG 10 rfl
    refine mx_J.step (sn_5 0) (fun _ _ => rfl) ?_
    have c22 : ∀ (k1_0 : Int), 0 ≤ k1_0 ∧ k1_0 ≤ 18 → ((k1_0 = 0 ∨ (0 ≤ x0 ∧ x0 < Z 7 5 ∧ x0 ≤ 384 ∧ k1_0 = Z 10 x0)) ∧ (0 ≤ x0 → x0 < Z 7 5 → k1_0 = Z 10 x0)) → mx_J (tB l D b0 ad Hb tau) mt_5 (d + 0) 22 [some (.ref 7), some (xI x0)] [xI k1_0] h Post := by
      intro k1_0 f1_0 f1_1
      have b2 : 0 ≤ Z 7 5 ∧ Z 7 5 ≤ 385 := hG.pr 7 5
      have b3 : 0 ≤ Z 10 x0 ∧ Z 10 x0 ≤ 18 := hG.pr 10 x0
      exact mx_J.ret (sn_5 22) (fun _ _ => rfl) (hP k1_0 (by omega))
    have c12 : (x0 < 0 ∨ Z 7 5 ≤ x0) → mx_J (tB l D b0 ad Hb tau) mt_5 (d + 0) 12 [some (.ref 7), some (xI x0)] [] h Post := by
      intro f4_0
      refine JcI (z := 0) (show mx_Sn _ _ 12 (mx_const (.int 0) 13) from sn_5 12) rfl ?_
      refine mx_J.step (sn_5 13) (fun _ _ => rfl) ?_
      exact c22 0 (by omega) (by omega)
    refine Jif_lt (show mx_Sn _ _ 1 (mx_if_lt 12 4) from sn_5 1) (by omega) (fun q5 => ?_) (fun q5 => ?_)
    · skip
      exact c12 (by omega)
    · skip
      refine mx_J.step (sn_5 4) (fun _ _ => rfl) ?_
      refine mx_J.step (sn_5 5) (fun _ _ => rfl) ?_
      have b7 : 0 ≤ Z 7 5 ∧ Z 7 5 ≤ 385 := hG.pr 7 5
      refine JgetI (g := 5) (z := Z 7 5) hx (show mx_Sn _ _ 6 (mx_getf 0 5 9) from sn_5 6) a7 s7 rfl rfl rfl ?_
      refine Jicmp_lt (show mx_Sn _ _ 9 (mx_icmp_lt 16 12) from sn_5 9) (by omega) (by omega) (fun q8 => ?_) (fun q8 => ?_)
      · skip
        refine mx_J.step (sn_5 16) (fun _ _ => rfl) ?_
        refine JgetR (g := 2) (b := 10) hx (show mx_Sn _ _ 17 (mx_getf 0 2 20) from sn_5 17) a7 s7 rfl rfl (hG.prr 7 2 rfl) ?_
        refine mx_J.step (sn_5 20) (fun _ _ => rfl) ?_
        have b10 : 0 ≤ Z 10 x0 ∧ Z 10 x0 ≤ 18 := hG.pr 10 x0
        refine JbaldI (z := Z 10 x0) hx (show mx_Sn _ _ 21 (mx_bald 22) from sn_5 21) a10 s10 (by omega) rfl ?_
        exact c22 (Z 10 x0) (by omega) (by omega)
      · skip
        exact c12 (by omega)
theorem ct_5_7 {l : Launch} {D : va_G} {b0 : Nat} {ad : Nat → Nat} {Hb : Heap} {tau : Nat → Int64} {d n s : Nat} {S : Nat → xS} {Z : xZ} {h : mx_H} (hx : XH n s S Z h) (hG : GI n S Z)  {x0 : Int} (p0 : (-2147483648) ≤ x0 ∧ x0 ≤ 2147483647) : ∃ z : Int, mx_Ca (tB l D b0 ad Hb tau) (d + 1) 5 [.ref 7, xI x0] h (some (xI z), h) ∧ (0 ≤ z ∧ z ≤ 18 ∧ ((z = 0 ∨ (0 ≤ x0 ∧ x0 < Z 7 5 ∧ x0 ≤ 384 ∧ z = Z 10 x0)) ∧ (0 ≤ x0 → x0 < Z 7 5 → z = Z 10 x0))) := by
  obtain ⟨r, hca, z, e, hp⟩ := Jmt (B := tB l D b0 ad Hb tau) (M := mt_5) (mi := 5) (as := [.ref 7, xI x0]) (d := d + 0) (ls := [some (.ref 7), some (xI x0)]) rfl rfl rfl rfl rfl rfl (cw_5_7 (l := l) (D := D) (b0 := b0) (ad := ad) (Hb := Hb) (tau := tau) (d := d) (Post := fun r => ∃ z : Int, r = (some (xI z), h) ∧ (0 ≤ z ∧ z ≤ 18 ∧ ((z = 0 ∨ (0 ≤ x0 ∧ x0 < Z 7 5 ∧ x0 ≤ 384 ∧ z = Z 10 x0)) ∧ (0 ≤ x0 → x0 < Z 7 5 → z = Z 10 x0)))) hx hG p0 (fun z hz => ⟨z, rfl, hz⟩))
  subst e; exact ⟨z, hca, hp⟩
set_option maxRecDepth 100000 in
theorem cw_6_7 {l : Launch} {D : va_G} {b0 : Nat} {ad : Nat → Nat} {Hb : Heap} {tau : Nat → Int64} {d n s : Nat} {S : Nat → xS} {Z : xZ} {h : mx_H} {Post : mx_R → Prop} (hx : XH n s S Z h) (hG : GI n S Z)  {x0 x1 : Int} (p0 : (-2147483648) ≤ x0 ∧ x0 ≤ 2147483647) (p1 : (-2147483648) ≤ x1 ∧ x1 ≤ 2147483647) (hP : ∀ z : Int, 0 ≤ z ∧ z ≤ 18 ∧ ((z = 0 ∨ z = Z 9 (x0 * 18 + x1)) ∧ (0 ≤ x1 → x1 < Z 10 x0 → 0 ≤ x0 → x0 < Z 7 5 → z = Z 9 (x0 * 18 + x1))) → Post (some (xI z), h)) : mx_J (tB l D b0 ad Hb tau) mt_6 (d + 1) 0 [some (.ref 7), some (xI x0), some (xI x1)] [] h Post := by
    have a7 : 7 < n := lt83 (GI_n hG) rfl
    have s7 : S 7 = .inl (0, [2, 2, 2, 2, 0, 0]) := GI_s hG 7 rfl
    have a9 : 9 < n := lt83 (GI_n hG) rfl
    have s9 : S 9 = .inr (.byte, 6930, 0) := GI_s hG 9 rfl
    refine mx_J.step (sn_6 0) (fun _ _ => rfl) ?_
    have c28 : ∀ (k1_0 : Int), 0 ≤ k1_0 ∧ k1_0 ≤ 18 → ((k1_0 = 0 ∨ k1_0 = Z 9 (x0 * 18 + x1)) ∧ (0 ≤ x1 → x1 < Z 10 x0 → 0 ≤ x0 → x0 < Z 7 5 → k1_0 = Z 9 (x0 * 18 + x1))) → mx_J (tB l D b0 ad Hb tau) mt_6 (d + 1) 28 [some (.ref 7), some (xI x0), some (xI x1)] [xI k1_0] h Post := by
      intro k1_0 f1_0 f1_1
      have b2 : 0 ≤ Z 9 (x0 * 18 + x1) ∧ Z 9 (x0 * 18 + x1) ≤ 18 := hG.pr 9 (x0 * 18 + x1)
      have b3 : 0 ≤ Z 10 x0 ∧ Z 10 x0 ≤ 18 := hG.pr 10 x0
      have b4 : 0 ≤ Z 7 5 ∧ Z 7 5 ≤ 385 := hG.pr 7 5
      exact mx_J.ret (sn_6 28) (fun _ _ => rfl) (hP k1_0 (by omega))
    have c13 : (x1 < 0 ∨ x0 < 0 ∨ Z 7 5 ≤ x0 ∨ Z 10 x0 ≤ x1) → mx_J (tB l D b0 ad Hb tau) mt_6 (d + 1) 13 [some (.ref 7), some (xI x0), some (xI x1)] [] h Post := by
      intro f5_0
      refine JcI (z := 0) (show mx_Sn _ _ 13 (mx_const (.int 0) 14) from sn_6 13) rfl ?_
      refine mx_J.step (sn_6 14) (fun _ _ => rfl) ?_
      exact c28 0 (by omega) (by omega)
    refine Jif_lt (show mx_Sn _ _ 1 (mx_if_lt 13 4) from sn_6 1) (by omega) (fun q6 => ?_) (fun q6 => ?_)
    · skip
      exact c13 (by omega)
    · skip
      refine mx_J.step (sn_6 4) (fun _ _ => rfl) ?_
      refine mx_J.step (sn_6 5) (fun _ _ => rfl) ?_
      refine mx_J.step (sn_6 6) (fun _ _ => rfl) ?_
      have b8 : 0 ≤ Z 7 5 ∧ Z 7 5 ≤ 385 := hG.pr 7 5
      have b9 : 0 ≤ Z 10 x0 ∧ Z 10 x0 ≤ 18 := hG.pr 10 x0
      obtain ⟨z7, hc7, b7⟩ := ct_5_7 (d := d + 0) (l := l) (D := D) (b0 := b0) (ad := ad) (Hb := Hb) (tau := tau) hx hG (show (-2147483648) ≤ x0 ∧ x0 ≤ 2147483647 by omega)
      refine Jcv hx (show mx_Sn _ _ 7 (mx_callv 5 2 0 10) from sn_6 7) a7 s7 hc7 rfl rfl rfl ?_
      refine Jicmp_lt (show mx_Sn _ _ 10 (mx_icmp_lt 17 13) from sn_6 10) (by omega) (by omega) (fun q10 => ?_) (fun q10 => ?_)
      · skip
        refine mx_J.step (sn_6 17) (fun _ _ => rfl) ?_
        refine JgetR (g := 1) (b := 9) hx (show mx_Sn _ _ 18 (mx_getf 0 1 21) from sn_6 18) a7 s7 rfl rfl (hG.prr 7 1 rfl) ?_
        refine mx_J.step (sn_6 21) (fun _ _ => rfl) ?_
        refine JcI (z := 18) (show mx_Sn _ _ 22 (mx_const (.int 18) 24) from sn_6 22) rfl ?_
        refine Jimul (show mx_Sn _ _ 24 (mx_imul 25) from sn_6 24) ?_
        refine mx_J.step (sn_6 25) (fun _ _ => rfl) ?_
        refine Jiadd (show mx_Sn _ _ 26 (mx_iadd 27) from sn_6 26) ?_
        have b12 : 0 ≤ Z 9 ((x0 * 18) + x1) ∧ Z 9 ((x0 * 18) + x1) ≤ 18 := hG.pr 9 ((x0 * 18) + x1)
        refine JbaldI (z := Z 9 ((x0 * 18) + x1)) hx (show mx_Sn _ _ 27 (mx_bald 28) from sn_6 27) a9 s9 (by omega) rfl ?_
        exact c28 (Z 9 ((x0 * 18) + x1)) (by omega) (by omega)
      · skip
        exact c13 (by omega)
theorem ct_6_7 {l : Launch} {D : va_G} {b0 : Nat} {ad : Nat → Nat} {Hb : Heap} {tau : Nat → Int64} {d n s : Nat} {S : Nat → xS} {Z : xZ} {h : mx_H} (hx : XH n s S Z h) (hG : GI n S Z)  {x0 x1 : Int} (p0 : (-2147483648) ≤ x0 ∧ x0 ≤ 2147483647) (p1 : (-2147483648) ≤ x1 ∧ x1 ≤ 2147483647) : ∃ z : Int, mx_Ca (tB l D b0 ad Hb tau) (d + 2) 6 [.ref 7, xI x0, xI x1] h (some (xI z), h) ∧ (0 ≤ z ∧ z ≤ 18 ∧ ((z = 0 ∨ z = Z 9 (x0 * 18 + x1)) ∧ (0 ≤ x1 → x1 < Z 10 x0 → 0 ≤ x0 → x0 < Z 7 5 → z = Z 9 (x0 * 18 + x1)))) := by
  obtain ⟨r, hca, z, e, hp⟩ := Jmt (B := tB l D b0 ad Hb tau) (M := mt_6) (mi := 6) (as := [.ref 7, xI x0, xI x1]) (d := d + 1) (ls := [some (.ref 7), some (xI x0), some (xI x1)]) rfl rfl rfl rfl rfl rfl (cw_6_7 (l := l) (D := D) (b0 := b0) (ad := ad) (Hb := Hb) (tau := tau) (d := d) (Post := fun r => ∃ z : Int, r = (some (xI z), h) ∧ (0 ≤ z ∧ z ≤ 18 ∧ ((z = 0 ∨ z = Z 9 (x0 * 18 + x1)) ∧ (0 ≤ x1 → x1 < Z 10 x0 → 0 ≤ x0 → x0 < Z 7 5 → z = Z 9 (x0 * 18 + x1))))) hx hG p0 p1 (fun z hz => ⟨z, rfl, hz⟩))
  subst e; exact ⟨z, hca, hp⟩
set_option maxRecDepth 100000 in
theorem cw_7_7 {l : Launch} {D : va_G} {b0 : Nat} {ad : Nat → Nat} {Hb : Heap} {tau : Nat → Int64} {d n s : Nat} {S : Nat → xS} {Z : xZ} {h : mx_H} {Post : mx_R → Prop} (hx : XH n s S Z h) (hG : GI n S Z)  {x0 x1 : Int} (p0 : (-2147483648) ≤ x0 ∧ x0 ≤ 2147483647) (p1 : (-2147483648) ≤ x1 ∧ x1 ≤ 2147483647) (hP : ∀ z : Int, (-1) ≤ z ∧ z ≤ 17 → Post (some (xI z), h)) : mx_J (tB l D b0 ad Hb tau) mt_7 (d + 1) 0 [some (.ref 7), some (xI x0), some (xI x1), none, none] [] h Post := by
    have a7 : 7 < n := lt83 (GI_n hG) rfl
    have s7 : S 7 = .inl (0, [2, 2, 2, 2, 0, 0]) := GI_s hG 7 rfl
    have a9 : 9 < n := lt83 (GI_n hG) rfl
    have s9 : S 9 = .inr (.byte, 6930, 0) := GI_s hG 9 rfl
    refine mx_J.step (sn_7 0) (fun _ _ => rfl) ?_
    refine mx_J.step (sn_7 1) (fun _ _ => rfl) ?_
    have b2 : 0 ≤ Z 7 5 ∧ Z 7 5 ≤ 385 := hG.pr 7 5
    have b3 : 0 ≤ Z 10 x0 ∧ Z 10 x0 ≤ 18 := hG.pr 10 x0
    obtain ⟨z1, hc1, b1⟩ := ct_5_7 (d := d + 0) (l := l) (D := D) (b0 := b0) (ad := ad) (Hb := Hb) (tau := tau) hx hG (show (-2147483648) ≤ x0 ∧ x0 ≤ 2147483647 by omega)
    refine Jcv hx (show mx_Sn _ _ 2 (mx_callv 5 2 0 5) from sn_7 2) a7 s7 hc1 rfl rfl rfl ?_
    refine mx_J.step (ls2 := [some (.ref 7), some (xI x0), some (xI x1), some (xI z1), none]) (sn_7 5) (fun _ _ => rfl) ?_
    refine JcI (z := 0) (show mx_Sn _ _ 6 (mx_const (.int 0) 7) from sn_7 6) rfl ?_
    refine mx_J.step (ls2 := [some (.ref 7), some (xI x0), some (xI x1), some (xI z1), some (xI 0)]) (sn_7 7) (fun _ _ => rfl) ?_
    have c9 : ∀ (m4 : Nat) (w4_4 : Int), 18 - w4_4 < (m4 : Int) → 0 ≤ w4_4 ∧ w4_4 ≤ 18 → mx_J (tB l D b0 ad Hb tau) mt_7 (d + 1) 9 [some (.ref 7), some (xI x0), some (xI x1), some (xI z1), some (xI w4_4)] [] h Post := by
      intro m4
      induction m4 with
      | zero => intro w4_4 q4 f4_0; exact absurd q4 (by omega)
      | succ m4 ih4 =>
        intro w4_4 q4 f4_0
        refine mx_J.step (sn_7 9) (fun _ _ => rfl) ?_
        refine mx_J.step (sn_7 11) (fun _ _ => rfl) ?_
        refine Jicmp_ge (show mx_Sn _ _ 12 (mx_icmp_ge 40 15) from sn_7 12) (by omega) (by omega) (fun q5 => ?_) (fun q5 => ?_)
        · skip
          refine JcI (z := (-1)) (show mx_Sn _ _ 40 (mx_const (.int (-1)) 41) from sn_7 40) rfl ?_
          exact mx_J.ret (sn_7 41) (fun _ _ => rfl) (hP (-1) (by omega))
        · skip
          refine mx_J.step (sn_7 15) (fun _ _ => rfl) ?_
          refine JgetR (g := 1) (b := 9) hx (show mx_Sn _ _ 16 (mx_getf 0 1 19) from sn_7 16) a7 s7 rfl rfl (hG.prr 7 1 rfl) ?_
          refine mx_J.step (sn_7 19) (fun _ _ => rfl) ?_
          refine JcI (z := 18) (show mx_Sn _ _ 20 (mx_const (.int 18) 22) from sn_7 20) rfl ?_
          refine Jimul (show mx_Sn _ _ 22 (mx_imul 23) from sn_7 22) ?_
          refine mx_J.step (sn_7 23) (fun _ _ => rfl) ?_
          refine Jiadd (show mx_Sn _ _ 25 (mx_iadd 26) from sn_7 25) ?_
          have b7 : 0 ≤ Z 9 ((x0 * 18) + w4_4) ∧ Z 9 ((x0 * 18) + w4_4) ≤ 18 := hG.pr 9 ((x0 * 18) + w4_4)
          refine JbaldI (z := Z 9 ((x0 * 18) + w4_4)) hx (show mx_Sn _ _ 26 (mx_bald 27) from sn_7 26) a9 s9 (by omega) rfl ?_
          refine mx_J.step (sn_7 27) (fun _ _ => rfl) ?_
          refine Jicmp_ne (show mx_Sn _ _ 28 (mx_icmp_ne 34 31) from sn_7 28) (by omega) (by omega) (fun q8 => ?_) (fun q8 => ?_)
          · skip
            refine Jiinc (z := w4_4) (cz := 1) (ls2 := [some (.ref 7), some (xI x0), some (xI x1), some (xI z1), some (xI (w4_4 + 1))]) (show mx_Sn _ _ 34 (mx_iinc 4 1 37) from sn_7 34) rfl rfl rfl rfl ?_
            refine mx_J.step (sn_7 37) (fun _ _ => rfl) ?_
            exact ih4 (w4_4 + 1) (by omega) (by omega)
          · skip
            refine mx_J.step (sn_7 31) (fun _ _ => rfl) ?_
            exact mx_J.ret (sn_7 33) (fun _ _ => rfl) (hP w4_4 (by omega))
    exact c9 (Int.toNat (18 - 0) + 1) 0 (by omega) (by omega)
theorem ct_7_7 {l : Launch} {D : va_G} {b0 : Nat} {ad : Nat → Nat} {Hb : Heap} {tau : Nat → Int64} {d n s : Nat} {S : Nat → xS} {Z : xZ} {h : mx_H} (hx : XH n s S Z h) (hG : GI n S Z)  {x0 x1 : Int} (p0 : (-2147483648) ≤ x0 ∧ x0 ≤ 2147483647) (p1 : (-2147483648) ≤ x1 ∧ x1 ≤ 2147483647) : ∃ z : Int, mx_Ca (tB l D b0 ad Hb tau) (d + 2) 7 [.ref 7, xI x0, xI x1] h (some (xI z), h) ∧ ((-1) ≤ z ∧ z ≤ 17) := by
  obtain ⟨r, hca, z, e, hp⟩ := Jmt (B := tB l D b0 ad Hb tau) (M := mt_7) (mi := 7) (as := [.ref 7, xI x0, xI x1]) (d := d + 1) (ls := [some (.ref 7), some (xI x0), some (xI x1), none, none]) rfl rfl rfl rfl rfl rfl (cw_7_7 (l := l) (D := D) (b0 := b0) (ad := ad) (Hb := Hb) (tau := tau) (d := d) (Post := fun r => ∃ z : Int, r = (some (xI z), h) ∧ ((-1) ≤ z ∧ z ≤ 17)) hx hG p0 p1 (fun z hz => ⟨z, rfl, hz⟩))
  subst e; exact ⟨z, hca, hp⟩
set_option maxRecDepth 100000 in
theorem cw_10_7 {l : Launch} {D : va_G} {b0 : Nat} {ad : Nat → Nat} {Hb : Heap} {tau : Nat → Int64} {d n s : Nat} {S : Nat → xS} {Z : xZ} {h : mx_H} {Post : mx_R → Prop} (hx : XH n s S Z h) (hG : GI n S Z)  {x0 x1 : Int} (p0 : (-2147483648) ≤ x0 ∧ x0 ≤ 2147483647) (p1 : (-2147483648) ≤ x1 ∧ x1 ≤ 2147483647) (hP : ∀ z : Int, 0 ≤ z ∧ z ≤ 1 → Post (some (xI z), h)) : mx_J (tB l D b0 ad Hb tau) mt_10 (d + 2) 0 [some (.ref 7), some (xI x0), some (xI x1), none, none] [] h Post := by
    have a7 : 7 < n := lt83 (GI_n hG) rfl
    have s7 : S 7 = .inl (0, [2, 2, 2, 2, 0, 0]) := GI_s hG 7 rfl
    refine JcI (z := 0) (show mx_Sn _ _ 0 (mx_const (.int 0) 1) from sn_10 0) rfl ?_
    refine mx_J.step (ls2 := [some (.ref 7), some (xI x0), some (xI x1), some (xI 0), none]) (sn_10 1) (fun _ _ => rfl) ?_
    refine JcI (z := 0) (show mx_Sn _ _ 2 (mx_const (.int 0) 3) from sn_10 2) rfl ?_
    refine mx_J.step (ls2 := [some (.ref 7), some (xI x0), some (xI x1), some (xI 0), some (xI 0)]) (sn_10 3) (fun _ _ => rfl) ?_
    have c5 : ∀ (m1 : Nat) (w1_3 : Int) (w1_4 : Int), 18 - w1_4 < (m1 : Int) → 0 ≤ w1_3 ∧ w1_3 ≤ 2147483647 → 0 ≤ w1_4 ∧ w1_4 ≤ 18 → mx_J (tB l D b0 ad Hb tau) mt_10 (d + 2) 5 [some (.ref 7), some (xI x0), some (xI x1), some (xI w1_3), some (xI w1_4)] [] h Post := by
      intro m1
      induction m1 with
      | zero => intro w1_3 w1_4 q1 f1_0 f1_1; exact absurd q1 (by omega)
      | succ m1 ih1 =>
        intro w1_3 w1_4 q1 f1_0 f1_1
        refine mx_J.step (sn_10 5) (fun _ _ => rfl) ?_
        refine JcI (z := 18) (show mx_Sn _ _ 7 (mx_const (.int 18) 9) from sn_10 7) rfl ?_
        refine Jicmp_ge (show mx_Sn _ _ 9 (mx_icmp_ge 42 12) from sn_10 9) (by omega) (by omega) (fun q2 => ?_) (fun q2 => ?_)
        · skip
          refine JcI (z := 1) (show mx_Sn _ _ 42 (mx_const (.int 1) 43) from sn_10 42) rfl ?_
          exact mx_J.ret (show mx_Sn _ _ 43 (mx_zret) from sn_10 43) (fun _ _ => zr_ok (by omega)) (hP 1 (by omega))
        · skip
          refine mx_J.step (sn_10 12) (fun _ _ => rfl) ?_
          refine mx_J.step (sn_10 13) (fun _ _ => rfl) ?_
          refine mx_J.step (sn_10 14) (fun _ _ => rfl) ?_
          refine mx_J.step (sn_10 15) (fun _ _ => rfl) ?_
          have b4 : 0 ≤ Z 9 (x1 * 18 + w1_4) ∧ Z 9 (x1 * 18 + w1_4) ≤ 18 := hG.pr 9 (x1 * 18 + w1_4)
          have b5 : 0 ≤ Z 10 x1 ∧ Z 10 x1 ≤ 18 := hG.pr 10 x1
          have b6 : 0 ≤ Z 7 5 ∧ Z 7 5 ≤ 385 := hG.pr 7 5
          obtain ⟨z3, hc3, b3⟩ := ct_6_7 (d := d + 0) (l := l) (D := D) (b0 := b0) (ad := ad) (Hb := Hb) (tau := tau) hx hG (show (-2147483648) ≤ x1 ∧ x1 ≤ 2147483647 by omega) (show (-2147483648) ≤ w1_4 ∧ w1_4 ≤ 2147483647 by omega)
          refine Jcv hx (show mx_Sn _ _ 17 (mx_callv 6 3 0 20) from sn_10 17) a7 s7 hc3 rfl rfl rfl ?_
          refine mx_J.step (sn_10 20) (fun _ _ => rfl) ?_
          refine mx_J.step (sn_10 21) (fun _ _ => rfl) ?_
          refine mx_J.step (sn_10 22) (fun _ _ => rfl) ?_
          have b8 : 0 ≤ Z 9 (x0 * 18 + w1_4) ∧ Z 9 (x0 * 18 + w1_4) ≤ 18 := hG.pr 9 (x0 * 18 + w1_4)
          have b9 : 0 ≤ Z 10 x0 ∧ Z 10 x0 ≤ 18 := hG.pr 10 x0
          obtain ⟨z7, hc7, b7⟩ := ct_6_7 (d := d + 0) (l := l) (D := D) (b0 := b0) (ad := ad) (Hb := Hb) (tau := tau) hx hG (show (-2147483648) ≤ x0 ∧ x0 ≤ 2147483647 by omega) (show (-2147483648) ≤ w1_4 ∧ w1_4 ≤ 2147483647 by omega)
          refine Jcv hx (show mx_Sn _ _ 24 (mx_callv 6 3 0 27) from sn_10 24) a7 s7 hc7 rfl rfl rfl ?_
          refine Jisub (show mx_Sn _ _ 27 (mx_isub 28) from sn_10 27) ?_
          refine JiaddN (show mx_Sn _ _ 28 (mx_iadd 29) from sn_10 28) (fun y10 hy10 hq10 => ?_)
          refine mx_J.step (ls2 := [some (.ref 7), some (xI x0), some (xI x1), some (xI y10), some (xI w1_4)]) (sn_10 29) (fun _ _ => rfl) ?_
          refine mx_J.step (sn_10 30) (fun _ _ => rfl) ?_
          refine Jif_ge (show mx_Sn _ _ 31 (mx_if_ge 36 34) from sn_10 31) (by omega) (fun q11 => ?_) (fun q11 => ?_)
          · skip
            refine Jiinc (z := w1_4) (cz := 1) (ls2 := [some (.ref 7), some (xI x0), some (xI x1), some (xI y10), some (xI (w1_4 + 1))]) (show mx_Sn _ _ 36 (mx_iinc 4 1 39) from sn_10 36) rfl rfl rfl rfl ?_
            refine mx_J.step (sn_10 39) (fun _ _ => rfl) ?_
            exact ih1 y10 (w1_4 + 1) (by omega) (by omega) (by omega)
          · skip
            refine JcI (z := 0) (show mx_Sn _ _ 34 (mx_const (.int 0) 35) from sn_10 34) rfl ?_
            exact mx_J.ret (show mx_Sn _ _ 35 (mx_zret) from sn_10 35) (fun _ _ => zr_ok (by omega)) (hP 0 (by omega))
    exact c5 (Int.toNat (18 - 0) + 1) 0 0 (by omega) (by omega) (by omega)
theorem ct_10_7 {l : Launch} {D : va_G} {b0 : Nat} {ad : Nat → Nat} {Hb : Heap} {tau : Nat → Int64} {d n s : Nat} {S : Nat → xS} {Z : xZ} {h : mx_H} (hx : XH n s S Z h) (hG : GI n S Z)  {x0 x1 : Int} (p0 : (-2147483648) ≤ x0 ∧ x0 ≤ 2147483647) (p1 : (-2147483648) ≤ x1 ∧ x1 ≤ 2147483647) : ∃ z : Int, mx_Ca (tB l D b0 ad Hb tau) (d + 3) 10 [.ref 7, xI x0, xI x1] h (some (xI z), h) ∧ (0 ≤ z ∧ z ≤ 1) := by
  obtain ⟨r, hca, z, e, hp⟩ := Jmt (B := tB l D b0 ad Hb tau) (M := mt_10) (mi := 10) (as := [.ref 7, xI x0, xI x1]) (d := d + 2) (ls := [some (.ref 7), some (xI x0), some (xI x1), none, none]) rfl rfl rfl rfl rfl rfl (cw_10_7 (l := l) (D := D) (b0 := b0) (ad := ad) (Hb := Hb) (tau := tau) (d := d) (Post := fun r => ∃ z : Int, r = (some (xI z), h) ∧ (0 ≤ z ∧ z ≤ 1)) hx hG p0 p1 (fun z hz => ⟨z, rfl, hz⟩))
  subst e; exact ⟨z, hca, hp⟩
set_option maxRecDepth 100000 in
theorem cw_66_ {l : Launch} {D : va_G} {b0 : Nat} {ad : Nat → Nat} {Hb : Heap} {tau : Nat → Int64} {d n s : Nat} {S : Nat → xS} {Z : xZ} {h : mx_H} {Post : mx_R → Prop} (hx : XH n s S Z h) (hG : GI n S Z)  {x0 x1 : Int} (p0 : (-2147483648) ≤ x0 ∧ x0 ≤ 2147483647) (p1 : (-2147483648) ≤ x1 ∧ x1 ≤ 2147483647) (hP : ∀ z : Int, 0 ≤ z ∧ z ≤ 1 → Post (some (xI z), h)) : mx_J (tB l D b0 ad Hb tau) mt_66 (d + 0) 0 [some (xI x0), some (xI x1)] [] h Post := by
    refine mx_J.step (sn_66 0) (fun _ _ => rfl) ?_
    have c14 : ∀ (k1_0 : Int), 0 ≤ k1_0 ∧ k1_0 ≤ 1 → mx_J (tB l D b0 ad Hb tau) mt_66 (d + 0) 14 [some (xI x0), some (xI x1)] [xI k1_0] h Post := by
      intro k1_0 f1_0
      exact mx_J.ret (show mx_Sn _ _ 14 (mx_zret) from sn_66 14) (fun _ _ => zr_ok (by omega)) (hP k1_0 (by omega))
    have c13 : mx_J (tB l D b0 ad Hb tau) mt_66 (d + 0) 13 [some (xI x0), some (xI x1)] [] h Post := by
      refine JcI (z := 0) (show mx_Sn _ _ 13 (mx_const (.int 0) 14) from sn_66 13) rfl ?_
      exact c14 0 (by omega)
    refine Jif_lt (show mx_Sn _ _ 1 (mx_if_lt 13 4) from sn_66 1) (by omega) (fun q3 => ?_) (fun q3 => ?_)
    · skip
      exact c13 
    · skip
      refine mx_J.step (sn_66 4) (fun _ _ => rfl) ?_
      refine mx_J.step (sn_66 5) (fun _ _ => rfl) ?_
      refine Jicmp_ge (show mx_Sn _ _ 6 (mx_icmp_ge 13 9) from sn_66 6) (by omega) (by omega) (fun q4 => ?_) (fun q4 => ?_)
      · skip
        exact c13 
      · skip
        refine JcI (z := 1) (show mx_Sn _ _ 9 (mx_const (.int 1) 10) from sn_66 9) rfl ?_
        refine mx_J.step (sn_66 10) (fun _ _ => rfl) ?_
        exact c14 1 (by omega)
theorem ct_66_ {l : Launch} {D : va_G} {b0 : Nat} {ad : Nat → Nat} {Hb : Heap} {tau : Nat → Int64} {d n s : Nat} {S : Nat → xS} {Z : xZ} {h : mx_H} (hx : XH n s S Z h) (hG : GI n S Z)  {x0 x1 : Int} (p0 : (-2147483648) ≤ x0 ∧ x0 ≤ 2147483647) (p1 : (-2147483648) ≤ x1 ∧ x1 ≤ 2147483647) : ∃ z : Int, mx_Ca (tB l D b0 ad Hb tau) (d + 1) 66 [xI x0, xI x1] h (some (xI z), h) ∧ (0 ≤ z ∧ z ≤ 1) := by
  obtain ⟨r, hca, z, e, hp⟩ := Jmt (B := tB l D b0 ad Hb tau) (M := mt_66) (mi := 66) (as := [xI x0, xI x1]) (d := d + 0) (ls := [some (xI x0), some (xI x1)]) rfl rfl rfl rfl rfl rfl (cw_66_ (l := l) (D := D) (b0 := b0) (ad := ad) (Hb := Hb) (tau := tau) (d := d) (Post := fun r => ∃ z : Int, r = (some (xI z), h) ∧ (0 ≤ z ∧ z ≤ 1)) hx hG p0 p1 (fun z hz => ⟨z, rfl, hz⟩))
  subst e; exact ⟨z, hca, hp⟩
set_option maxRecDepth 100000 in
theorem cw_144_1_n {l : Launch} {D : va_G} {b0 : Nat} {ad : Nat → Nat} {Hb : Heap} {tau : Nat → Int64} {d n s : Nat} {S : Nat → xS} {Z : xZ} {h : mx_H} {Post : mx_R → Prop} (hx : XH n s S Z h) (hG : GI n S Z)  {x0 : Int} (p0 : (-2147483648) ≤ x0 ∧ x0 ≤ (-1)) (hP : ∀ z : Int, 1 ≤ z ∧ z ≤ 1 → Post (some (xI z), h)) : mx_J (tB l D b0 ad Hb tau) mt_144 (d + 0) 0 [some (.ref 1), some (xI x0)] [] h Post := by
    refine mx_J.step (sn_144 0) (fun _ _ => rfl) ?_
    refine Jif_lt (show mx_Sn _ _ 1 (mx_if_lt 9 4) from sn_144 1) (by omega) (fun q1 => ?_) (fun q1 => ?_)
    · skip
      refine JcI (z := 1) (show mx_Sn _ _ 9 (mx_const (.int 1) 10) from sn_144 9) rfl ?_
      refine mx_J.step (sn_144 10) (fun _ _ => rfl) ?_
      exact mx_J.ret (show mx_Sn _ _ 14 (mx_zret) from sn_144 14) (fun _ _ => zr_ok (by omega)) (hP 1 (by omega))
    · skip
      exfalso; omega
theorem ct_144_1_n {l : Launch} {D : va_G} {b0 : Nat} {ad : Nat → Nat} {Hb : Heap} {tau : Nat → Int64} {d n s : Nat} {S : Nat → xS} {Z : xZ} {h : mx_H} (hx : XH n s S Z h) (hG : GI n S Z)  {x0 : Int} (p0 : (-2147483648) ≤ x0 ∧ x0 ≤ (-1)) : ∃ z : Int, mx_Ca (tB l D b0 ad Hb tau) (d + 1) 144 [.ref 1, xI x0] h (some (xI z), h) ∧ (1 ≤ z ∧ z ≤ 1) := by
  obtain ⟨r, hca, z, e, hp⟩ := Jmt (B := tB l D b0 ad Hb tau) (M := mt_144) (mi := 144) (as := [.ref 1, xI x0]) (d := d + 0) (ls := [some (.ref 1), some (xI x0)]) rfl rfl rfl rfl rfl rfl (cw_144_1_n (l := l) (D := D) (b0 := b0) (ad := ad) (Hb := Hb) (tau := tau) (d := d) (Post := fun r => ∃ z : Int, r = (some (xI z), h) ∧ (1 ≤ z ∧ z ≤ 1)) hx hG p0 (fun z hz => ⟨z, rfl, hz⟩))
  subst e; exact ⟨z, hca, hp⟩
set_option maxRecDepth 100000 in
theorem cw_144_1_p {l : Launch} {D : va_G} {b0 : Nat} {ad : Nat → Nat} {Hb : Heap} {tau : Nat → Int64} {d n s : Nat} {S : Nat → xS} {Z : xZ} {h : mx_H} {Post : mx_R → Prop} (hx : XH n s S Z h) (hG : GI n S Z)  {x0 : Int} (p0 : 4 ≤ x0 ∧ x0 ≤ 2147483647) (hP : ∀ z : Int, 1 ≤ z ∧ z ≤ 1 → Post (some (xI z), h)) : mx_J (tB l D b0 ad Hb tau) mt_144 (d + 0) 0 [some (.ref 1), some (xI x0)] [] h Post := by
    refine mx_J.step (sn_144 0) (fun _ _ => rfl) ?_
    have c9 : mx_J (tB l D b0 ad Hb tau) mt_144 (d + 0) 9 [some (.ref 1), some (xI x0)] [] h Post := by
      refine JcI (z := 1) (show mx_Sn _ _ 9 (mx_const (.int 1) 10) from sn_144 9) rfl ?_
      refine mx_J.step (sn_144 10) (fun _ _ => rfl) ?_
      exact mx_J.ret (show mx_Sn _ _ 14 (mx_zret) from sn_144 14) (fun _ _ => zr_ok (by omega)) (hP 1 (by omega))
    refine Jif_lt (show mx_Sn _ _ 1 (mx_if_lt 9 4) from sn_144 1) (by omega) (fun q2 => ?_) (fun q2 => ?_)
    · skip
      exact c9 
    · skip
      refine mx_J.step (sn_144 4) (fun _ _ => rfl) ?_
      refine JcI (z := 4) (show mx_Sn _ _ 5 (mx_const (.int 4) 6) from sn_144 5) rfl ?_
      refine Jicmp_lt (show mx_Sn _ _ 6 (mx_icmp_lt 13 9) from sn_144 6) (by omega) (by omega) (fun q3 => ?_) (fun q3 => ?_)
      · skip
        exfalso; omega
      · skip
        exact c9 
theorem ct_144_1_p {l : Launch} {D : va_G} {b0 : Nat} {ad : Nat → Nat} {Hb : Heap} {tau : Nat → Int64} {d n s : Nat} {S : Nat → xS} {Z : xZ} {h : mx_H} (hx : XH n s S Z h) (hG : GI n S Z)  {x0 : Int} (p0 : 4 ≤ x0 ∧ x0 ≤ 2147483647) : ∃ z : Int, mx_Ca (tB l D b0 ad Hb tau) (d + 1) 144 [.ref 1, xI x0] h (some (xI z), h) ∧ (1 ≤ z ∧ z ≤ 1) := by
  obtain ⟨r, hca, z, e, hp⟩ := Jmt (B := tB l D b0 ad Hb tau) (M := mt_144) (mi := 144) (as := [.ref 1, xI x0]) (d := d + 0) (ls := [some (.ref 1), some (xI x0)]) rfl rfl rfl rfl rfl rfl (cw_144_1_p (l := l) (D := D) (b0 := b0) (ad := ad) (Hb := Hb) (tau := tau) (d := d) (Post := fun r => ∃ z : Int, r = (some (xI z), h) ∧ (1 ≤ z ∧ z ≤ 1)) hx hG p0 (fun z hz => ⟨z, rfl, hz⟩))
  subst e; exact ⟨z, hca, hp⟩
set_option maxRecDepth 100000 in
theorem cw_144_1_y {l : Launch} {D : va_G} {b0 : Nat} {ad : Nat → Nat} {Hb : Heap} {tau : Nat → Int64} {d n s : Nat} {S : Nat → xS} {Z : xZ} {h : mx_H} {Post : mx_R → Prop} (hx : XH n s S Z h) (hG : GI n S Z)  {x0 : Int} (p0 : 0 ≤ x0 ∧ x0 ≤ 3) (hP : ∀ z : Int, 0 ≤ z ∧ z ≤ 0 → Post (some (xI z), h)) : mx_J (tB l D b0 ad Hb tau) mt_144 (d + 0) 0 [some (.ref 1), some (xI x0)] [] h Post := by
    refine mx_J.step (sn_144 0) (fun _ _ => rfl) ?_
    refine Jif_lt (show mx_Sn _ _ 1 (mx_if_lt 9 4) from sn_144 1) (by omega) (fun q1 => ?_) (fun q1 => ?_)
    · skip
      exfalso; omega
    · skip
      refine mx_J.step (sn_144 4) (fun _ _ => rfl) ?_
      refine JcI (z := 4) (show mx_Sn _ _ 5 (mx_const (.int 4) 6) from sn_144 5) rfl ?_
      refine Jicmp_lt (show mx_Sn _ _ 6 (mx_icmp_lt 13 9) from sn_144 6) (by omega) (by omega) (fun q2 => ?_) (fun q2 => ?_)
      · skip
        refine JcI (z := 0) (show mx_Sn _ _ 13 (mx_const (.int 0) 14) from sn_144 13) rfl ?_
        exact mx_J.ret (show mx_Sn _ _ 14 (mx_zret) from sn_144 14) (fun _ _ => zr_ok (by omega)) (hP 0 (by omega))
      · skip
        exfalso; omega
theorem ct_144_1_y {l : Launch} {D : va_G} {b0 : Nat} {ad : Nat → Nat} {Hb : Heap} {tau : Nat → Int64} {d n s : Nat} {S : Nat → xS} {Z : xZ} {h : mx_H} (hx : XH n s S Z h) (hG : GI n S Z)  {x0 : Int} (p0 : 0 ≤ x0 ∧ x0 ≤ 3) : ∃ z : Int, mx_Ca (tB l D b0 ad Hb tau) (d + 1) 144 [.ref 1, xI x0] h (some (xI z), h) ∧ (0 ≤ z ∧ z ≤ 0) := by
  obtain ⟨r, hca, z, e, hp⟩ := Jmt (B := tB l D b0 ad Hb tau) (M := mt_144) (mi := 144) (as := [.ref 1, xI x0]) (d := d + 0) (ls := [some (.ref 1), some (xI x0)]) rfl rfl rfl rfl rfl rfl (cw_144_1_y (l := l) (D := D) (b0 := b0) (ad := ad) (Hb := Hb) (tau := tau) (d := d) (Post := fun r => ∃ z : Int, r = (some (xI z), h) ∧ (0 ≤ z ∧ z ≤ 0)) hx hG p0 (fun z hz => ⟨z, rfl, hz⟩))
  subst e; exact ⟨z, hca, hp⟩
set_option maxRecDepth 100000 in
theorem cw_85_44 {l : Launch} {D : va_G} {b0 : Nat} {ad : Nat → Nat} {Hb : Heap} {tau : Nat → Int64} {d n s : Nat} {S : Nat → xS} {Z : xZ} {h : mx_H} {Post : mx_R → Prop} (hx : XH n s S Z h) (hG : GI n S Z)  {x0 : Int} (p0 : (-2147483648) ≤ x0 ∧ x0 ≤ 2147483647) (hP : ∀ z : Int, (-9223372036854775808) ≤ z ∧ z ≤ 9223372036854775807 ∧ (0 ≤ x0 → x0 ≤ 39 → z = Z 45 x0) → Post (some (xL z), h)) : mx_J (tB l D b0 ad Hb tau) mt_85 (d + 0) 0 [some (.ref 44), some (xI x0)] [] h Post := by
    have a44 : 44 < n := lt83 (GI_n hG) rfl
    have s44 : S 44 = .inl (10, [2, 0, 0, 0]) := GI_s hG 44 rfl
    have a45 : 45 < n := lt83 (GI_n hG) rfl
    have s45 : S 45 = .inr (.long, 40, 1) := GI_s hG 45 rfl
    refine mx_J.step (sn_85 0) (fun _ _ => rfl) ?_
    have c20 : ∀ (k1_0 : Int), (-9223372036854775808) ≤ k1_0 ∧ k1_0 ≤ 9223372036854775807 → (0 ≤ x0 → x0 ≤ 39 → k1_0 = Z 45 x0) → mx_J (tB l D b0 ad Hb tau) mt_85 (d + 0) 20 [some (.ref 44), some (xI x0)] [xL k1_0] h Post := by
      intro k1_0 f1_0 f1_1
      have b2 : (-9223372036854775808) ≤ Z 45 x0 ∧ Z 45 x0 ≤ 9223372036854775807 := hG.pr 45 x0
      exact mx_J.ret (sn_85 20) (fun _ _ => rfl) (hP k1_0 (by omega))
    have c10 : (x0 < 0 ∨ 40 ≤ x0) → mx_J (tB l D b0 ad Hb tau) mt_85 (d + 0) 10 [some (.ref 44), some (xI x0)] [] h Post := by
      intro f3_0
      refine JcL (z := 0) (show mx_Sn _ _ 10 (mx_const (.long 0) 11) from sn_85 10) rfl ?_
      refine mx_J.step (sn_85 11) (fun _ _ => rfl) ?_
      exact c20 0 (by omega) (by omega)
    refine Jif_lt (show mx_Sn _ _ 1 (mx_if_lt 10 4) from sn_85 1) (by omega) (fun q4 => ?_) (fun q4 => ?_)
    · skip
      exact c10 (by omega)
    · skip
      refine mx_J.step (sn_85 4) (fun _ _ => rfl) ?_
      refine JcI (z := 40) (show mx_Sn _ _ 5 (mx_const (.int 40) 7) from sn_85 5) rfl ?_
      refine Jicmp_lt (show mx_Sn _ _ 7 (mx_icmp_lt 14 10) from sn_85 7) (by omega) (by omega) (fun q5 => ?_) (fun q5 => ?_)
      · skip
        refine mx_J.step (sn_85 14) (fun _ _ => rfl) ?_
        refine JgetR (g := 0) (b := 45) hx (show mx_Sn _ _ 15 (mx_getf 10 0 18) from sn_85 15) a44 s44 rfl rfl (hG.prr 44 0 rfl) ?_
        refine mx_J.step (sn_85 18) (fun _ _ => rfl) ?_
        have b7 : (-9223372036854775808) ≤ Z 45 x0 ∧ Z 45 x0 ≤ 9223372036854775807 := hG.pr 45 x0
        refine JlaldL (z := Z 45 x0) hx (show mx_Sn _ _ 19 (mx_lald 20) from sn_85 19) a45 s45 (by omega) rfl ?_
        exact c20 (Z 45 x0) (by omega) (by omega)
      · skip
        exact c10 (by omega)
theorem ct_85_44 {l : Launch} {D : va_G} {b0 : Nat} {ad : Nat → Nat} {Hb : Heap} {tau : Nat → Int64} {d n s : Nat} {S : Nat → xS} {Z : xZ} {h : mx_H} (hx : XH n s S Z h) (hG : GI n S Z)  {x0 : Int} (p0 : (-2147483648) ≤ x0 ∧ x0 ≤ 2147483647) : ∃ z : Int, mx_Ca (tB l D b0 ad Hb tau) (d + 1) 85 [.ref 44, xI x0] h (some (xL z), h) ∧ ((-9223372036854775808) ≤ z ∧ z ≤ 9223372036854775807 ∧ (0 ≤ x0 → x0 ≤ 39 → z = Z 45 x0)) := by
  obtain ⟨r, hca, z, e, hp⟩ := Jmt (B := tB l D b0 ad Hb tau) (M := mt_85) (mi := 85) (as := [.ref 44, xI x0]) (d := d + 0) (ls := [some (.ref 44), some (xI x0)]) rfl rfl rfl rfl rfl rfl (cw_85_44 (l := l) (D := D) (b0 := b0) (ad := ad) (Hb := Hb) (tau := tau) (d := d) (Post := fun r => ∃ z : Int, r = (some (xL z), h) ∧ ((-9223372036854775808) ≤ z ∧ z ≤ 9223372036854775807 ∧ (0 ≤ x0 → x0 ≤ 39 → z = Z 45 x0))) hx hG p0 (fun z hz => ⟨z, rfl, hz⟩))
  subst e; exact ⟨z, hca, hp⟩
set_option maxRecDepth 100000 in
theorem cw_86_44 {l : Launch} {D : va_G} {b0 : Nat} {ad : Nat → Nat} {Hb : Heap} {tau : Nat → Int64} {d n s : Nat} {S : Nat → xS} {Z : xZ} {h : mx_H} {Post : mx_R → Prop} (hx : XH n s S Z h) (hG : GI n S Z)  {x0 x1 : Int} (p0 : (-9223372036854775808) ≤ x0 ∧ x0 ≤ 9223372036854775807) (p1 : (-9223372036854775808) ≤ x1 ∧ x1 ≤ 9223372036854775807) (hP : ∀ z : Int, (z = 1 → AB Z 45 (Z 44 2) x0 x1) ∧ (z = 0 → ∃ j : Int, 0 ≤ j ∧ j < Z 44 2 ∧ (Z 45 j < x0 ∨ x1 < Z 45 j)) ∧ 0 ≤ z ∧ z ≤ 1 → Post (some (xI z), h)) : mx_J (tB l D b0 ad Hb tau) mt_86 (d + 0) 0 [some (.ref 44), some (xL x0), none, some (xL x1), none, none] [] h Post := by
    have a44 : 44 < n := lt83 (GI_n hG) rfl
    have s44 : S 44 = .inl (10, [2, 0, 0, 0]) := GI_s hG 44 rfl
    have a45 : 45 < n := lt83 (GI_n hG) rfl
    have s45 : S 45 = .inr (.long, 40, 1) := GI_s hG 45 rfl
    refine JcI (z := 0) (show mx_Sn _ _ 0 (mx_const (.int 0) 1) from sn_86 0) rfl ?_
    refine mx_J.step (ls2 := [some (.ref 44), some (xL x0), none, some (xL x1), none, some (xI 0)]) (sn_86 1) (fun _ _ => rfl) ?_
    have c3 : ∀ (m1 : Nat) (w1_5 : Int), 40 - w1_5 < (m1 : Int) → 0 ≤ w1_5 ∧ w1_5 ≤ 40 → AB Z 45 w1_5 x0 x1 → mx_J (tB l D b0 ad Hb tau) mt_86 (d + 0) 3 [some (.ref 44), some (xL x0), none, some (xL x1), none, some (xI w1_5)] [] h Post := by
      intro m1
      induction m1 with
      | zero => intro w1_5 q1 f1_0 f1_1; exact absurd q1 (by omega)
      | succ m1 ih1 =>
        intro w1_5 q1 f1_0 f1_1
        refine mx_J.step (sn_86 3) (fun _ _ => rfl) ?_
        refine mx_J.step (sn_86 5) (fun _ _ => rfl) ?_
        have b3 : 0 ≤ Z 44 2 ∧ Z 44 2 ≤ 40 := hG.pr 44 2
        refine JgetI (g := 2) (z := Z 44 2) hx (show mx_Sn _ _ 6 (mx_getf 10 2 9) from sn_86 6) a44 s44 rfl rfl rfl ?_
        refine Jicmp_ge (show mx_Sn _ _ 9 (mx_icmp_ge 44 12) from sn_86 9) (by omega) (by omega) (fun q4 => ?_) (fun q4 => ?_)
        · skip
          refine JcI (z := 1) (show mx_Sn _ _ 44 (mx_const (.int 1) 45) from sn_86 44) rfl ?_
          exact mx_J.ret (show mx_Sn _ _ 45 (mx_zret) from sn_86 45) (fun _ _ => zr_ok (by omega)) (hP 1 ⟨(fun _ => ab_mono (by assumption) (by omega) (by omega) (by omega)), (fun hz => absurd hz (by decide)), by omega⟩)
        · skip
          refine mx_J.step (sn_86 12) (fun _ _ => rfl) ?_
          refine JgetR (g := 0) (b := 45) hx (show mx_Sn _ _ 13 (mx_getf 10 0 16) from sn_86 13) a44 s44 rfl rfl (hG.prr 44 0 rfl) ?_
          refine mx_J.step (sn_86 16) (fun _ _ => rfl) ?_
          have b6 : (-9223372036854775808) ≤ Z 45 w1_5 ∧ Z 45 w1_5 ≤ 9223372036854775807 := hG.pr 45 w1_5
          refine JlaldL (z := Z 45 w1_5) hx (show mx_Sn _ _ 18 (mx_lald 19) from sn_86 18) a45 s45 (by omega) rfl ?_
          refine mx_J.step (sn_86 19) (fun _ _ => rfl) ?_
          have c36 : (Z 45 w1_5 < x0 ∨ x1 < Z 45 w1_5) → mx_J (tB l D b0 ad Hb tau) mt_86 (d + 0) 36 [some (.ref 44), some (xL x0), none, some (xL x1), none, some (xI w1_5)] [] h Post := by
            intro f7_0
            refine JcI (z := 0) (show mx_Sn _ _ 36 (mx_const (.int 0) 37) from sn_86 36) rfl ?_
            exact mx_J.ret (show mx_Sn _ _ 37 (mx_zret) from sn_86 37) (fun _ _ => zr_ok (by omega)) (hP 0 ⟨(fun hz => absurd hz (by decide)), (fun _ => ⟨w1_5, by omega, by omega, by omega⟩), by omega⟩)
          refine Jlif_lt (show mx_Sn _ _ 20 (mx_lif_lt 36 24) from sn_86 20) (by omega) (by omega) (fun q8 => ?_) (fun q8 => ?_)
          · skip
            exact c36 (by omega)
          · skip
            refine mx_J.step (sn_86 24) (fun _ _ => rfl) ?_
            refine JgetR (g := 0) (b := 45) hx (show mx_Sn _ _ 25 (mx_getf 10 0 28) from sn_86 25) a44 s44 rfl rfl (hG.prr 44 0 rfl) ?_
            refine mx_J.step (sn_86 28) (fun _ _ => rfl) ?_
            refine JlaldL (z := Z 45 w1_5) hx (show mx_Sn _ _ 30 (mx_lald 31) from sn_86 30) a45 s45 (by omega) rfl ?_
            refine mx_J.step (sn_86 31) (fun _ _ => rfl) ?_
            refine Jlif_le (show mx_Sn _ _ 32 (mx_lif_le 38 36) from sn_86 32) (by omega) (by omega) (fun q10 => ?_) (fun q10 => ?_)
            · skip
              refine Jiinc (z := w1_5) (cz := 1) (ls2 := [some (.ref 44), some (xL x0), none, some (xL x1), none, some (xI (w1_5 + 1))]) (show mx_Sn _ _ 38 (mx_iinc 5 1 41) from sn_86 38) rfl rfl rfl rfl ?_
              refine mx_J.step (sn_86 41) (fun _ _ => rfl) ?_
              exact ih1 (w1_5 + 1) (by omega) (by omega) (by first | exact ab_nil (by omega) | exact ab_ext (by assumption) (by omega))
            · skip
              exact c36 (by omega)
    exact c3 (Int.toNat (40 - 0) + 1) 0 (by omega) (by omega) (by first | exact ab_nil (by omega) | exact ab_ext (by assumption) (by omega))
theorem ct_86_44 {l : Launch} {D : va_G} {b0 : Nat} {ad : Nat → Nat} {Hb : Heap} {tau : Nat → Int64} {d n s : Nat} {S : Nat → xS} {Z : xZ} {h : mx_H} (hx : XH n s S Z h) (hG : GI n S Z)  {x0 x1 : Int} (p0 : (-9223372036854775808) ≤ x0 ∧ x0 ≤ 9223372036854775807) (p1 : (-9223372036854775808) ≤ x1 ∧ x1 ≤ 9223372036854775807) : ∃ z : Int, mx_Ca (tB l D b0 ad Hb tau) (d + 1) 86 [.ref 44, xL x0, xL x1] h (some (xI z), h) ∧ ((z = 1 → AB Z 45 (Z 44 2) x0 x1) ∧ (z = 0 → ∃ j : Int, 0 ≤ j ∧ j < Z 44 2 ∧ (Z 45 j < x0 ∨ x1 < Z 45 j)) ∧ 0 ≤ z ∧ z ≤ 1) := by
  obtain ⟨r, hca, z, e, hp⟩ := Jmt (B := tB l D b0 ad Hb tau) (M := mt_86) (mi := 86) (as := [.ref 44, xL x0, xL x1]) (d := d + 0) (ls := [some (.ref 44), some (xL x0), none, some (xL x1), none, none]) rfl rfl rfl rfl rfl rfl (cw_86_44 (l := l) (D := D) (b0 := b0) (ad := ad) (Hb := Hb) (tau := tau) (d := d) (Post := fun r => ∃ z : Int, r = (some (xI z), h) ∧ ((z = 1 → AB Z 45 (Z 44 2) x0 x1) ∧ (z = 0 → ∃ j : Int, 0 ≤ j ∧ j < Z 44 2 ∧ (Z 45 j < x0 ∨ x1 < Z 45 j)) ∧ 0 ≤ z ∧ z ≤ 1)) hx hG p0 p1 (fun z hz => ⟨z, rfl, hz⟩))
  subst e; exact ⟨z, hca, hp⟩
set_option maxRecDepth 100000 in
theorem cw_87_44 {l : Launch} {D : va_G} {b0 : Nat} {ad : Nat → Nat} {Hb : Heap} {tau : Nat → Int64} {d n s : Nat} {S : Nat → xS} {Z : xZ} {h : mx_H} {Post : mx_R → Prop} (hx : XH n s S Z h) (hG : GI n S Z)  {x0 : Int} (p0 : (-9223372036854775808) ≤ x0 ∧ x0 ≤ 9223372036854775807) (hP : ∀ z : Int, 0 ≤ z ∧ z ≤ 1 → Post (some (xI z), h)) : mx_J (tB l D b0 ad Hb tau) mt_87 (d + 0) 0 [some (.ref 44), some (xL x0), none, none] [] h Post := by
    have a44 : 44 < n := lt83 (GI_n hG) rfl
    have s44 : S 44 = .inl (10, [2, 0, 0, 0]) := GI_s hG 44 rfl
    have a45 : 45 < n := lt83 (GI_n hG) rfl
    have s45 : S 45 = .inr (.long, 40, 1) := GI_s hG 45 rfl
    refine JcI (z := 0) (show mx_Sn _ _ 0 (mx_const (.int 0) 1) from sn_87 0) rfl ?_
    refine mx_J.step (ls2 := [some (.ref 44), some (xL x0), none, some (xI 0)]) (sn_87 1) (fun _ _ => rfl) ?_
    have c2 : ∀ (m1 : Nat) (w1_3 : Int), 40 - w1_3 < (m1 : Int) → 0 ≤ w1_3 ∧ w1_3 ≤ 40 → mx_J (tB l D b0 ad Hb tau) mt_87 (d + 0) 2 [some (.ref 44), some (xL x0), none, some (xI w1_3)] [] h Post := by
      intro m1
      induction m1 with
      | zero => intro w1_3 q1 f1_0; exact absurd q1 (by omega)
      | succ m1 ih1 =>
        intro w1_3 q1 f1_0
        refine mx_J.step (sn_87 2) (fun _ _ => rfl) ?_
        refine mx_J.step (sn_87 3) (fun _ _ => rfl) ?_
        have b3 : 0 ≤ Z 44 2 ∧ Z 44 2 ≤ 40 := hG.pr 44 2
        refine JgetI (g := 2) (z := Z 44 2) hx (show mx_Sn _ _ 4 (mx_getf 10 2 7) from sn_87 4) a44 s44 rfl rfl rfl ?_
        refine Jicmp_ge (show mx_Sn _ _ 7 (mx_icmp_ge 29 10) from sn_87 7) (by omega) (by omega) (fun q4 => ?_) (fun q4 => ?_)
        · skip
          refine JcI (z := 0) (show mx_Sn _ _ 29 (mx_const (.int 0) 30) from sn_87 29) rfl ?_
          exact mx_J.ret (show mx_Sn _ _ 30 (mx_zret) from sn_87 30) (fun _ _ => zr_ok (by omega)) (hP 0 (by omega))
        · skip
          refine mx_J.step (sn_87 10) (fun _ _ => rfl) ?_
          refine JgetR (g := 0) (b := 45) hx (show mx_Sn _ _ 11 (mx_getf 10 0 14) from sn_87 11) a44 s44 rfl rfl (hG.prr 44 0 rfl) ?_
          refine mx_J.step (sn_87 14) (fun _ _ => rfl) ?_
          have b6 : (-9223372036854775808) ≤ Z 45 w1_3 ∧ Z 45 w1_3 ≤ 9223372036854775807 := hG.pr 45 w1_3
          refine JlaldL (z := Z 45 w1_3) hx (show mx_Sn _ _ 15 (mx_lald 16) from sn_87 15) a45 s45 (by omega) rfl ?_
          refine mx_J.step (sn_87 16) (fun _ _ => rfl) ?_
          refine Jlif_ne (show mx_Sn _ _ 17 (mx_lif_ne 23 21) from sn_87 17) (by omega) (by omega) (fun q7 => ?_) (fun q7 => ?_)
          · skip
            refine Jiinc (z := w1_3) (cz := 1) (ls2 := [some (.ref 44), some (xL x0), none, some (xI (w1_3 + 1))]) (show mx_Sn _ _ 23 (mx_iinc 3 1 26) from sn_87 23) rfl rfl rfl rfl ?_
            refine mx_J.step (sn_87 26) (fun _ _ => rfl) ?_
            exact ih1 (w1_3 + 1) (by omega) (by omega)
          · skip
            refine JcI (z := 1) (show mx_Sn _ _ 21 (mx_const (.int 1) 22) from sn_87 21) rfl ?_
            exact mx_J.ret (show mx_Sn _ _ 22 (mx_zret) from sn_87 22) (fun _ _ => zr_ok (by omega)) (hP 1 (by omega))
    exact c2 (Int.toNat (40 - 0) + 1) 0 (by omega) (by omega)
theorem ct_87_44 {l : Launch} {D : va_G} {b0 : Nat} {ad : Nat → Nat} {Hb : Heap} {tau : Nat → Int64} {d n s : Nat} {S : Nat → xS} {Z : xZ} {h : mx_H} (hx : XH n s S Z h) (hG : GI n S Z)  {x0 : Int} (p0 : (-9223372036854775808) ≤ x0 ∧ x0 ≤ 9223372036854775807) : ∃ z : Int, mx_Ca (tB l D b0 ad Hb tau) (d + 1) 87 [.ref 44, xL x0] h (some (xI z), h) ∧ (0 ≤ z ∧ z ≤ 1) := by
  obtain ⟨r, hca, z, e, hp⟩ := Jmt (B := tB l D b0 ad Hb tau) (M := mt_87) (mi := 87) (as := [.ref 44, xL x0]) (d := d + 0) (ls := [some (.ref 44), some (xL x0), none, none]) rfl rfl rfl rfl rfl rfl (cw_87_44 (l := l) (D := D) (b0 := b0) (ad := ad) (Hb := Hb) (tau := tau) (d := d) (Post := fun r => ∃ z : Int, r = (some (xI z), h) ∧ (0 ≤ z ∧ z ≤ 1)) hx hG p0 (fun z hz => ⟨z, rfl, hz⟩))
  subst e; exact ⟨z, hca, hp⟩
set_option maxRecDepth 100000 in
theorem cw_84_44 {l : Launch} {D : va_G} {b0 : Nat} {ad : Nat → Nat} {Hb : Heap} {tau : Nat → Int64} {d n s : Nat} {S : Nat → xS} {Z : xZ} {h : mx_H} {Post : mx_R → Prop} (hx : XH n s S Z h) (hG : GI n S Z)  {x0 x1 : Int} (p0 : (-2147483648) ≤ x0 ∧ x0 ≤ 2147483647) (p1 : (-9223372036854775808) ≤ x1 ∧ x1 ≤ 9223372036854775807) (hP : ∀ (Z' : xZ) (h' : mx_H), XH n s S Z' h' → GI n S Z' → fr' [(45, (-1))] Z Z' → (∀ i, ¬ i = x0 → Z' 45 i = Z 45 i) ∧ (0 ≤ x0 → x0 ≤ 39 → ((Z 44 1 = 0 → -128 ≤ Z' 45 x0 ∧ Z' 45 x0 ≤ 127 ∧ (Z' 45 x0 - x1) % 256 = 0) ∧ (Z 44 1 = 1 → -32768 ≤ Z' 45 x0 ∧ Z' 45 x0 ≤ 32767 ∧ (Z' 45 x0 - x1) % 65536 = 0) ∧ (Z 44 1 = 2 → -2147483648 ≤ Z' 45 x0 ∧ Z' 45 x0 ≤ 2147483647 ∧ (Z' 45 x0 - x1) % 4294967296 = 0) ∧ (¬ Z 44 1 = 0 → ¬ Z 44 1 = 1 → ¬ Z 44 1 = 2 → Z' 45 x0 = x1))) → Post (none, h')) : mx_J (tB l D b0 ad Hb tau) mt_84 (d + 0) 0 [some (.ref 44), some (xI x0), some (xL x1), none] [] h Post := by
    have a44 : 44 < n := lt83 (GI_n hG) rfl
    have s44 : S 44 = .inl (10, [2, 0, 0, 0]) := GI_s hG 44 rfl
    have a45 : 45 < n := lt83 (GI_n hG) rfl
    have s45 : S 45 = .inr (.long, 40, 1) := GI_s hG 45 rfl
    refine mx_J.step (sn_84 0) (fun _ _ => rfl) ?_
    have c10 : (x0 < 0 ∨ 40 ≤ x0) → mx_J (tB l D b0 ad Hb tau) mt_84 (d + 0) 10 [some (.ref 44), some (xI x0), some (xL x1), none] [] h Post := by
      intro f1_0
      have b2 : (-9223372036854775808) ≤ Z 45 x0 ∧ Z 45 x0 ≤ 9223372036854775807 := hG.pr 45 x0
      have b3 : 0 ≤ Z 44 1 ∧ Z 44 1 ≤ 3 := hG.pr 44 1
      exact mx_J.ret (sn_84 10) (fun _ _ => rfl) (hP Z h hx hG fr_rf ⟨(fun i _ => rfl), by omega⟩)
    refine Jif_lt (show mx_Sn _ _ 1 (mx_if_lt 10 4) from sn_84 1) (by omega) (fun q4 => ?_) (fun q4 => ?_)
    · skip
      exact c10 (by omega)
    · skip
      refine mx_J.step (sn_84 4) (fun _ _ => rfl) ?_
      refine JcI (z := 40) (show mx_Sn _ _ 5 (mx_const (.int 40) 7) from sn_84 5) rfl ?_
      refine Jicmp_lt (show mx_Sn _ _ 7 (mx_icmp_lt 11 10) from sn_84 7) (by omega) (by omega) (fun q5 => ?_) (fun q5 => ?_)
      · skip
        refine mx_J.step (sn_84 11) (fun _ _ => rfl) ?_
        have b7 : 0 ≤ Z 44 1 ∧ Z 44 1 ≤ 3 := hG.pr 44 1
        refine JgetI (g := 1) (z := Z 44 1) hx (show mx_Sn _ _ 12 (mx_getf 10 1 15) from sn_84 12) a44 s44 rfl rfl rfl ?_
        have c85 : ∀  (Z9 : xZ) (h9 : mx_H), (0 ≤ x0 → x0 ≤ 39 → ((Z 44 1 = 0 → -128 ≤ Z9 45 x0 ∧ Z9 45 x0 ≤ 127 ∧ (Z9 45 x0 - x1) % 256 = 0) ∧ (Z 44 1 = 1 → -32768 ≤ Z9 45 x0 ∧ Z9 45 x0 ≤ 32767 ∧ (Z9 45 x0 - x1) % 65536 = 0) ∧ (Z 44 1 = 2 → -2147483648 ≤ Z9 45 x0 ∧ Z9 45 x0 ≤ 2147483647 ∧ (Z9 45 x0 - x1) % 4294967296 = 0) ∧ (¬ Z 44 1 = 0 → ¬ Z 44 1 = 1 → ¬ Z 44 1 = 2 → Z9 45 x0 = x1))) → (∀ i, ¬ i = x0 → Z9 45 i = Z 45 i) → XH n s S Z9 h9 → GI n S Z9 → fr' [(45, (-1))] Z Z9 → mx_J (tB l D b0 ad Hb tau) mt_84 (d + 0) 85 [some (.ref 44), some (xI x0), some (xL x1), none] [] h9 Post := by
          intro Z9 h9 f8_0 f8_1 hx9 hG9 hf9
          have b10 : (-9223372036854775808) ≤ Z9 45 x0 ∧ Z9 45 x0 ≤ 9223372036854775807 := hG9.pr 45 x0
          have eq11 : Z9 44 1 = Z 44 1 := (hf9 44 1 rfl)
          exact mx_J.ret (sn_84 85) (fun _ _ => rfl) (hP Z9 h9 hx9 hG9 (fr_tr (M := [(45, (-1))]) fr_rf (hf9) (M1 := []) rfl rfl) ⟨(by assumption), by omega⟩)
        refine Jtsw (z := Z 44 1) (show mx_Sn _ _ 15 (mx_tsw 0 2 [40, 53, 66] 78) from sn_84 15) (by omega) (fun q12 => ?_) (fun q12 => ?_)
        · skip
          refine mx_J.step (sn_84 78) (fun _ _ => rfl) ?_
          refine JgetR (g := 0) (b := 45) hx (show mx_Sn _ _ 79 (mx_getf 10 0 82) from sn_84 79) a44 s44 rfl rfl (hG.prr 44 0 rfl) ?_
          refine mx_J.step (sn_84 82) (fun _ _ => rfl) ?_
          refine mx_J.step (sn_84 83) (fun _ _ => rfl) ?_
          refine JlastL hx (show mx_Sn _ _ 84 (mx_last 1 85) from sn_84 84) a45 s45 rfl (by omega) (fun Z14 h14 hx14 hE14 => ?_)
          have hG14 := GI_up hG hE14 (show (-9223372036854775808) ≤ x1 ∧ x1 ≤ 9223372036854775807 by omega) trivial rfl
          have i0 : Z14 45 x0 = x1 := up_at hE14
          exact c85 Z14 h14 (by omega) (fun i hi => up_ni hE14 hi) hx14 hG14 (fr_tr (M := [(45, (-1))]) fr_rf (fr_ua hE14) (M1 := []) rfl rfl)
        · skip
          have e12 : Z 44 1 = 0 ∨ Z 44 1 = 1 ∨ Z 44 1 = 2 := by omega
          rcases e12 with e12 | e12 | e12
          · refine ⟨40, by rw [e12]; rfl, ?_⟩
            refine mx_J.step (sn_84 40) (fun _ _ => rfl) ?_
            refine JgetR (g := 0) (b := 45) hx (show mx_Sn _ _ 41 (mx_getf 10 0 44) from sn_84 41) a44 s44 rfl rfl (hG.prr 44 0 rfl) ?_
            refine mx_J.step (sn_84 44) (fun _ _ => rfl) ?_
            refine mx_J.step (sn_84 45) (fun _ _ => rfl) ?_
            refine Jl2iY (show mx_Sn _ _ 46 (mx_l2i 47) from sn_84 46) (fun y16 hy16 hq16 => ?_)
            refine Ji2bY (show mx_Sn _ _ 47 (mx_i2b 48) from sn_84 47) (by omega) (fun y17 hy17 hq17 => ?_)
            refine Ji2l (show mx_Sn _ _ 48 (mx_i2l 49) from sn_84 48) (by omega) ?_
            refine JlastL hx (show mx_Sn _ _ 49 (mx_last 1 50) from sn_84 49) a45 s45 rfl (by omega) (fun Z18 h18 hx18 hE18 => ?_)
            have hG18 := GI_up hG hE18 (show (-9223372036854775808) ≤ y17 ∧ y17 ≤ 9223372036854775807 by omega) trivial rfl
            have i0 : Z18 45 x0 = y17 := up_at hE18
            refine mx_J.step (sn_84 50) (fun _ _ => rfl) ?_
            exact c85 Z18 h18 (by omega) (fun i hi => up_ni hE18 hi) hx18 hG18 (fr_tr (M := [(45, (-1))]) fr_rf (fr_ua hE18) (M1 := []) rfl rfl)
          · refine ⟨53, by rw [e12]; rfl, ?_⟩
            refine mx_J.step (sn_84 53) (fun _ _ => rfl) ?_
            refine JgetR (g := 0) (b := 45) hx (show mx_Sn _ _ 54 (mx_getf 10 0 57) from sn_84 54) a44 s44 rfl rfl (hG.prr 44 0 rfl) ?_
            refine mx_J.step (sn_84 57) (fun _ _ => rfl) ?_
            refine mx_J.step (sn_84 58) (fun _ _ => rfl) ?_
            refine Jl2iY (show mx_Sn _ _ 59 (mx_l2i 60) from sn_84 59) (fun y20 hy20 hq20 => ?_)
            refine Ji2sY (show mx_Sn _ _ 60 (mx_i2s 61) from sn_84 60) (by omega) (fun y21 hy21 hq21 => ?_)
            refine Ji2l (show mx_Sn _ _ 61 (mx_i2l 62) from sn_84 61) (by omega) ?_
            refine JlastL hx (show mx_Sn _ _ 62 (mx_last 1 63) from sn_84 62) a45 s45 rfl (by omega) (fun Z22 h22 hx22 hE22 => ?_)
            have hG22 := GI_up hG hE22 (show (-9223372036854775808) ≤ y21 ∧ y21 ≤ 9223372036854775807 by omega) trivial rfl
            have i0 : Z22 45 x0 = y21 := up_at hE22
            refine mx_J.step (sn_84 63) (fun _ _ => rfl) ?_
            exact c85 Z22 h22 (by omega) (fun i hi => up_ni hE22 hi) hx22 hG22 (fr_tr (M := [(45, (-1))]) fr_rf (fr_ua hE22) (M1 := []) rfl rfl)
          · refine ⟨66, by rw [e12]; rfl, ?_⟩
            refine mx_J.step (sn_84 66) (fun _ _ => rfl) ?_
            refine JgetR (g := 0) (b := 45) hx (show mx_Sn _ _ 67 (mx_getf 10 0 70) from sn_84 67) a44 s44 rfl rfl (hG.prr 44 0 rfl) ?_
            refine mx_J.step (sn_84 70) (fun _ _ => rfl) ?_
            refine mx_J.step (sn_84 71) (fun _ _ => rfl) ?_
            refine Jl2iY (show mx_Sn _ _ 72 (mx_l2i 73) from sn_84 72) (fun y24 hy24 hq24 => ?_)
            refine Ji2l (show mx_Sn _ _ 73 (mx_i2l 74) from sn_84 73) (by omega) ?_
            refine JlastL hx (show mx_Sn _ _ 74 (mx_last 1 75) from sn_84 74) a45 s45 rfl (by omega) (fun Z25 h25 hx25 hE25 => ?_)
            have hG25 := GI_up hG hE25 (show (-9223372036854775808) ≤ y24 ∧ y24 ≤ 9223372036854775807 by omega) trivial rfl
            have i0 : Z25 45 x0 = y24 := up_at hE25
            refine mx_J.step (sn_84 75) (fun _ _ => rfl) ?_
            exact c85 Z25 h25 (by omega) (fun i hi => up_ni hE25 hi) hx25 hG25 (fr_tr (M := [(45, (-1))]) fr_rf (fr_ua hE25) (M1 := []) rfl rfl)
      · skip
        exact c10 (by omega)
theorem ct_84_44 {l : Launch} {D : va_G} {b0 : Nat} {ad : Nat → Nat} {Hb : Heap} {tau : Nat → Int64} {d n s : Nat} {S : Nat → xS} {Z : xZ} {h : mx_H} (hx : XH n s S Z h) (hG : GI n S Z)  {x0 x1 : Int} (p0 : (-2147483648) ≤ x0 ∧ x0 ≤ 2147483647) (p1 : (-9223372036854775808) ≤ x1 ∧ x1 ≤ 9223372036854775807) : ∃ (Z' : xZ) (h' : mx_H), mx_Ca (tB l D b0 ad Hb tau) (d + 1) 84 [.ref 44, xI x0, xL x1] h (none, h') ∧ XH n s S Z' h' ∧ GI n S Z' ∧ fr' [(45, (-1))] Z Z' ∧ ((∀ i, ¬ i = x0 → Z' 45 i = Z 45 i) ∧ (0 ≤ x0 → x0 ≤ 39 → ((Z 44 1 = 0 → -128 ≤ Z' 45 x0 ∧ Z' 45 x0 ≤ 127 ∧ (Z' 45 x0 - x1) % 256 = 0) ∧ (Z 44 1 = 1 → -32768 ≤ Z' 45 x0 ∧ Z' 45 x0 ≤ 32767 ∧ (Z' 45 x0 - x1) % 65536 = 0) ∧ (Z 44 1 = 2 → -2147483648 ≤ Z' 45 x0 ∧ Z' 45 x0 ≤ 2147483647 ∧ (Z' 45 x0 - x1) % 4294967296 = 0) ∧ (¬ Z 44 1 = 0 → ¬ Z 44 1 = 1 → ¬ Z 44 1 = 2 → Z' 45 x0 = x1)))) := by
  obtain ⟨r, hca, Z', h', e, q⟩ := Jmt (B := tB l D b0 ad Hb tau) (M := mt_84) (mi := 84) (as := [.ref 44, xI x0, xL x1]) (d := d + 0) (ls := [some (.ref 44), some (xI x0), some (xL x1), none]) rfl rfl rfl rfl rfl rfl (cw_84_44 (l := l) (D := D) (b0 := b0) (ad := ad) (Hb := Hb) (tau := tau) (d := d) (Post := fun r => ∃ (Z' : xZ) (h' : mx_H), r = (none, h') ∧ XH n s S Z' h' ∧ GI n S Z' ∧ fr' [(45, (-1))] Z Z' ∧ ((∀ i, ¬ i = x0 → Z' 45 i = Z 45 i) ∧ (0 ≤ x0 → x0 ≤ 39 → ((Z 44 1 = 0 → -128 ≤ Z' 45 x0 ∧ Z' 45 x0 ≤ 127 ∧ (Z' 45 x0 - x1) % 256 = 0) ∧ (Z 44 1 = 1 → -32768 ≤ Z' 45 x0 ∧ Z' 45 x0 ≤ 32767 ∧ (Z' 45 x0 - x1) % 65536 = 0) ∧ (Z 44 1 = 2 → -2147483648 ≤ Z' 45 x0 ∧ Z' 45 x0 ≤ 2147483647 ∧ (Z' 45 x0 - x1) % 4294967296 = 0) ∧ (¬ Z 44 1 = 0 → ¬ Z 44 1 = 1 → ¬ Z 44 1 = 2 → Z' 45 x0 = x1))))) hx hG p0 p1 (fun Z' h' q1 q2 q3 q4 => ⟨Z', h', rfl, q1, q2, q3, q4⟩))
  subst e; exact ⟨Z', h', hca, q⟩
set_option maxRecDepth 100000 in
theorem cw_285_45 {l : Launch} {D : va_G} {b0 : Nat} {ad : Nat → Nat} {Hb : Heap} {tau : Nat → Int64} {d n s : Nat} {S : Nat → xS} {Z : xZ} {h : mx_H} {Post : mx_R → Prop} (hx : XH n s S Z h) (hG : GI n S Z)  {x0 : Int} (p0 : (-9223372036854775808) ≤ x0 ∧ x0 ≤ 9223372036854775807) (hP : ∀ (Z' : xZ) (h' : mx_H), XH n s S Z' h' → GI n S Z' → fr' [(45, (-1))] Z Z' → FLL Z' 45 40 x0 → Post (none, h')) : mx_J (tB l D b0 ad Hb tau) mt_285 (d + 0) 0 [some (.ref 45), some (xL x0), none, none, none] [] h Post := by
    have a45 : 45 < n := lt83 (GI_n hG) rfl
    have s45 : S 45 = .inr (.long, 40, 1) := GI_s hG 45 rfl
    refine JcI (z := 0) (show mx_Sn _ _ 0 (mx_const (.int 0) 1) from sn_285 0) rfl ?_
    refine mx_J.step (ls2 := [some (.ref 45), some (xL x0), none, some (xI 0), none]) (sn_285 1) (fun _ _ => rfl) ?_
    refine mx_J.step (sn_285 2) (fun _ _ => rfl) ?_
    refine JalenI (z := 40) hx (show mx_Sn _ _ 3 (mx_alen 4) from sn_285 3) a45 s45 (by decide) rfl ?_
    refine mx_J.step (ls2 := [some (.ref 45), some (xL x0), none, some (xI 0), some (xI 40)]) (sn_285 4) (fun _ _ => rfl) ?_
    have c6 : ∀ (m1 : Nat) (w1_3 : Int) (Z2 : xZ) (h2 : mx_H), 40 - w1_3 < (m1 : Int) → 0 ≤ w1_3 ∧ w1_3 ≤ 40 → FLL Z2 45 w1_3 x0 → XH n s S Z2 h2 → GI n S Z2 → fr' [(45, (-1))] Z Z2 → mx_J (tB l D b0 ad Hb tau) mt_285 (d + 0) 6 [some (.ref 45), some (xL x0), none, some (xI w1_3), some (xI 40)] [] h2 Post := by
      intro m1
      induction m1 with
      | zero => intro w1_3 Z2 h2 q1 f1_0 f1_1 hx2 hG2 hf2; exact absurd q1 (by omega)
      | succ m1 ih1 =>
        intro w1_3 Z2 h2 q1 f1_0 f1_1 hx2 hG2 hf2
        refine mx_J.step (sn_285 6) (fun _ _ => rfl) ?_
        refine mx_J.step (sn_285 7) (fun _ _ => rfl) ?_
        refine Jicmp_ge (show mx_Sn _ _ 9 (mx_icmp_ge 22 12) from sn_285 9) (by omega) (by omega) (fun q3 => ?_) (fun q3 => ?_)
        · skip
          exact mx_J.ret (sn_285 22) (fun _ _ => rfl) (hP Z2 h2 hx2 hG2 (fr_tr (M := [(45, (-1))]) fr_rf (hf2) (M1 := []) rfl rfl) (fll_e (by assumption) (by omega)))
        · skip
          refine mx_J.step (sn_285 12) (fun _ _ => rfl) ?_
          refine mx_J.step (sn_285 13) (fun _ _ => rfl) ?_
          refine mx_J.step (sn_285 14) (fun _ _ => rfl) ?_
          refine JlastL hx2 (show mx_Sn _ _ 15 (mx_last 1 16) from sn_285 15) a45 s45 rfl (by omega) (fun Z4 h4 hx4 hE4 => ?_)
          have hG4 := GI_up hG2 hE4 (show (-9223372036854775808) ≤ x0 ∧ x0 ≤ 9223372036854775807 by omega) trivial rfl
          have fl1 : FLL Z4 45 (w1_3 + 1) x0 := fll_s (Z := Z2) (by assumption) hE4
          refine Jiinc (z := w1_3) (cz := 1) (ls2 := [some (.ref 45), some (xL x0), none, some (xI (w1_3 + 1)), some (xI 40)]) (show mx_Sn _ _ 16 (mx_iinc 3 1 19) from sn_285 16) rfl rfl rfl rfl ?_
          refine mx_J.step (sn_285 19) (fun _ _ => rfl) ?_
          exact ih1 (w1_3 + 1) Z4 h4 (by omega) (by omega) (by first | exact fll_0 | assumption) hx4 hG4 (fr_tr (M := [(45, (-1))]) (fr_tr (M := [(45, (-1))]) fr_rf (hf2) (M1 := []) rfl rfl) (fr_ua hE4) rfl rfl)
    exact c6 (Int.toNat (40 - 0) + 1) 0 Z h (by omega) (by omega) (by first | exact fll_0 | assumption) hx hG fr_rf
theorem ct_285_45 {l : Launch} {D : va_G} {b0 : Nat} {ad : Nat → Nat} {Hb : Heap} {tau : Nat → Int64} {d n s : Nat} {S : Nat → xS} {Z : xZ} {h : mx_H} (hx : XH n s S Z h) (hG : GI n S Z)  {x0 : Int} (p0 : (-9223372036854775808) ≤ x0 ∧ x0 ≤ 9223372036854775807) : ∃ (Z' : xZ) (h' : mx_H), mx_Ca (tB l D b0 ad Hb tau) (d + 1) 285 [.ref 45, xL x0] h (none, h') ∧ XH n s S Z' h' ∧ GI n S Z' ∧ fr' [(45, (-1))] Z Z' ∧ (FLL Z' 45 40 x0) := by
  obtain ⟨r, hca, Z', h', e, q⟩ := Jmt (B := tB l D b0 ad Hb tau) (M := mt_285) (mi := 285) (as := [.ref 45, xL x0]) (d := d + 0) (ls := [some (.ref 45), some (xL x0), none, none, none]) rfl rfl rfl rfl rfl rfl (cw_285_45 (l := l) (D := D) (b0 := b0) (ad := ad) (Hb := Hb) (tau := tau) (d := d) (Post := fun r => ∃ (Z' : xZ) (h' : mx_H), r = (none, h') ∧ XH n s S Z' h' ∧ GI n S Z' ∧ fr' [(45, (-1))] Z Z' ∧ (FLL Z' 45 40 x0)) hx hG p0 (fun Z' h' q1 q2 q3 q4 => ⟨Z', h', rfl, q1, q2, q3, q4⟩))
  subst e; exact ⟨Z', h', hca, q⟩
set_option maxRecDepth 100000 in
theorem cw_83_44 {l : Launch} {D : va_G} {b0 : Nat} {ad : Nat → Nat} {Hb : Heap} {tau : Nat → Int64} {d n s : Nat} {S : Nat → xS} {Z : xZ} {h : mx_H} {Post : mx_R → Prop} (hx : XH n s S Z h) (hG : GI n S Z)  {x0 x1 : Int} (p0 : 0 ≤ x0 ∧ x0 ≤ 3) (p1 : 0 ≤ x1 ∧ x1 ≤ 40) (hP : ∀ (Z' : xZ) (h' : mx_H), XH n s S Z' h' → GI n S Z' → fr' [(44, 1), (44, 2), (44, 3), (45, (-1))] Z Z' → FLL Z' 45 40 0 ∧ (Z' 44 1 = x0 ∧ Z' 44 2 = x1 ∧ Z' 44 3 = 0) → Post (none, h')) : mx_J (tB l D b0 ad Hb tau) mt_83 (d + 1) 0 [some (.ref 44), some (xI x0), some (xI x1)] [] h Post := by
    have a44 : 44 < n := lt83 (GI_n hG) rfl
    have s44 : S 44 = .inl (10, [2, 0, 0, 0]) := GI_s hG 44 rfl
    refine mx_J.step (sn_83 0) (fun _ _ => rfl) ?_
    refine mx_J.step (sn_83 1) (fun _ _ => rfl) ?_
    refine JputI (g := 1) hx (show mx_Sn _ _ 2 (mx_putf 1 10 1 (.int) 5) from sn_83 2) a44 s44 rfl rfl rfl rfl (fun Z1 h1 hx1 hE1 => ?_)
    have hG1 := GI_up hG hE1 (show 0 ≤ x0 ∧ x0 ≤ 3 by omega) trivial rfl
    refine mx_J.step (sn_83 5) (fun _ _ => rfl) ?_
    refine mx_J.step (sn_83 6) (fun _ _ => rfl) ?_
    refine JputI (g := 2) hx1 (show mx_Sn _ _ 7 (mx_putf 1 10 2 (.int) 10) from sn_83 7) a44 s44 rfl rfl rfl rfl (fun Z2 h2 hx2 hE2 => ?_)
    have hG2 := GI_up hG1 hE2 (show 0 ≤ x1 ∧ x1 ≤ 40 by omega) trivial rfl
    refine mx_J.step (sn_83 10) (fun _ _ => rfl) ?_
    refine JcI (z := 0) (show mx_Sn _ _ 11 (mx_const (.int 0) 12) from sn_83 11) rfl ?_
    refine JputI (g := 3) hx2 (show mx_Sn _ _ 12 (mx_putf 1 10 3 (.boolean) 15) from sn_83 12) a44 s44 rfl rfl (fit_z (by omega)) rfl (fun Z3 h3 hx3 hE3 => ?_)
    have hG3 := GI_up hG2 hE3 (show 0 ≤ 0 ∧ 0 ≤ 1 by omega) trivial rfl
    refine mx_J.step (sn_83 15) (fun _ _ => rfl) ?_
    refine JgetR (g := 0) (b := 45) hx3 (show mx_Sn _ _ 16 (mx_getf 10 0 19) from sn_83 16) a44 s44 rfl rfl (hG3.prr 44 0 rfl) ?_
    refine JcL (z := 0) (show mx_Sn _ _ 19 (mx_const (.long 0) 20) from sn_83 19) rfl ?_
    obtain ⟨Z5, h5, hc5, hx5, hG5, hf5, b5⟩ := ct_285_45 (d := d + 0) (l := l) (D := D) (b0 := b0) (ad := ad) (Hb := Hb) (tau := tau) hx3 hG3 (show (-9223372036854775808) ≤ 0 ∧ 0 ≤ 9223372036854775807 by omega)
    have bs5_0 := b5
    clear b5
    refine Jcs0 (show mx_Sn _ _ 20 (mx_calls 285 2 23) from sn_83 20) hc5 rfl rfl rfl ?_
    have eq6 : Z5 44 1 = x0 := ((hf5 44 1 rfl).trans ((up_ni hE3 (by decide)).trans ((up_ni hE2 (by decide)).trans (up_at hE1))))
    have eq7 : Z5 44 2 = x1 := ((hf5 44 2 rfl).trans ((up_ni hE3 (by decide)).trans (up_at hE2)))
    have eq8 : Z5 44 3 = 0 := ((hf5 44 3 rfl).trans (up_at hE3))
    exact mx_J.ret (sn_83 23) (fun _ _ => rfl) (hP Z5 h5 hx5 hG5 (fr_tr (M := [(44, 1), (44, 2), (44, 3), (45, (-1))]) (fr_tr (M := [(44, 1), (44, 2), (44, 3), (45, (-1))]) (fr_tr (M := [(44, 1), (44, 2), (44, 3), (45, (-1))]) (fr_tr (M := [(44, 1), (44, 2), (44, 3), (45, (-1))]) fr_rf (fr_up hE1) (M1 := []) rfl rfl) (fr_up hE2) rfl rfl) (fr_up hE3) rfl rfl) (hf5) rfl rfl) ⟨(by assumption), by omega⟩)
theorem ct_83_44 {l : Launch} {D : va_G} {b0 : Nat} {ad : Nat → Nat} {Hb : Heap} {tau : Nat → Int64} {d n s : Nat} {S : Nat → xS} {Z : xZ} {h : mx_H} (hx : XH n s S Z h) (hG : GI n S Z)  {x0 x1 : Int} (p0 : 0 ≤ x0 ∧ x0 ≤ 3) (p1 : 0 ≤ x1 ∧ x1 ≤ 40) : ∃ (Z' : xZ) (h' : mx_H), mx_Ca (tB l D b0 ad Hb tau) (d + 2) 83 [.ref 44, xI x0, xI x1] h (none, h') ∧ XH n s S Z' h' ∧ GI n S Z' ∧ fr' [(44, 1), (44, 2), (44, 3), (45, (-1))] Z Z' ∧ (FLL Z' 45 40 0 ∧ (Z' 44 1 = x0 ∧ Z' 44 2 = x1 ∧ Z' 44 3 = 0)) := by
  obtain ⟨r, hca, Z', h', e, q⟩ := Jmt (B := tB l D b0 ad Hb tau) (M := mt_83) (mi := 83) (as := [.ref 44, xI x0, xI x1]) (d := d + 1) (ls := [some (.ref 44), some (xI x0), some (xI x1)]) rfl rfl rfl rfl rfl rfl (cw_83_44 (l := l) (D := D) (b0 := b0) (ad := ad) (Hb := Hb) (tau := tau) (d := d) (Post := fun r => ∃ (Z' : xZ) (h' : mx_H), r = (none, h') ∧ XH n s S Z' h' ∧ GI n S Z' ∧ fr' [(44, 1), (44, 2), (44, 3), (45, (-1))] Z Z' ∧ (FLL Z' 45 40 0 ∧ (Z' 44 1 = x0 ∧ Z' 44 2 = x1 ∧ Z' 44 3 = 0))) hx hG p0 p1 (fun Z' h' q1 q2 q3 q4 => ⟨Z', h', rfl, q1, q2, q3, q4⟩))
  subst e; exact ⟨Z', h', hca, q⟩
set_option maxRecDepth 100000 in
theorem cw_85_46 {l : Launch} {D : va_G} {b0 : Nat} {ad : Nat → Nat} {Hb : Heap} {tau : Nat → Int64} {d n s : Nat} {S : Nat → xS} {Z : xZ} {h : mx_H} {Post : mx_R → Prop} (hx : XH n s S Z h) (hG : GI n S Z)  {x0 : Int} (p0 : (-2147483648) ≤ x0 ∧ x0 ≤ 2147483647) (hP : ∀ z : Int, (-9223372036854775808) ≤ z ∧ z ≤ 9223372036854775807 ∧ (0 ≤ x0 → x0 ≤ 39 → z = Z 47 x0) → Post (some (xL z), h)) : mx_J (tB l D b0 ad Hb tau) mt_85 (d + 0) 0 [some (.ref 46), some (xI x0)] [] h Post := by
    have a46 : 46 < n := lt83 (GI_n hG) rfl
    have s46 : S 46 = .inl (10, [2, 0, 0, 0]) := GI_s hG 46 rfl
    have a47 : 47 < n := lt83 (GI_n hG) rfl
    have s47 : S 47 = .inr (.long, 40, 1) := GI_s hG 47 rfl
    refine mx_J.step (sn_85 0) (fun _ _ => rfl) ?_
    have c20 : ∀ (k1_0 : Int), (-9223372036854775808) ≤ k1_0 ∧ k1_0 ≤ 9223372036854775807 → (0 ≤ x0 → x0 ≤ 39 → k1_0 = Z 47 x0) → mx_J (tB l D b0 ad Hb tau) mt_85 (d + 0) 20 [some (.ref 46), some (xI x0)] [xL k1_0] h Post := by
      intro k1_0 f1_0 f1_1
      have b2 : (-9223372036854775808) ≤ Z 47 x0 ∧ Z 47 x0 ≤ 9223372036854775807 := hG.pr 47 x0
      exact mx_J.ret (sn_85 20) (fun _ _ => rfl) (hP k1_0 (by omega))
    have c10 : (x0 < 0 ∨ 40 ≤ x0) → mx_J (tB l D b0 ad Hb tau) mt_85 (d + 0) 10 [some (.ref 46), some (xI x0)] [] h Post := by
      intro f3_0
      refine JcL (z := 0) (show mx_Sn _ _ 10 (mx_const (.long 0) 11) from sn_85 10) rfl ?_
      refine mx_J.step (sn_85 11) (fun _ _ => rfl) ?_
      exact c20 0 (by omega) (by omega)
    refine Jif_lt (show mx_Sn _ _ 1 (mx_if_lt 10 4) from sn_85 1) (by omega) (fun q4 => ?_) (fun q4 => ?_)
    · skip
      exact c10 (by omega)
    · skip
      refine mx_J.step (sn_85 4) (fun _ _ => rfl) ?_
      refine JcI (z := 40) (show mx_Sn _ _ 5 (mx_const (.int 40) 7) from sn_85 5) rfl ?_
      refine Jicmp_lt (show mx_Sn _ _ 7 (mx_icmp_lt 14 10) from sn_85 7) (by omega) (by omega) (fun q5 => ?_) (fun q5 => ?_)
      · skip
        refine mx_J.step (sn_85 14) (fun _ _ => rfl) ?_
        refine JgetR (g := 0) (b := 47) hx (show mx_Sn _ _ 15 (mx_getf 10 0 18) from sn_85 15) a46 s46 rfl rfl (hG.prr 46 0 rfl) ?_
        refine mx_J.step (sn_85 18) (fun _ _ => rfl) ?_
        have b7 : (-9223372036854775808) ≤ Z 47 x0 ∧ Z 47 x0 ≤ 9223372036854775807 := hG.pr 47 x0
        refine JlaldL (z := Z 47 x0) hx (show mx_Sn _ _ 19 (mx_lald 20) from sn_85 19) a47 s47 (by omega) rfl ?_
        exact c20 (Z 47 x0) (by omega) (by omega)
      · skip
        exact c10 (by omega)
theorem ct_85_46 {l : Launch} {D : va_G} {b0 : Nat} {ad : Nat → Nat} {Hb : Heap} {tau : Nat → Int64} {d n s : Nat} {S : Nat → xS} {Z : xZ} {h : mx_H} (hx : XH n s S Z h) (hG : GI n S Z)  {x0 : Int} (p0 : (-2147483648) ≤ x0 ∧ x0 ≤ 2147483647) : ∃ z : Int, mx_Ca (tB l D b0 ad Hb tau) (d + 1) 85 [.ref 46, xI x0] h (some (xL z), h) ∧ ((-9223372036854775808) ≤ z ∧ z ≤ 9223372036854775807 ∧ (0 ≤ x0 → x0 ≤ 39 → z = Z 47 x0)) := by
  obtain ⟨r, hca, z, e, hp⟩ := Jmt (B := tB l D b0 ad Hb tau) (M := mt_85) (mi := 85) (as := [.ref 46, xI x0]) (d := d + 0) (ls := [some (.ref 46), some (xI x0)]) rfl rfl rfl rfl rfl rfl (cw_85_46 (l := l) (D := D) (b0 := b0) (ad := ad) (Hb := Hb) (tau := tau) (d := d) (Post := fun r => ∃ z : Int, r = (some (xL z), h) ∧ ((-9223372036854775808) ≤ z ∧ z ≤ 9223372036854775807 ∧ (0 ≤ x0 → x0 ≤ 39 → z = Z 47 x0))) hx hG p0 (fun z hz => ⟨z, rfl, hz⟩))
  subst e; exact ⟨z, hca, hp⟩
set_option maxRecDepth 100000 in
theorem cw_86_46 {l : Launch} {D : va_G} {b0 : Nat} {ad : Nat → Nat} {Hb : Heap} {tau : Nat → Int64} {d n s : Nat} {S : Nat → xS} {Z : xZ} {h : mx_H} {Post : mx_R → Prop} (hx : XH n s S Z h) (hG : GI n S Z)  {x0 x1 : Int} (p0 : (-9223372036854775808) ≤ x0 ∧ x0 ≤ 9223372036854775807) (p1 : (-9223372036854775808) ≤ x1 ∧ x1 ≤ 9223372036854775807) (hP : ∀ z : Int, (z = 1 → AB Z 47 (Z 46 2) x0 x1) ∧ (z = 0 → ∃ j : Int, 0 ≤ j ∧ j < Z 46 2 ∧ (Z 47 j < x0 ∨ x1 < Z 47 j)) ∧ 0 ≤ z ∧ z ≤ 1 → Post (some (xI z), h)) : mx_J (tB l D b0 ad Hb tau) mt_86 (d + 0) 0 [some (.ref 46), some (xL x0), none, some (xL x1), none, none] [] h Post := by
    have a46 : 46 < n := lt83 (GI_n hG) rfl
    have s46 : S 46 = .inl (10, [2, 0, 0, 0]) := GI_s hG 46 rfl
    have a47 : 47 < n := lt83 (GI_n hG) rfl
    have s47 : S 47 = .inr (.long, 40, 1) := GI_s hG 47 rfl
    refine JcI (z := 0) (show mx_Sn _ _ 0 (mx_const (.int 0) 1) from sn_86 0) rfl ?_
    refine mx_J.step (ls2 := [some (.ref 46), some (xL x0), none, some (xL x1), none, some (xI 0)]) (sn_86 1) (fun _ _ => rfl) ?_
    have c3 : ∀ (m1 : Nat) (w1_5 : Int), 40 - w1_5 < (m1 : Int) → 0 ≤ w1_5 ∧ w1_5 ≤ 40 → AB Z 47 w1_5 x0 x1 → mx_J (tB l D b0 ad Hb tau) mt_86 (d + 0) 3 [some (.ref 46), some (xL x0), none, some (xL x1), none, some (xI w1_5)] [] h Post := by
      intro m1
      induction m1 with
      | zero => intro w1_5 q1 f1_0 f1_1; exact absurd q1 (by omega)
      | succ m1 ih1 =>
        intro w1_5 q1 f1_0 f1_1
        refine mx_J.step (sn_86 3) (fun _ _ => rfl) ?_
        refine mx_J.step (sn_86 5) (fun _ _ => rfl) ?_
        have b3 : 0 ≤ Z 46 2 ∧ Z 46 2 ≤ 40 := hG.pr 46 2
        refine JgetI (g := 2) (z := Z 46 2) hx (show mx_Sn _ _ 6 (mx_getf 10 2 9) from sn_86 6) a46 s46 rfl rfl rfl ?_
        refine Jicmp_ge (show mx_Sn _ _ 9 (mx_icmp_ge 44 12) from sn_86 9) (by omega) (by omega) (fun q4 => ?_) (fun q4 => ?_)
        · skip
          refine JcI (z := 1) (show mx_Sn _ _ 44 (mx_const (.int 1) 45) from sn_86 44) rfl ?_
          exact mx_J.ret (show mx_Sn _ _ 45 (mx_zret) from sn_86 45) (fun _ _ => zr_ok (by omega)) (hP 1 ⟨(fun _ => ab_mono (by assumption) (by omega) (by omega) (by omega)), (fun hz => absurd hz (by decide)), by omega⟩)
        · skip
          refine mx_J.step (sn_86 12) (fun _ _ => rfl) ?_
          refine JgetR (g := 0) (b := 47) hx (show mx_Sn _ _ 13 (mx_getf 10 0 16) from sn_86 13) a46 s46 rfl rfl (hG.prr 46 0 rfl) ?_
          refine mx_J.step (sn_86 16) (fun _ _ => rfl) ?_
          have b6 : (-9223372036854775808) ≤ Z 47 w1_5 ∧ Z 47 w1_5 ≤ 9223372036854775807 := hG.pr 47 w1_5
          refine JlaldL (z := Z 47 w1_5) hx (show mx_Sn _ _ 18 (mx_lald 19) from sn_86 18) a47 s47 (by omega) rfl ?_
          refine mx_J.step (sn_86 19) (fun _ _ => rfl) ?_
          have c36 : (Z 47 w1_5 < x0 ∨ x1 < Z 47 w1_5) → mx_J (tB l D b0 ad Hb tau) mt_86 (d + 0) 36 [some (.ref 46), some (xL x0), none, some (xL x1), none, some (xI w1_5)] [] h Post := by
            intro f7_0
            refine JcI (z := 0) (show mx_Sn _ _ 36 (mx_const (.int 0) 37) from sn_86 36) rfl ?_
            exact mx_J.ret (show mx_Sn _ _ 37 (mx_zret) from sn_86 37) (fun _ _ => zr_ok (by omega)) (hP 0 ⟨(fun hz => absurd hz (by decide)), (fun _ => ⟨w1_5, by omega, by omega, by omega⟩), by omega⟩)
          refine Jlif_lt (show mx_Sn _ _ 20 (mx_lif_lt 36 24) from sn_86 20) (by omega) (by omega) (fun q8 => ?_) (fun q8 => ?_)
          · skip
            exact c36 (by omega)
          · skip
            refine mx_J.step (sn_86 24) (fun _ _ => rfl) ?_
            refine JgetR (g := 0) (b := 47) hx (show mx_Sn _ _ 25 (mx_getf 10 0 28) from sn_86 25) a46 s46 rfl rfl (hG.prr 46 0 rfl) ?_
            refine mx_J.step (sn_86 28) (fun _ _ => rfl) ?_
            refine JlaldL (z := Z 47 w1_5) hx (show mx_Sn _ _ 30 (mx_lald 31) from sn_86 30) a47 s47 (by omega) rfl ?_
            refine mx_J.step (sn_86 31) (fun _ _ => rfl) ?_
            refine Jlif_le (show mx_Sn _ _ 32 (mx_lif_le 38 36) from sn_86 32) (by omega) (by omega) (fun q10 => ?_) (fun q10 => ?_)
            · skip
              refine Jiinc (z := w1_5) (cz := 1) (ls2 := [some (.ref 46), some (xL x0), none, some (xL x1), none, some (xI (w1_5 + 1))]) (show mx_Sn _ _ 38 (mx_iinc 5 1 41) from sn_86 38) rfl rfl rfl rfl ?_
              refine mx_J.step (sn_86 41) (fun _ _ => rfl) ?_
              exact ih1 (w1_5 + 1) (by omega) (by omega) (by first | exact ab_nil (by omega) | exact ab_ext (by assumption) (by omega))
            · skip
              exact c36 (by omega)
    exact c3 (Int.toNat (40 - 0) + 1) 0 (by omega) (by omega) (by first | exact ab_nil (by omega) | exact ab_ext (by assumption) (by omega))
theorem ct_86_46 {l : Launch} {D : va_G} {b0 : Nat} {ad : Nat → Nat} {Hb : Heap} {tau : Nat → Int64} {d n s : Nat} {S : Nat → xS} {Z : xZ} {h : mx_H} (hx : XH n s S Z h) (hG : GI n S Z)  {x0 x1 : Int} (p0 : (-9223372036854775808) ≤ x0 ∧ x0 ≤ 9223372036854775807) (p1 : (-9223372036854775808) ≤ x1 ∧ x1 ≤ 9223372036854775807) : ∃ z : Int, mx_Ca (tB l D b0 ad Hb tau) (d + 1) 86 [.ref 46, xL x0, xL x1] h (some (xI z), h) ∧ ((z = 1 → AB Z 47 (Z 46 2) x0 x1) ∧ (z = 0 → ∃ j : Int, 0 ≤ j ∧ j < Z 46 2 ∧ (Z 47 j < x0 ∨ x1 < Z 47 j)) ∧ 0 ≤ z ∧ z ≤ 1) := by
  obtain ⟨r, hca, z, e, hp⟩ := Jmt (B := tB l D b0 ad Hb tau) (M := mt_86) (mi := 86) (as := [.ref 46, xL x0, xL x1]) (d := d + 0) (ls := [some (.ref 46), some (xL x0), none, some (xL x1), none, none]) rfl rfl rfl rfl rfl rfl (cw_86_46 (l := l) (D := D) (b0 := b0) (ad := ad) (Hb := Hb) (tau := tau) (d := d) (Post := fun r => ∃ z : Int, r = (some (xI z), h) ∧ ((z = 1 → AB Z 47 (Z 46 2) x0 x1) ∧ (z = 0 → ∃ j : Int, 0 ≤ j ∧ j < Z 46 2 ∧ (Z 47 j < x0 ∨ x1 < Z 47 j)) ∧ 0 ≤ z ∧ z ≤ 1)) hx hG p0 p1 (fun z hz => ⟨z, rfl, hz⟩))
  subst e; exact ⟨z, hca, hp⟩
set_option maxRecDepth 100000 in
theorem cw_87_46 {l : Launch} {D : va_G} {b0 : Nat} {ad : Nat → Nat} {Hb : Heap} {tau : Nat → Int64} {d n s : Nat} {S : Nat → xS} {Z : xZ} {h : mx_H} {Post : mx_R → Prop} (hx : XH n s S Z h) (hG : GI n S Z)  {x0 : Int} (p0 : (-9223372036854775808) ≤ x0 ∧ x0 ≤ 9223372036854775807) (hP : ∀ z : Int, 0 ≤ z ∧ z ≤ 1 → Post (some (xI z), h)) : mx_J (tB l D b0 ad Hb tau) mt_87 (d + 0) 0 [some (.ref 46), some (xL x0), none, none] [] h Post := by
    have a46 : 46 < n := lt83 (GI_n hG) rfl
    have s46 : S 46 = .inl (10, [2, 0, 0, 0]) := GI_s hG 46 rfl
    have a47 : 47 < n := lt83 (GI_n hG) rfl
    have s47 : S 47 = .inr (.long, 40, 1) := GI_s hG 47 rfl
    refine JcI (z := 0) (show mx_Sn _ _ 0 (mx_const (.int 0) 1) from sn_87 0) rfl ?_
    refine mx_J.step (ls2 := [some (.ref 46), some (xL x0), none, some (xI 0)]) (sn_87 1) (fun _ _ => rfl) ?_
    have c2 : ∀ (m1 : Nat) (w1_3 : Int), 40 - w1_3 < (m1 : Int) → 0 ≤ w1_3 ∧ w1_3 ≤ 40 → mx_J (tB l D b0 ad Hb tau) mt_87 (d + 0) 2 [some (.ref 46), some (xL x0), none, some (xI w1_3)] [] h Post := by
      intro m1
      induction m1 with
      | zero => intro w1_3 q1 f1_0; exact absurd q1 (by omega)
      | succ m1 ih1 =>
        intro w1_3 q1 f1_0
        refine mx_J.step (sn_87 2) (fun _ _ => rfl) ?_
        refine mx_J.step (sn_87 3) (fun _ _ => rfl) ?_
        have b3 : 0 ≤ Z 46 2 ∧ Z 46 2 ≤ 40 := hG.pr 46 2
        refine JgetI (g := 2) (z := Z 46 2) hx (show mx_Sn _ _ 4 (mx_getf 10 2 7) from sn_87 4) a46 s46 rfl rfl rfl ?_
        refine Jicmp_ge (show mx_Sn _ _ 7 (mx_icmp_ge 29 10) from sn_87 7) (by omega) (by omega) (fun q4 => ?_) (fun q4 => ?_)
        · skip
          refine JcI (z := 0) (show mx_Sn _ _ 29 (mx_const (.int 0) 30) from sn_87 29) rfl ?_
          exact mx_J.ret (show mx_Sn _ _ 30 (mx_zret) from sn_87 30) (fun _ _ => zr_ok (by omega)) (hP 0 (by omega))
        · skip
          refine mx_J.step (sn_87 10) (fun _ _ => rfl) ?_
          refine JgetR (g := 0) (b := 47) hx (show mx_Sn _ _ 11 (mx_getf 10 0 14) from sn_87 11) a46 s46 rfl rfl (hG.prr 46 0 rfl) ?_
          refine mx_J.step (sn_87 14) (fun _ _ => rfl) ?_
          have b6 : (-9223372036854775808) ≤ Z 47 w1_3 ∧ Z 47 w1_3 ≤ 9223372036854775807 := hG.pr 47 w1_3
          refine JlaldL (z := Z 47 w1_3) hx (show mx_Sn _ _ 15 (mx_lald 16) from sn_87 15) a47 s47 (by omega) rfl ?_
          refine mx_J.step (sn_87 16) (fun _ _ => rfl) ?_
          refine Jlif_ne (show mx_Sn _ _ 17 (mx_lif_ne 23 21) from sn_87 17) (by omega) (by omega) (fun q7 => ?_) (fun q7 => ?_)
          · skip
            refine Jiinc (z := w1_3) (cz := 1) (ls2 := [some (.ref 46), some (xL x0), none, some (xI (w1_3 + 1))]) (show mx_Sn _ _ 23 (mx_iinc 3 1 26) from sn_87 23) rfl rfl rfl rfl ?_
            refine mx_J.step (sn_87 26) (fun _ _ => rfl) ?_
            exact ih1 (w1_3 + 1) (by omega) (by omega)
          · skip
            refine JcI (z := 1) (show mx_Sn _ _ 21 (mx_const (.int 1) 22) from sn_87 21) rfl ?_
            exact mx_J.ret (show mx_Sn _ _ 22 (mx_zret) from sn_87 22) (fun _ _ => zr_ok (by omega)) (hP 1 (by omega))
    exact c2 (Int.toNat (40 - 0) + 1) 0 (by omega) (by omega)
theorem ct_87_46 {l : Launch} {D : va_G} {b0 : Nat} {ad : Nat → Nat} {Hb : Heap} {tau : Nat → Int64} {d n s : Nat} {S : Nat → xS} {Z : xZ} {h : mx_H} (hx : XH n s S Z h) (hG : GI n S Z)  {x0 : Int} (p0 : (-9223372036854775808) ≤ x0 ∧ x0 ≤ 9223372036854775807) : ∃ z : Int, mx_Ca (tB l D b0 ad Hb tau) (d + 1) 87 [.ref 46, xL x0] h (some (xI z), h) ∧ (0 ≤ z ∧ z ≤ 1) := by
  obtain ⟨r, hca, z, e, hp⟩ := Jmt (B := tB l D b0 ad Hb tau) (M := mt_87) (mi := 87) (as := [.ref 46, xL x0]) (d := d + 0) (ls := [some (.ref 46), some (xL x0), none, none]) rfl rfl rfl rfl rfl rfl (cw_87_46 (l := l) (D := D) (b0 := b0) (ad := ad) (Hb := Hb) (tau := tau) (d := d) (Post := fun r => ∃ z : Int, r = (some (xI z), h) ∧ (0 ≤ z ∧ z ≤ 1)) hx hG p0 (fun z hz => ⟨z, rfl, hz⟩))
  subst e; exact ⟨z, hca, hp⟩
set_option maxRecDepth 100000 in
theorem cw_84_46 {l : Launch} {D : va_G} {b0 : Nat} {ad : Nat → Nat} {Hb : Heap} {tau : Nat → Int64} {d n s : Nat} {S : Nat → xS} {Z : xZ} {h : mx_H} {Post : mx_R → Prop} (hx : XH n s S Z h) (hG : GI n S Z)  {x0 x1 : Int} (p0 : (-2147483648) ≤ x0 ∧ x0 ≤ 2147483647) (p1 : (-9223372036854775808) ≤ x1 ∧ x1 ≤ 9223372036854775807) (hP : ∀ (Z' : xZ) (h' : mx_H), XH n s S Z' h' → GI n S Z' → fr' [(47, (-1))] Z Z' → (∀ i, ¬ i = x0 → Z' 47 i = Z 47 i) ∧ (0 ≤ x0 → x0 ≤ 39 → ((Z 46 1 = 0 → -128 ≤ Z' 47 x0 ∧ Z' 47 x0 ≤ 127 ∧ (Z' 47 x0 - x1) % 256 = 0) ∧ (Z 46 1 = 1 → -32768 ≤ Z' 47 x0 ∧ Z' 47 x0 ≤ 32767 ∧ (Z' 47 x0 - x1) % 65536 = 0) ∧ (Z 46 1 = 2 → -2147483648 ≤ Z' 47 x0 ∧ Z' 47 x0 ≤ 2147483647 ∧ (Z' 47 x0 - x1) % 4294967296 = 0) ∧ (¬ Z 46 1 = 0 → ¬ Z 46 1 = 1 → ¬ Z 46 1 = 2 → Z' 47 x0 = x1))) → Post (none, h')) : mx_J (tB l D b0 ad Hb tau) mt_84 (d + 0) 0 [some (.ref 46), some (xI x0), some (xL x1), none] [] h Post := by
    have a46 : 46 < n := lt83 (GI_n hG) rfl
    have s46 : S 46 = .inl (10, [2, 0, 0, 0]) := GI_s hG 46 rfl
    have a47 : 47 < n := lt83 (GI_n hG) rfl
    have s47 : S 47 = .inr (.long, 40, 1) := GI_s hG 47 rfl
    refine mx_J.step (sn_84 0) (fun _ _ => rfl) ?_
    have c10 : (x0 < 0 ∨ 40 ≤ x0) → mx_J (tB l D b0 ad Hb tau) mt_84 (d + 0) 10 [some (.ref 46), some (xI x0), some (xL x1), none] [] h Post := by
      intro f1_0
      have b2 : (-9223372036854775808) ≤ Z 47 x0 ∧ Z 47 x0 ≤ 9223372036854775807 := hG.pr 47 x0
      have b3 : 0 ≤ Z 46 1 ∧ Z 46 1 ≤ 3 := hG.pr 46 1
      exact mx_J.ret (sn_84 10) (fun _ _ => rfl) (hP Z h hx hG fr_rf ⟨(fun i _ => rfl), by omega⟩)
    refine Jif_lt (show mx_Sn _ _ 1 (mx_if_lt 10 4) from sn_84 1) (by omega) (fun q4 => ?_) (fun q4 => ?_)
    · skip
      exact c10 (by omega)
    · skip
      refine mx_J.step (sn_84 4) (fun _ _ => rfl) ?_
      refine JcI (z := 40) (show mx_Sn _ _ 5 (mx_const (.int 40) 7) from sn_84 5) rfl ?_
      refine Jicmp_lt (show mx_Sn _ _ 7 (mx_icmp_lt 11 10) from sn_84 7) (by omega) (by omega) (fun q5 => ?_) (fun q5 => ?_)
      · skip
        refine mx_J.step (sn_84 11) (fun _ _ => rfl) ?_
        have b7 : 0 ≤ Z 46 1 ∧ Z 46 1 ≤ 3 := hG.pr 46 1
        refine JgetI (g := 1) (z := Z 46 1) hx (show mx_Sn _ _ 12 (mx_getf 10 1 15) from sn_84 12) a46 s46 rfl rfl rfl ?_
        have c85 : ∀  (Z9 : xZ) (h9 : mx_H), (0 ≤ x0 → x0 ≤ 39 → ((Z 46 1 = 0 → -128 ≤ Z9 47 x0 ∧ Z9 47 x0 ≤ 127 ∧ (Z9 47 x0 - x1) % 256 = 0) ∧ (Z 46 1 = 1 → -32768 ≤ Z9 47 x0 ∧ Z9 47 x0 ≤ 32767 ∧ (Z9 47 x0 - x1) % 65536 = 0) ∧ (Z 46 1 = 2 → -2147483648 ≤ Z9 47 x0 ∧ Z9 47 x0 ≤ 2147483647 ∧ (Z9 47 x0 - x1) % 4294967296 = 0) ∧ (¬ Z 46 1 = 0 → ¬ Z 46 1 = 1 → ¬ Z 46 1 = 2 → Z9 47 x0 = x1))) → (∀ i, ¬ i = x0 → Z9 47 i = Z 47 i) → XH n s S Z9 h9 → GI n S Z9 → fr' [(47, (-1))] Z Z9 → mx_J (tB l D b0 ad Hb tau) mt_84 (d + 0) 85 [some (.ref 46), some (xI x0), some (xL x1), none] [] h9 Post := by
          intro Z9 h9 f8_0 f8_1 hx9 hG9 hf9
          have b10 : (-9223372036854775808) ≤ Z9 47 x0 ∧ Z9 47 x0 ≤ 9223372036854775807 := hG9.pr 47 x0
          have eq11 : Z9 46 1 = Z 46 1 := (hf9 46 1 rfl)
          exact mx_J.ret (sn_84 85) (fun _ _ => rfl) (hP Z9 h9 hx9 hG9 (fr_tr (M := [(47, (-1))]) fr_rf (hf9) (M1 := []) rfl rfl) ⟨(by assumption), by omega⟩)
        refine Jtsw (z := Z 46 1) (show mx_Sn _ _ 15 (mx_tsw 0 2 [40, 53, 66] 78) from sn_84 15) (by omega) (fun q12 => ?_) (fun q12 => ?_)
        · skip
          refine mx_J.step (sn_84 78) (fun _ _ => rfl) ?_
          refine JgetR (g := 0) (b := 47) hx (show mx_Sn _ _ 79 (mx_getf 10 0 82) from sn_84 79) a46 s46 rfl rfl (hG.prr 46 0 rfl) ?_
          refine mx_J.step (sn_84 82) (fun _ _ => rfl) ?_
          refine mx_J.step (sn_84 83) (fun _ _ => rfl) ?_
          refine JlastL hx (show mx_Sn _ _ 84 (mx_last 1 85) from sn_84 84) a47 s47 rfl (by omega) (fun Z14 h14 hx14 hE14 => ?_)
          have hG14 := GI_up hG hE14 (show (-9223372036854775808) ≤ x1 ∧ x1 ≤ 9223372036854775807 by omega) trivial rfl
          have i0 : Z14 47 x0 = x1 := up_at hE14
          exact c85 Z14 h14 (by omega) (fun i hi => up_ni hE14 hi) hx14 hG14 (fr_tr (M := [(47, (-1))]) fr_rf (fr_ua hE14) (M1 := []) rfl rfl)
        · skip
          have e12 : Z 46 1 = 0 ∨ Z 46 1 = 1 ∨ Z 46 1 = 2 := by omega
          rcases e12 with e12 | e12 | e12
          · refine ⟨40, by rw [e12]; rfl, ?_⟩
            refine mx_J.step (sn_84 40) (fun _ _ => rfl) ?_
            refine JgetR (g := 0) (b := 47) hx (show mx_Sn _ _ 41 (mx_getf 10 0 44) from sn_84 41) a46 s46 rfl rfl (hG.prr 46 0 rfl) ?_
            refine mx_J.step (sn_84 44) (fun _ _ => rfl) ?_
            refine mx_J.step (sn_84 45) (fun _ _ => rfl) ?_
            refine Jl2iY (show mx_Sn _ _ 46 (mx_l2i 47) from sn_84 46) (fun y16 hy16 hq16 => ?_)
            refine Ji2bY (show mx_Sn _ _ 47 (mx_i2b 48) from sn_84 47) (by omega) (fun y17 hy17 hq17 => ?_)
            refine Ji2l (show mx_Sn _ _ 48 (mx_i2l 49) from sn_84 48) (by omega) ?_
            refine JlastL hx (show mx_Sn _ _ 49 (mx_last 1 50) from sn_84 49) a47 s47 rfl (by omega) (fun Z18 h18 hx18 hE18 => ?_)
            have hG18 := GI_up hG hE18 (show (-9223372036854775808) ≤ y17 ∧ y17 ≤ 9223372036854775807 by omega) trivial rfl
            have i0 : Z18 47 x0 = y17 := up_at hE18
            refine mx_J.step (sn_84 50) (fun _ _ => rfl) ?_
            exact c85 Z18 h18 (by omega) (fun i hi => up_ni hE18 hi) hx18 hG18 (fr_tr (M := [(47, (-1))]) fr_rf (fr_ua hE18) (M1 := []) rfl rfl)
          · refine ⟨53, by rw [e12]; rfl, ?_⟩
            refine mx_J.step (sn_84 53) (fun _ _ => rfl) ?_
            refine JgetR (g := 0) (b := 47) hx (show mx_Sn _ _ 54 (mx_getf 10 0 57) from sn_84 54) a46 s46 rfl rfl (hG.prr 46 0 rfl) ?_
            refine mx_J.step (sn_84 57) (fun _ _ => rfl) ?_
            refine mx_J.step (sn_84 58) (fun _ _ => rfl) ?_
            refine Jl2iY (show mx_Sn _ _ 59 (mx_l2i 60) from sn_84 59) (fun y20 hy20 hq20 => ?_)
            refine Ji2sY (show mx_Sn _ _ 60 (mx_i2s 61) from sn_84 60) (by omega) (fun y21 hy21 hq21 => ?_)
            refine Ji2l (show mx_Sn _ _ 61 (mx_i2l 62) from sn_84 61) (by omega) ?_
            refine JlastL hx (show mx_Sn _ _ 62 (mx_last 1 63) from sn_84 62) a47 s47 rfl (by omega) (fun Z22 h22 hx22 hE22 => ?_)
            have hG22 := GI_up hG hE22 (show (-9223372036854775808) ≤ y21 ∧ y21 ≤ 9223372036854775807 by omega) trivial rfl
            have i0 : Z22 47 x0 = y21 := up_at hE22
            refine mx_J.step (sn_84 63) (fun _ _ => rfl) ?_
            exact c85 Z22 h22 (by omega) (fun i hi => up_ni hE22 hi) hx22 hG22 (fr_tr (M := [(47, (-1))]) fr_rf (fr_ua hE22) (M1 := []) rfl rfl)
          · refine ⟨66, by rw [e12]; rfl, ?_⟩
            refine mx_J.step (sn_84 66) (fun _ _ => rfl) ?_
            refine JgetR (g := 0) (b := 47) hx (show mx_Sn _ _ 67 (mx_getf 10 0 70) from sn_84 67) a46 s46 rfl rfl (hG.prr 46 0 rfl) ?_
            refine mx_J.step (sn_84 70) (fun _ _ => rfl) ?_
            refine mx_J.step (sn_84 71) (fun _ _ => rfl) ?_
            refine Jl2iY (show mx_Sn _ _ 72 (mx_l2i 73) from sn_84 72) (fun y24 hy24 hq24 => ?_)
            refine Ji2l (show mx_Sn _ _ 73 (mx_i2l 74) from sn_84 73) (by omega) ?_
            refine JlastL hx (show mx_Sn _ _ 74 (mx_last 1 75) from sn_84 74) a47 s47 rfl (by omega) (fun Z25 h25 hx25 hE25 => ?_)
            have hG25 := GI_up hG hE25 (show (-9223372036854775808) ≤ y24 ∧ y24 ≤ 9223372036854775807 by omega) trivial rfl
            have i0 : Z25 47 x0 = y24 := up_at hE25
            refine mx_J.step (sn_84 75) (fun _ _ => rfl) ?_
            exact c85 Z25 h25 (by omega) (fun i hi => up_ni hE25 hi) hx25 hG25 (fr_tr (M := [(47, (-1))]) fr_rf (fr_ua hE25) (M1 := []) rfl rfl)
      · skip
        exact c10 (by omega)
theorem ct_84_46 {l : Launch} {D : va_G} {b0 : Nat} {ad : Nat → Nat} {Hb : Heap} {tau : Nat → Int64} {d n s : Nat} {S : Nat → xS} {Z : xZ} {h : mx_H} (hx : XH n s S Z h) (hG : GI n S Z)  {x0 x1 : Int} (p0 : (-2147483648) ≤ x0 ∧ x0 ≤ 2147483647) (p1 : (-9223372036854775808) ≤ x1 ∧ x1 ≤ 9223372036854775807) : ∃ (Z' : xZ) (h' : mx_H), mx_Ca (tB l D b0 ad Hb tau) (d + 1) 84 [.ref 46, xI x0, xL x1] h (none, h') ∧ XH n s S Z' h' ∧ GI n S Z' ∧ fr' [(47, (-1))] Z Z' ∧ ((∀ i, ¬ i = x0 → Z' 47 i = Z 47 i) ∧ (0 ≤ x0 → x0 ≤ 39 → ((Z 46 1 = 0 → -128 ≤ Z' 47 x0 ∧ Z' 47 x0 ≤ 127 ∧ (Z' 47 x0 - x1) % 256 = 0) ∧ (Z 46 1 = 1 → -32768 ≤ Z' 47 x0 ∧ Z' 47 x0 ≤ 32767 ∧ (Z' 47 x0 - x1) % 65536 = 0) ∧ (Z 46 1 = 2 → -2147483648 ≤ Z' 47 x0 ∧ Z' 47 x0 ≤ 2147483647 ∧ (Z' 47 x0 - x1) % 4294967296 = 0) ∧ (¬ Z 46 1 = 0 → ¬ Z 46 1 = 1 → ¬ Z 46 1 = 2 → Z' 47 x0 = x1)))) := by
  obtain ⟨r, hca, Z', h', e, q⟩ := Jmt (B := tB l D b0 ad Hb tau) (M := mt_84) (mi := 84) (as := [.ref 46, xI x0, xL x1]) (d := d + 0) (ls := [some (.ref 46), some (xI x0), some (xL x1), none]) rfl rfl rfl rfl rfl rfl (cw_84_46 (l := l) (D := D) (b0 := b0) (ad := ad) (Hb := Hb) (tau := tau) (d := d) (Post := fun r => ∃ (Z' : xZ) (h' : mx_H), r = (none, h') ∧ XH n s S Z' h' ∧ GI n S Z' ∧ fr' [(47, (-1))] Z Z' ∧ ((∀ i, ¬ i = x0 → Z' 47 i = Z 47 i) ∧ (0 ≤ x0 → x0 ≤ 39 → ((Z 46 1 = 0 → -128 ≤ Z' 47 x0 ∧ Z' 47 x0 ≤ 127 ∧ (Z' 47 x0 - x1) % 256 = 0) ∧ (Z 46 1 = 1 → -32768 ≤ Z' 47 x0 ∧ Z' 47 x0 ≤ 32767 ∧ (Z' 47 x0 - x1) % 65536 = 0) ∧ (Z 46 1 = 2 → -2147483648 ≤ Z' 47 x0 ∧ Z' 47 x0 ≤ 2147483647 ∧ (Z' 47 x0 - x1) % 4294967296 = 0) ∧ (¬ Z 46 1 = 0 → ¬ Z 46 1 = 1 → ¬ Z 46 1 = 2 → Z' 47 x0 = x1))))) hx hG p0 p1 (fun Z' h' q1 q2 q3 q4 => ⟨Z', h', rfl, q1, q2, q3, q4⟩))
  subst e; exact ⟨Z', h', hca, q⟩
set_option maxRecDepth 100000 in
theorem cw_285_47 {l : Launch} {D : va_G} {b0 : Nat} {ad : Nat → Nat} {Hb : Heap} {tau : Nat → Int64} {d n s : Nat} {S : Nat → xS} {Z : xZ} {h : mx_H} {Post : mx_R → Prop} (hx : XH n s S Z h) (hG : GI n S Z)  {x0 : Int} (p0 : (-9223372036854775808) ≤ x0 ∧ x0 ≤ 9223372036854775807) (hP : ∀ (Z' : xZ) (h' : mx_H), XH n s S Z' h' → GI n S Z' → fr' [(47, (-1))] Z Z' → FLL Z' 47 40 x0 → Post (none, h')) : mx_J (tB l D b0 ad Hb tau) mt_285 (d + 0) 0 [some (.ref 47), some (xL x0), none, none, none] [] h Post := by
    have a47 : 47 < n := lt83 (GI_n hG) rfl
    have s47 : S 47 = .inr (.long, 40, 1) := GI_s hG 47 rfl
    refine JcI (z := 0) (show mx_Sn _ _ 0 (mx_const (.int 0) 1) from sn_285 0) rfl ?_
    refine mx_J.step (ls2 := [some (.ref 47), some (xL x0), none, some (xI 0), none]) (sn_285 1) (fun _ _ => rfl) ?_
    refine mx_J.step (sn_285 2) (fun _ _ => rfl) ?_
    refine JalenI (z := 40) hx (show mx_Sn _ _ 3 (mx_alen 4) from sn_285 3) a47 s47 (by decide) rfl ?_
    refine mx_J.step (ls2 := [some (.ref 47), some (xL x0), none, some (xI 0), some (xI 40)]) (sn_285 4) (fun _ _ => rfl) ?_
    have c6 : ∀ (m1 : Nat) (w1_3 : Int) (Z2 : xZ) (h2 : mx_H), 40 - w1_3 < (m1 : Int) → 0 ≤ w1_3 ∧ w1_3 ≤ 40 → FLL Z2 47 w1_3 x0 → XH n s S Z2 h2 → GI n S Z2 → fr' [(47, (-1))] Z Z2 → mx_J (tB l D b0 ad Hb tau) mt_285 (d + 0) 6 [some (.ref 47), some (xL x0), none, some (xI w1_3), some (xI 40)] [] h2 Post := by
      intro m1
      induction m1 with
      | zero => intro w1_3 Z2 h2 q1 f1_0 f1_1 hx2 hG2 hf2; exact absurd q1 (by omega)
      | succ m1 ih1 =>
        intro w1_3 Z2 h2 q1 f1_0 f1_1 hx2 hG2 hf2
        refine mx_J.step (sn_285 6) (fun _ _ => rfl) ?_
        refine mx_J.step (sn_285 7) (fun _ _ => rfl) ?_
        refine Jicmp_ge (show mx_Sn _ _ 9 (mx_icmp_ge 22 12) from sn_285 9) (by omega) (by omega) (fun q3 => ?_) (fun q3 => ?_)
        · skip
          exact mx_J.ret (sn_285 22) (fun _ _ => rfl) (hP Z2 h2 hx2 hG2 (fr_tr (M := [(47, (-1))]) fr_rf (hf2) (M1 := []) rfl rfl) (fll_e (by assumption) (by omega)))
        · skip
          refine mx_J.step (sn_285 12) (fun _ _ => rfl) ?_
          refine mx_J.step (sn_285 13) (fun _ _ => rfl) ?_
          refine mx_J.step (sn_285 14) (fun _ _ => rfl) ?_
          refine JlastL hx2 (show mx_Sn _ _ 15 (mx_last 1 16) from sn_285 15) a47 s47 rfl (by omega) (fun Z4 h4 hx4 hE4 => ?_)
          have hG4 := GI_up hG2 hE4 (show (-9223372036854775808) ≤ x0 ∧ x0 ≤ 9223372036854775807 by omega) trivial rfl
          have fl1 : FLL Z4 47 (w1_3 + 1) x0 := fll_s (Z := Z2) (by assumption) hE4
          refine Jiinc (z := w1_3) (cz := 1) (ls2 := [some (.ref 47), some (xL x0), none, some (xI (w1_3 + 1)), some (xI 40)]) (show mx_Sn _ _ 16 (mx_iinc 3 1 19) from sn_285 16) rfl rfl rfl rfl ?_
          refine mx_J.step (sn_285 19) (fun _ _ => rfl) ?_
          exact ih1 (w1_3 + 1) Z4 h4 (by omega) (by omega) (by first | exact fll_0 | assumption) hx4 hG4 (fr_tr (M := [(47, (-1))]) (fr_tr (M := [(47, (-1))]) fr_rf (hf2) (M1 := []) rfl rfl) (fr_ua hE4) rfl rfl)
    exact c6 (Int.toNat (40 - 0) + 1) 0 Z h (by omega) (by omega) (by first | exact fll_0 | assumption) hx hG fr_rf
theorem ct_285_47 {l : Launch} {D : va_G} {b0 : Nat} {ad : Nat → Nat} {Hb : Heap} {tau : Nat → Int64} {d n s : Nat} {S : Nat → xS} {Z : xZ} {h : mx_H} (hx : XH n s S Z h) (hG : GI n S Z)  {x0 : Int} (p0 : (-9223372036854775808) ≤ x0 ∧ x0 ≤ 9223372036854775807) : ∃ (Z' : xZ) (h' : mx_H), mx_Ca (tB l D b0 ad Hb tau) (d + 1) 285 [.ref 47, xL x0] h (none, h') ∧ XH n s S Z' h' ∧ GI n S Z' ∧ fr' [(47, (-1))] Z Z' ∧ (FLL Z' 47 40 x0) := by
  obtain ⟨r, hca, Z', h', e, q⟩ := Jmt (B := tB l D b0 ad Hb tau) (M := mt_285) (mi := 285) (as := [.ref 47, xL x0]) (d := d + 0) (ls := [some (.ref 47), some (xL x0), none, none, none]) rfl rfl rfl rfl rfl rfl (cw_285_47 (l := l) (D := D) (b0 := b0) (ad := ad) (Hb := Hb) (tau := tau) (d := d) (Post := fun r => ∃ (Z' : xZ) (h' : mx_H), r = (none, h') ∧ XH n s S Z' h' ∧ GI n S Z' ∧ fr' [(47, (-1))] Z Z' ∧ (FLL Z' 47 40 x0)) hx hG p0 (fun Z' h' q1 q2 q3 q4 => ⟨Z', h', rfl, q1, q2, q3, q4⟩))
  subst e; exact ⟨Z', h', hca, q⟩
set_option maxRecDepth 100000 in
theorem cw_83_46 {l : Launch} {D : va_G} {b0 : Nat} {ad : Nat → Nat} {Hb : Heap} {tau : Nat → Int64} {d n s : Nat} {S : Nat → xS} {Z : xZ} {h : mx_H} {Post : mx_R → Prop} (hx : XH n s S Z h) (hG : GI n S Z)  {x0 x1 : Int} (p0 : 0 ≤ x0 ∧ x0 ≤ 3) (p1 : 0 ≤ x1 ∧ x1 ≤ 40) (hP : ∀ (Z' : xZ) (h' : mx_H), XH n s S Z' h' → GI n S Z' → fr' [(46, 1), (46, 2), (46, 3), (47, (-1))] Z Z' → FLL Z' 47 40 0 ∧ (Z' 46 1 = x0 ∧ Z' 46 2 = x1 ∧ Z' 46 3 = 0) → Post (none, h')) : mx_J (tB l D b0 ad Hb tau) mt_83 (d + 1) 0 [some (.ref 46), some (xI x0), some (xI x1)] [] h Post := by
    have a46 : 46 < n := lt83 (GI_n hG) rfl
    have s46 : S 46 = .inl (10, [2, 0, 0, 0]) := GI_s hG 46 rfl
    refine mx_J.step (sn_83 0) (fun _ _ => rfl) ?_
    refine mx_J.step (sn_83 1) (fun _ _ => rfl) ?_
    refine JputI (g := 1) hx (show mx_Sn _ _ 2 (mx_putf 1 10 1 (.int) 5) from sn_83 2) a46 s46 rfl rfl rfl rfl (fun Z1 h1 hx1 hE1 => ?_)
    have hG1 := GI_up hG hE1 (show 0 ≤ x0 ∧ x0 ≤ 3 by omega) trivial rfl
    refine mx_J.step (sn_83 5) (fun _ _ => rfl) ?_
    refine mx_J.step (sn_83 6) (fun _ _ => rfl) ?_
    refine JputI (g := 2) hx1 (show mx_Sn _ _ 7 (mx_putf 1 10 2 (.int) 10) from sn_83 7) a46 s46 rfl rfl rfl rfl (fun Z2 h2 hx2 hE2 => ?_)
    have hG2 := GI_up hG1 hE2 (show 0 ≤ x1 ∧ x1 ≤ 40 by omega) trivial rfl
    refine mx_J.step (sn_83 10) (fun _ _ => rfl) ?_
    refine JcI (z := 0) (show mx_Sn _ _ 11 (mx_const (.int 0) 12) from sn_83 11) rfl ?_
    refine JputI (g := 3) hx2 (show mx_Sn _ _ 12 (mx_putf 1 10 3 (.boolean) 15) from sn_83 12) a46 s46 rfl rfl (fit_z (by omega)) rfl (fun Z3 h3 hx3 hE3 => ?_)
    have hG3 := GI_up hG2 hE3 (show 0 ≤ 0 ∧ 0 ≤ 1 by omega) trivial rfl
    refine mx_J.step (sn_83 15) (fun _ _ => rfl) ?_
    refine JgetR (g := 0) (b := 47) hx3 (show mx_Sn _ _ 16 (mx_getf 10 0 19) from sn_83 16) a46 s46 rfl rfl (hG3.prr 46 0 rfl) ?_
    refine JcL (z := 0) (show mx_Sn _ _ 19 (mx_const (.long 0) 20) from sn_83 19) rfl ?_
    obtain ⟨Z5, h5, hc5, hx5, hG5, hf5, b5⟩ := ct_285_47 (d := d + 0) (l := l) (D := D) (b0 := b0) (ad := ad) (Hb := Hb) (tau := tau) hx3 hG3 (show (-9223372036854775808) ≤ 0 ∧ 0 ≤ 9223372036854775807 by omega)
    have bs5_0 := b5
    clear b5
    refine Jcs0 (show mx_Sn _ _ 20 (mx_calls 285 2 23) from sn_83 20) hc5 rfl rfl rfl ?_
    have eq6 : Z5 46 1 = x0 := ((hf5 46 1 rfl).trans ((up_ni hE3 (by decide)).trans ((up_ni hE2 (by decide)).trans (up_at hE1))))
    have eq7 : Z5 46 2 = x1 := ((hf5 46 2 rfl).trans ((up_ni hE3 (by decide)).trans (up_at hE2)))
    have eq8 : Z5 46 3 = 0 := ((hf5 46 3 rfl).trans (up_at hE3))
    exact mx_J.ret (sn_83 23) (fun _ _ => rfl) (hP Z5 h5 hx5 hG5 (fr_tr (M := [(46, 1), (46, 2), (46, 3), (47, (-1))]) (fr_tr (M := [(46, 1), (46, 2), (46, 3), (47, (-1))]) (fr_tr (M := [(46, 1), (46, 2), (46, 3), (47, (-1))]) (fr_tr (M := [(46, 1), (46, 2), (46, 3), (47, (-1))]) fr_rf (fr_up hE1) (M1 := []) rfl rfl) (fr_up hE2) rfl rfl) (fr_up hE3) rfl rfl) (hf5) rfl rfl) ⟨(by assumption), by omega⟩)
theorem ct_83_46 {l : Launch} {D : va_G} {b0 : Nat} {ad : Nat → Nat} {Hb : Heap} {tau : Nat → Int64} {d n s : Nat} {S : Nat → xS} {Z : xZ} {h : mx_H} (hx : XH n s S Z h) (hG : GI n S Z)  {x0 x1 : Int} (p0 : 0 ≤ x0 ∧ x0 ≤ 3) (p1 : 0 ≤ x1 ∧ x1 ≤ 40) : ∃ (Z' : xZ) (h' : mx_H), mx_Ca (tB l D b0 ad Hb tau) (d + 2) 83 [.ref 46, xI x0, xI x1] h (none, h') ∧ XH n s S Z' h' ∧ GI n S Z' ∧ fr' [(46, 1), (46, 2), (46, 3), (47, (-1))] Z Z' ∧ (FLL Z' 47 40 0 ∧ (Z' 46 1 = x0 ∧ Z' 46 2 = x1 ∧ Z' 46 3 = 0)) := by
  obtain ⟨r, hca, Z', h', e, q⟩ := Jmt (B := tB l D b0 ad Hb tau) (M := mt_83) (mi := 83) (as := [.ref 46, xI x0, xI x1]) (d := d + 1) (ls := [some (.ref 46), some (xI x0), some (xI x1)]) rfl rfl rfl rfl rfl rfl (cw_83_46 (l := l) (D := D) (b0 := b0) (ad := ad) (Hb := Hb) (tau := tau) (d := d) (Post := fun r => ∃ (Z' : xZ) (h' : mx_H), r = (none, h') ∧ XH n s S Z' h' ∧ GI n S Z' ∧ fr' [(46, 1), (46, 2), (46, 3), (47, (-1))] Z Z' ∧ (FLL Z' 47 40 0 ∧ (Z' 46 1 = x0 ∧ Z' 46 2 = x1 ∧ Z' 46 3 = 0))) hx hG p0 p1 (fun Z' h' q1 q2 q3 q4 => ⟨Z', h', rfl, q1, q2, q3, q4⟩))
  subst e; exact ⟨Z', h', hca, q⟩
set_option maxRecDepth 100000 in
theorem cw_85_48 {l : Launch} {D : va_G} {b0 : Nat} {ad : Nat → Nat} {Hb : Heap} {tau : Nat → Int64} {d n s : Nat} {S : Nat → xS} {Z : xZ} {h : mx_H} {Post : mx_R → Prop} (hx : XH n s S Z h) (hG : GI n S Z)  {x0 : Int} (p0 : (-2147483648) ≤ x0 ∧ x0 ≤ 2147483647) (hP : ∀ z : Int, (-9223372036854775808) ≤ z ∧ z ≤ 9223372036854775807 ∧ (0 ≤ x0 → x0 ≤ 39 → z = Z 49 x0) → Post (some (xL z), h)) : mx_J (tB l D b0 ad Hb tau) mt_85 (d + 0) 0 [some (.ref 48), some (xI x0)] [] h Post := by
    have a48 : 48 < n := lt83 (GI_n hG) rfl
    have s48 : S 48 = .inl (10, [2, 0, 0, 0]) := GI_s hG 48 rfl
    have a49 : 49 < n := lt83 (GI_n hG) rfl
    have s49 : S 49 = .inr (.long, 40, 1) := GI_s hG 49 rfl
    refine mx_J.step (sn_85 0) (fun _ _ => rfl) ?_
    have c20 : ∀ (k1_0 : Int), (-9223372036854775808) ≤ k1_0 ∧ k1_0 ≤ 9223372036854775807 → (0 ≤ x0 → x0 ≤ 39 → k1_0 = Z 49 x0) → mx_J (tB l D b0 ad Hb tau) mt_85 (d + 0) 20 [some (.ref 48), some (xI x0)] [xL k1_0] h Post := by
      intro k1_0 f1_0 f1_1
      have b2 : (-9223372036854775808) ≤ Z 49 x0 ∧ Z 49 x0 ≤ 9223372036854775807 := hG.pr 49 x0
      exact mx_J.ret (sn_85 20) (fun _ _ => rfl) (hP k1_0 (by omega))
    have c10 : (x0 < 0 ∨ 40 ≤ x0) → mx_J (tB l D b0 ad Hb tau) mt_85 (d + 0) 10 [some (.ref 48), some (xI x0)] [] h Post := by
      intro f3_0
      refine JcL (z := 0) (show mx_Sn _ _ 10 (mx_const (.long 0) 11) from sn_85 10) rfl ?_
      refine mx_J.step (sn_85 11) (fun _ _ => rfl) ?_
      exact c20 0 (by omega) (by omega)
    refine Jif_lt (show mx_Sn _ _ 1 (mx_if_lt 10 4) from sn_85 1) (by omega) (fun q4 => ?_) (fun q4 => ?_)
    · skip
      exact c10 (by omega)
    · skip
      refine mx_J.step (sn_85 4) (fun _ _ => rfl) ?_
      refine JcI (z := 40) (show mx_Sn _ _ 5 (mx_const (.int 40) 7) from sn_85 5) rfl ?_
      refine Jicmp_lt (show mx_Sn _ _ 7 (mx_icmp_lt 14 10) from sn_85 7) (by omega) (by omega) (fun q5 => ?_) (fun q5 => ?_)
      · skip
        refine mx_J.step (sn_85 14) (fun _ _ => rfl) ?_
        refine JgetR (g := 0) (b := 49) hx (show mx_Sn _ _ 15 (mx_getf 10 0 18) from sn_85 15) a48 s48 rfl rfl (hG.prr 48 0 rfl) ?_
        refine mx_J.step (sn_85 18) (fun _ _ => rfl) ?_
        have b7 : (-9223372036854775808) ≤ Z 49 x0 ∧ Z 49 x0 ≤ 9223372036854775807 := hG.pr 49 x0
        refine JlaldL (z := Z 49 x0) hx (show mx_Sn _ _ 19 (mx_lald 20) from sn_85 19) a49 s49 (by omega) rfl ?_
        exact c20 (Z 49 x0) (by omega) (by omega)
      · skip
        exact c10 (by omega)
theorem ct_85_48 {l : Launch} {D : va_G} {b0 : Nat} {ad : Nat → Nat} {Hb : Heap} {tau : Nat → Int64} {d n s : Nat} {S : Nat → xS} {Z : xZ} {h : mx_H} (hx : XH n s S Z h) (hG : GI n S Z)  {x0 : Int} (p0 : (-2147483648) ≤ x0 ∧ x0 ≤ 2147483647) : ∃ z : Int, mx_Ca (tB l D b0 ad Hb tau) (d + 1) 85 [.ref 48, xI x0] h (some (xL z), h) ∧ ((-9223372036854775808) ≤ z ∧ z ≤ 9223372036854775807 ∧ (0 ≤ x0 → x0 ≤ 39 → z = Z 49 x0)) := by
  obtain ⟨r, hca, z, e, hp⟩ := Jmt (B := tB l D b0 ad Hb tau) (M := mt_85) (mi := 85) (as := [.ref 48, xI x0]) (d := d + 0) (ls := [some (.ref 48), some (xI x0)]) rfl rfl rfl rfl rfl rfl (cw_85_48 (l := l) (D := D) (b0 := b0) (ad := ad) (Hb := Hb) (tau := tau) (d := d) (Post := fun r => ∃ z : Int, r = (some (xL z), h) ∧ ((-9223372036854775808) ≤ z ∧ z ≤ 9223372036854775807 ∧ (0 ≤ x0 → x0 ≤ 39 → z = Z 49 x0))) hx hG p0 (fun z hz => ⟨z, rfl, hz⟩))
  subst e; exact ⟨z, hca, hp⟩
set_option maxRecDepth 100000 in
theorem cw_86_48 {l : Launch} {D : va_G} {b0 : Nat} {ad : Nat → Nat} {Hb : Heap} {tau : Nat → Int64} {d n s : Nat} {S : Nat → xS} {Z : xZ} {h : mx_H} {Post : mx_R → Prop} (hx : XH n s S Z h) (hG : GI n S Z)  {x0 x1 : Int} (p0 : (-9223372036854775808) ≤ x0 ∧ x0 ≤ 9223372036854775807) (p1 : (-9223372036854775808) ≤ x1 ∧ x1 ≤ 9223372036854775807) (hP : ∀ z : Int, (z = 1 → AB Z 49 (Z 48 2) x0 x1) ∧ (z = 0 → ∃ j : Int, 0 ≤ j ∧ j < Z 48 2 ∧ (Z 49 j < x0 ∨ x1 < Z 49 j)) ∧ 0 ≤ z ∧ z ≤ 1 → Post (some (xI z), h)) : mx_J (tB l D b0 ad Hb tau) mt_86 (d + 0) 0 [some (.ref 48), some (xL x0), none, some (xL x1), none, none] [] h Post := by
    have a48 : 48 < n := lt83 (GI_n hG) rfl
    have s48 : S 48 = .inl (10, [2, 0, 0, 0]) := GI_s hG 48 rfl
    have a49 : 49 < n := lt83 (GI_n hG) rfl
    have s49 : S 49 = .inr (.long, 40, 1) := GI_s hG 49 rfl
    refine JcI (z := 0) (show mx_Sn _ _ 0 (mx_const (.int 0) 1) from sn_86 0) rfl ?_
    refine mx_J.step (ls2 := [some (.ref 48), some (xL x0), none, some (xL x1), none, some (xI 0)]) (sn_86 1) (fun _ _ => rfl) ?_
    have c3 : ∀ (m1 : Nat) (w1_5 : Int), 40 - w1_5 < (m1 : Int) → 0 ≤ w1_5 ∧ w1_5 ≤ 40 → AB Z 49 w1_5 x0 x1 → mx_J (tB l D b0 ad Hb tau) mt_86 (d + 0) 3 [some (.ref 48), some (xL x0), none, some (xL x1), none, some (xI w1_5)] [] h Post := by
      intro m1
      induction m1 with
      | zero => intro w1_5 q1 f1_0 f1_1; exact absurd q1 (by omega)
      | succ m1 ih1 =>
        intro w1_5 q1 f1_0 f1_1
        refine mx_J.step (sn_86 3) (fun _ _ => rfl) ?_
        refine mx_J.step (sn_86 5) (fun _ _ => rfl) ?_
        have b3 : 0 ≤ Z 48 2 ∧ Z 48 2 ≤ 40 := hG.pr 48 2
        refine JgetI (g := 2) (z := Z 48 2) hx (show mx_Sn _ _ 6 (mx_getf 10 2 9) from sn_86 6) a48 s48 rfl rfl rfl ?_
        refine Jicmp_ge (show mx_Sn _ _ 9 (mx_icmp_ge 44 12) from sn_86 9) (by omega) (by omega) (fun q4 => ?_) (fun q4 => ?_)
        · skip
          refine JcI (z := 1) (show mx_Sn _ _ 44 (mx_const (.int 1) 45) from sn_86 44) rfl ?_
          exact mx_J.ret (show mx_Sn _ _ 45 (mx_zret) from sn_86 45) (fun _ _ => zr_ok (by omega)) (hP 1 ⟨(fun _ => ab_mono (by assumption) (by omega) (by omega) (by omega)), (fun hz => absurd hz (by decide)), by omega⟩)
        · skip
          refine mx_J.step (sn_86 12) (fun _ _ => rfl) ?_
          refine JgetR (g := 0) (b := 49) hx (show mx_Sn _ _ 13 (mx_getf 10 0 16) from sn_86 13) a48 s48 rfl rfl (hG.prr 48 0 rfl) ?_
          refine mx_J.step (sn_86 16) (fun _ _ => rfl) ?_
          have b6 : (-9223372036854775808) ≤ Z 49 w1_5 ∧ Z 49 w1_5 ≤ 9223372036854775807 := hG.pr 49 w1_5
          refine JlaldL (z := Z 49 w1_5) hx (show mx_Sn _ _ 18 (mx_lald 19) from sn_86 18) a49 s49 (by omega) rfl ?_
          refine mx_J.step (sn_86 19) (fun _ _ => rfl) ?_
          have c36 : (Z 49 w1_5 < x0 ∨ x1 < Z 49 w1_5) → mx_J (tB l D b0 ad Hb tau) mt_86 (d + 0) 36 [some (.ref 48), some (xL x0), none, some (xL x1), none, some (xI w1_5)] [] h Post := by
            intro f7_0
            refine JcI (z := 0) (show mx_Sn _ _ 36 (mx_const (.int 0) 37) from sn_86 36) rfl ?_
            exact mx_J.ret (show mx_Sn _ _ 37 (mx_zret) from sn_86 37) (fun _ _ => zr_ok (by omega)) (hP 0 ⟨(fun hz => absurd hz (by decide)), (fun _ => ⟨w1_5, by omega, by omega, by omega⟩), by omega⟩)
          refine Jlif_lt (show mx_Sn _ _ 20 (mx_lif_lt 36 24) from sn_86 20) (by omega) (by omega) (fun q8 => ?_) (fun q8 => ?_)
          · skip
            exact c36 (by omega)
          · skip
            refine mx_J.step (sn_86 24) (fun _ _ => rfl) ?_
            refine JgetR (g := 0) (b := 49) hx (show mx_Sn _ _ 25 (mx_getf 10 0 28) from sn_86 25) a48 s48 rfl rfl (hG.prr 48 0 rfl) ?_
            refine mx_J.step (sn_86 28) (fun _ _ => rfl) ?_
            refine JlaldL (z := Z 49 w1_5) hx (show mx_Sn _ _ 30 (mx_lald 31) from sn_86 30) a49 s49 (by omega) rfl ?_
            refine mx_J.step (sn_86 31) (fun _ _ => rfl) ?_
            refine Jlif_le (show mx_Sn _ _ 32 (mx_lif_le 38 36) from sn_86 32) (by omega) (by omega) (fun q10 => ?_) (fun q10 => ?_)
            · skip
              refine Jiinc (z := w1_5) (cz := 1) (ls2 := [some (.ref 48), some (xL x0), none, some (xL x1), none, some (xI (w1_5 + 1))]) (show mx_Sn _ _ 38 (mx_iinc 5 1 41) from sn_86 38) rfl rfl rfl rfl ?_
              refine mx_J.step (sn_86 41) (fun _ _ => rfl) ?_
              exact ih1 (w1_5 + 1) (by omega) (by omega) (by first | exact ab_nil (by omega) | exact ab_ext (by assumption) (by omega))
            · skip
              exact c36 (by omega)
    exact c3 (Int.toNat (40 - 0) + 1) 0 (by omega) (by omega) (by first | exact ab_nil (by omega) | exact ab_ext (by assumption) (by omega))
theorem ct_86_48 {l : Launch} {D : va_G} {b0 : Nat} {ad : Nat → Nat} {Hb : Heap} {tau : Nat → Int64} {d n s : Nat} {S : Nat → xS} {Z : xZ} {h : mx_H} (hx : XH n s S Z h) (hG : GI n S Z)  {x0 x1 : Int} (p0 : (-9223372036854775808) ≤ x0 ∧ x0 ≤ 9223372036854775807) (p1 : (-9223372036854775808) ≤ x1 ∧ x1 ≤ 9223372036854775807) : ∃ z : Int, mx_Ca (tB l D b0 ad Hb tau) (d + 1) 86 [.ref 48, xL x0, xL x1] h (some (xI z), h) ∧ ((z = 1 → AB Z 49 (Z 48 2) x0 x1) ∧ (z = 0 → ∃ j : Int, 0 ≤ j ∧ j < Z 48 2 ∧ (Z 49 j < x0 ∨ x1 < Z 49 j)) ∧ 0 ≤ z ∧ z ≤ 1) := by
  obtain ⟨r, hca, z, e, hp⟩ := Jmt (B := tB l D b0 ad Hb tau) (M := mt_86) (mi := 86) (as := [.ref 48, xL x0, xL x1]) (d := d + 0) (ls := [some (.ref 48), some (xL x0), none, some (xL x1), none, none]) rfl rfl rfl rfl rfl rfl (cw_86_48 (l := l) (D := D) (b0 := b0) (ad := ad) (Hb := Hb) (tau := tau) (d := d) (Post := fun r => ∃ z : Int, r = (some (xI z), h) ∧ ((z = 1 → AB Z 49 (Z 48 2) x0 x1) ∧ (z = 0 → ∃ j : Int, 0 ≤ j ∧ j < Z 48 2 ∧ (Z 49 j < x0 ∨ x1 < Z 49 j)) ∧ 0 ≤ z ∧ z ≤ 1)) hx hG p0 p1 (fun z hz => ⟨z, rfl, hz⟩))
  subst e; exact ⟨z, hca, hp⟩
set_option maxRecDepth 100000 in
theorem cw_87_48 {l : Launch} {D : va_G} {b0 : Nat} {ad : Nat → Nat} {Hb : Heap} {tau : Nat → Int64} {d n s : Nat} {S : Nat → xS} {Z : xZ} {h : mx_H} {Post : mx_R → Prop} (hx : XH n s S Z h) (hG : GI n S Z)  {x0 : Int} (p0 : (-9223372036854775808) ≤ x0 ∧ x0 ≤ 9223372036854775807) (hP : ∀ z : Int, 0 ≤ z ∧ z ≤ 1 → Post (some (xI z), h)) : mx_J (tB l D b0 ad Hb tau) mt_87 (d + 0) 0 [some (.ref 48), some (xL x0), none, none] [] h Post := by
    have a48 : 48 < n := lt83 (GI_n hG) rfl
    have s48 : S 48 = .inl (10, [2, 0, 0, 0]) := GI_s hG 48 rfl
    have a49 : 49 < n := lt83 (GI_n hG) rfl
    have s49 : S 49 = .inr (.long, 40, 1) := GI_s hG 49 rfl
    refine JcI (z := 0) (show mx_Sn _ _ 0 (mx_const (.int 0) 1) from sn_87 0) rfl ?_
    refine mx_J.step (ls2 := [some (.ref 48), some (xL x0), none, some (xI 0)]) (sn_87 1) (fun _ _ => rfl) ?_
    have c2 : ∀ (m1 : Nat) (w1_3 : Int), 40 - w1_3 < (m1 : Int) → 0 ≤ w1_3 ∧ w1_3 ≤ 40 → mx_J (tB l D b0 ad Hb tau) mt_87 (d + 0) 2 [some (.ref 48), some (xL x0), none, some (xI w1_3)] [] h Post := by
      intro m1
      induction m1 with
      | zero => intro w1_3 q1 f1_0; exact absurd q1 (by omega)
      | succ m1 ih1 =>
        intro w1_3 q1 f1_0
        refine mx_J.step (sn_87 2) (fun _ _ => rfl) ?_
        refine mx_J.step (sn_87 3) (fun _ _ => rfl) ?_
        have b3 : 0 ≤ Z 48 2 ∧ Z 48 2 ≤ 40 := hG.pr 48 2
        refine JgetI (g := 2) (z := Z 48 2) hx (show mx_Sn _ _ 4 (mx_getf 10 2 7) from sn_87 4) a48 s48 rfl rfl rfl ?_
        refine Jicmp_ge (show mx_Sn _ _ 7 (mx_icmp_ge 29 10) from sn_87 7) (by omega) (by omega) (fun q4 => ?_) (fun q4 => ?_)
        · skip
          refine JcI (z := 0) (show mx_Sn _ _ 29 (mx_const (.int 0) 30) from sn_87 29) rfl ?_
          exact mx_J.ret (show mx_Sn _ _ 30 (mx_zret) from sn_87 30) (fun _ _ => zr_ok (by omega)) (hP 0 (by omega))
        · skip
          refine mx_J.step (sn_87 10) (fun _ _ => rfl) ?_
          refine JgetR (g := 0) (b := 49) hx (show mx_Sn _ _ 11 (mx_getf 10 0 14) from sn_87 11) a48 s48 rfl rfl (hG.prr 48 0 rfl) ?_
          refine mx_J.step (sn_87 14) (fun _ _ => rfl) ?_
          have b6 : (-9223372036854775808) ≤ Z 49 w1_3 ∧ Z 49 w1_3 ≤ 9223372036854775807 := hG.pr 49 w1_3
          refine JlaldL (z := Z 49 w1_3) hx (show mx_Sn _ _ 15 (mx_lald 16) from sn_87 15) a49 s49 (by omega) rfl ?_
          refine mx_J.step (sn_87 16) (fun _ _ => rfl) ?_
          refine Jlif_ne (show mx_Sn _ _ 17 (mx_lif_ne 23 21) from sn_87 17) (by omega) (by omega) (fun q7 => ?_) (fun q7 => ?_)
          · skip
            refine Jiinc (z := w1_3) (cz := 1) (ls2 := [some (.ref 48), some (xL x0), none, some (xI (w1_3 + 1))]) (show mx_Sn _ _ 23 (mx_iinc 3 1 26) from sn_87 23) rfl rfl rfl rfl ?_
            refine mx_J.step (sn_87 26) (fun _ _ => rfl) ?_
            exact ih1 (w1_3 + 1) (by omega) (by omega)
          · skip
            refine JcI (z := 1) (show mx_Sn _ _ 21 (mx_const (.int 1) 22) from sn_87 21) rfl ?_
            exact mx_J.ret (show mx_Sn _ _ 22 (mx_zret) from sn_87 22) (fun _ _ => zr_ok (by omega)) (hP 1 (by omega))
    exact c2 (Int.toNat (40 - 0) + 1) 0 (by omega) (by omega)
theorem ct_87_48 {l : Launch} {D : va_G} {b0 : Nat} {ad : Nat → Nat} {Hb : Heap} {tau : Nat → Int64} {d n s : Nat} {S : Nat → xS} {Z : xZ} {h : mx_H} (hx : XH n s S Z h) (hG : GI n S Z)  {x0 : Int} (p0 : (-9223372036854775808) ≤ x0 ∧ x0 ≤ 9223372036854775807) : ∃ z : Int, mx_Ca (tB l D b0 ad Hb tau) (d + 1) 87 [.ref 48, xL x0] h (some (xI z), h) ∧ (0 ≤ z ∧ z ≤ 1) := by
  obtain ⟨r, hca, z, e, hp⟩ := Jmt (B := tB l D b0 ad Hb tau) (M := mt_87) (mi := 87) (as := [.ref 48, xL x0]) (d := d + 0) (ls := [some (.ref 48), some (xL x0), none, none]) rfl rfl rfl rfl rfl rfl (cw_87_48 (l := l) (D := D) (b0 := b0) (ad := ad) (Hb := Hb) (tau := tau) (d := d) (Post := fun r => ∃ z : Int, r = (some (xI z), h) ∧ (0 ≤ z ∧ z ≤ 1)) hx hG p0 (fun z hz => ⟨z, rfl, hz⟩))
  subst e; exact ⟨z, hca, hp⟩
set_option maxRecDepth 100000 in
theorem cw_84_48 {l : Launch} {D : va_G} {b0 : Nat} {ad : Nat → Nat} {Hb : Heap} {tau : Nat → Int64} {d n s : Nat} {S : Nat → xS} {Z : xZ} {h : mx_H} {Post : mx_R → Prop} (hx : XH n s S Z h) (hG : GI n S Z)  {x0 x1 : Int} (p0 : (-2147483648) ≤ x0 ∧ x0 ≤ 2147483647) (p1 : (-9223372036854775808) ≤ x1 ∧ x1 ≤ 9223372036854775807) (hP : ∀ (Z' : xZ) (h' : mx_H), XH n s S Z' h' → GI n S Z' → fr' [(49, (-1))] Z Z' → (∀ i, ¬ i = x0 → Z' 49 i = Z 49 i) ∧ (0 ≤ x0 → x0 ≤ 39 → ((Z 48 1 = 0 → -128 ≤ Z' 49 x0 ∧ Z' 49 x0 ≤ 127 ∧ (Z' 49 x0 - x1) % 256 = 0) ∧ (Z 48 1 = 1 → -32768 ≤ Z' 49 x0 ∧ Z' 49 x0 ≤ 32767 ∧ (Z' 49 x0 - x1) % 65536 = 0) ∧ (Z 48 1 = 2 → -2147483648 ≤ Z' 49 x0 ∧ Z' 49 x0 ≤ 2147483647 ∧ (Z' 49 x0 - x1) % 4294967296 = 0) ∧ (¬ Z 48 1 = 0 → ¬ Z 48 1 = 1 → ¬ Z 48 1 = 2 → Z' 49 x0 = x1))) → Post (none, h')) : mx_J (tB l D b0 ad Hb tau) mt_84 (d + 0) 0 [some (.ref 48), some (xI x0), some (xL x1), none] [] h Post := by
    have a48 : 48 < n := lt83 (GI_n hG) rfl
    have s48 : S 48 = .inl (10, [2, 0, 0, 0]) := GI_s hG 48 rfl
    have a49 : 49 < n := lt83 (GI_n hG) rfl
    have s49 : S 49 = .inr (.long, 40, 1) := GI_s hG 49 rfl
    refine mx_J.step (sn_84 0) (fun _ _ => rfl) ?_
    have c10 : (x0 < 0 ∨ 40 ≤ x0) → mx_J (tB l D b0 ad Hb tau) mt_84 (d + 0) 10 [some (.ref 48), some (xI x0), some (xL x1), none] [] h Post := by
      intro f1_0
      have b2 : (-9223372036854775808) ≤ Z 49 x0 ∧ Z 49 x0 ≤ 9223372036854775807 := hG.pr 49 x0
      have b3 : 0 ≤ Z 48 1 ∧ Z 48 1 ≤ 3 := hG.pr 48 1
      exact mx_J.ret (sn_84 10) (fun _ _ => rfl) (hP Z h hx hG fr_rf ⟨(fun i _ => rfl), by omega⟩)
    refine Jif_lt (show mx_Sn _ _ 1 (mx_if_lt 10 4) from sn_84 1) (by omega) (fun q4 => ?_) (fun q4 => ?_)
    · skip
      exact c10 (by omega)
    · skip
      refine mx_J.step (sn_84 4) (fun _ _ => rfl) ?_
      refine JcI (z := 40) (show mx_Sn _ _ 5 (mx_const (.int 40) 7) from sn_84 5) rfl ?_
      refine Jicmp_lt (show mx_Sn _ _ 7 (mx_icmp_lt 11 10) from sn_84 7) (by omega) (by omega) (fun q5 => ?_) (fun q5 => ?_)
      · skip
        refine mx_J.step (sn_84 11) (fun _ _ => rfl) ?_
        have b7 : 0 ≤ Z 48 1 ∧ Z 48 1 ≤ 3 := hG.pr 48 1
        refine JgetI (g := 1) (z := Z 48 1) hx (show mx_Sn _ _ 12 (mx_getf 10 1 15) from sn_84 12) a48 s48 rfl rfl rfl ?_
        have c85 : ∀  (Z9 : xZ) (h9 : mx_H), (0 ≤ x0 → x0 ≤ 39 → ((Z 48 1 = 0 → -128 ≤ Z9 49 x0 ∧ Z9 49 x0 ≤ 127 ∧ (Z9 49 x0 - x1) % 256 = 0) ∧ (Z 48 1 = 1 → -32768 ≤ Z9 49 x0 ∧ Z9 49 x0 ≤ 32767 ∧ (Z9 49 x0 - x1) % 65536 = 0) ∧ (Z 48 1 = 2 → -2147483648 ≤ Z9 49 x0 ∧ Z9 49 x0 ≤ 2147483647 ∧ (Z9 49 x0 - x1) % 4294967296 = 0) ∧ (¬ Z 48 1 = 0 → ¬ Z 48 1 = 1 → ¬ Z 48 1 = 2 → Z9 49 x0 = x1))) → (∀ i, ¬ i = x0 → Z9 49 i = Z 49 i) → XH n s S Z9 h9 → GI n S Z9 → fr' [(49, (-1))] Z Z9 → mx_J (tB l D b0 ad Hb tau) mt_84 (d + 0) 85 [some (.ref 48), some (xI x0), some (xL x1), none] [] h9 Post := by
          intro Z9 h9 f8_0 f8_1 hx9 hG9 hf9
          have b10 : (-9223372036854775808) ≤ Z9 49 x0 ∧ Z9 49 x0 ≤ 9223372036854775807 := hG9.pr 49 x0
          have eq11 : Z9 48 1 = Z 48 1 := (hf9 48 1 rfl)
          exact mx_J.ret (sn_84 85) (fun _ _ => rfl) (hP Z9 h9 hx9 hG9 (fr_tr (M := [(49, (-1))]) fr_rf (hf9) (M1 := []) rfl rfl) ⟨(by assumption), by omega⟩)
        refine Jtsw (z := Z 48 1) (show mx_Sn _ _ 15 (mx_tsw 0 2 [40, 53, 66] 78) from sn_84 15) (by omega) (fun q12 => ?_) (fun q12 => ?_)
        · skip
          refine mx_J.step (sn_84 78) (fun _ _ => rfl) ?_
          refine JgetR (g := 0) (b := 49) hx (show mx_Sn _ _ 79 (mx_getf 10 0 82) from sn_84 79) a48 s48 rfl rfl (hG.prr 48 0 rfl) ?_
          refine mx_J.step (sn_84 82) (fun _ _ => rfl) ?_
          refine mx_J.step (sn_84 83) (fun _ _ => rfl) ?_
          refine JlastL hx (show mx_Sn _ _ 84 (mx_last 1 85) from sn_84 84) a49 s49 rfl (by omega) (fun Z14 h14 hx14 hE14 => ?_)
          have hG14 := GI_up hG hE14 (show (-9223372036854775808) ≤ x1 ∧ x1 ≤ 9223372036854775807 by omega) trivial rfl
          have i0 : Z14 49 x0 = x1 := up_at hE14
          exact c85 Z14 h14 (by omega) (fun i hi => up_ni hE14 hi) hx14 hG14 (fr_tr (M := [(49, (-1))]) fr_rf (fr_ua hE14) (M1 := []) rfl rfl)
        · skip
          have e12 : Z 48 1 = 0 ∨ Z 48 1 = 1 ∨ Z 48 1 = 2 := by omega
          rcases e12 with e12 | e12 | e12
          · refine ⟨40, by rw [e12]; rfl, ?_⟩
            refine mx_J.step (sn_84 40) (fun _ _ => rfl) ?_
            refine JgetR (g := 0) (b := 49) hx (show mx_Sn _ _ 41 (mx_getf 10 0 44) from sn_84 41) a48 s48 rfl rfl (hG.prr 48 0 rfl) ?_
            refine mx_J.step (sn_84 44) (fun _ _ => rfl) ?_
            refine mx_J.step (sn_84 45) (fun _ _ => rfl) ?_
            refine Jl2iY (show mx_Sn _ _ 46 (mx_l2i 47) from sn_84 46) (fun y16 hy16 hq16 => ?_)
            refine Ji2bY (show mx_Sn _ _ 47 (mx_i2b 48) from sn_84 47) (by omega) (fun y17 hy17 hq17 => ?_)
            refine Ji2l (show mx_Sn _ _ 48 (mx_i2l 49) from sn_84 48) (by omega) ?_
            refine JlastL hx (show mx_Sn _ _ 49 (mx_last 1 50) from sn_84 49) a49 s49 rfl (by omega) (fun Z18 h18 hx18 hE18 => ?_)
            have hG18 := GI_up hG hE18 (show (-9223372036854775808) ≤ y17 ∧ y17 ≤ 9223372036854775807 by omega) trivial rfl
            have i0 : Z18 49 x0 = y17 := up_at hE18
            refine mx_J.step (sn_84 50) (fun _ _ => rfl) ?_
            exact c85 Z18 h18 (by omega) (fun i hi => up_ni hE18 hi) hx18 hG18 (fr_tr (M := [(49, (-1))]) fr_rf (fr_ua hE18) (M1 := []) rfl rfl)
          · refine ⟨53, by rw [e12]; rfl, ?_⟩
            refine mx_J.step (sn_84 53) (fun _ _ => rfl) ?_
            refine JgetR (g := 0) (b := 49) hx (show mx_Sn _ _ 54 (mx_getf 10 0 57) from sn_84 54) a48 s48 rfl rfl (hG.prr 48 0 rfl) ?_
            refine mx_J.step (sn_84 57) (fun _ _ => rfl) ?_
            refine mx_J.step (sn_84 58) (fun _ _ => rfl) ?_
            refine Jl2iY (show mx_Sn _ _ 59 (mx_l2i 60) from sn_84 59) (fun y20 hy20 hq20 => ?_)
            refine Ji2sY (show mx_Sn _ _ 60 (mx_i2s 61) from sn_84 60) (by omega) (fun y21 hy21 hq21 => ?_)
            refine Ji2l (show mx_Sn _ _ 61 (mx_i2l 62) from sn_84 61) (by omega) ?_
            refine JlastL hx (show mx_Sn _ _ 62 (mx_last 1 63) from sn_84 62) a49 s49 rfl (by omega) (fun Z22 h22 hx22 hE22 => ?_)
            have hG22 := GI_up hG hE22 (show (-9223372036854775808) ≤ y21 ∧ y21 ≤ 9223372036854775807 by omega) trivial rfl
            have i0 : Z22 49 x0 = y21 := up_at hE22
            refine mx_J.step (sn_84 63) (fun _ _ => rfl) ?_
            exact c85 Z22 h22 (by omega) (fun i hi => up_ni hE22 hi) hx22 hG22 (fr_tr (M := [(49, (-1))]) fr_rf (fr_ua hE22) (M1 := []) rfl rfl)
          · refine ⟨66, by rw [e12]; rfl, ?_⟩
            refine mx_J.step (sn_84 66) (fun _ _ => rfl) ?_
            refine JgetR (g := 0) (b := 49) hx (show mx_Sn _ _ 67 (mx_getf 10 0 70) from sn_84 67) a48 s48 rfl rfl (hG.prr 48 0 rfl) ?_
            refine mx_J.step (sn_84 70) (fun _ _ => rfl) ?_
            refine mx_J.step (sn_84 71) (fun _ _ => rfl) ?_
            refine Jl2iY (show mx_Sn _ _ 72 (mx_l2i 73) from sn_84 72) (fun y24 hy24 hq24 => ?_)
            refine Ji2l (show mx_Sn _ _ 73 (mx_i2l 74) from sn_84 73) (by omega) ?_
            refine JlastL hx (show mx_Sn _ _ 74 (mx_last 1 75) from sn_84 74) a49 s49 rfl (by omega) (fun Z25 h25 hx25 hE25 => ?_)
            have hG25 := GI_up hG hE25 (show (-9223372036854775808) ≤ y24 ∧ y24 ≤ 9223372036854775807 by omega) trivial rfl
            have i0 : Z25 49 x0 = y24 := up_at hE25
            refine mx_J.step (sn_84 75) (fun _ _ => rfl) ?_
            exact c85 Z25 h25 (by omega) (fun i hi => up_ni hE25 hi) hx25 hG25 (fr_tr (M := [(49, (-1))]) fr_rf (fr_ua hE25) (M1 := []) rfl rfl)
      · skip
        exact c10 (by omega)
theorem ct_84_48 {l : Launch} {D : va_G} {b0 : Nat} {ad : Nat → Nat} {Hb : Heap} {tau : Nat → Int64} {d n s : Nat} {S : Nat → xS} {Z : xZ} {h : mx_H} (hx : XH n s S Z h) (hG : GI n S Z)  {x0 x1 : Int} (p0 : (-2147483648) ≤ x0 ∧ x0 ≤ 2147483647) (p1 : (-9223372036854775808) ≤ x1 ∧ x1 ≤ 9223372036854775807) : ∃ (Z' : xZ) (h' : mx_H), mx_Ca (tB l D b0 ad Hb tau) (d + 1) 84 [.ref 48, xI x0, xL x1] h (none, h') ∧ XH n s S Z' h' ∧ GI n S Z' ∧ fr' [(49, (-1))] Z Z' ∧ ((∀ i, ¬ i = x0 → Z' 49 i = Z 49 i) ∧ (0 ≤ x0 → x0 ≤ 39 → ((Z 48 1 = 0 → -128 ≤ Z' 49 x0 ∧ Z' 49 x0 ≤ 127 ∧ (Z' 49 x0 - x1) % 256 = 0) ∧ (Z 48 1 = 1 → -32768 ≤ Z' 49 x0 ∧ Z' 49 x0 ≤ 32767 ∧ (Z' 49 x0 - x1) % 65536 = 0) ∧ (Z 48 1 = 2 → -2147483648 ≤ Z' 49 x0 ∧ Z' 49 x0 ≤ 2147483647 ∧ (Z' 49 x0 - x1) % 4294967296 = 0) ∧ (¬ Z 48 1 = 0 → ¬ Z 48 1 = 1 → ¬ Z 48 1 = 2 → Z' 49 x0 = x1)))) := by
  obtain ⟨r, hca, Z', h', e, q⟩ := Jmt (B := tB l D b0 ad Hb tau) (M := mt_84) (mi := 84) (as := [.ref 48, xI x0, xL x1]) (d := d + 0) (ls := [some (.ref 48), some (xI x0), some (xL x1), none]) rfl rfl rfl rfl rfl rfl (cw_84_48 (l := l) (D := D) (b0 := b0) (ad := ad) (Hb := Hb) (tau := tau) (d := d) (Post := fun r => ∃ (Z' : xZ) (h' : mx_H), r = (none, h') ∧ XH n s S Z' h' ∧ GI n S Z' ∧ fr' [(49, (-1))] Z Z' ∧ ((∀ i, ¬ i = x0 → Z' 49 i = Z 49 i) ∧ (0 ≤ x0 → x0 ≤ 39 → ((Z 48 1 = 0 → -128 ≤ Z' 49 x0 ∧ Z' 49 x0 ≤ 127 ∧ (Z' 49 x0 - x1) % 256 = 0) ∧ (Z 48 1 = 1 → -32768 ≤ Z' 49 x0 ∧ Z' 49 x0 ≤ 32767 ∧ (Z' 49 x0 - x1) % 65536 = 0) ∧ (Z 48 1 = 2 → -2147483648 ≤ Z' 49 x0 ∧ Z' 49 x0 ≤ 2147483647 ∧ (Z' 49 x0 - x1) % 4294967296 = 0) ∧ (¬ Z 48 1 = 0 → ¬ Z 48 1 = 1 → ¬ Z 48 1 = 2 → Z' 49 x0 = x1))))) hx hG p0 p1 (fun Z' h' q1 q2 q3 q4 => ⟨Z', h', rfl, q1, q2, q3, q4⟩))
  subst e; exact ⟨Z', h', hca, q⟩
set_option maxRecDepth 100000 in
theorem cw_285_49 {l : Launch} {D : va_G} {b0 : Nat} {ad : Nat → Nat} {Hb : Heap} {tau : Nat → Int64} {d n s : Nat} {S : Nat → xS} {Z : xZ} {h : mx_H} {Post : mx_R → Prop} (hx : XH n s S Z h) (hG : GI n S Z)  {x0 : Int} (p0 : (-9223372036854775808) ≤ x0 ∧ x0 ≤ 9223372036854775807) (hP : ∀ (Z' : xZ) (h' : mx_H), XH n s S Z' h' → GI n S Z' → fr' [(49, (-1))] Z Z' → FLL Z' 49 40 x0 → Post (none, h')) : mx_J (tB l D b0 ad Hb tau) mt_285 (d + 0) 0 [some (.ref 49), some (xL x0), none, none, none] [] h Post := by
    have a49 : 49 < n := lt83 (GI_n hG) rfl
    have s49 : S 49 = .inr (.long, 40, 1) := GI_s hG 49 rfl
    refine JcI (z := 0) (show mx_Sn _ _ 0 (mx_const (.int 0) 1) from sn_285 0) rfl ?_
    refine mx_J.step (ls2 := [some (.ref 49), some (xL x0), none, some (xI 0), none]) (sn_285 1) (fun _ _ => rfl) ?_
    refine mx_J.step (sn_285 2) (fun _ _ => rfl) ?_
    refine JalenI (z := 40) hx (show mx_Sn _ _ 3 (mx_alen 4) from sn_285 3) a49 s49 (by decide) rfl ?_
    refine mx_J.step (ls2 := [some (.ref 49), some (xL x0), none, some (xI 0), some (xI 40)]) (sn_285 4) (fun _ _ => rfl) ?_
    have c6 : ∀ (m1 : Nat) (w1_3 : Int) (Z2 : xZ) (h2 : mx_H), 40 - w1_3 < (m1 : Int) → 0 ≤ w1_3 ∧ w1_3 ≤ 40 → FLL Z2 49 w1_3 x0 → XH n s S Z2 h2 → GI n S Z2 → fr' [(49, (-1))] Z Z2 → mx_J (tB l D b0 ad Hb tau) mt_285 (d + 0) 6 [some (.ref 49), some (xL x0), none, some (xI w1_3), some (xI 40)] [] h2 Post := by
      intro m1
      induction m1 with
      | zero => intro w1_3 Z2 h2 q1 f1_0 f1_1 hx2 hG2 hf2; exact absurd q1 (by omega)
      | succ m1 ih1 =>
        intro w1_3 Z2 h2 q1 f1_0 f1_1 hx2 hG2 hf2
        refine mx_J.step (sn_285 6) (fun _ _ => rfl) ?_
        refine mx_J.step (sn_285 7) (fun _ _ => rfl) ?_
        refine Jicmp_ge (show mx_Sn _ _ 9 (mx_icmp_ge 22 12) from sn_285 9) (by omega) (by omega) (fun q3 => ?_) (fun q3 => ?_)
        · skip
          exact mx_J.ret (sn_285 22) (fun _ _ => rfl) (hP Z2 h2 hx2 hG2 (fr_tr (M := [(49, (-1))]) fr_rf (hf2) (M1 := []) rfl rfl) (fll_e (by assumption) (by omega)))
        · skip
          refine mx_J.step (sn_285 12) (fun _ _ => rfl) ?_
          refine mx_J.step (sn_285 13) (fun _ _ => rfl) ?_
          refine mx_J.step (sn_285 14) (fun _ _ => rfl) ?_
          refine JlastL hx2 (show mx_Sn _ _ 15 (mx_last 1 16) from sn_285 15) a49 s49 rfl (by omega) (fun Z4 h4 hx4 hE4 => ?_)
          have hG4 := GI_up hG2 hE4 (show (-9223372036854775808) ≤ x0 ∧ x0 ≤ 9223372036854775807 by omega) trivial rfl
          have fl1 : FLL Z4 49 (w1_3 + 1) x0 := fll_s (Z := Z2) (by assumption) hE4
          refine Jiinc (z := w1_3) (cz := 1) (ls2 := [some (.ref 49), some (xL x0), none, some (xI (w1_3 + 1)), some (xI 40)]) (show mx_Sn _ _ 16 (mx_iinc 3 1 19) from sn_285 16) rfl rfl rfl rfl ?_
          refine mx_J.step (sn_285 19) (fun _ _ => rfl) ?_
          exact ih1 (w1_3 + 1) Z4 h4 (by omega) (by omega) (by first | exact fll_0 | assumption) hx4 hG4 (fr_tr (M := [(49, (-1))]) (fr_tr (M := [(49, (-1))]) fr_rf (hf2) (M1 := []) rfl rfl) (fr_ua hE4) rfl rfl)
    exact c6 (Int.toNat (40 - 0) + 1) 0 Z h (by omega) (by omega) (by first | exact fll_0 | assumption) hx hG fr_rf
theorem ct_285_49 {l : Launch} {D : va_G} {b0 : Nat} {ad : Nat → Nat} {Hb : Heap} {tau : Nat → Int64} {d n s : Nat} {S : Nat → xS} {Z : xZ} {h : mx_H} (hx : XH n s S Z h) (hG : GI n S Z)  {x0 : Int} (p0 : (-9223372036854775808) ≤ x0 ∧ x0 ≤ 9223372036854775807) : ∃ (Z' : xZ) (h' : mx_H), mx_Ca (tB l D b0 ad Hb tau) (d + 1) 285 [.ref 49, xL x0] h (none, h') ∧ XH n s S Z' h' ∧ GI n S Z' ∧ fr' [(49, (-1))] Z Z' ∧ (FLL Z' 49 40 x0) := by
  obtain ⟨r, hca, Z', h', e, q⟩ := Jmt (B := tB l D b0 ad Hb tau) (M := mt_285) (mi := 285) (as := [.ref 49, xL x0]) (d := d + 0) (ls := [some (.ref 49), some (xL x0), none, none, none]) rfl rfl rfl rfl rfl rfl (cw_285_49 (l := l) (D := D) (b0 := b0) (ad := ad) (Hb := Hb) (tau := tau) (d := d) (Post := fun r => ∃ (Z' : xZ) (h' : mx_H), r = (none, h') ∧ XH n s S Z' h' ∧ GI n S Z' ∧ fr' [(49, (-1))] Z Z' ∧ (FLL Z' 49 40 x0)) hx hG p0 (fun Z' h' q1 q2 q3 q4 => ⟨Z', h', rfl, q1, q2, q3, q4⟩))
  subst e; exact ⟨Z', h', hca, q⟩
set_option maxRecDepth 100000 in
theorem cw_83_48 {l : Launch} {D : va_G} {b0 : Nat} {ad : Nat → Nat} {Hb : Heap} {tau : Nat → Int64} {d n s : Nat} {S : Nat → xS} {Z : xZ} {h : mx_H} {Post : mx_R → Prop} (hx : XH n s S Z h) (hG : GI n S Z)  {x0 x1 : Int} (p0 : 0 ≤ x0 ∧ x0 ≤ 3) (p1 : 0 ≤ x1 ∧ x1 ≤ 40) (hP : ∀ (Z' : xZ) (h' : mx_H), XH n s S Z' h' → GI n S Z' → fr' [(48, 1), (48, 2), (48, 3), (49, (-1))] Z Z' → FLL Z' 49 40 0 ∧ (Z' 48 1 = x0 ∧ Z' 48 2 = x1 ∧ Z' 48 3 = 0) → Post (none, h')) : mx_J (tB l D b0 ad Hb tau) mt_83 (d + 1) 0 [some (.ref 48), some (xI x0), some (xI x1)] [] h Post := by
    have a48 : 48 < n := lt83 (GI_n hG) rfl
    have s48 : S 48 = .inl (10, [2, 0, 0, 0]) := GI_s hG 48 rfl
    refine mx_J.step (sn_83 0) (fun _ _ => rfl) ?_
    refine mx_J.step (sn_83 1) (fun _ _ => rfl) ?_
    refine JputI (g := 1) hx (show mx_Sn _ _ 2 (mx_putf 1 10 1 (.int) 5) from sn_83 2) a48 s48 rfl rfl rfl rfl (fun Z1 h1 hx1 hE1 => ?_)
    have hG1 := GI_up hG hE1 (show 0 ≤ x0 ∧ x0 ≤ 3 by omega) trivial rfl
    refine mx_J.step (sn_83 5) (fun _ _ => rfl) ?_
    refine mx_J.step (sn_83 6) (fun _ _ => rfl) ?_
    refine JputI (g := 2) hx1 (show mx_Sn _ _ 7 (mx_putf 1 10 2 (.int) 10) from sn_83 7) a48 s48 rfl rfl rfl rfl (fun Z2 h2 hx2 hE2 => ?_)
    have hG2 := GI_up hG1 hE2 (show 0 ≤ x1 ∧ x1 ≤ 40 by omega) trivial rfl
    refine mx_J.step (sn_83 10) (fun _ _ => rfl) ?_
    refine JcI (z := 0) (show mx_Sn _ _ 11 (mx_const (.int 0) 12) from sn_83 11) rfl ?_
    refine JputI (g := 3) hx2 (show mx_Sn _ _ 12 (mx_putf 1 10 3 (.boolean) 15) from sn_83 12) a48 s48 rfl rfl (fit_z (by omega)) rfl (fun Z3 h3 hx3 hE3 => ?_)
    have hG3 := GI_up hG2 hE3 (show 0 ≤ 0 ∧ 0 ≤ 1 by omega) trivial rfl
    refine mx_J.step (sn_83 15) (fun _ _ => rfl) ?_
    refine JgetR (g := 0) (b := 49) hx3 (show mx_Sn _ _ 16 (mx_getf 10 0 19) from sn_83 16) a48 s48 rfl rfl (hG3.prr 48 0 rfl) ?_
    refine JcL (z := 0) (show mx_Sn _ _ 19 (mx_const (.long 0) 20) from sn_83 19) rfl ?_
    obtain ⟨Z5, h5, hc5, hx5, hG5, hf5, b5⟩ := ct_285_49 (d := d + 0) (l := l) (D := D) (b0 := b0) (ad := ad) (Hb := Hb) (tau := tau) hx3 hG3 (show (-9223372036854775808) ≤ 0 ∧ 0 ≤ 9223372036854775807 by omega)
    have bs5_0 := b5
    clear b5
    refine Jcs0 (show mx_Sn _ _ 20 (mx_calls 285 2 23) from sn_83 20) hc5 rfl rfl rfl ?_
    have eq6 : Z5 48 1 = x0 := ((hf5 48 1 rfl).trans ((up_ni hE3 (by decide)).trans ((up_ni hE2 (by decide)).trans (up_at hE1))))
    have eq7 : Z5 48 2 = x1 := ((hf5 48 2 rfl).trans ((up_ni hE3 (by decide)).trans (up_at hE2)))
    have eq8 : Z5 48 3 = 0 := ((hf5 48 3 rfl).trans (up_at hE3))
    exact mx_J.ret (sn_83 23) (fun _ _ => rfl) (hP Z5 h5 hx5 hG5 (fr_tr (M := [(48, 1), (48, 2), (48, 3), (49, (-1))]) (fr_tr (M := [(48, 1), (48, 2), (48, 3), (49, (-1))]) (fr_tr (M := [(48, 1), (48, 2), (48, 3), (49, (-1))]) (fr_tr (M := [(48, 1), (48, 2), (48, 3), (49, (-1))]) fr_rf (fr_up hE1) (M1 := []) rfl rfl) (fr_up hE2) rfl rfl) (fr_up hE3) rfl rfl) (hf5) rfl rfl) ⟨(by assumption), by omega⟩)
theorem ct_83_48 {l : Launch} {D : va_G} {b0 : Nat} {ad : Nat → Nat} {Hb : Heap} {tau : Nat → Int64} {d n s : Nat} {S : Nat → xS} {Z : xZ} {h : mx_H} (hx : XH n s S Z h) (hG : GI n S Z)  {x0 x1 : Int} (p0 : 0 ≤ x0 ∧ x0 ≤ 3) (p1 : 0 ≤ x1 ∧ x1 ≤ 40) : ∃ (Z' : xZ) (h' : mx_H), mx_Ca (tB l D b0 ad Hb tau) (d + 2) 83 [.ref 48, xI x0, xI x1] h (none, h') ∧ XH n s S Z' h' ∧ GI n S Z' ∧ fr' [(48, 1), (48, 2), (48, 3), (49, (-1))] Z Z' ∧ (FLL Z' 49 40 0 ∧ (Z' 48 1 = x0 ∧ Z' 48 2 = x1 ∧ Z' 48 3 = 0)) := by
  obtain ⟨r, hca, Z', h', e, q⟩ := Jmt (B := tB l D b0 ad Hb tau) (M := mt_83) (mi := 83) (as := [.ref 48, xI x0, xI x1]) (d := d + 1) (ls := [some (.ref 48), some (xI x0), some (xI x1)]) rfl rfl rfl rfl rfl rfl (cw_83_48 (l := l) (D := D) (b0 := b0) (ad := ad) (Hb := Hb) (tau := tau) (d := d) (Post := fun r => ∃ (Z' : xZ) (h' : mx_H), r = (none, h') ∧ XH n s S Z' h' ∧ GI n S Z' ∧ fr' [(48, 1), (48, 2), (48, 3), (49, (-1))] Z Z' ∧ (FLL Z' 49 40 0 ∧ (Z' 48 1 = x0 ∧ Z' 48 2 = x1 ∧ Z' 48 3 = 0))) hx hG p0 p1 (fun Z' h' q1 q2 q3 q4 => ⟨Z', h', rfl, q1, q2, q3, q4⟩))
  subst e; exact ⟨Z', h', hca, q⟩
set_option maxRecDepth 100000 in
theorem cw_85_50 {l : Launch} {D : va_G} {b0 : Nat} {ad : Nat → Nat} {Hb : Heap} {tau : Nat → Int64} {d n s : Nat} {S : Nat → xS} {Z : xZ} {h : mx_H} {Post : mx_R → Prop} (hx : XH n s S Z h) (hG : GI n S Z)  {x0 : Int} (p0 : (-2147483648) ≤ x0 ∧ x0 ≤ 2147483647) (hP : ∀ z : Int, (-9223372036854775808) ≤ z ∧ z ≤ 9223372036854775807 ∧ (0 ≤ x0 → x0 ≤ 39 → z = Z 51 x0) → Post (some (xL z), h)) : mx_J (tB l D b0 ad Hb tau) mt_85 (d + 0) 0 [some (.ref 50), some (xI x0)] [] h Post := by
    have a50 : 50 < n := lt83 (GI_n hG) rfl
    have s50 : S 50 = .inl (10, [2, 0, 0, 0]) := GI_s hG 50 rfl
    have a51 : 51 < n := lt83 (GI_n hG) rfl
    have s51 : S 51 = .inr (.long, 40, 1) := GI_s hG 51 rfl
    refine mx_J.step (sn_85 0) (fun _ _ => rfl) ?_
    have c20 : ∀ (k1_0 : Int), (-9223372036854775808) ≤ k1_0 ∧ k1_0 ≤ 9223372036854775807 → (0 ≤ x0 → x0 ≤ 39 → k1_0 = Z 51 x0) → mx_J (tB l D b0 ad Hb tau) mt_85 (d + 0) 20 [some (.ref 50), some (xI x0)] [xL k1_0] h Post := by
      intro k1_0 f1_0 f1_1
      have b2 : (-9223372036854775808) ≤ Z 51 x0 ∧ Z 51 x0 ≤ 9223372036854775807 := hG.pr 51 x0
      exact mx_J.ret (sn_85 20) (fun _ _ => rfl) (hP k1_0 (by omega))
    have c10 : (x0 < 0 ∨ 40 ≤ x0) → mx_J (tB l D b0 ad Hb tau) mt_85 (d + 0) 10 [some (.ref 50), some (xI x0)] [] h Post := by
      intro f3_0
      refine JcL (z := 0) (show mx_Sn _ _ 10 (mx_const (.long 0) 11) from sn_85 10) rfl ?_
      refine mx_J.step (sn_85 11) (fun _ _ => rfl) ?_
      exact c20 0 (by omega) (by omega)
    refine Jif_lt (show mx_Sn _ _ 1 (mx_if_lt 10 4) from sn_85 1) (by omega) (fun q4 => ?_) (fun q4 => ?_)
    · skip
      exact c10 (by omega)
    · skip
      refine mx_J.step (sn_85 4) (fun _ _ => rfl) ?_
      refine JcI (z := 40) (show mx_Sn _ _ 5 (mx_const (.int 40) 7) from sn_85 5) rfl ?_
      refine Jicmp_lt (show mx_Sn _ _ 7 (mx_icmp_lt 14 10) from sn_85 7) (by omega) (by omega) (fun q5 => ?_) (fun q5 => ?_)
      · skip
        refine mx_J.step (sn_85 14) (fun _ _ => rfl) ?_
        refine JgetR (g := 0) (b := 51) hx (show mx_Sn _ _ 15 (mx_getf 10 0 18) from sn_85 15) a50 s50 rfl rfl (hG.prr 50 0 rfl) ?_
        refine mx_J.step (sn_85 18) (fun _ _ => rfl) ?_
        have b7 : (-9223372036854775808) ≤ Z 51 x0 ∧ Z 51 x0 ≤ 9223372036854775807 := hG.pr 51 x0
        refine JlaldL (z := Z 51 x0) hx (show mx_Sn _ _ 19 (mx_lald 20) from sn_85 19) a51 s51 (by omega) rfl ?_
        exact c20 (Z 51 x0) (by omega) (by omega)
      · skip
        exact c10 (by omega)
theorem ct_85_50 {l : Launch} {D : va_G} {b0 : Nat} {ad : Nat → Nat} {Hb : Heap} {tau : Nat → Int64} {d n s : Nat} {S : Nat → xS} {Z : xZ} {h : mx_H} (hx : XH n s S Z h) (hG : GI n S Z)  {x0 : Int} (p0 : (-2147483648) ≤ x0 ∧ x0 ≤ 2147483647) : ∃ z : Int, mx_Ca (tB l D b0 ad Hb tau) (d + 1) 85 [.ref 50, xI x0] h (some (xL z), h) ∧ ((-9223372036854775808) ≤ z ∧ z ≤ 9223372036854775807 ∧ (0 ≤ x0 → x0 ≤ 39 → z = Z 51 x0)) := by
  obtain ⟨r, hca, z, e, hp⟩ := Jmt (B := tB l D b0 ad Hb tau) (M := mt_85) (mi := 85) (as := [.ref 50, xI x0]) (d := d + 0) (ls := [some (.ref 50), some (xI x0)]) rfl rfl rfl rfl rfl rfl (cw_85_50 (l := l) (D := D) (b0 := b0) (ad := ad) (Hb := Hb) (tau := tau) (d := d) (Post := fun r => ∃ z : Int, r = (some (xL z), h) ∧ ((-9223372036854775808) ≤ z ∧ z ≤ 9223372036854775807 ∧ (0 ≤ x0 → x0 ≤ 39 → z = Z 51 x0))) hx hG p0 (fun z hz => ⟨z, rfl, hz⟩))
  subst e; exact ⟨z, hca, hp⟩
set_option maxRecDepth 100000 in
theorem cw_86_50 {l : Launch} {D : va_G} {b0 : Nat} {ad : Nat → Nat} {Hb : Heap} {tau : Nat → Int64} {d n s : Nat} {S : Nat → xS} {Z : xZ} {h : mx_H} {Post : mx_R → Prop} (hx : XH n s S Z h) (hG : GI n S Z)  {x0 x1 : Int} (p0 : (-9223372036854775808) ≤ x0 ∧ x0 ≤ 9223372036854775807) (p1 : (-9223372036854775808) ≤ x1 ∧ x1 ≤ 9223372036854775807) (hP : ∀ z : Int, (z = 1 → AB Z 51 (Z 50 2) x0 x1) ∧ (z = 0 → ∃ j : Int, 0 ≤ j ∧ j < Z 50 2 ∧ (Z 51 j < x0 ∨ x1 < Z 51 j)) ∧ 0 ≤ z ∧ z ≤ 1 → Post (some (xI z), h)) : mx_J (tB l D b0 ad Hb tau) mt_86 (d + 0) 0 [some (.ref 50), some (xL x0), none, some (xL x1), none, none] [] h Post := by
    have a50 : 50 < n := lt83 (GI_n hG) rfl
    have s50 : S 50 = .inl (10, [2, 0, 0, 0]) := GI_s hG 50 rfl
    have a51 : 51 < n := lt83 (GI_n hG) rfl
    have s51 : S 51 = .inr (.long, 40, 1) := GI_s hG 51 rfl
    refine JcI (z := 0) (show mx_Sn _ _ 0 (mx_const (.int 0) 1) from sn_86 0) rfl ?_
    refine mx_J.step (ls2 := [some (.ref 50), some (xL x0), none, some (xL x1), none, some (xI 0)]) (sn_86 1) (fun _ _ => rfl) ?_
    have c3 : ∀ (m1 : Nat) (w1_5 : Int), 40 - w1_5 < (m1 : Int) → 0 ≤ w1_5 ∧ w1_5 ≤ 40 → AB Z 51 w1_5 x0 x1 → mx_J (tB l D b0 ad Hb tau) mt_86 (d + 0) 3 [some (.ref 50), some (xL x0), none, some (xL x1), none, some (xI w1_5)] [] h Post := by
      intro m1
      induction m1 with
      | zero => intro w1_5 q1 f1_0 f1_1; exact absurd q1 (by omega)
      | succ m1 ih1 =>
        intro w1_5 q1 f1_0 f1_1
        refine mx_J.step (sn_86 3) (fun _ _ => rfl) ?_
        refine mx_J.step (sn_86 5) (fun _ _ => rfl) ?_
        have b3 : 0 ≤ Z 50 2 ∧ Z 50 2 ≤ 40 := hG.pr 50 2
        refine JgetI (g := 2) (z := Z 50 2) hx (show mx_Sn _ _ 6 (mx_getf 10 2 9) from sn_86 6) a50 s50 rfl rfl rfl ?_
        refine Jicmp_ge (show mx_Sn _ _ 9 (mx_icmp_ge 44 12) from sn_86 9) (by omega) (by omega) (fun q4 => ?_) (fun q4 => ?_)
        · skip
          refine JcI (z := 1) (show mx_Sn _ _ 44 (mx_const (.int 1) 45) from sn_86 44) rfl ?_
          exact mx_J.ret (show mx_Sn _ _ 45 (mx_zret) from sn_86 45) (fun _ _ => zr_ok (by omega)) (hP 1 ⟨(fun _ => ab_mono (by assumption) (by omega) (by omega) (by omega)), (fun hz => absurd hz (by decide)), by omega⟩)
        · skip
          refine mx_J.step (sn_86 12) (fun _ _ => rfl) ?_
          refine JgetR (g := 0) (b := 51) hx (show mx_Sn _ _ 13 (mx_getf 10 0 16) from sn_86 13) a50 s50 rfl rfl (hG.prr 50 0 rfl) ?_
          refine mx_J.step (sn_86 16) (fun _ _ => rfl) ?_
          have b6 : (-9223372036854775808) ≤ Z 51 w1_5 ∧ Z 51 w1_5 ≤ 9223372036854775807 := hG.pr 51 w1_5
          refine JlaldL (z := Z 51 w1_5) hx (show mx_Sn _ _ 18 (mx_lald 19) from sn_86 18) a51 s51 (by omega) rfl ?_
          refine mx_J.step (sn_86 19) (fun _ _ => rfl) ?_
          have c36 : (Z 51 w1_5 < x0 ∨ x1 < Z 51 w1_5) → mx_J (tB l D b0 ad Hb tau) mt_86 (d + 0) 36 [some (.ref 50), some (xL x0), none, some (xL x1), none, some (xI w1_5)] [] h Post := by
            intro f7_0
            refine JcI (z := 0) (show mx_Sn _ _ 36 (mx_const (.int 0) 37) from sn_86 36) rfl ?_
            exact mx_J.ret (show mx_Sn _ _ 37 (mx_zret) from sn_86 37) (fun _ _ => zr_ok (by omega)) (hP 0 ⟨(fun hz => absurd hz (by decide)), (fun _ => ⟨w1_5, by omega, by omega, by omega⟩), by omega⟩)
          refine Jlif_lt (show mx_Sn _ _ 20 (mx_lif_lt 36 24) from sn_86 20) (by omega) (by omega) (fun q8 => ?_) (fun q8 => ?_)
          · skip
            exact c36 (by omega)
          · skip
            refine mx_J.step (sn_86 24) (fun _ _ => rfl) ?_
            refine JgetR (g := 0) (b := 51) hx (show mx_Sn _ _ 25 (mx_getf 10 0 28) from sn_86 25) a50 s50 rfl rfl (hG.prr 50 0 rfl) ?_
            refine mx_J.step (sn_86 28) (fun _ _ => rfl) ?_
            refine JlaldL (z := Z 51 w1_5) hx (show mx_Sn _ _ 30 (mx_lald 31) from sn_86 30) a51 s51 (by omega) rfl ?_
            refine mx_J.step (sn_86 31) (fun _ _ => rfl) ?_
            refine Jlif_le (show mx_Sn _ _ 32 (mx_lif_le 38 36) from sn_86 32) (by omega) (by omega) (fun q10 => ?_) (fun q10 => ?_)
            · skip
              refine Jiinc (z := w1_5) (cz := 1) (ls2 := [some (.ref 50), some (xL x0), none, some (xL x1), none, some (xI (w1_5 + 1))]) (show mx_Sn _ _ 38 (mx_iinc 5 1 41) from sn_86 38) rfl rfl rfl rfl ?_
              refine mx_J.step (sn_86 41) (fun _ _ => rfl) ?_
              exact ih1 (w1_5 + 1) (by omega) (by omega) (by first | exact ab_nil (by omega) | exact ab_ext (by assumption) (by omega))
            · skip
              exact c36 (by omega)
    exact c3 (Int.toNat (40 - 0) + 1) 0 (by omega) (by omega) (by first | exact ab_nil (by omega) | exact ab_ext (by assumption) (by omega))
theorem ct_86_50 {l : Launch} {D : va_G} {b0 : Nat} {ad : Nat → Nat} {Hb : Heap} {tau : Nat → Int64} {d n s : Nat} {S : Nat → xS} {Z : xZ} {h : mx_H} (hx : XH n s S Z h) (hG : GI n S Z)  {x0 x1 : Int} (p0 : (-9223372036854775808) ≤ x0 ∧ x0 ≤ 9223372036854775807) (p1 : (-9223372036854775808) ≤ x1 ∧ x1 ≤ 9223372036854775807) : ∃ z : Int, mx_Ca (tB l D b0 ad Hb tau) (d + 1) 86 [.ref 50, xL x0, xL x1] h (some (xI z), h) ∧ ((z = 1 → AB Z 51 (Z 50 2) x0 x1) ∧ (z = 0 → ∃ j : Int, 0 ≤ j ∧ j < Z 50 2 ∧ (Z 51 j < x0 ∨ x1 < Z 51 j)) ∧ 0 ≤ z ∧ z ≤ 1) := by
  obtain ⟨r, hca, z, e, hp⟩ := Jmt (B := tB l D b0 ad Hb tau) (M := mt_86) (mi := 86) (as := [.ref 50, xL x0, xL x1]) (d := d + 0) (ls := [some (.ref 50), some (xL x0), none, some (xL x1), none, none]) rfl rfl rfl rfl rfl rfl (cw_86_50 (l := l) (D := D) (b0 := b0) (ad := ad) (Hb := Hb) (tau := tau) (d := d) (Post := fun r => ∃ z : Int, r = (some (xI z), h) ∧ ((z = 1 → AB Z 51 (Z 50 2) x0 x1) ∧ (z = 0 → ∃ j : Int, 0 ≤ j ∧ j < Z 50 2 ∧ (Z 51 j < x0 ∨ x1 < Z 51 j)) ∧ 0 ≤ z ∧ z ≤ 1)) hx hG p0 p1 (fun z hz => ⟨z, rfl, hz⟩))
  subst e; exact ⟨z, hca, hp⟩
set_option maxRecDepth 100000 in
theorem cw_87_50 {l : Launch} {D : va_G} {b0 : Nat} {ad : Nat → Nat} {Hb : Heap} {tau : Nat → Int64} {d n s : Nat} {S : Nat → xS} {Z : xZ} {h : mx_H} {Post : mx_R → Prop} (hx : XH n s S Z h) (hG : GI n S Z)  {x0 : Int} (p0 : (-9223372036854775808) ≤ x0 ∧ x0 ≤ 9223372036854775807) (hP : ∀ z : Int, 0 ≤ z ∧ z ≤ 1 → Post (some (xI z), h)) : mx_J (tB l D b0 ad Hb tau) mt_87 (d + 0) 0 [some (.ref 50), some (xL x0), none, none] [] h Post := by
    have a50 : 50 < n := lt83 (GI_n hG) rfl
    have s50 : S 50 = .inl (10, [2, 0, 0, 0]) := GI_s hG 50 rfl
    have a51 : 51 < n := lt83 (GI_n hG) rfl
    have s51 : S 51 = .inr (.long, 40, 1) := GI_s hG 51 rfl
    refine JcI (z := 0) (show mx_Sn _ _ 0 (mx_const (.int 0) 1) from sn_87 0) rfl ?_
    refine mx_J.step (ls2 := [some (.ref 50), some (xL x0), none, some (xI 0)]) (sn_87 1) (fun _ _ => rfl) ?_
    have c2 : ∀ (m1 : Nat) (w1_3 : Int), 40 - w1_3 < (m1 : Int) → 0 ≤ w1_3 ∧ w1_3 ≤ 40 → mx_J (tB l D b0 ad Hb tau) mt_87 (d + 0) 2 [some (.ref 50), some (xL x0), none, some (xI w1_3)] [] h Post := by
      intro m1
      induction m1 with
      | zero => intro w1_3 q1 f1_0; exact absurd q1 (by omega)
      | succ m1 ih1 =>
        intro w1_3 q1 f1_0
        refine mx_J.step (sn_87 2) (fun _ _ => rfl) ?_
        refine mx_J.step (sn_87 3) (fun _ _ => rfl) ?_
        have b3 : 0 ≤ Z 50 2 ∧ Z 50 2 ≤ 40 := hG.pr 50 2
        refine JgetI (g := 2) (z := Z 50 2) hx (show mx_Sn _ _ 4 (mx_getf 10 2 7) from sn_87 4) a50 s50 rfl rfl rfl ?_
        refine Jicmp_ge (show mx_Sn _ _ 7 (mx_icmp_ge 29 10) from sn_87 7) (by omega) (by omega) (fun q4 => ?_) (fun q4 => ?_)
        · skip
          refine JcI (z := 0) (show mx_Sn _ _ 29 (mx_const (.int 0) 30) from sn_87 29) rfl ?_
          exact mx_J.ret (show mx_Sn _ _ 30 (mx_zret) from sn_87 30) (fun _ _ => zr_ok (by omega)) (hP 0 (by omega))
        · skip
          refine mx_J.step (sn_87 10) (fun _ _ => rfl) ?_
          refine JgetR (g := 0) (b := 51) hx (show mx_Sn _ _ 11 (mx_getf 10 0 14) from sn_87 11) a50 s50 rfl rfl (hG.prr 50 0 rfl) ?_
          refine mx_J.step (sn_87 14) (fun _ _ => rfl) ?_
          have b6 : (-9223372036854775808) ≤ Z 51 w1_3 ∧ Z 51 w1_3 ≤ 9223372036854775807 := hG.pr 51 w1_3
          refine JlaldL (z := Z 51 w1_3) hx (show mx_Sn _ _ 15 (mx_lald 16) from sn_87 15) a51 s51 (by omega) rfl ?_
          refine mx_J.step (sn_87 16) (fun _ _ => rfl) ?_
          refine Jlif_ne (show mx_Sn _ _ 17 (mx_lif_ne 23 21) from sn_87 17) (by omega) (by omega) (fun q7 => ?_) (fun q7 => ?_)
          · skip
            refine Jiinc (z := w1_3) (cz := 1) (ls2 := [some (.ref 50), some (xL x0), none, some (xI (w1_3 + 1))]) (show mx_Sn _ _ 23 (mx_iinc 3 1 26) from sn_87 23) rfl rfl rfl rfl ?_
            refine mx_J.step (sn_87 26) (fun _ _ => rfl) ?_
            exact ih1 (w1_3 + 1) (by omega) (by omega)
          · skip
            refine JcI (z := 1) (show mx_Sn _ _ 21 (mx_const (.int 1) 22) from sn_87 21) rfl ?_
            exact mx_J.ret (show mx_Sn _ _ 22 (mx_zret) from sn_87 22) (fun _ _ => zr_ok (by omega)) (hP 1 (by omega))
    exact c2 (Int.toNat (40 - 0) + 1) 0 (by omega) (by omega)
theorem ct_87_50 {l : Launch} {D : va_G} {b0 : Nat} {ad : Nat → Nat} {Hb : Heap} {tau : Nat → Int64} {d n s : Nat} {S : Nat → xS} {Z : xZ} {h : mx_H} (hx : XH n s S Z h) (hG : GI n S Z)  {x0 : Int} (p0 : (-9223372036854775808) ≤ x0 ∧ x0 ≤ 9223372036854775807) : ∃ z : Int, mx_Ca (tB l D b0 ad Hb tau) (d + 1) 87 [.ref 50, xL x0] h (some (xI z), h) ∧ (0 ≤ z ∧ z ≤ 1) := by
  obtain ⟨r, hca, z, e, hp⟩ := Jmt (B := tB l D b0 ad Hb tau) (M := mt_87) (mi := 87) (as := [.ref 50, xL x0]) (d := d + 0) (ls := [some (.ref 50), some (xL x0), none, none]) rfl rfl rfl rfl rfl rfl (cw_87_50 (l := l) (D := D) (b0 := b0) (ad := ad) (Hb := Hb) (tau := tau) (d := d) (Post := fun r => ∃ z : Int, r = (some (xI z), h) ∧ (0 ≤ z ∧ z ≤ 1)) hx hG p0 (fun z hz => ⟨z, rfl, hz⟩))
  subst e; exact ⟨z, hca, hp⟩
set_option maxRecDepth 100000 in
theorem cw_84_50 {l : Launch} {D : va_G} {b0 : Nat} {ad : Nat → Nat} {Hb : Heap} {tau : Nat → Int64} {d n s : Nat} {S : Nat → xS} {Z : xZ} {h : mx_H} {Post : mx_R → Prop} (hx : XH n s S Z h) (hG : GI n S Z)  {x0 x1 : Int} (p0 : (-2147483648) ≤ x0 ∧ x0 ≤ 2147483647) (p1 : (-9223372036854775808) ≤ x1 ∧ x1 ≤ 9223372036854775807) (hP : ∀ (Z' : xZ) (h' : mx_H), XH n s S Z' h' → GI n S Z' → fr' [(51, (-1))] Z Z' → (∀ i, ¬ i = x0 → Z' 51 i = Z 51 i) ∧ (0 ≤ x0 → x0 ≤ 39 → ((Z 50 1 = 0 → -128 ≤ Z' 51 x0 ∧ Z' 51 x0 ≤ 127 ∧ (Z' 51 x0 - x1) % 256 = 0) ∧ (Z 50 1 = 1 → -32768 ≤ Z' 51 x0 ∧ Z' 51 x0 ≤ 32767 ∧ (Z' 51 x0 - x1) % 65536 = 0) ∧ (Z 50 1 = 2 → -2147483648 ≤ Z' 51 x0 ∧ Z' 51 x0 ≤ 2147483647 ∧ (Z' 51 x0 - x1) % 4294967296 = 0) ∧ (¬ Z 50 1 = 0 → ¬ Z 50 1 = 1 → ¬ Z 50 1 = 2 → Z' 51 x0 = x1))) → Post (none, h')) : mx_J (tB l D b0 ad Hb tau) mt_84 (d + 0) 0 [some (.ref 50), some (xI x0), some (xL x1), none] [] h Post := by
    have a50 : 50 < n := lt83 (GI_n hG) rfl
    have s50 : S 50 = .inl (10, [2, 0, 0, 0]) := GI_s hG 50 rfl
    have a51 : 51 < n := lt83 (GI_n hG) rfl
    have s51 : S 51 = .inr (.long, 40, 1) := GI_s hG 51 rfl
    refine mx_J.step (sn_84 0) (fun _ _ => rfl) ?_
    have c10 : (x0 < 0 ∨ 40 ≤ x0) → mx_J (tB l D b0 ad Hb tau) mt_84 (d + 0) 10 [some (.ref 50), some (xI x0), some (xL x1), none] [] h Post := by
      intro f1_0
      have b2 : (-9223372036854775808) ≤ Z 51 x0 ∧ Z 51 x0 ≤ 9223372036854775807 := hG.pr 51 x0
      have b3 : 0 ≤ Z 50 1 ∧ Z 50 1 ≤ 3 := hG.pr 50 1
      exact mx_J.ret (sn_84 10) (fun _ _ => rfl) (hP Z h hx hG fr_rf ⟨(fun i _ => rfl), by omega⟩)
    refine Jif_lt (show mx_Sn _ _ 1 (mx_if_lt 10 4) from sn_84 1) (by omega) (fun q4 => ?_) (fun q4 => ?_)
    · skip
      exact c10 (by omega)
    · skip
      refine mx_J.step (sn_84 4) (fun _ _ => rfl) ?_
      refine JcI (z := 40) (show mx_Sn _ _ 5 (mx_const (.int 40) 7) from sn_84 5) rfl ?_
      refine Jicmp_lt (show mx_Sn _ _ 7 (mx_icmp_lt 11 10) from sn_84 7) (by omega) (by omega) (fun q5 => ?_) (fun q5 => ?_)
      · skip
        refine mx_J.step (sn_84 11) (fun _ _ => rfl) ?_
        have b7 : 0 ≤ Z 50 1 ∧ Z 50 1 ≤ 3 := hG.pr 50 1
        refine JgetI (g := 1) (z := Z 50 1) hx (show mx_Sn _ _ 12 (mx_getf 10 1 15) from sn_84 12) a50 s50 rfl rfl rfl ?_
        have c85 : ∀  (Z9 : xZ) (h9 : mx_H), (0 ≤ x0 → x0 ≤ 39 → ((Z 50 1 = 0 → -128 ≤ Z9 51 x0 ∧ Z9 51 x0 ≤ 127 ∧ (Z9 51 x0 - x1) % 256 = 0) ∧ (Z 50 1 = 1 → -32768 ≤ Z9 51 x0 ∧ Z9 51 x0 ≤ 32767 ∧ (Z9 51 x0 - x1) % 65536 = 0) ∧ (Z 50 1 = 2 → -2147483648 ≤ Z9 51 x0 ∧ Z9 51 x0 ≤ 2147483647 ∧ (Z9 51 x0 - x1) % 4294967296 = 0) ∧ (¬ Z 50 1 = 0 → ¬ Z 50 1 = 1 → ¬ Z 50 1 = 2 → Z9 51 x0 = x1))) → (∀ i, ¬ i = x0 → Z9 51 i = Z 51 i) → XH n s S Z9 h9 → GI n S Z9 → fr' [(51, (-1))] Z Z9 → mx_J (tB l D b0 ad Hb tau) mt_84 (d + 0) 85 [some (.ref 50), some (xI x0), some (xL x1), none] [] h9 Post := by
          intro Z9 h9 f8_0 f8_1 hx9 hG9 hf9
          have b10 : (-9223372036854775808) ≤ Z9 51 x0 ∧ Z9 51 x0 ≤ 9223372036854775807 := hG9.pr 51 x0
          have eq11 : Z9 50 1 = Z 50 1 := (hf9 50 1 rfl)
          exact mx_J.ret (sn_84 85) (fun _ _ => rfl) (hP Z9 h9 hx9 hG9 (fr_tr (M := [(51, (-1))]) fr_rf (hf9) (M1 := []) rfl rfl) ⟨(by assumption), by omega⟩)
        refine Jtsw (z := Z 50 1) (show mx_Sn _ _ 15 (mx_tsw 0 2 [40, 53, 66] 78) from sn_84 15) (by omega) (fun q12 => ?_) (fun q12 => ?_)
        · skip
          refine mx_J.step (sn_84 78) (fun _ _ => rfl) ?_
          refine JgetR (g := 0) (b := 51) hx (show mx_Sn _ _ 79 (mx_getf 10 0 82) from sn_84 79) a50 s50 rfl rfl (hG.prr 50 0 rfl) ?_
          refine mx_J.step (sn_84 82) (fun _ _ => rfl) ?_
          refine mx_J.step (sn_84 83) (fun _ _ => rfl) ?_
          refine JlastL hx (show mx_Sn _ _ 84 (mx_last 1 85) from sn_84 84) a51 s51 rfl (by omega) (fun Z14 h14 hx14 hE14 => ?_)
          have hG14 := GI_up hG hE14 (show (-9223372036854775808) ≤ x1 ∧ x1 ≤ 9223372036854775807 by omega) trivial rfl
          have i0 : Z14 51 x0 = x1 := up_at hE14
          exact c85 Z14 h14 (by omega) (fun i hi => up_ni hE14 hi) hx14 hG14 (fr_tr (M := [(51, (-1))]) fr_rf (fr_ua hE14) (M1 := []) rfl rfl)
        · skip
          have e12 : Z 50 1 = 0 ∨ Z 50 1 = 1 ∨ Z 50 1 = 2 := by omega
          rcases e12 with e12 | e12 | e12
          · refine ⟨40, by rw [e12]; rfl, ?_⟩
            refine mx_J.step (sn_84 40) (fun _ _ => rfl) ?_
            refine JgetR (g := 0) (b := 51) hx (show mx_Sn _ _ 41 (mx_getf 10 0 44) from sn_84 41) a50 s50 rfl rfl (hG.prr 50 0 rfl) ?_
            refine mx_J.step (sn_84 44) (fun _ _ => rfl) ?_
            refine mx_J.step (sn_84 45) (fun _ _ => rfl) ?_
            refine Jl2iY (show mx_Sn _ _ 46 (mx_l2i 47) from sn_84 46) (fun y16 hy16 hq16 => ?_)
            refine Ji2bY (show mx_Sn _ _ 47 (mx_i2b 48) from sn_84 47) (by omega) (fun y17 hy17 hq17 => ?_)
            refine Ji2l (show mx_Sn _ _ 48 (mx_i2l 49) from sn_84 48) (by omega) ?_
            refine JlastL hx (show mx_Sn _ _ 49 (mx_last 1 50) from sn_84 49) a51 s51 rfl (by omega) (fun Z18 h18 hx18 hE18 => ?_)
            have hG18 := GI_up hG hE18 (show (-9223372036854775808) ≤ y17 ∧ y17 ≤ 9223372036854775807 by omega) trivial rfl
            have i0 : Z18 51 x0 = y17 := up_at hE18
            refine mx_J.step (sn_84 50) (fun _ _ => rfl) ?_
            exact c85 Z18 h18 (by omega) (fun i hi => up_ni hE18 hi) hx18 hG18 (fr_tr (M := [(51, (-1))]) fr_rf (fr_ua hE18) (M1 := []) rfl rfl)
          · refine ⟨53, by rw [e12]; rfl, ?_⟩
            refine mx_J.step (sn_84 53) (fun _ _ => rfl) ?_
            refine JgetR (g := 0) (b := 51) hx (show mx_Sn _ _ 54 (mx_getf 10 0 57) from sn_84 54) a50 s50 rfl rfl (hG.prr 50 0 rfl) ?_
            refine mx_J.step (sn_84 57) (fun _ _ => rfl) ?_
            refine mx_J.step (sn_84 58) (fun _ _ => rfl) ?_
            refine Jl2iY (show mx_Sn _ _ 59 (mx_l2i 60) from sn_84 59) (fun y20 hy20 hq20 => ?_)
            refine Ji2sY (show mx_Sn _ _ 60 (mx_i2s 61) from sn_84 60) (by omega) (fun y21 hy21 hq21 => ?_)
            refine Ji2l (show mx_Sn _ _ 61 (mx_i2l 62) from sn_84 61) (by omega) ?_
            refine JlastL hx (show mx_Sn _ _ 62 (mx_last 1 63) from sn_84 62) a51 s51 rfl (by omega) (fun Z22 h22 hx22 hE22 => ?_)
            have hG22 := GI_up hG hE22 (show (-9223372036854775808) ≤ y21 ∧ y21 ≤ 9223372036854775807 by omega) trivial rfl
            have i0 : Z22 51 x0 = y21 := up_at hE22
            refine mx_J.step (sn_84 63) (fun _ _ => rfl) ?_
            exact c85 Z22 h22 (by omega) (fun i hi => up_ni hE22 hi) hx22 hG22 (fr_tr (M := [(51, (-1))]) fr_rf (fr_ua hE22) (M1 := []) rfl rfl)
          · refine ⟨66, by rw [e12]; rfl, ?_⟩
            refine mx_J.step (sn_84 66) (fun _ _ => rfl) ?_
            refine JgetR (g := 0) (b := 51) hx (show mx_Sn _ _ 67 (mx_getf 10 0 70) from sn_84 67) a50 s50 rfl rfl (hG.prr 50 0 rfl) ?_
            refine mx_J.step (sn_84 70) (fun _ _ => rfl) ?_
            refine mx_J.step (sn_84 71) (fun _ _ => rfl) ?_
            refine Jl2iY (show mx_Sn _ _ 72 (mx_l2i 73) from sn_84 72) (fun y24 hy24 hq24 => ?_)
            refine Ji2l (show mx_Sn _ _ 73 (mx_i2l 74) from sn_84 73) (by omega) ?_
            refine JlastL hx (show mx_Sn _ _ 74 (mx_last 1 75) from sn_84 74) a51 s51 rfl (by omega) (fun Z25 h25 hx25 hE25 => ?_)
            have hG25 := GI_up hG hE25 (show (-9223372036854775808) ≤ y24 ∧ y24 ≤ 9223372036854775807 by omega) trivial rfl
            have i0 : Z25 51 x0 = y24 := up_at hE25
            refine mx_J.step (sn_84 75) (fun _ _ => rfl) ?_
            exact c85 Z25 h25 (by omega) (fun i hi => up_ni hE25 hi) hx25 hG25 (fr_tr (M := [(51, (-1))]) fr_rf (fr_ua hE25) (M1 := []) rfl rfl)
      · skip
        exact c10 (by omega)
theorem ct_84_50 {l : Launch} {D : va_G} {b0 : Nat} {ad : Nat → Nat} {Hb : Heap} {tau : Nat → Int64} {d n s : Nat} {S : Nat → xS} {Z : xZ} {h : mx_H} (hx : XH n s S Z h) (hG : GI n S Z)  {x0 x1 : Int} (p0 : (-2147483648) ≤ x0 ∧ x0 ≤ 2147483647) (p1 : (-9223372036854775808) ≤ x1 ∧ x1 ≤ 9223372036854775807) : ∃ (Z' : xZ) (h' : mx_H), mx_Ca (tB l D b0 ad Hb tau) (d + 1) 84 [.ref 50, xI x0, xL x1] h (none, h') ∧ XH n s S Z' h' ∧ GI n S Z' ∧ fr' [(51, (-1))] Z Z' ∧ ((∀ i, ¬ i = x0 → Z' 51 i = Z 51 i) ∧ (0 ≤ x0 → x0 ≤ 39 → ((Z 50 1 = 0 → -128 ≤ Z' 51 x0 ∧ Z' 51 x0 ≤ 127 ∧ (Z' 51 x0 - x1) % 256 = 0) ∧ (Z 50 1 = 1 → -32768 ≤ Z' 51 x0 ∧ Z' 51 x0 ≤ 32767 ∧ (Z' 51 x0 - x1) % 65536 = 0) ∧ (Z 50 1 = 2 → -2147483648 ≤ Z' 51 x0 ∧ Z' 51 x0 ≤ 2147483647 ∧ (Z' 51 x0 - x1) % 4294967296 = 0) ∧ (¬ Z 50 1 = 0 → ¬ Z 50 1 = 1 → ¬ Z 50 1 = 2 → Z' 51 x0 = x1)))) := by
  obtain ⟨r, hca, Z', h', e, q⟩ := Jmt (B := tB l D b0 ad Hb tau) (M := mt_84) (mi := 84) (as := [.ref 50, xI x0, xL x1]) (d := d + 0) (ls := [some (.ref 50), some (xI x0), some (xL x1), none]) rfl rfl rfl rfl rfl rfl (cw_84_50 (l := l) (D := D) (b0 := b0) (ad := ad) (Hb := Hb) (tau := tau) (d := d) (Post := fun r => ∃ (Z' : xZ) (h' : mx_H), r = (none, h') ∧ XH n s S Z' h' ∧ GI n S Z' ∧ fr' [(51, (-1))] Z Z' ∧ ((∀ i, ¬ i = x0 → Z' 51 i = Z 51 i) ∧ (0 ≤ x0 → x0 ≤ 39 → ((Z 50 1 = 0 → -128 ≤ Z' 51 x0 ∧ Z' 51 x0 ≤ 127 ∧ (Z' 51 x0 - x1) % 256 = 0) ∧ (Z 50 1 = 1 → -32768 ≤ Z' 51 x0 ∧ Z' 51 x0 ≤ 32767 ∧ (Z' 51 x0 - x1) % 65536 = 0) ∧ (Z 50 1 = 2 → -2147483648 ≤ Z' 51 x0 ∧ Z' 51 x0 ≤ 2147483647 ∧ (Z' 51 x0 - x1) % 4294967296 = 0) ∧ (¬ Z 50 1 = 0 → ¬ Z 50 1 = 1 → ¬ Z 50 1 = 2 → Z' 51 x0 = x1))))) hx hG p0 p1 (fun Z' h' q1 q2 q3 q4 => ⟨Z', h', rfl, q1, q2, q3, q4⟩))
  subst e; exact ⟨Z', h', hca, q⟩
set_option maxRecDepth 100000 in
theorem cw_285_51 {l : Launch} {D : va_G} {b0 : Nat} {ad : Nat → Nat} {Hb : Heap} {tau : Nat → Int64} {d n s : Nat} {S : Nat → xS} {Z : xZ} {h : mx_H} {Post : mx_R → Prop} (hx : XH n s S Z h) (hG : GI n S Z)  {x0 : Int} (p0 : (-9223372036854775808) ≤ x0 ∧ x0 ≤ 9223372036854775807) (hP : ∀ (Z' : xZ) (h' : mx_H), XH n s S Z' h' → GI n S Z' → fr' [(51, (-1))] Z Z' → FLL Z' 51 40 x0 → Post (none, h')) : mx_J (tB l D b0 ad Hb tau) mt_285 (d + 0) 0 [some (.ref 51), some (xL x0), none, none, none] [] h Post := by
    have a51 : 51 < n := lt83 (GI_n hG) rfl
    have s51 : S 51 = .inr (.long, 40, 1) := GI_s hG 51 rfl
    refine JcI (z := 0) (show mx_Sn _ _ 0 (mx_const (.int 0) 1) from sn_285 0) rfl ?_
    refine mx_J.step (ls2 := [some (.ref 51), some (xL x0), none, some (xI 0), none]) (sn_285 1) (fun _ _ => rfl) ?_
    refine mx_J.step (sn_285 2) (fun _ _ => rfl) ?_
    refine JalenI (z := 40) hx (show mx_Sn _ _ 3 (mx_alen 4) from sn_285 3) a51 s51 (by decide) rfl ?_
    refine mx_J.step (ls2 := [some (.ref 51), some (xL x0), none, some (xI 0), some (xI 40)]) (sn_285 4) (fun _ _ => rfl) ?_
    have c6 : ∀ (m1 : Nat) (w1_3 : Int) (Z2 : xZ) (h2 : mx_H), 40 - w1_3 < (m1 : Int) → 0 ≤ w1_3 ∧ w1_3 ≤ 40 → FLL Z2 51 w1_3 x0 → XH n s S Z2 h2 → GI n S Z2 → fr' [(51, (-1))] Z Z2 → mx_J (tB l D b0 ad Hb tau) mt_285 (d + 0) 6 [some (.ref 51), some (xL x0), none, some (xI w1_3), some (xI 40)] [] h2 Post := by
      intro m1
      induction m1 with
      | zero => intro w1_3 Z2 h2 q1 f1_0 f1_1 hx2 hG2 hf2; exact absurd q1 (by omega)
      | succ m1 ih1 =>
        intro w1_3 Z2 h2 q1 f1_0 f1_1 hx2 hG2 hf2
        refine mx_J.step (sn_285 6) (fun _ _ => rfl) ?_
        refine mx_J.step (sn_285 7) (fun _ _ => rfl) ?_
        refine Jicmp_ge (show mx_Sn _ _ 9 (mx_icmp_ge 22 12) from sn_285 9) (by omega) (by omega) (fun q3 => ?_) (fun q3 => ?_)
        · skip
          exact mx_J.ret (sn_285 22) (fun _ _ => rfl) (hP Z2 h2 hx2 hG2 (fr_tr (M := [(51, (-1))]) fr_rf (hf2) (M1 := []) rfl rfl) (fll_e (by assumption) (by omega)))
        · skip
          refine mx_J.step (sn_285 12) (fun _ _ => rfl) ?_
          refine mx_J.step (sn_285 13) (fun _ _ => rfl) ?_
          refine mx_J.step (sn_285 14) (fun _ _ => rfl) ?_
          refine JlastL hx2 (show mx_Sn _ _ 15 (mx_last 1 16) from sn_285 15) a51 s51 rfl (by omega) (fun Z4 h4 hx4 hE4 => ?_)
          have hG4 := GI_up hG2 hE4 (show (-9223372036854775808) ≤ x0 ∧ x0 ≤ 9223372036854775807 by omega) trivial rfl
          have fl1 : FLL Z4 51 (w1_3 + 1) x0 := fll_s (Z := Z2) (by assumption) hE4
          refine Jiinc (z := w1_3) (cz := 1) (ls2 := [some (.ref 51), some (xL x0), none, some (xI (w1_3 + 1)), some (xI 40)]) (show mx_Sn _ _ 16 (mx_iinc 3 1 19) from sn_285 16) rfl rfl rfl rfl ?_
          refine mx_J.step (sn_285 19) (fun _ _ => rfl) ?_
          exact ih1 (w1_3 + 1) Z4 h4 (by omega) (by omega) (by first | exact fll_0 | assumption) hx4 hG4 (fr_tr (M := [(51, (-1))]) (fr_tr (M := [(51, (-1))]) fr_rf (hf2) (M1 := []) rfl rfl) (fr_ua hE4) rfl rfl)
    exact c6 (Int.toNat (40 - 0) + 1) 0 Z h (by omega) (by omega) (by first | exact fll_0 | assumption) hx hG fr_rf
theorem ct_285_51 {l : Launch} {D : va_G} {b0 : Nat} {ad : Nat → Nat} {Hb : Heap} {tau : Nat → Int64} {d n s : Nat} {S : Nat → xS} {Z : xZ} {h : mx_H} (hx : XH n s S Z h) (hG : GI n S Z)  {x0 : Int} (p0 : (-9223372036854775808) ≤ x0 ∧ x0 ≤ 9223372036854775807) : ∃ (Z' : xZ) (h' : mx_H), mx_Ca (tB l D b0 ad Hb tau) (d + 1) 285 [.ref 51, xL x0] h (none, h') ∧ XH n s S Z' h' ∧ GI n S Z' ∧ fr' [(51, (-1))] Z Z' ∧ (FLL Z' 51 40 x0) := by
  obtain ⟨r, hca, Z', h', e, q⟩ := Jmt (B := tB l D b0 ad Hb tau) (M := mt_285) (mi := 285) (as := [.ref 51, xL x0]) (d := d + 0) (ls := [some (.ref 51), some (xL x0), none, none, none]) rfl rfl rfl rfl rfl rfl (cw_285_51 (l := l) (D := D) (b0 := b0) (ad := ad) (Hb := Hb) (tau := tau) (d := d) (Post := fun r => ∃ (Z' : xZ) (h' : mx_H), r = (none, h') ∧ XH n s S Z' h' ∧ GI n S Z' ∧ fr' [(51, (-1))] Z Z' ∧ (FLL Z' 51 40 x0)) hx hG p0 (fun Z' h' q1 q2 q3 q4 => ⟨Z', h', rfl, q1, q2, q3, q4⟩))
  subst e; exact ⟨Z', h', hca, q⟩
set_option maxRecDepth 100000 in
theorem cw_83_50 {l : Launch} {D : va_G} {b0 : Nat} {ad : Nat → Nat} {Hb : Heap} {tau : Nat → Int64} {d n s : Nat} {S : Nat → xS} {Z : xZ} {h : mx_H} {Post : mx_R → Prop} (hx : XH n s S Z h) (hG : GI n S Z)  {x0 x1 : Int} (p0 : 0 ≤ x0 ∧ x0 ≤ 3) (p1 : 0 ≤ x1 ∧ x1 ≤ 40) (hP : ∀ (Z' : xZ) (h' : mx_H), XH n s S Z' h' → GI n S Z' → fr' [(50, 1), (50, 2), (50, 3), (51, (-1))] Z Z' → FLL Z' 51 40 0 ∧ (Z' 50 1 = x0 ∧ Z' 50 2 = x1 ∧ Z' 50 3 = 0) → Post (none, h')) : mx_J (tB l D b0 ad Hb tau) mt_83 (d + 1) 0 [some (.ref 50), some (xI x0), some (xI x1)] [] h Post := by
    have a50 : 50 < n := lt83 (GI_n hG) rfl
    have s50 : S 50 = .inl (10, [2, 0, 0, 0]) := GI_s hG 50 rfl
    refine mx_J.step (sn_83 0) (fun _ _ => rfl) ?_
    refine mx_J.step (sn_83 1) (fun _ _ => rfl) ?_
    refine JputI (g := 1) hx (show mx_Sn _ _ 2 (mx_putf 1 10 1 (.int) 5) from sn_83 2) a50 s50 rfl rfl rfl rfl (fun Z1 h1 hx1 hE1 => ?_)
    have hG1 := GI_up hG hE1 (show 0 ≤ x0 ∧ x0 ≤ 3 by omega) trivial rfl
    refine mx_J.step (sn_83 5) (fun _ _ => rfl) ?_
    refine mx_J.step (sn_83 6) (fun _ _ => rfl) ?_
    refine JputI (g := 2) hx1 (show mx_Sn _ _ 7 (mx_putf 1 10 2 (.int) 10) from sn_83 7) a50 s50 rfl rfl rfl rfl (fun Z2 h2 hx2 hE2 => ?_)
    have hG2 := GI_up hG1 hE2 (show 0 ≤ x1 ∧ x1 ≤ 40 by omega) trivial rfl
    refine mx_J.step (sn_83 10) (fun _ _ => rfl) ?_
    refine JcI (z := 0) (show mx_Sn _ _ 11 (mx_const (.int 0) 12) from sn_83 11) rfl ?_
    refine JputI (g := 3) hx2 (show mx_Sn _ _ 12 (mx_putf 1 10 3 (.boolean) 15) from sn_83 12) a50 s50 rfl rfl (fit_z (by omega)) rfl (fun Z3 h3 hx3 hE3 => ?_)
    have hG3 := GI_up hG2 hE3 (show 0 ≤ 0 ∧ 0 ≤ 1 by omega) trivial rfl
    refine mx_J.step (sn_83 15) (fun _ _ => rfl) ?_
    refine JgetR (g := 0) (b := 51) hx3 (show mx_Sn _ _ 16 (mx_getf 10 0 19) from sn_83 16) a50 s50 rfl rfl (hG3.prr 50 0 rfl) ?_
    refine JcL (z := 0) (show mx_Sn _ _ 19 (mx_const (.long 0) 20) from sn_83 19) rfl ?_
    obtain ⟨Z5, h5, hc5, hx5, hG5, hf5, b5⟩ := ct_285_51 (d := d + 0) (l := l) (D := D) (b0 := b0) (ad := ad) (Hb := Hb) (tau := tau) hx3 hG3 (show (-9223372036854775808) ≤ 0 ∧ 0 ≤ 9223372036854775807 by omega)
    have bs5_0 := b5
    clear b5
    refine Jcs0 (show mx_Sn _ _ 20 (mx_calls 285 2 23) from sn_83 20) hc5 rfl rfl rfl ?_
    have eq6 : Z5 50 1 = x0 := ((hf5 50 1 rfl).trans ((up_ni hE3 (by decide)).trans ((up_ni hE2 (by decide)).trans (up_at hE1))))
    have eq7 : Z5 50 2 = x1 := ((hf5 50 2 rfl).trans ((up_ni hE3 (by decide)).trans (up_at hE2)))
    have eq8 : Z5 50 3 = 0 := ((hf5 50 3 rfl).trans (up_at hE3))
    exact mx_J.ret (sn_83 23) (fun _ _ => rfl) (hP Z5 h5 hx5 hG5 (fr_tr (M := [(50, 1), (50, 2), (50, 3), (51, (-1))]) (fr_tr (M := [(50, 1), (50, 2), (50, 3), (51, (-1))]) (fr_tr (M := [(50, 1), (50, 2), (50, 3), (51, (-1))]) (fr_tr (M := [(50, 1), (50, 2), (50, 3), (51, (-1))]) fr_rf (fr_up hE1) (M1 := []) rfl rfl) (fr_up hE2) rfl rfl) (fr_up hE3) rfl rfl) (hf5) rfl rfl) ⟨(by assumption), by omega⟩)
theorem ct_83_50 {l : Launch} {D : va_G} {b0 : Nat} {ad : Nat → Nat} {Hb : Heap} {tau : Nat → Int64} {d n s : Nat} {S : Nat → xS} {Z : xZ} {h : mx_H} (hx : XH n s S Z h) (hG : GI n S Z)  {x0 x1 : Int} (p0 : 0 ≤ x0 ∧ x0 ≤ 3) (p1 : 0 ≤ x1 ∧ x1 ≤ 40) : ∃ (Z' : xZ) (h' : mx_H), mx_Ca (tB l D b0 ad Hb tau) (d + 2) 83 [.ref 50, xI x0, xI x1] h (none, h') ∧ XH n s S Z' h' ∧ GI n S Z' ∧ fr' [(50, 1), (50, 2), (50, 3), (51, (-1))] Z Z' ∧ (FLL Z' 51 40 0 ∧ (Z' 50 1 = x0 ∧ Z' 50 2 = x1 ∧ Z' 50 3 = 0)) := by
  obtain ⟨r, hca, Z', h', e, q⟩ := Jmt (B := tB l D b0 ad Hb tau) (M := mt_83) (mi := 83) (as := [.ref 50, xI x0, xI x1]) (d := d + 1) (ls := [some (.ref 50), some (xI x0), some (xI x1)]) rfl rfl rfl rfl rfl rfl (cw_83_50 (l := l) (D := D) (b0 := b0) (ad := ad) (Hb := Hb) (tau := tau) (d := d) (Post := fun r => ∃ (Z' : xZ) (h' : mx_H), r = (none, h') ∧ XH n s S Z' h' ∧ GI n S Z' ∧ fr' [(50, 1), (50, 2), (50, 3), (51, (-1))] Z Z' ∧ (FLL Z' 51 40 0 ∧ (Z' 50 1 = x0 ∧ Z' 50 2 = x1 ∧ Z' 50 3 = 0))) hx hG p0 p1 (fun Z' h' q1 q2 q3 q4 => ⟨Z', h', rfl, q1, q2, q3, q4⟩))
  subst e; exact ⟨Z', h', hca, q⟩
set_option maxRecDepth 100000 in
theorem cw_284_6_i0 {l : Launch} {D : va_G} {b0 : Nat} {ad : Nat → Nat} {Hb : Heap} {tau : Nat → Int64} {d n s : Nat} {S : Nat → xS} {Z : xZ} {h : mx_H} {Post : mx_R → Prop} (hx : XH n s S Z h) (hG : GI n S Z)   (hP : ∀ (Z' : xZ) (h' : mx_H), XH n s S Z' h' → GI n S Z' → fr' [(6, (-1))] Z Z' → AB Z' 6 19 0 0 → Post (none, h')) : mx_J (tB l D b0 ad Hb tau) mt_284 (d + 0) 0 [some (.ref 6), some (xI 0), none, none] [] h Post := by
    have a6 : 6 < n := lt83 (GI_n hG) rfl
    have s6 : S 6 = .inr (.int, 19, 0) := GI_s hG 6 rfl
    refine JcI (z := 0) (show mx_Sn _ _ 0 (mx_const (.int 0) 1) from sn_284 0) rfl ?_
    refine mx_J.step (ls2 := [some (.ref 6), some (xI 0), some (xI 0), none]) (sn_284 1) (fun _ _ => rfl) ?_
    refine mx_J.step (sn_284 2) (fun _ _ => rfl) ?_
    refine JalenI (z := 19) hx (show mx_Sn _ _ 3 (mx_alen 4) from sn_284 3) a6 s6 (by decide) rfl ?_
    refine mx_J.step (ls2 := [some (.ref 6), some (xI 0), some (xI 0), some (xI 19)]) (sn_284 4) (fun _ _ => rfl) ?_
    have c5 : ∀ (m1 : Nat) (w1_2 : Int) (Z2 : xZ) (h2 : mx_H), 19 - w1_2 < (m1 : Int) → 0 ≤ w1_2 ∧ w1_2 ≤ 19 → AB Z2 6 (w1_2) (0) (0) → XH n s S Z2 h2 → GI n S Z2 → fr' [(6, (-1))] Z Z2 → mx_J (tB l D b0 ad Hb tau) mt_284 (d + 0) 5 [some (.ref 6), some (xI 0), some (xI w1_2), some (xI 19)] [] h2 Post := by
      intro m1
      induction m1 with
      | zero => intro w1_2 Z2 h2 q1 f1_0 f1_1 hx2 hG2 hf2; exact absurd q1 (by omega)
      | succ m1 ih1 =>
        intro w1_2 Z2 h2 q1 f1_0 f1_1 hx2 hG2 hf2
        refine mx_J.step (sn_284 5) (fun _ _ => rfl) ?_
        refine mx_J.step (sn_284 6) (fun _ _ => rfl) ?_
        refine Jicmp_ge (show mx_Sn _ _ 7 (mx_icmp_ge 20 10) from sn_284 7) (by omega) (by omega) (fun q3 => ?_) (fun q3 => ?_)
        · skip
          exact mx_J.ret (sn_284 20) (fun _ _ => rfl) (hP Z2 h2 hx2 hG2 (fr_tr (M := [(6, (-1))]) fr_rf (hf2) (M1 := []) rfl rfl) (ab_mono f1_1 (by omega) (by omega) (by omega)))
        · skip
          refine mx_J.step (sn_284 10) (fun _ _ => rfl) ?_
          refine mx_J.step (sn_284 11) (fun _ _ => rfl) ?_
          refine mx_J.step (sn_284 12) (fun _ _ => rfl) ?_
          refine JiastI hx2 (show mx_Sn _ _ 13 (mx_iast 1 14) from sn_284 13) a6 s6 rfl (by omega) (fun Z4 h4 hx4 hE4 => ?_)
          have hG4 := GI_up hG2 hE4 (show 0 ≤ 0 ∧ 0 ≤ 20 by omega) trivial rfl
          have m4 := fill_up hE4 f1_1 (by omega)
          refine Jiinc (z := w1_2) (cz := 1) (ls2 := [some (.ref 6), some (xI 0), some (xI (w1_2 + 1)), some (xI 19)]) (show mx_Sn _ _ 14 (mx_iinc 2 1 17) from sn_284 14) rfl rfl rfl rfl ?_
          refine mx_J.step (sn_284 17) (fun _ _ => rfl) ?_
          exact ih1 (w1_2 + 1) Z4 h4 (by omega) (by omega) (ab_mono m4 (by omega) (by omega) (by omega)) hx4 hG4 (fr_tr (M := [(6, (-1))]) (fr_tr (M := [(6, (-1))]) fr_rf (hf2) (M1 := []) rfl rfl) (fr_ua hE4) rfl rfl)
    exact c5 (Int.toNat (19 - 0) + 1) 0 Z h (by omega) (by omega) (ab_nil (by omega)) hx hG fr_rf
theorem ct_284_6_i0 {l : Launch} {D : va_G} {b0 : Nat} {ad : Nat → Nat} {Hb : Heap} {tau : Nat → Int64} {d n s : Nat} {S : Nat → xS} {Z : xZ} {h : mx_H} (hx : XH n s S Z h) (hG : GI n S Z)   : ∃ (Z' : xZ) (h' : mx_H), mx_Ca (tB l D b0 ad Hb tau) (d + 1) 284 [.ref 6, xI 0] h (none, h') ∧ XH n s S Z' h' ∧ GI n S Z' ∧ fr' [(6, (-1))] Z Z' ∧ (AB Z' 6 19 0 0) := by
  obtain ⟨r, hca, Z', h', e, q⟩ := Jmt (B := tB l D b0 ad Hb tau) (M := mt_284) (mi := 284) (as := [.ref 6, xI 0]) (d := d + 0) (ls := [some (.ref 6), some (xI 0), none, none]) rfl rfl rfl rfl rfl rfl (cw_284_6_i0 (l := l) (D := D) (b0 := b0) (ad := ad) (Hb := Hb) (tau := tau) (d := d) (Post := fun r => ∃ (Z' : xZ) (h' : mx_H), r = (none, h') ∧ XH n s S Z' h' ∧ GI n S Z' ∧ fr' [(6, (-1))] Z Z' ∧ (AB Z' 6 19 0 0)) hx hG  (fun Z' h' q1 q2 q3 q5_6 => ⟨Z', h', rfl, q1, q2, q3, q5_6⟩))
  subst e; exact ⟨Z', h', hca, q⟩
set_option maxRecDepth 100000 in
theorem cw_284_19_i0 {l : Launch} {D : va_G} {b0 : Nat} {ad : Nat → Nat} {Hb : Heap} {tau : Nat → Int64} {d n s : Nat} {S : Nat → xS} {Z : xZ} {h : mx_H} {Post : mx_R → Prop} (hx : XH n s S Z h) (hG : GI n S Z)   (hP : ∀ (Z' : xZ) (h' : mx_H), XH n s S Z' h' → GI n S Z' → fr' [(19, (-1))] Z Z' → AB Z' 19 19 0 0 → Post (none, h')) : mx_J (tB l D b0 ad Hb tau) mt_284 (d + 0) 0 [some (.ref 19), some (xI 0), none, none] [] h Post := by
    have a19 : 19 < n := lt83 (GI_n hG) rfl
    have s19 : S 19 = .inr (.int, 19, 0) := GI_s hG 19 rfl
    refine JcI (z := 0) (show mx_Sn _ _ 0 (mx_const (.int 0) 1) from sn_284 0) rfl ?_
    refine mx_J.step (ls2 := [some (.ref 19), some (xI 0), some (xI 0), none]) (sn_284 1) (fun _ _ => rfl) ?_
    refine mx_J.step (sn_284 2) (fun _ _ => rfl) ?_
    refine JalenI (z := 19) hx (show mx_Sn _ _ 3 (mx_alen 4) from sn_284 3) a19 s19 (by decide) rfl ?_
    refine mx_J.step (ls2 := [some (.ref 19), some (xI 0), some (xI 0), some (xI 19)]) (sn_284 4) (fun _ _ => rfl) ?_
    have c5 : ∀ (m1 : Nat) (w1_2 : Int) (Z2 : xZ) (h2 : mx_H), 19 - w1_2 < (m1 : Int) → 0 ≤ w1_2 ∧ w1_2 ≤ 19 → AB Z2 19 (w1_2) (0) (0) → XH n s S Z2 h2 → GI n S Z2 → fr' [(19, (-1))] Z Z2 → mx_J (tB l D b0 ad Hb tau) mt_284 (d + 0) 5 [some (.ref 19), some (xI 0), some (xI w1_2), some (xI 19)] [] h2 Post := by
      intro m1
      induction m1 with
      | zero => intro w1_2 Z2 h2 q1 f1_0 f1_1 hx2 hG2 hf2; exact absurd q1 (by omega)
      | succ m1 ih1 =>
        intro w1_2 Z2 h2 q1 f1_0 f1_1 hx2 hG2 hf2
        refine mx_J.step (sn_284 5) (fun _ _ => rfl) ?_
        refine mx_J.step (sn_284 6) (fun _ _ => rfl) ?_
        refine Jicmp_ge (show mx_Sn _ _ 7 (mx_icmp_ge 20 10) from sn_284 7) (by omega) (by omega) (fun q3 => ?_) (fun q3 => ?_)
        · skip
          exact mx_J.ret (sn_284 20) (fun _ _ => rfl) (hP Z2 h2 hx2 hG2 (fr_tr (M := [(19, (-1))]) fr_rf (hf2) (M1 := []) rfl rfl) (ab_mono f1_1 (by omega) (by omega) (by omega)))
        · skip
          refine mx_J.step (sn_284 10) (fun _ _ => rfl) ?_
          refine mx_J.step (sn_284 11) (fun _ _ => rfl) ?_
          refine mx_J.step (sn_284 12) (fun _ _ => rfl) ?_
          refine JiastI hx2 (show mx_Sn _ _ 13 (mx_iast 1 14) from sn_284 13) a19 s19 rfl (by omega) (fun Z4 h4 hx4 hE4 => ?_)
          have hG4 := GI_up hG2 hE4 (show (-2147483648) ≤ 0 ∧ 0 ≤ 2147483647 by omega) trivial rfl
          have m4 := fill_up hE4 f1_1 (by omega)
          refine Jiinc (z := w1_2) (cz := 1) (ls2 := [some (.ref 19), some (xI 0), some (xI (w1_2 + 1)), some (xI 19)]) (show mx_Sn _ _ 14 (mx_iinc 2 1 17) from sn_284 14) rfl rfl rfl rfl ?_
          refine mx_J.step (sn_284 17) (fun _ _ => rfl) ?_
          exact ih1 (w1_2 + 1) Z4 h4 (by omega) (by omega) (ab_mono m4 (by omega) (by omega) (by omega)) hx4 hG4 (fr_tr (M := [(19, (-1))]) (fr_tr (M := [(19, (-1))]) fr_rf (hf2) (M1 := []) rfl rfl) (fr_ua hE4) rfl rfl)
    exact c5 (Int.toNat (19 - 0) + 1) 0 Z h (by omega) (by omega) (ab_nil (by omega)) hx hG fr_rf
theorem ct_284_19_i0 {l : Launch} {D : va_G} {b0 : Nat} {ad : Nat → Nat} {Hb : Heap} {tau : Nat → Int64} {d n s : Nat} {S : Nat → xS} {Z : xZ} {h : mx_H} (hx : XH n s S Z h) (hG : GI n S Z)   : ∃ (Z' : xZ) (h' : mx_H), mx_Ca (tB l D b0 ad Hb tau) (d + 1) 284 [.ref 19, xI 0] h (none, h') ∧ XH n s S Z' h' ∧ GI n S Z' ∧ fr' [(19, (-1))] Z Z' ∧ (AB Z' 19 19 0 0) := by
  obtain ⟨r, hca, Z', h', e, q⟩ := Jmt (B := tB l D b0 ad Hb tau) (M := mt_284) (mi := 284) (as := [.ref 19, xI 0]) (d := d + 0) (ls := [some (.ref 19), some (xI 0), none, none]) rfl rfl rfl rfl rfl rfl (cw_284_19_i0 (l := l) (D := D) (b0 := b0) (ad := ad) (Hb := Hb) (tau := tau) (d := d) (Post := fun r => ∃ (Z' : xZ) (h' : mx_H), r = (none, h') ∧ XH n s S Z' h' ∧ GI n S Z' ∧ fr' [(19, (-1))] Z Z' ∧ (AB Z' 19 19 0 0)) hx hG  (fun Z' h' q1 q2 q3 q5_19 => ⟨Z', h', rfl, q1, q2, q3, q5_19⟩))
  subst e; exact ⟨Z', h', hca, q⟩
set_option maxRecDepth 100000 in
theorem cw_284_42_i0 {l : Launch} {D : va_G} {b0 : Nat} {ad : Nat → Nat} {Hb : Heap} {tau : Nat → Int64} {d n s : Nat} {S : Nat → xS} {Z : xZ} {h : mx_H} {Post : mx_R → Prop} (hx : XH n s S Z h) (hG : GI n S Z)   (hP : ∀ (Z' : xZ) (h' : mx_H), XH n s S Z' h' → GI n S Z' → fr' [(42, (-1))] Z Z' → AB Z' 42 19 0 0 → Post (none, h')) : mx_J (tB l D b0 ad Hb tau) mt_284 (d + 0) 0 [some (.ref 42), some (xI 0), none, none] [] h Post := by
    have a42 : 42 < n := lt83 (GI_n hG) rfl
    have s42 : S 42 = .inr (.int, 19, 0) := GI_s hG 42 rfl
    refine JcI (z := 0) (show mx_Sn _ _ 0 (mx_const (.int 0) 1) from sn_284 0) rfl ?_
    refine mx_J.step (ls2 := [some (.ref 42), some (xI 0), some (xI 0), none]) (sn_284 1) (fun _ _ => rfl) ?_
    refine mx_J.step (sn_284 2) (fun _ _ => rfl) ?_
    refine JalenI (z := 19) hx (show mx_Sn _ _ 3 (mx_alen 4) from sn_284 3) a42 s42 (by decide) rfl ?_
    refine mx_J.step (ls2 := [some (.ref 42), some (xI 0), some (xI 0), some (xI 19)]) (sn_284 4) (fun _ _ => rfl) ?_
    have c5 : ∀ (m1 : Nat) (w1_2 : Int) (Z2 : xZ) (h2 : mx_H), 19 - w1_2 < (m1 : Int) → 0 ≤ w1_2 ∧ w1_2 ≤ 19 → AB Z2 42 (w1_2) (0) (0) → XH n s S Z2 h2 → GI n S Z2 → fr' [(42, (-1))] Z Z2 → mx_J (tB l D b0 ad Hb tau) mt_284 (d + 0) 5 [some (.ref 42), some (xI 0), some (xI w1_2), some (xI 19)] [] h2 Post := by
      intro m1
      induction m1 with
      | zero => intro w1_2 Z2 h2 q1 f1_0 f1_1 hx2 hG2 hf2; exact absurd q1 (by omega)
      | succ m1 ih1 =>
        intro w1_2 Z2 h2 q1 f1_0 f1_1 hx2 hG2 hf2
        refine mx_J.step (sn_284 5) (fun _ _ => rfl) ?_
        refine mx_J.step (sn_284 6) (fun _ _ => rfl) ?_
        refine Jicmp_ge (show mx_Sn _ _ 7 (mx_icmp_ge 20 10) from sn_284 7) (by omega) (by omega) (fun q3 => ?_) (fun q3 => ?_)
        · skip
          exact mx_J.ret (sn_284 20) (fun _ _ => rfl) (hP Z2 h2 hx2 hG2 (fr_tr (M := [(42, (-1))]) fr_rf (hf2) (M1 := []) rfl rfl) (ab_mono f1_1 (by omega) (by omega) (by omega)))
        · skip
          refine mx_J.step (sn_284 10) (fun _ _ => rfl) ?_
          refine mx_J.step (sn_284 11) (fun _ _ => rfl) ?_
          refine mx_J.step (sn_284 12) (fun _ _ => rfl) ?_
          refine JiastI hx2 (show mx_Sn _ _ 13 (mx_iast 1 14) from sn_284 13) a42 s42 rfl (by omega) (fun Z4 h4 hx4 hE4 => ?_)
          have hG4 := GI_up hG2 hE4 (show (-2147483648) ≤ 0 ∧ 0 ≤ 2147483647 by omega) trivial rfl
          have m4 := fill_up hE4 f1_1 (by omega)
          refine Jiinc (z := w1_2) (cz := 1) (ls2 := [some (.ref 42), some (xI 0), some (xI (w1_2 + 1)), some (xI 19)]) (show mx_Sn _ _ 14 (mx_iinc 2 1 17) from sn_284 14) rfl rfl rfl rfl ?_
          refine mx_J.step (sn_284 17) (fun _ _ => rfl) ?_
          exact ih1 (w1_2 + 1) Z4 h4 (by omega) (by omega) (ab_mono m4 (by omega) (by omega) (by omega)) hx4 hG4 (fr_tr (M := [(42, (-1))]) (fr_tr (M := [(42, (-1))]) fr_rf (hf2) (M1 := []) rfl rfl) (fr_ua hE4) rfl rfl)
    exact c5 (Int.toNat (19 - 0) + 1) 0 Z h (by omega) (by omega) (ab_nil (by omega)) hx hG fr_rf
theorem ct_284_42_i0 {l : Launch} {D : va_G} {b0 : Nat} {ad : Nat → Nat} {Hb : Heap} {tau : Nat → Int64} {d n s : Nat} {S : Nat → xS} {Z : xZ} {h : mx_H} (hx : XH n s S Z h) (hG : GI n S Z)   : ∃ (Z' : xZ) (h' : mx_H), mx_Ca (tB l D b0 ad Hb tau) (d + 1) 284 [.ref 42, xI 0] h (none, h') ∧ XH n s S Z' h' ∧ GI n S Z' ∧ fr' [(42, (-1))] Z Z' ∧ (AB Z' 42 19 0 0) := by
  obtain ⟨r, hca, Z', h', e, q⟩ := Jmt (B := tB l D b0 ad Hb tau) (M := mt_284) (mi := 284) (as := [.ref 42, xI 0]) (d := d + 0) (ls := [some (.ref 42), some (xI 0), none, none]) rfl rfl rfl rfl rfl rfl (cw_284_42_i0 (l := l) (D := D) (b0 := b0) (ad := ad) (Hb := Hb) (tau := tau) (d := d) (Post := fun r => ∃ (Z' : xZ) (h' : mx_H), r = (none, h') ∧ XH n s S Z' h' ∧ GI n S Z' ∧ fr' [(42, (-1))] Z Z' ∧ (AB Z' 42 19 0 0)) hx hG  (fun Z' h' q1 q2 q3 q5_42 => ⟨Z', h', rfl, q1, q2, q3, q5_42⟩))
  subst e; exact ⟨Z', h', hca, q⟩
set_option maxRecDepth 100000 in
theorem cw_284_22_m1 {l : Launch} {D : va_G} {b0 : Nat} {ad : Nat → Nat} {Hb : Heap} {tau : Nat → Int64} {d n s : Nat} {S : Nat → xS} {Z : xZ} {h : mx_H} {Post : mx_R → Prop} (hx : XH n s S Z h) (hG : GI n S Z)   (hP : ∀ (Z' : xZ) (h' : mx_H), XH n s S Z' h' → GI n S Z' → fr' [(22, (-1))] Z Z' → Post (none, h')) : mx_J (tB l D b0 ad Hb tau) mt_284 (d + 0) 0 [some (.ref 22), some (xI (-1)), none, none] [] h Post := by
    have a22 : 22 < n := lt83 (GI_n hG) rfl
    have s22 : S 22 = .inr (.int, 385, 0) := GI_s hG 22 rfl
    refine JcI (z := 0) (show mx_Sn _ _ 0 (mx_const (.int 0) 1) from sn_284 0) rfl ?_
    refine mx_J.step (ls2 := [some (.ref 22), some (xI (-1)), some (xI 0), none]) (sn_284 1) (fun _ _ => rfl) ?_
    refine mx_J.step (sn_284 2) (fun _ _ => rfl) ?_
    refine JalenI (z := 385) hx (show mx_Sn _ _ 3 (mx_alen 4) from sn_284 3) a22 s22 (by decide) rfl ?_
    refine mx_J.step (ls2 := [some (.ref 22), some (xI (-1)), some (xI 0), some (xI 385)]) (sn_284 4) (fun _ _ => rfl) ?_
    have c5 : ∀ (m1 : Nat) (w1_2 : Int) (Z2 : xZ) (h2 : mx_H), 385 - w1_2 < (m1 : Int) → 0 ≤ w1_2 ∧ w1_2 ≤ 385 → XH n s S Z2 h2 → GI n S Z2 → fr' [(22, (-1))] Z Z2 → mx_J (tB l D b0 ad Hb tau) mt_284 (d + 0) 5 [some (.ref 22), some (xI (-1)), some (xI w1_2), some (xI 385)] [] h2 Post := by
      intro m1
      induction m1 with
      | zero => intro w1_2 Z2 h2 q1 f1_0 hx2 hG2 hf2; exact absurd q1 (by omega)
      | succ m1 ih1 =>
        intro w1_2 Z2 h2 q1 f1_0 hx2 hG2 hf2
        refine mx_J.step (sn_284 5) (fun _ _ => rfl) ?_
        refine mx_J.step (sn_284 6) (fun _ _ => rfl) ?_
        refine Jicmp_ge (show mx_Sn _ _ 7 (mx_icmp_ge 20 10) from sn_284 7) (by omega) (by omega) (fun q3 => ?_) (fun q3 => ?_)
        · skip
          exact mx_J.ret (sn_284 20) (fun _ _ => rfl) (hP Z2 h2 hx2 hG2 (fr_tr (M := [(22, (-1))]) fr_rf (hf2) (M1 := []) rfl rfl))
        · skip
          refine mx_J.step (sn_284 10) (fun _ _ => rfl) ?_
          refine mx_J.step (sn_284 11) (fun _ _ => rfl) ?_
          refine mx_J.step (sn_284 12) (fun _ _ => rfl) ?_
          refine JiastI hx2 (show mx_Sn _ _ 13 (mx_iast 1 14) from sn_284 13) a22 s22 rfl (by omega) (fun Z4 h4 hx4 hE4 => ?_)
          have hG4 := GI_up hG2 hE4 (show (-2147483648) ≤ (-1) ∧ (-1) ≤ 2147483647 by omega) trivial rfl
          refine Jiinc (z := w1_2) (cz := 1) (ls2 := [some (.ref 22), some (xI (-1)), some (xI (w1_2 + 1)), some (xI 385)]) (show mx_Sn _ _ 14 (mx_iinc 2 1 17) from sn_284 14) rfl rfl rfl rfl ?_
          refine mx_J.step (sn_284 17) (fun _ _ => rfl) ?_
          exact ih1 (w1_2 + 1) Z4 h4 (by omega) (by omega) hx4 hG4 (fr_tr (M := [(22, (-1))]) (fr_tr (M := [(22, (-1))]) fr_rf (hf2) (M1 := []) rfl rfl) (fr_ua hE4) rfl rfl)
    exact c5 (Int.toNat (385 - 0) + 1) 0 Z h (by omega) (by omega) hx hG fr_rf
theorem ct_284_22_m1 {l : Launch} {D : va_G} {b0 : Nat} {ad : Nat → Nat} {Hb : Heap} {tau : Nat → Int64} {d n s : Nat} {S : Nat → xS} {Z : xZ} {h : mx_H} (hx : XH n s S Z h) (hG : GI n S Z)   : ∃ (Z' : xZ) (h' : mx_H), mx_Ca (tB l D b0 ad Hb tau) (d + 1) 284 [.ref 22, xI (-1)] h (none, h') ∧ XH n s S Z' h' ∧ GI n S Z' ∧ fr' [(22, (-1))] Z Z' := by
  obtain ⟨r, hca, Z', h', e, q⟩ := Jmt (B := tB l D b0 ad Hb tau) (M := mt_284) (mi := 284) (as := [.ref 22, xI (-1)]) (d := d + 0) (ls := [some (.ref 22), some (xI (-1)), none, none]) rfl rfl rfl rfl rfl rfl (cw_284_22_m1 (l := l) (D := D) (b0 := b0) (ad := ad) (Hb := Hb) (tau := tau) (d := d) (Post := fun r => ∃ (Z' : xZ) (h' : mx_H), r = (none, h') ∧ XH n s S Z' h' ∧ GI n S Z' ∧ fr' [(22, (-1))] Z Z') hx hG  (fun Z' h' q1 q2 q3 => ⟨Z', h', rfl, q1, q2, q3⟩))
  subst e; exact ⟨Z', h', hca, q⟩
set_option maxRecDepth 100000 in
theorem cw_284_29_m1 {l : Launch} {D : va_G} {b0 : Nat} {ad : Nat → Nat} {Hb : Heap} {tau : Nat → Int64} {d n s : Nat} {S : Nat → xS} {Z : xZ} {h : mx_H} {Post : mx_R → Prop} (hx : XH n s S Z h) (hG : GI n S Z)   (hP : ∀ (Z' : xZ) (h' : mx_H), XH n s S Z' h' → GI n S Z' → fr' [(29, (-1))] Z Z' → Post (none, h')) : mx_J (tB l D b0 ad Hb tau) mt_284 (d + 0) 0 [some (.ref 29), some (xI (-1)), none, none] [] h Post := by
    have a29 : 29 < n := lt83 (GI_n hG) rfl
    have s29 : S 29 = .inr (.int, 385, 0) := GI_s hG 29 rfl
    refine JcI (z := 0) (show mx_Sn _ _ 0 (mx_const (.int 0) 1) from sn_284 0) rfl ?_
    refine mx_J.step (ls2 := [some (.ref 29), some (xI (-1)), some (xI 0), none]) (sn_284 1) (fun _ _ => rfl) ?_
    refine mx_J.step (sn_284 2) (fun _ _ => rfl) ?_
    refine JalenI (z := 385) hx (show mx_Sn _ _ 3 (mx_alen 4) from sn_284 3) a29 s29 (by decide) rfl ?_
    refine mx_J.step (ls2 := [some (.ref 29), some (xI (-1)), some (xI 0), some (xI 385)]) (sn_284 4) (fun _ _ => rfl) ?_
    have c5 : ∀ (m1 : Nat) (w1_2 : Int) (Z2 : xZ) (h2 : mx_H), 385 - w1_2 < (m1 : Int) → 0 ≤ w1_2 ∧ w1_2 ≤ 385 → XH n s S Z2 h2 → GI n S Z2 → fr' [(29, (-1))] Z Z2 → mx_J (tB l D b0 ad Hb tau) mt_284 (d + 0) 5 [some (.ref 29), some (xI (-1)), some (xI w1_2), some (xI 385)] [] h2 Post := by
      intro m1
      induction m1 with
      | zero => intro w1_2 Z2 h2 q1 f1_0 hx2 hG2 hf2; exact absurd q1 (by omega)
      | succ m1 ih1 =>
        intro w1_2 Z2 h2 q1 f1_0 hx2 hG2 hf2
        refine mx_J.step (sn_284 5) (fun _ _ => rfl) ?_
        refine mx_J.step (sn_284 6) (fun _ _ => rfl) ?_
        refine Jicmp_ge (show mx_Sn _ _ 7 (mx_icmp_ge 20 10) from sn_284 7) (by omega) (by omega) (fun q3 => ?_) (fun q3 => ?_)
        · skip
          exact mx_J.ret (sn_284 20) (fun _ _ => rfl) (hP Z2 h2 hx2 hG2 (fr_tr (M := [(29, (-1))]) fr_rf (hf2) (M1 := []) rfl rfl))
        · skip
          refine mx_J.step (sn_284 10) (fun _ _ => rfl) ?_
          refine mx_J.step (sn_284 11) (fun _ _ => rfl) ?_
          refine mx_J.step (sn_284 12) (fun _ _ => rfl) ?_
          refine JiastI hx2 (show mx_Sn _ _ 13 (mx_iast 1 14) from sn_284 13) a29 s29 rfl (by omega) (fun Z4 h4 hx4 hE4 => ?_)
          have hG4 := GI_up hG2 hE4 (show (-2147483648) ≤ (-1) ∧ (-1) ≤ 2147483647 by omega) trivial rfl
          refine Jiinc (z := w1_2) (cz := 1) (ls2 := [some (.ref 29), some (xI (-1)), some (xI (w1_2 + 1)), some (xI 385)]) (show mx_Sn _ _ 14 (mx_iinc 2 1 17) from sn_284 14) rfl rfl rfl rfl ?_
          refine mx_J.step (sn_284 17) (fun _ _ => rfl) ?_
          exact ih1 (w1_2 + 1) Z4 h4 (by omega) (by omega) hx4 hG4 (fr_tr (M := [(29, (-1))]) (fr_tr (M := [(29, (-1))]) fr_rf (hf2) (M1 := []) rfl rfl) (fr_ua hE4) rfl rfl)
    exact c5 (Int.toNat (385 - 0) + 1) 0 Z h (by omega) (by omega) hx hG fr_rf
theorem ct_284_29_m1 {l : Launch} {D : va_G} {b0 : Nat} {ad : Nat → Nat} {Hb : Heap} {tau : Nat → Int64} {d n s : Nat} {S : Nat → xS} {Z : xZ} {h : mx_H} (hx : XH n s S Z h) (hG : GI n S Z)   : ∃ (Z' : xZ) (h' : mx_H), mx_Ca (tB l D b0 ad Hb tau) (d + 1) 284 [.ref 29, xI (-1)] h (none, h') ∧ XH n s S Z' h' ∧ GI n S Z' ∧ fr' [(29, (-1))] Z Z' := by
  obtain ⟨r, hca, Z', h', e, q⟩ := Jmt (B := tB l D b0 ad Hb tau) (M := mt_284) (mi := 284) (as := [.ref 29, xI (-1)]) (d := d + 0) (ls := [some (.ref 29), some (xI (-1)), none, none]) rfl rfl rfl rfl rfl rfl (cw_284_29_m1 (l := l) (D := D) (b0 := b0) (ad := ad) (Hb := Hb) (tau := tau) (d := d) (Post := fun r => ∃ (Z' : xZ) (h' : mx_H), r = (none, h') ∧ XH n s S Z' h' ∧ GI n S Z' ∧ fr' [(29, (-1))] Z Z') hx hG  (fun Z' h' q1 q2 q3 => ⟨Z', h', rfl, q1, q2, q3⟩))
  subst e; exact ⟨Z', h', hca, q⟩
set_option maxRecDepth 100000 in
theorem cw_284_23_i0 {l : Launch} {D : va_G} {b0 : Nat} {ad : Nat → Nat} {Hb : Heap} {tau : Nat → Int64} {d n s : Nat} {S : Nat → xS} {Z : xZ} {h : mx_H} {Post : mx_R → Prop} (hx : XH n s S Z h) (hG : GI n S Z)   (hP : ∀ (Z' : xZ) (h' : mx_H), XH n s S Z' h' → GI n S Z' → fr' [(23, (-1))] Z Z' → Post (none, h')) : mx_J (tB l D b0 ad Hb tau) mt_284 (d + 0) 0 [some (.ref 23), some (xI 0), none, none] [] h Post := by
    have a23 : 23 < n := lt83 (GI_n hG) rfl
    have s23 : S 23 = .inr (.int, 385, 0) := GI_s hG 23 rfl
    refine JcI (z := 0) (show mx_Sn _ _ 0 (mx_const (.int 0) 1) from sn_284 0) rfl ?_
    refine mx_J.step (ls2 := [some (.ref 23), some (xI 0), some (xI 0), none]) (sn_284 1) (fun _ _ => rfl) ?_
    refine mx_J.step (sn_284 2) (fun _ _ => rfl) ?_
    refine JalenI (z := 385) hx (show mx_Sn _ _ 3 (mx_alen 4) from sn_284 3) a23 s23 (by decide) rfl ?_
    refine mx_J.step (ls2 := [some (.ref 23), some (xI 0), some (xI 0), some (xI 385)]) (sn_284 4) (fun _ _ => rfl) ?_
    have c5 : ∀ (m1 : Nat) (w1_2 : Int) (Z2 : xZ) (h2 : mx_H), 385 - w1_2 < (m1 : Int) → 0 ≤ w1_2 ∧ w1_2 ≤ 385 → XH n s S Z2 h2 → GI n S Z2 → fr' [(23, (-1))] Z Z2 → mx_J (tB l D b0 ad Hb tau) mt_284 (d + 0) 5 [some (.ref 23), some (xI 0), some (xI w1_2), some (xI 385)] [] h2 Post := by
      intro m1
      induction m1 with
      | zero => intro w1_2 Z2 h2 q1 f1_0 hx2 hG2 hf2; exact absurd q1 (by omega)
      | succ m1 ih1 =>
        intro w1_2 Z2 h2 q1 f1_0 hx2 hG2 hf2
        refine mx_J.step (sn_284 5) (fun _ _ => rfl) ?_
        refine mx_J.step (sn_284 6) (fun _ _ => rfl) ?_
        refine Jicmp_ge (show mx_Sn _ _ 7 (mx_icmp_ge 20 10) from sn_284 7) (by omega) (by omega) (fun q3 => ?_) (fun q3 => ?_)
        · skip
          exact mx_J.ret (sn_284 20) (fun _ _ => rfl) (hP Z2 h2 hx2 hG2 (fr_tr (M := [(23, (-1))]) fr_rf (hf2) (M1 := []) rfl rfl))
        · skip
          refine mx_J.step (sn_284 10) (fun _ _ => rfl) ?_
          refine mx_J.step (sn_284 11) (fun _ _ => rfl) ?_
          refine mx_J.step (sn_284 12) (fun _ _ => rfl) ?_
          refine JiastI hx2 (show mx_Sn _ _ 13 (mx_iast 1 14) from sn_284 13) a23 s23 rfl (by omega) (fun Z4 h4 hx4 hE4 => ?_)
          have hG4 := GI_up hG2 hE4 (show (-2147483648) ≤ 0 ∧ 0 ≤ 2147483647 by omega) trivial rfl
          refine Jiinc (z := w1_2) (cz := 1) (ls2 := [some (.ref 23), some (xI 0), some (xI (w1_2 + 1)), some (xI 385)]) (show mx_Sn _ _ 14 (mx_iinc 2 1 17) from sn_284 14) rfl rfl rfl rfl ?_
          refine mx_J.step (sn_284 17) (fun _ _ => rfl) ?_
          exact ih1 (w1_2 + 1) Z4 h4 (by omega) (by omega) hx4 hG4 (fr_tr (M := [(23, (-1))]) (fr_tr (M := [(23, (-1))]) fr_rf (hf2) (M1 := []) rfl rfl) (fr_ua hE4) rfl rfl)
    exact c5 (Int.toNat (385 - 0) + 1) 0 Z h (by omega) (by omega) hx hG fr_rf
theorem ct_284_23_i0 {l : Launch} {D : va_G} {b0 : Nat} {ad : Nat → Nat} {Hb : Heap} {tau : Nat → Int64} {d n s : Nat} {S : Nat → xS} {Z : xZ} {h : mx_H} (hx : XH n s S Z h) (hG : GI n S Z)   : ∃ (Z' : xZ) (h' : mx_H), mx_Ca (tB l D b0 ad Hb tau) (d + 1) 284 [.ref 23, xI 0] h (none, h') ∧ XH n s S Z' h' ∧ GI n S Z' ∧ fr' [(23, (-1))] Z Z' := by
  obtain ⟨r, hca, Z', h', e, q⟩ := Jmt (B := tB l D b0 ad Hb tau) (M := mt_284) (mi := 284) (as := [.ref 23, xI 0]) (d := d + 0) (ls := [some (.ref 23), some (xI 0), none, none]) rfl rfl rfl rfl rfl rfl (cw_284_23_i0 (l := l) (D := D) (b0 := b0) (ad := ad) (Hb := Hb) (tau := tau) (d := d) (Post := fun r => ∃ (Z' : xZ) (h' : mx_H), r = (none, h') ∧ XH n s S Z' h' ∧ GI n S Z' ∧ fr' [(23, (-1))] Z Z') hx hG  (fun Z' h' q1 q2 q3 => ⟨Z', h', rfl, q1, q2, q3⟩))
  subst e; exact ⟨Z', h', hca, q⟩
set_option maxRecDepth 100000 in
theorem cw_284_24_i0 {l : Launch} {D : va_G} {b0 : Nat} {ad : Nat → Nat} {Hb : Heap} {tau : Nat → Int64} {d n s : Nat} {S : Nat → xS} {Z : xZ} {h : mx_H} {Post : mx_R → Prop} (hx : XH n s S Z h) (hG : GI n S Z)   (hP : ∀ (Z' : xZ) (h' : mx_H), XH n s S Z' h' → GI n S Z' → fr' [(24, (-1))] Z Z' → Post (none, h')) : mx_J (tB l D b0 ad Hb tau) mt_284 (d + 0) 0 [some (.ref 24), some (xI 0), none, none] [] h Post := by
    have a24 : 24 < n := lt83 (GI_n hG) rfl
    have s24 : S 24 = .inr (.int, 385, 0) := GI_s hG 24 rfl
    refine JcI (z := 0) (show mx_Sn _ _ 0 (mx_const (.int 0) 1) from sn_284 0) rfl ?_
    refine mx_J.step (ls2 := [some (.ref 24), some (xI 0), some (xI 0), none]) (sn_284 1) (fun _ _ => rfl) ?_
    refine mx_J.step (sn_284 2) (fun _ _ => rfl) ?_
    refine JalenI (z := 385) hx (show mx_Sn _ _ 3 (mx_alen 4) from sn_284 3) a24 s24 (by decide) rfl ?_
    refine mx_J.step (ls2 := [some (.ref 24), some (xI 0), some (xI 0), some (xI 385)]) (sn_284 4) (fun _ _ => rfl) ?_
    have c5 : ∀ (m1 : Nat) (w1_2 : Int) (Z2 : xZ) (h2 : mx_H), 385 - w1_2 < (m1 : Int) → 0 ≤ w1_2 ∧ w1_2 ≤ 385 → XH n s S Z2 h2 → GI n S Z2 → fr' [(24, (-1))] Z Z2 → mx_J (tB l D b0 ad Hb tau) mt_284 (d + 0) 5 [some (.ref 24), some (xI 0), some (xI w1_2), some (xI 385)] [] h2 Post := by
      intro m1
      induction m1 with
      | zero => intro w1_2 Z2 h2 q1 f1_0 hx2 hG2 hf2; exact absurd q1 (by omega)
      | succ m1 ih1 =>
        intro w1_2 Z2 h2 q1 f1_0 hx2 hG2 hf2
        refine mx_J.step (sn_284 5) (fun _ _ => rfl) ?_
        refine mx_J.step (sn_284 6) (fun _ _ => rfl) ?_
        refine Jicmp_ge (show mx_Sn _ _ 7 (mx_icmp_ge 20 10) from sn_284 7) (by omega) (by omega) (fun q3 => ?_) (fun q3 => ?_)
        · skip
          exact mx_J.ret (sn_284 20) (fun _ _ => rfl) (hP Z2 h2 hx2 hG2 (fr_tr (M := [(24, (-1))]) fr_rf (hf2) (M1 := []) rfl rfl))
        · skip
          refine mx_J.step (sn_284 10) (fun _ _ => rfl) ?_
          refine mx_J.step (sn_284 11) (fun _ _ => rfl) ?_
          refine mx_J.step (sn_284 12) (fun _ _ => rfl) ?_
          refine JiastI hx2 (show mx_Sn _ _ 13 (mx_iast 1 14) from sn_284 13) a24 s24 rfl (by omega) (fun Z4 h4 hx4 hE4 => ?_)
          have hG4 := GI_up hG2 hE4 (show (-2147483648) ≤ 0 ∧ 0 ≤ 2147483647 by omega) trivial rfl
          refine Jiinc (z := w1_2) (cz := 1) (ls2 := [some (.ref 24), some (xI 0), some (xI (w1_2 + 1)), some (xI 385)]) (show mx_Sn _ _ 14 (mx_iinc 2 1 17) from sn_284 14) rfl rfl rfl rfl ?_
          refine mx_J.step (sn_284 17) (fun _ _ => rfl) ?_
          exact ih1 (w1_2 + 1) Z4 h4 (by omega) (by omega) hx4 hG4 (fr_tr (M := [(24, (-1))]) (fr_tr (M := [(24, (-1))]) fr_rf (hf2) (M1 := []) rfl rfl) (fr_ua hE4) rfl rfl)
    exact c5 (Int.toNat (385 - 0) + 1) 0 Z h (by omega) (by omega) hx hG fr_rf
theorem ct_284_24_i0 {l : Launch} {D : va_G} {b0 : Nat} {ad : Nat → Nat} {Hb : Heap} {tau : Nat → Int64} {d n s : Nat} {S : Nat → xS} {Z : xZ} {h : mx_H} (hx : XH n s S Z h) (hG : GI n S Z)   : ∃ (Z' : xZ) (h' : mx_H), mx_Ca (tB l D b0 ad Hb tau) (d + 1) 284 [.ref 24, xI 0] h (none, h') ∧ XH n s S Z' h' ∧ GI n S Z' ∧ fr' [(24, (-1))] Z Z' := by
  obtain ⟨r, hca, Z', h', e, q⟩ := Jmt (B := tB l D b0 ad Hb tau) (M := mt_284) (mi := 284) (as := [.ref 24, xI 0]) (d := d + 0) (ls := [some (.ref 24), some (xI 0), none, none]) rfl rfl rfl rfl rfl rfl (cw_284_24_i0 (l := l) (D := D) (b0 := b0) (ad := ad) (Hb := Hb) (tau := tau) (d := d) (Post := fun r => ∃ (Z' : xZ) (h' : mx_H), r = (none, h') ∧ XH n s S Z' h' ∧ GI n S Z' ∧ fr' [(24, (-1))] Z Z') hx hG  (fun Z' h' q1 q2 q3 => ⟨Z', h', rfl, q1, q2, q3⟩))
  subst e; exact ⟨Z', h', hca, q⟩
set_option maxRecDepth 100000 in
theorem cw_25_12 {l : Launch} {D : va_G} {b0 : Nat} {ad : Nat → Nat} {Hb : Heap} {tau : Nat → Int64} {d n s : Nat} {S : Nat → xS} {Z : xZ} {h : mx_H} {Post : mx_R → Prop} (hx : XH n s S Z h) (hG : GI n S Z)  {x0 : Int} (p0 : 0 ≤ x0 ∧ x0 ≤ 9) (hP : ∀ (Z' : xZ) (h' : mx_H), XH n s S Z' h' → GI n S Z' → fr' [(12, 2), (17, (-1))] Z Z' → Post (none, h')) : mx_J (tB l D b0 ad Hb tau) mt_25 (d + 0) 0 [some (.ref 12), some (xI x0)] [] h Post := by
    have a12 : 12 < n := lt83 (GI_n hG) rfl
    have s12 : S 12 = .inl (4, [2, 2, 0, 2, 2, 2, 2, 2, 2]) := GI_s hG 12 rfl
    have a17 : 17 < n := lt83 (GI_n hG) rfl
    have s17 : S 17 = .inr (.int, 5, 0) := GI_s hG 17 rfl
    refine mx_J.step (sn_25 0) (fun _ _ => rfl) ?_
    refine JgetR (g := 6) (b := 17) hx (show mx_Sn _ _ 1 (mx_getf 4 6 4) from sn_25 1) a12 s12 rfl rfl (hG.prr 12 6 rfl) ?_
    refine JcI (z := 4) (show mx_Sn _ _ 4 (mx_const (.int 4) 5) from sn_25 4) rfl ?_
    have b2 : (-2147483648) ≤ Z 17 4 ∧ Z 17 4 ≤ 2147483647 := hG.pr 17 4
    refine JialdI (z := Z 17 4) hx (show mx_Sn _ _ 5 (mx_iald 6) from sn_25 5) a17 s17 (by omega) rfl ?_
    refine mx_J.step (sn_25 6) (fun _ _ => rfl) ?_
    have c27 : ∀  (Z4 : xZ) (h4 : mx_H), XH n s S Z4 h4 → GI n S Z4 → fr' [(12, 2), (17, (-1))] Z Z4 → mx_J (tB l D b0 ad Hb tau) mt_25 (d + 0) 27 [some (.ref 12), some (xI x0)] [] h4 Post := by
      intro Z4 h4 hx4 hG4 hf4
      exact mx_J.ret (sn_25 27) (fun _ _ => rfl) (hP Z4 h4 hx4 hG4 (fr_tr (M := [(12, 2), (17, (-1))]) fr_rf (hf4) (M1 := []) rfl rfl))
    refine Jicmp_eq (show mx_Sn _ _ 7 (mx_icmp_eq 27 10) from sn_25 7) (by omega) (by omega) (fun q5 => ?_) (fun q5 => ?_)
    · skip
      exact c27 Z h hx hG fr_rf
    · skip
      refine mx_J.step (sn_25 10) (fun _ _ => rfl) ?_
      refine JgetR (g := 6) (b := 17) hx (show mx_Sn _ _ 11 (mx_getf 4 6 14) from sn_25 11) a12 s12 rfl rfl (hG.prr 12 6 rfl) ?_
      refine JcI (z := 4) (show mx_Sn _ _ 14 (mx_const (.int 4) 15) from sn_25 14) rfl ?_
      refine mx_J.step (sn_25 15) (fun _ _ => rfl) ?_
      refine JiastI hx (show mx_Sn _ _ 16 (mx_iast 1 17) from sn_25 16) a17 s17 rfl (by omega) (fun Z7 h7 hx7 hE7 => ?_)
      have hG7 := GI_up hG hE7 (show (-2147483648) ≤ x0 ∧ x0 ≤ 2147483647 by omega) trivial rfl
      refine mx_J.step (sn_25 17) (fun _ _ => rfl) ?_
      refine mx_J.step (sn_25 18) (fun _ _ => rfl) ?_
      have b9 : (-2147483648) ≤ Z 12 2 ∧ Z 12 2 ≤ 2147483647 := hG.pr 12 2
      refine JgetI (g := 2) (z := Z 12 2) hx7 (show mx_Sn _ _ 19 (mx_getf 4 2 22) from sn_25 19) a12 s12 rfl rfl (up_nk hE7 rfl) ?_
      refine JcI (z := 1) (show mx_Sn _ _ 22 (mx_const (.int 1) 23) from sn_25 22) rfl ?_
      refine JiaddN (show mx_Sn _ _ 23 (mx_iadd 24) from sn_25 23) (fun y10 hy10 hq10 => ?_)
      refine JputI (g := 2) hx7 (show mx_Sn _ _ 24 (mx_putf 1 4 2 (.int) 27) from sn_25 24) a12 s12 rfl rfl rfl rfl (fun Z11 h11 hx11 hE11 => ?_)
      have hG11 := GI_up hG7 hE11 (show (-2147483648) ≤ y10 ∧ y10 ≤ 2147483647 by omega) trivial rfl
      exact c27 Z11 h11 hx11 hG11 (fr_tr (M := [(12, 2), (17, (-1))]) (fr_tr (M := [(12, 2), (17, (-1))]) fr_rf (fr_ua hE7) (M1 := []) rfl rfl) (fr_up hE11) rfl rfl)
theorem ct_25_12 {l : Launch} {D : va_G} {b0 : Nat} {ad : Nat → Nat} {Hb : Heap} {tau : Nat → Int64} {d n s : Nat} {S : Nat → xS} {Z : xZ} {h : mx_H} (hx : XH n s S Z h) (hG : GI n S Z)  {x0 : Int} (p0 : 0 ≤ x0 ∧ x0 ≤ 9) : ∃ (Z' : xZ) (h' : mx_H), mx_Ca (tB l D b0 ad Hb tau) (d + 1) 25 [.ref 12, xI x0] h (none, h') ∧ XH n s S Z' h' ∧ GI n S Z' ∧ fr' [(12, 2), (17, (-1))] Z Z' := by
  obtain ⟨r, hca, Z', h', e, q⟩ := Jmt (B := tB l D b0 ad Hb tau) (M := mt_25) (mi := 25) (as := [.ref 12, xI x0]) (d := d + 0) (ls := [some (.ref 12), some (xI x0)]) rfl rfl rfl rfl rfl rfl (cw_25_12 (l := l) (D := D) (b0 := b0) (ad := ad) (Hb := Hb) (tau := tau) (d := d) (Post := fun r => ∃ (Z' : xZ) (h' : mx_H), r = (none, h') ∧ XH n s S Z' h' ∧ GI n S Z' ∧ fr' [(12, 2), (17, (-1))] Z Z') hx hG p0 (fun Z' h' q1 q2 q3 => ⟨Z', h', rfl, q1, q2, q3⟩))
  subst e; exact ⟨Z', h', hca, q⟩
set_option maxRecDepth 100000 in
theorem cw_134_1 {l : Launch} {D : va_G} {b0 : Nat} {ad : Nat → Nat} {Hb : Heap} {tau : Nat → Int64} {d n s : Nat} {S : Nat → xS} {Z : xZ} {h : mx_H} {Post : mx_R → Prop} (hx : XH n s S Z h) (hG : GI n S Z)  {x0 : Int} (p0 : (-2147483648) ≤ x0 ∧ x0 ≤ 2147483647) (k0 : Z 1 1 ≤ 896) (hP : ∀ (Z' : xZ) (h' : mx_H), XH n s S Z' h' → GI n S Z' → fr' [(1, 1), (2, (-1))] Z Z' → FI Z Z' (Z 1 1) x0 ∧ (Z' 1 1 = Z 1 1 + 4) → Post (none, h')) : mx_J (tB l D b0 ad Hb tau) mt_134 (d + 0) 0 [some (.ref 1), some (xI x0), none] [] h Post := by
    have a1 : 1 < n := lt83 (GI_n hG) rfl
    have s1 : S 1 = .inl (11, [2, 0, 0, 0, 2, 2, 2, 2, 2, 2, 2, 2, 2, 2, 2, 2, 2]) := GI_s hG 1 rfl
    have a2 : 2 < n := lt83 (GI_n hG) rfl
    have s2 : S 2 = .inr (.byte, 900, 0) := GI_s hG 2 rfl
    refine JcI (z := 24) (show mx_Sn _ _ 0 (mx_const (.int 24) 2) from sn_134 0) rfl ?_
    refine mx_J.step (ls2 := [some (.ref 1), some (xI x0), some (xI 24)]) (sn_134 2) (fun _ _ => rfl) ?_
    refine mx_J.step (sn_134 3) (fun _ _ => rfl) ?_
    refine Jif_lt (show mx_Sn _ _ 4 (mx_if_lt 46 7) from sn_134 4) (by omega) (fun q1 => absurd q1 (by omega)) (fun q1 => ?_)
    refine mx_J.step (sn_134 7) (fun _ _ => rfl) ?_
    have b3 : 0 ≤ Z 1 1 ∧ Z 1 1 ≤ 900 := hG.pr 1 1
    refine JgetI (g := 1) (z := Z 1 1) hx (show mx_Sn _ _ 8 (mx_getf 11 1 11) from sn_134 8) a1 s1 rfl rfl rfl ?_
    refine JcI (z := 900) (show mx_Sn _ _ 11 (mx_const (.int 900) 14) from sn_134 11) rfl ?_
    refine Jicmp_ge (show mx_Sn _ _ 14 (mx_icmp_ge 46 17) from sn_134 14) (by omega) (by omega) (fun q4 => ?_) (fun q4 => ?_)
    · skip
      have d0 : Z 2 0 = 0 := (absurd (show (0 : Int) = 0 from rfl) (by omega))
      have d1 : Z 2 0 = 0 := (absurd (show (0 : Int) = 0 from rfl) (by omega))
      have d2 : Z 2 0 = 0 := (absurd (show (0 : Int) = 0 from rfl) (by omega))
      have d3 : Z 2 0 = 0 := (absurd (show (0 : Int) = 0 from rfl) (by omega))
      exact mx_J.ret (sn_134 46) (fun _ _ => rfl) (hP Z h hx hG fr_rf ⟨(FI_mk (fun i hi => rfl) (by omega) (by omega) (by omega) (by omega)), by omega⟩)
    · skip
      refine mx_J.step (sn_134 17) (fun _ _ => rfl) ?_
      refine JgetR (g := 0) (b := 2) hx (show mx_Sn _ _ 18 (mx_getf 11 0 21) from sn_134 18) a1 s1 rfl rfl (hG.prr 1 0 rfl) ?_
      refine mx_J.step (sn_134 21) (fun _ _ => rfl) ?_
      refine JgetI (g := 1) (z := Z 1 1) hx (show mx_Sn _ _ 22 (mx_getf 11 1 25) from sn_134 22) a1 s1 rfl rfl rfl ?_
      refine mx_J.step (sn_134 25) (fun _ _ => rfl) ?_
      refine mx_J.step (sn_134 26) (fun _ _ => rfl) ?_
      refine JiushrB24 (show mx_Sn _ _ 27 (mx_iushr 28) from sn_134 27) (by omega) (fun y7 hy7 hq7 => ?_)
      refine Ji2bY (show mx_Sn _ _ 28 (mx_i2b 29) from sn_134 28) (by omega) (fun y8 hy8 hq8 => ?_)
      refine JbastI hx (show mx_Sn _ _ 29 (mx_bast 1 30) from sn_134 29) a2 s2 rfl (by omega) (by omega) (fun Z9 h9 hx9 hE9 => ?_)
      have hG9 := GI_up hG hE9 (show (-128) ≤ y8 ∧ y8 ≤ 127 by omega) trivial rfl
      refine mx_J.step (sn_134 30) (fun _ _ => rfl) ?_
      refine mx_J.step (sn_134 31) (fun _ _ => rfl) ?_
      refine JgetI (g := 1) (z := Z 1 1) hx9 (show mx_Sn _ _ 32 (mx_getf 11 1 35) from sn_134 32) a1 s1 rfl rfl (up_nk hE9 rfl) ?_
      refine JcI (z := 1) (show mx_Sn _ _ 35 (mx_const (.int 1) 36) from sn_134 35) rfl ?_
      refine Jiadd (show mx_Sn _ _ 36 (mx_iadd 37) from sn_134 36) ?_
      refine JputI (g := 1) hx9 (show mx_Sn _ _ 37 (mx_putf 1 11 1 (.int) 40) from sn_134 37) a1 s1 rfl rfl rfl rfl (fun Z11 h11 hx11 hE11 => ?_)
      have hG11 := GI_up hG9 hE11 (show 0 ≤ (Z 1 1) + 1 ∧ (Z 1 1) + 1 ≤ 900 by omega) trivial rfl
      refine Jiinc (z := 24) (cz := (-8)) (ls2 := [some (.ref 1), some (xI x0), some (xI 16)]) (show mx_Sn _ _ 40 (mx_iinc 2 (-8) 43) from sn_134 40) rfl rfl rfl rfl ?_
      refine mx_J.step (sn_134 43) (fun _ _ => rfl) ?_
      refine mx_J.step (sn_134 3) (fun _ _ => rfl) ?_
      refine Jif_lt (show mx_Sn _ _ 4 (mx_if_lt 46 7) from sn_134 4) (by omega) (fun q12 => absurd q12 (by omega)) (fun q12 => ?_)
      refine mx_J.step (sn_134 7) (fun _ _ => rfl) ?_
      refine JgetI (g := 1) (z := (Z 1 1) + 1) hx11 (show mx_Sn _ _ 8 (mx_getf 11 1 11) from sn_134 8) a1 s1 rfl rfl (up_at hE11) ?_
      refine JcI (z := 900) (show mx_Sn _ _ 11 (mx_const (.int 900) 14) from sn_134 11) rfl ?_
      refine Jicmp_ge (show mx_Sn _ _ 14 (mx_icmp_ge 46 17) from sn_134 14) (by omega) (by omega) (fun q14 => ?_) (fun q14 => ?_)
      · skip
        have d0 : Z11 2 (Z 1 1) = y8 := ((up_nk hE11 rfl).trans (up_at hE9))
        have d1 : Z11 2 0 = 0 := (absurd (show (0 : Int) = 0 from rfl) (by omega))
        have d2 : Z11 2 0 = 0 := (absurd (show (0 : Int) = 0 from rfl) (by omega))
        have d3 : Z11 2 0 = 0 := (absurd (show (0 : Int) = 0 from rfl) (by omega))
        have eq15 : Z11 1 1 = (Z 1 1) + 1 := (up_at hE11)
        have eq16 : Z11 1 1 = (Z 1 1) + 1 := (up_at hE11)
        exact mx_J.ret (sn_134 46) (fun _ _ => rfl) (hP Z11 h11 hx11 hG11 (fr_tr (M := [(1, 1), (2, (-1))]) (fr_tr (M := [(1, 1), (2, (-1))]) fr_rf (fr_ua hE9) (M1 := []) rfl rfl) (fr_up hE11) rfl rfl) ⟨(FI_mk (fun i hi => ((up_nk hE11 rfl).trans (up_ni hE9 (by omega)))) (by omega) (by omega) (by omega) (by omega)), by omega⟩)
      · skip
        refine mx_J.step (sn_134 17) (fun _ _ => rfl) ?_
        refine JgetR (g := 0) (b := 2) hx11 (show mx_Sn _ _ 18 (mx_getf 11 0 21) from sn_134 18) a1 s1 rfl rfl (hG11.prr 1 0 rfl) ?_
        refine mx_J.step (sn_134 21) (fun _ _ => rfl) ?_
        refine JgetI (g := 1) (z := (Z 1 1) + 1) hx11 (show mx_Sn _ _ 22 (mx_getf 11 1 25) from sn_134 22) a1 s1 rfl rfl (up_at hE11) ?_
        refine mx_J.step (sn_134 25) (fun _ _ => rfl) ?_
        refine mx_J.step (sn_134 26) (fun _ _ => rfl) ?_
        refine JiushrB16 (show mx_Sn _ _ 27 (mx_iushr 28) from sn_134 27) (by omega) (fun y19 hy19 hq19 => ?_)
        refine Ji2bY (show mx_Sn _ _ 28 (mx_i2b 29) from sn_134 28) (by omega) (fun y20 hy20 hq20 => ?_)
        refine JbastI hx11 (show mx_Sn _ _ 29 (mx_bast 1 30) from sn_134 29) a2 s2 rfl (by omega) (by omega) (fun Z21 h21 hx21 hE21 => ?_)
        have hG21 := GI_up hG11 hE21 (show (-128) ≤ y20 ∧ y20 ≤ 127 by omega) trivial rfl
        refine mx_J.step (sn_134 30) (fun _ _ => rfl) ?_
        refine mx_J.step (sn_134 31) (fun _ _ => rfl) ?_
        refine JgetI (g := 1) (z := (Z 1 1) + 1) hx21 (show mx_Sn _ _ 32 (mx_getf 11 1 35) from sn_134 32) a1 s1 rfl rfl ((up_nk hE21 rfl).trans (up_at hE11)) ?_
        refine JcI (z := 1) (show mx_Sn _ _ 35 (mx_const (.int 1) 36) from sn_134 35) rfl ?_
        refine Jiadd (show mx_Sn _ _ 36 (mx_iadd 37) from sn_134 36) ?_
        refine JputI (g := 1) hx21 (show mx_Sn _ _ 37 (mx_putf 1 11 1 (.int) 40) from sn_134 37) a1 s1 rfl rfl rfl rfl (fun Z23 h23 hx23 hE23 => ?_)
        have hG23 := GI_up hG21 hE23 (show 0 ≤ ((Z 1 1) + 1) + 1 ∧ ((Z 1 1) + 1) + 1 ≤ 900 by omega) trivial rfl
        refine Jiinc (z := 16) (cz := (-8)) (ls2 := [some (.ref 1), some (xI x0), some (xI 8)]) (show mx_Sn _ _ 40 (mx_iinc 2 (-8) 43) from sn_134 40) rfl rfl rfl rfl ?_
        refine mx_J.step (sn_134 43) (fun _ _ => rfl) ?_
        refine mx_J.step (sn_134 3) (fun _ _ => rfl) ?_
        refine Jif_lt (show mx_Sn _ _ 4 (mx_if_lt 46 7) from sn_134 4) (by omega) (fun q24 => absurd q24 (by omega)) (fun q24 => ?_)
        refine mx_J.step (sn_134 7) (fun _ _ => rfl) ?_
        refine JgetI (g := 1) (z := ((Z 1 1) + 1) + 1) hx23 (show mx_Sn _ _ 8 (mx_getf 11 1 11) from sn_134 8) a1 s1 rfl rfl (up_at hE23) ?_
        refine JcI (z := 900) (show mx_Sn _ _ 11 (mx_const (.int 900) 14) from sn_134 11) rfl ?_
        refine Jicmp_ge (show mx_Sn _ _ 14 (mx_icmp_ge 46 17) from sn_134 14) (by omega) (by omega) (fun q26 => ?_) (fun q26 => ?_)
        · skip
          have d0 : Z23 2 (Z 1 1) = y8 := ((up_nk hE23 rfl).trans ((up_ni hE21 (by omega)).trans ((up_nk hE11 rfl).trans (up_at hE9))))
          have d1 : Z23 2 ((Z 1 1) + 1) = y20 := ((up_nk hE23 rfl).trans (up_at hE21))
          have d2 : Z23 2 0 = 0 := (absurd (show (0 : Int) = 0 from rfl) (by omega))
          have d3 : Z23 2 0 = 0 := (absurd (show (0 : Int) = 0 from rfl) (by omega))
          have eq27 : Z23 1 1 = ((Z 1 1) + 1) + 1 := (up_at hE23)
          have eq28 : Z23 1 1 = ((Z 1 1) + 1) + 1 := (up_at hE23)
          exact mx_J.ret (sn_134 46) (fun _ _ => rfl) (hP Z23 h23 hx23 hG23 (fr_tr (M := [(1, 1), (2, (-1))]) (fr_tr (M := [(1, 1), (2, (-1))]) (fr_tr (M := [(1, 1), (2, (-1))]) (fr_tr (M := [(1, 1), (2, (-1))]) fr_rf (fr_ua hE9) (M1 := []) rfl rfl) (fr_up hE11) rfl rfl) (fr_ua hE21) rfl rfl) (fr_up hE23) rfl rfl) ⟨(FI_mk (fun i hi => ((up_nk hE23 rfl).trans ((up_ni hE21 (by omega)).trans ((up_nk hE11 rfl).trans (up_ni hE9 (by omega)))))) (by omega) (by omega) (by omega) (by omega)), by omega⟩)
        · skip
          refine mx_J.step (sn_134 17) (fun _ _ => rfl) ?_
          refine JgetR (g := 0) (b := 2) hx23 (show mx_Sn _ _ 18 (mx_getf 11 0 21) from sn_134 18) a1 s1 rfl rfl (hG23.prr 1 0 rfl) ?_
          refine mx_J.step (sn_134 21) (fun _ _ => rfl) ?_
          refine JgetI (g := 1) (z := ((Z 1 1) + 1) + 1) hx23 (show mx_Sn _ _ 22 (mx_getf 11 1 25) from sn_134 22) a1 s1 rfl rfl (up_at hE23) ?_
          refine mx_J.step (sn_134 25) (fun _ _ => rfl) ?_
          refine mx_J.step (sn_134 26) (fun _ _ => rfl) ?_
          refine JiushrB8 (show mx_Sn _ _ 27 (mx_iushr 28) from sn_134 27) (by omega) (fun y31 hy31 hq31 => ?_)
          refine Ji2bY (show mx_Sn _ _ 28 (mx_i2b 29) from sn_134 28) (by omega) (fun y32 hy32 hq32 => ?_)
          refine JbastI hx23 (show mx_Sn _ _ 29 (mx_bast 1 30) from sn_134 29) a2 s2 rfl (by omega) (by omega) (fun Z33 h33 hx33 hE33 => ?_)
          have hG33 := GI_up hG23 hE33 (show (-128) ≤ y32 ∧ y32 ≤ 127 by omega) trivial rfl
          refine mx_J.step (sn_134 30) (fun _ _ => rfl) ?_
          refine mx_J.step (sn_134 31) (fun _ _ => rfl) ?_
          refine JgetI (g := 1) (z := ((Z 1 1) + 1) + 1) hx33 (show mx_Sn _ _ 32 (mx_getf 11 1 35) from sn_134 32) a1 s1 rfl rfl ((up_nk hE33 rfl).trans (up_at hE23)) ?_
          refine JcI (z := 1) (show mx_Sn _ _ 35 (mx_const (.int 1) 36) from sn_134 35) rfl ?_
          refine Jiadd (show mx_Sn _ _ 36 (mx_iadd 37) from sn_134 36) ?_
          refine JputI (g := 1) hx33 (show mx_Sn _ _ 37 (mx_putf 1 11 1 (.int) 40) from sn_134 37) a1 s1 rfl rfl rfl rfl (fun Z35 h35 hx35 hE35 => ?_)
          have hG35 := GI_up hG33 hE35 (show 0 ≤ (((Z 1 1) + 1) + 1) + 1 ∧ (((Z 1 1) + 1) + 1) + 1 ≤ 900 by omega) trivial rfl
          refine Jiinc (z := 8) (cz := (-8)) (ls2 := [some (.ref 1), some (xI x0), some (xI 0)]) (show mx_Sn _ _ 40 (mx_iinc 2 (-8) 43) from sn_134 40) rfl rfl rfl rfl ?_
          refine mx_J.step (sn_134 43) (fun _ _ => rfl) ?_
          refine mx_J.step (sn_134 3) (fun _ _ => rfl) ?_
          refine Jif_lt (show mx_Sn _ _ 4 (mx_if_lt 46 7) from sn_134 4) (by omega) (fun q36 => absurd q36 (by omega)) (fun q36 => ?_)
          refine mx_J.step (sn_134 7) (fun _ _ => rfl) ?_
          refine JgetI (g := 1) (z := (((Z 1 1) + 1) + 1) + 1) hx35 (show mx_Sn _ _ 8 (mx_getf 11 1 11) from sn_134 8) a1 s1 rfl rfl (up_at hE35) ?_
          refine JcI (z := 900) (show mx_Sn _ _ 11 (mx_const (.int 900) 14) from sn_134 11) rfl ?_
          refine Jicmp_ge (show mx_Sn _ _ 14 (mx_icmp_ge 46 17) from sn_134 14) (by omega) (by omega) (fun q38 => ?_) (fun q38 => ?_)
          · skip
            have d0 : Z35 2 (Z 1 1) = y8 := ((up_nk hE35 rfl).trans ((up_ni hE33 (by omega)).trans ((up_nk hE23 rfl).trans ((up_ni hE21 (by omega)).trans ((up_nk hE11 rfl).trans (up_at hE9))))))
            have d1 : Z35 2 ((Z 1 1) + 1) = y20 := ((up_nk hE35 rfl).trans ((up_ni hE33 (by omega)).trans ((up_nk hE23 rfl).trans (up_at hE21))))
            have d2 : Z35 2 (((Z 1 1) + 1) + 1) = y32 := ((up_nk hE35 rfl).trans (up_at hE33))
            have d3 : Z35 2 0 = 0 := (absurd (show (0 : Int) = 0 from rfl) (by omega))
            have eq39 : Z35 1 1 = (((Z 1 1) + 1) + 1) + 1 := (up_at hE35)
            have eq40 : Z35 1 1 = (((Z 1 1) + 1) + 1) + 1 := (up_at hE35)
            exact mx_J.ret (sn_134 46) (fun _ _ => rfl) (hP Z35 h35 hx35 hG35 (fr_tr (M := [(1, 1), (2, (-1))]) (fr_tr (M := [(1, 1), (2, (-1))]) (fr_tr (M := [(1, 1), (2, (-1))]) (fr_tr (M := [(1, 1), (2, (-1))]) (fr_tr (M := [(1, 1), (2, (-1))]) (fr_tr (M := [(1, 1), (2, (-1))]) fr_rf (fr_ua hE9) (M1 := []) rfl rfl) (fr_up hE11) rfl rfl) (fr_ua hE21) rfl rfl) (fr_up hE23) rfl rfl) (fr_ua hE33) rfl rfl) (fr_up hE35) rfl rfl) ⟨(FI_mk (fun i hi => ((up_nk hE35 rfl).trans ((up_ni hE33 (by omega)).trans ((up_nk hE23 rfl).trans ((up_ni hE21 (by omega)).trans ((up_nk hE11 rfl).trans (up_ni hE9 (by omega)))))))) (by omega) (by omega) (by omega) (by omega)), by omega⟩)
          · skip
            refine mx_J.step (sn_134 17) (fun _ _ => rfl) ?_
            refine JgetR (g := 0) (b := 2) hx35 (show mx_Sn _ _ 18 (mx_getf 11 0 21) from sn_134 18) a1 s1 rfl rfl (hG35.prr 1 0 rfl) ?_
            refine mx_J.step (sn_134 21) (fun _ _ => rfl) ?_
            refine JgetI (g := 1) (z := (((Z 1 1) + 1) + 1) + 1) hx35 (show mx_Sn _ _ 22 (mx_getf 11 1 25) from sn_134 22) a1 s1 rfl rfl (up_at hE35) ?_
            refine mx_J.step (sn_134 25) (fun _ _ => rfl) ?_
            refine mx_J.step (sn_134 26) (fun _ _ => rfl) ?_
            refine JiushrB0 (show mx_Sn _ _ 27 (mx_iushr 28) from sn_134 27) (by omega) (fun y43 hy43 hq43 => ?_)
            refine Ji2bY (show mx_Sn _ _ 28 (mx_i2b 29) from sn_134 28) (by omega) (fun y44 hy44 hq44 => ?_)
            refine JbastI hx35 (show mx_Sn _ _ 29 (mx_bast 1 30) from sn_134 29) a2 s2 rfl (by omega) (by omega) (fun Z45 h45 hx45 hE45 => ?_)
            have hG45 := GI_up hG35 hE45 (show (-128) ≤ y44 ∧ y44 ≤ 127 by omega) trivial rfl
            refine mx_J.step (sn_134 30) (fun _ _ => rfl) ?_
            refine mx_J.step (sn_134 31) (fun _ _ => rfl) ?_
            refine JgetI (g := 1) (z := (((Z 1 1) + 1) + 1) + 1) hx45 (show mx_Sn _ _ 32 (mx_getf 11 1 35) from sn_134 32) a1 s1 rfl rfl ((up_nk hE45 rfl).trans (up_at hE35)) ?_
            refine JcI (z := 1) (show mx_Sn _ _ 35 (mx_const (.int 1) 36) from sn_134 35) rfl ?_
            refine Jiadd (show mx_Sn _ _ 36 (mx_iadd 37) from sn_134 36) ?_
            refine JputI (g := 1) hx45 (show mx_Sn _ _ 37 (mx_putf 1 11 1 (.int) 40) from sn_134 37) a1 s1 rfl rfl rfl rfl (fun Z47 h47 hx47 hE47 => ?_)
            have hG47 := GI_up hG45 hE47 (show 0 ≤ ((((Z 1 1) + 1) + 1) + 1) + 1 ∧ ((((Z 1 1) + 1) + 1) + 1) + 1 ≤ 900 by omega) trivial rfl
            refine Jiinc (z := 0) (cz := (-8)) (ls2 := [some (.ref 1), some (xI x0), some (xI (-8))]) (show mx_Sn _ _ 40 (mx_iinc 2 (-8) 43) from sn_134 40) rfl rfl rfl rfl ?_
            refine mx_J.step (sn_134 43) (fun _ _ => rfl) ?_
            refine mx_J.step (sn_134 3) (fun _ _ => rfl) ?_
            refine Jif_lt (show mx_Sn _ _ 4 (mx_if_lt 46 7) from sn_134 4) (by omega) (fun q48 => ?_) (fun q48 => absurd q48 (by omega))
            have d0 : Z47 2 (Z 1 1) = y8 := ((up_nk hE47 rfl).trans ((up_ni hE45 (by omega)).trans ((up_nk hE35 rfl).trans ((up_ni hE33 (by omega)).trans ((up_nk hE23 rfl).trans ((up_ni hE21 (by omega)).trans ((up_nk hE11 rfl).trans (up_at hE9))))))))
            have d1 : Z47 2 ((Z 1 1) + 1) = y20 := ((up_nk hE47 rfl).trans ((up_ni hE45 (by omega)).trans ((up_nk hE35 rfl).trans ((up_ni hE33 (by omega)).trans ((up_nk hE23 rfl).trans (up_at hE21))))))
            have d2 : Z47 2 (((Z 1 1) + 1) + 1) = y32 := ((up_nk hE47 rfl).trans ((up_ni hE45 (by omega)).trans ((up_nk hE35 rfl).trans (up_at hE33))))
            have d3 : Z47 2 ((((Z 1 1) + 1) + 1) + 1) = y44 := ((up_nk hE47 rfl).trans (up_at hE45))
            have eq49 : Z47 1 1 = ((((Z 1 1) + 1) + 1) + 1) + 1 := (up_at hE47)
            have eq50 : Z47 1 1 = ((((Z 1 1) + 1) + 1) + 1) + 1 := (up_at hE47)
            exact mx_J.ret (sn_134 46) (fun _ _ => rfl) (hP Z47 h47 hx47 hG47 (fr_tr (M := [(1, 1), (2, (-1))]) (fr_tr (M := [(1, 1), (2, (-1))]) (fr_tr (M := [(1, 1), (2, (-1))]) (fr_tr (M := [(1, 1), (2, (-1))]) (fr_tr (M := [(1, 1), (2, (-1))]) (fr_tr (M := [(1, 1), (2, (-1))]) (fr_tr (M := [(1, 1), (2, (-1))]) (fr_tr (M := [(1, 1), (2, (-1))]) fr_rf (fr_ua hE9) (M1 := []) rfl rfl) (fr_up hE11) rfl rfl) (fr_ua hE21) rfl rfl) (fr_up hE23) rfl rfl) (fr_ua hE33) rfl rfl) (fr_up hE35) rfl rfl) (fr_ua hE45) rfl rfl) (fr_up hE47) rfl rfl) ⟨(FI_mk (fun i hi => ((up_nk hE47 rfl).trans ((up_ni hE45 (by omega)).trans ((up_nk hE35 rfl).trans ((up_ni hE33 (by omega)).trans ((up_nk hE23 rfl).trans ((up_ni hE21 (by omega)).trans ((up_nk hE11 rfl).trans (up_ni hE9 (by omega)))))))))) (by omega) (by omega) (by omega) (by omega)), by omega⟩)
theorem ct_134_1 {l : Launch} {D : va_G} {b0 : Nat} {ad : Nat → Nat} {Hb : Heap} {tau : Nat → Int64} {d n s : Nat} {S : Nat → xS} {Z : xZ} {h : mx_H} (hx : XH n s S Z h) (hG : GI n S Z)  {x0 : Int} (p0 : (-2147483648) ≤ x0 ∧ x0 ≤ 2147483647) (k0 : Z 1 1 ≤ 896) : ∃ (Z' : xZ) (h' : mx_H), mx_Ca (tB l D b0 ad Hb tau) (d + 1) 134 [.ref 1, xI x0] h (none, h') ∧ XH n s S Z' h' ∧ GI n S Z' ∧ fr' [(1, 1), (2, (-1))] Z Z' ∧ (FI Z Z' (Z 1 1) x0 ∧ (Z' 1 1 = Z 1 1 + 4)) := by
  obtain ⟨r, hca, Z', h', e, q⟩ := Jmt (B := tB l D b0 ad Hb tau) (M := mt_134) (mi := 134) (as := [.ref 1, xI x0]) (d := d + 0) (ls := [some (.ref 1), some (xI x0), none]) rfl rfl rfl rfl rfl rfl (cw_134_1 (l := l) (D := D) (b0 := b0) (ad := ad) (Hb := Hb) (tau := tau) (d := d) (Post := fun r => ∃ (Z' : xZ) (h' : mx_H), r = (none, h') ∧ XH n s S Z' h' ∧ GI n S Z' ∧ fr' [(1, 1), (2, (-1))] Z Z' ∧ (FI Z Z' (Z 1 1) x0 ∧ (Z' 1 1 = Z 1 1 + 4))) hx hG p0 k0 (fun Z' h' q1 q2 q3 q4 => ⟨Z', h', rfl, q1, q2, q3, q4⟩))
  subst e; exact ⟨Z', h', hca, q⟩
set_option maxRecDepth 100000 in
theorem cw_89_1 {l : Launch} {D : va_G} {b0 : Nat} {ad : Nat → Nat} {Hb : Heap} {tau : Nat → Int64} {d n s : Nat} {S : Nat → xS} {Z : xZ} {h : mx_H} {Post : mx_R → Prop} (hx : XH n s S Z h) (hG : GI n S Z)  {x0 x1 x2 x3 x4 : Int} (p0 : (-2147483648) ≤ x0 ∧ x0 ≤ 2147483647) (p1 : (-2147483648) ≤ x1 ∧ x1 ≤ 2147483647) (p2 : (-2147483648) ≤ x2 ∧ x2 ≤ 2147483647) (p3 : (-2147483648) ≤ x3 ∧ x3 ≤ 2147483647) (p4 : (-2147483648) ≤ x4 ∧ x4 ≤ 2147483647) (hP : ∀ (z : Int) (Z' : xZ) (h' : mx_H), XH n s S Z' h' → GI n S Z' → fr' [(1, 1), (2, (-1))] Z Z' → (Z 1 1 ≤ 880 → FB Z Z' 2 (Z 1 1) x0 x1 x2 x3 x4) ∧ (880 < Z 1 1 → ∀ i, Z' 2 i = Z 2 i) ∧ (-5) ≤ z ∧ z ≤ 900 ∧ (Z' 1 1 ≤ Z 1 1 + 20 ∧ (880 < Z 1 1 → z = -5 ∧ Z' 1 1 = Z 1 1) ∧ (Z 1 1 ≤ 880 → Z' 1 1 = Z 1 1 + 20 ∧ z = Z 1 1 + 20)) → Post (some (xI z), h')) : mx_J (tB l D b0 ad Hb tau) mt_89 (d + 1) 0 [some (.ref 1), some (xI x0), some (xI x1), some (xI x2), some (xI x3), some (xI x4)] [] h Post := by
    have a1 : 1 < n := lt83 (GI_n hG) rfl
    have s1 : S 1 = .inl (11, [2, 0, 0, 0, 2, 2, 2, 2, 2, 2, 2, 2, 2, 2, 2, 2, 2]) := GI_s hG 1 rfl
    refine mx_J.step (sn_89 0) (fun _ _ => rfl) ?_
    have b2 : 0 ≤ Z 1 1 ∧ Z 1 1 ≤ 900 := hG.pr 1 1
    refine JgetI (g := 1) (z := Z 1 1) hx (show mx_Sn _ _ 1 (mx_getf 11 1 4) from sn_89 1) a1 s1 rfl rfl rfl ?_
    refine JcI (z := 880) (show mx_Sn _ _ 4 (mx_const (.int 880) 7) from sn_89 4) rfl ?_
    refine Jicmp_le (show mx_Sn _ _ 7 (mx_icmp_le 13 10) from sn_89 7) (by omega) (by omega) (fun q3 => ?_) (fun q3 => ?_)
    · skip
      refine mx_J.step (sn_89 13) (fun _ _ => rfl) ?_
      refine mx_J.step (sn_89 14) (fun _ _ => rfl) ?_
      obtain ⟨Z4, h4, hc4, hx4, hG4, hf4, b4⟩ := ct_134_1 (d := d + 0) (l := l) (D := D) (b0 := b0) (ad := ad) (Hb := Hb) (tau := tau) hx hG (show (-2147483648) ≤ x0 ∧ x0 ≤ 2147483647 by omega) (show Z 1 1 ≤ 896 by omega)
      obtain ⟨bs4_0, b4⟩ := b4
      have b5 : 0 ≤ Z4 1 1 ∧ Z4 1 1 ≤ 900 := hG4.pr 1 1
      refine Jcv0 hx (show mx_Sn _ _ 15 (mx_callv 134 2 11 18) from sn_89 15) a1 s1 hc4 rfl rfl rfl ?_
      refine mx_J.step (sn_89 18) (fun _ _ => rfl) ?_
      refine mx_J.step (sn_89 19) (fun _ _ => rfl) ?_
      obtain ⟨Z6, h6, hc6, hx6, hG6, hf6, b6⟩ := ct_134_1 (d := d + 0) (l := l) (D := D) (b0 := b0) (ad := ad) (Hb := Hb) (tau := tau) hx4 hG4 (show (-2147483648) ≤ x1 ∧ x1 ≤ 2147483647 by omega) (show Z4 1 1 ≤ 896 by omega)
      obtain ⟨bs6_0, b6⟩ := b6
      have b7 : 0 ≤ Z6 1 1 ∧ Z6 1 1 ≤ 900 := hG6.pr 1 1
      refine Jcv0 hx4 (show mx_Sn _ _ 20 (mx_callv 134 2 11 23) from sn_89 20) a1 s1 hc6 rfl rfl rfl ?_
      refine mx_J.step (sn_89 23) (fun _ _ => rfl) ?_
      refine mx_J.step (sn_89 24) (fun _ _ => rfl) ?_
      obtain ⟨Z8, h8, hc8, hx8, hG8, hf8, b8⟩ := ct_134_1 (d := d + 0) (l := l) (D := D) (b0 := b0) (ad := ad) (Hb := Hb) (tau := tau) hx6 hG6 (show (-2147483648) ≤ x2 ∧ x2 ≤ 2147483647 by omega) (show Z6 1 1 ≤ 896 by omega)
      obtain ⟨bs8_0, b8⟩ := b8
      have b9 : 0 ≤ Z8 1 1 ∧ Z8 1 1 ≤ 900 := hG8.pr 1 1
      refine Jcv0 hx6 (show mx_Sn _ _ 25 (mx_callv 134 2 11 28) from sn_89 25) a1 s1 hc8 rfl rfl rfl ?_
      refine mx_J.step (sn_89 28) (fun _ _ => rfl) ?_
      refine mx_J.step (sn_89 29) (fun _ _ => rfl) ?_
      obtain ⟨Z10, h10, hc10, hx10, hG10, hf10, b10⟩ := ct_134_1 (d := d + 0) (l := l) (D := D) (b0 := b0) (ad := ad) (Hb := Hb) (tau := tau) hx8 hG8 (show (-2147483648) ≤ x3 ∧ x3 ≤ 2147483647 by omega) (show Z8 1 1 ≤ 896 by omega)
      obtain ⟨bs10_0, b10⟩ := b10
      have b11 : 0 ≤ Z10 1 1 ∧ Z10 1 1 ≤ 900 := hG10.pr 1 1
      refine Jcv0 hx8 (show mx_Sn _ _ 31 (mx_callv 134 2 11 34) from sn_89 31) a1 s1 hc10 rfl rfl rfl ?_
      refine mx_J.step (sn_89 34) (fun _ _ => rfl) ?_
      refine mx_J.step (sn_89 35) (fun _ _ => rfl) ?_
      obtain ⟨Z12, h12, hc12, hx12, hG12, hf12, b12⟩ := ct_134_1 (d := d + 0) (l := l) (D := D) (b0 := b0) (ad := ad) (Hb := Hb) (tau := tau) hx10 hG10 (show (-2147483648) ≤ x4 ∧ x4 ≤ 2147483647 by omega) (show Z10 1 1 ≤ 896 by omega)
      obtain ⟨bs12_0, b12⟩ := b12
      have b13 : 0 ≤ Z12 1 1 ∧ Z12 1 1 ≤ 900 := hG12.pr 1 1
      refine Jcv0 hx10 (show mx_Sn _ _ 37 (mx_callv 134 2 11 40) from sn_89 37) a1 s1 hc12 rfl rfl rfl ?_
      refine mx_J.step (sn_89 40) (fun _ _ => rfl) ?_
      refine JgetI (g := 1) (z := Z12 1 1) hx12 (show mx_Sn _ _ 41 (mx_getf 11 1 44) from sn_89 41) a1 s1 rfl rfl rfl ?_
      exact mx_J.ret (sn_89 44) (fun _ _ => rfl) (hP (Z12 1 1) Z12 h12 hx12 hG12 (fr_tr (M := [(1, 1), (2, (-1))]) (fr_tr (M := [(1, 1), (2, (-1))]) (fr_tr (M := [(1, 1), (2, (-1))]) (fr_tr (M := [(1, 1), (2, (-1))]) (fr_tr (M := [(1, 1), (2, (-1))]) fr_rf (hf4) (M1 := []) rfl rfl) (hf6) rfl rfl) (hf8) rfl rfl) (hf10) rfl rfl) (hf12) rfl rfl) ⟨(fun _ => fb_5 (by assumption) (by assumption) (by assumption) (by assumption) (by assumption) (by omega) (by omega) (by omega) (by omega)), (fun q => absurd q (by omega)), by omega⟩)
    · skip
      refine JcI (z := (-5)) (show mx_Sn _ _ 10 (mx_const (.int (-5)) 12) from sn_89 10) rfl ?_
      exact mx_J.ret (sn_89 12) (fun _ _ => rfl) (hP (-5) Z h hx hG fr_rf ⟨(fun q => absurd q (by omega)), (fun _ i => rfl), by omega⟩)
theorem ct_89_1 {l : Launch} {D : va_G} {b0 : Nat} {ad : Nat → Nat} {Hb : Heap} {tau : Nat → Int64} {d n s : Nat} {S : Nat → xS} {Z : xZ} {h : mx_H} (hx : XH n s S Z h) (hG : GI n S Z)  {x0 x1 x2 x3 x4 : Int} (p0 : (-2147483648) ≤ x0 ∧ x0 ≤ 2147483647) (p1 : (-2147483648) ≤ x1 ∧ x1 ≤ 2147483647) (p2 : (-2147483648) ≤ x2 ∧ x2 ≤ 2147483647) (p3 : (-2147483648) ≤ x3 ∧ x3 ≤ 2147483647) (p4 : (-2147483648) ≤ x4 ∧ x4 ≤ 2147483647) : ∃ (z : Int) (Z' : xZ) (h' : mx_H), mx_Ca (tB l D b0 ad Hb tau) (d + 2) 89 [.ref 1, xI x0, xI x1, xI x2, xI x3, xI x4] h (some (xI z), h') ∧ XH n s S Z' h' ∧ GI n S Z' ∧ fr' [(1, 1), (2, (-1))] Z Z' ∧ ((Z 1 1 ≤ 880 → FB Z Z' 2 (Z 1 1) x0 x1 x2 x3 x4) ∧ (880 < Z 1 1 → ∀ i, Z' 2 i = Z 2 i) ∧ (-5) ≤ z ∧ z ≤ 900 ∧ (Z' 1 1 ≤ Z 1 1 + 20 ∧ (880 < Z 1 1 → z = -5 ∧ Z' 1 1 = Z 1 1) ∧ (Z 1 1 ≤ 880 → Z' 1 1 = Z 1 1 + 20 ∧ z = Z 1 1 + 20))) := by
  obtain ⟨r, hca, z, Z', h', e, q⟩ := Jmt (B := tB l D b0 ad Hb tau) (M := mt_89) (mi := 89) (as := [.ref 1, xI x0, xI x1, xI x2, xI x3, xI x4]) (d := d + 1) (ls := [some (.ref 1), some (xI x0), some (xI x1), some (xI x2), some (xI x3), some (xI x4)]) rfl rfl rfl rfl rfl rfl (cw_89_1 (l := l) (D := D) (b0 := b0) (ad := ad) (Hb := Hb) (tau := tau) (d := d) (Post := fun r => ∃ (z : Int) (Z' : xZ) (h' : mx_H), r = (some (xI z), h') ∧ XH n s S Z' h' ∧ GI n S Z' ∧ fr' [(1, 1), (2, (-1))] Z Z' ∧ ((Z 1 1 ≤ 880 → FB Z Z' 2 (Z 1 1) x0 x1 x2 x3 x4) ∧ (880 < Z 1 1 → ∀ i, Z' 2 i = Z 2 i) ∧ (-5) ≤ z ∧ z ≤ 900 ∧ (Z' 1 1 ≤ Z 1 1 + 20 ∧ (880 < Z 1 1 → z = -5 ∧ Z' 1 1 = Z 1 1) ∧ (Z 1 1 ≤ 880 → Z' 1 1 = Z 1 1 + 20 ∧ z = Z 1 1 + 20)))) hx hG p0 p1 p2 p3 p4 (fun z Z' h' q1 q2 q3 q4 => ⟨z, Z', h', rfl, q1, q2, q3, q4⟩))
  subst e; exact ⟨z, Z', h', hca, q⟩
set_option maxRecDepth 100000 in
theorem cw_91_1 {l : Launch} {D : va_G} {b0 : Nat} {ad : Nat → Nat} {Hb : Heap} {tau : Nat → Int64} {d n s : Nat} {S : Nat → xS} {Z : xZ} {h : mx_H} {Post : mx_R → Prop} (hx : XH n s S Z h) (hG : GI n S Z)  {x0 : Int} (p0 : (-2147483648) ≤ x0 ∧ x0 ≤ 2147483647) (hP : ∀ z : Int, (-1) ≤ z ∧ z ≤ 900 ∧ ((x0 = 0 → z = Z 1 2) ∧ (x0 = 1 → z = Z 1 3) ∧ (¬ x0 = 0 → ¬ x0 = 1 → z = -1)) → Post (some (xI z), h)) : mx_J (tB l D b0 ad Hb tau) mt_91 (d + 0) 0 [some (.ref 1), some (xI x0)] [] h Post := by
    have a1 : 1 < n := lt83 (GI_n hG) rfl
    have s1 : S 1 = .inl (11, [2, 0, 0, 0, 2, 2, 2, 2, 2, 2, 2, 2, 2, 2, 2, 2, 2]) := GI_s hG 1 rfl
    refine mx_J.step (sn_91 0) (fun _ _ => rfl) ?_
    refine Jif_ne (show mx_Sn _ _ 1 (mx_if_ne 9 4) from sn_91 1) (by omega) (fun q1 => ?_) (fun q1 => ?_)
    · skip
      refine mx_J.step (sn_91 9) (fun _ _ => rfl) ?_
      refine JcI (z := 1) (show mx_Sn _ _ 10 (mx_const (.int 1) 11) from sn_91 10) rfl ?_
      have c22 : ∀ (k2_0 : Int), (-1) ≤ k2_0 ∧ k2_0 ≤ 900 → ((x0 = 1 → k2_0 = Z 1 3) ∧ (¬ x0 = 1 → k2_0 = -1)) → mx_J (tB l D b0 ad Hb tau) mt_91 (d + 0) 22 [some (.ref 1), some (xI x0)] [xI k2_0] h Post := by
        intro k2_0 f2_0 f2_1
        have b3 : 0 ≤ Z 1 2 ∧ Z 1 2 ≤ 4 := hG.pr 1 2
        have b4 : (-1) ≤ Z 1 3 ∧ Z 1 3 ≤ 900 := hG.pr 1 3
        exact mx_J.ret (sn_91 22) (fun _ _ => rfl) (hP k2_0 (by omega))
      refine Jicmp_ne (show mx_Sn _ _ 11 (mx_icmp_ne 21 14) from sn_91 11) (by omega) (by omega) (fun q5 => ?_) (fun q5 => ?_)
      · skip
        refine JcI (z := (-1)) (show mx_Sn _ _ 21 (mx_const (.int (-1)) 22) from sn_91 21) rfl ?_
        exact c22 (-1) (by omega) (by omega)
      · skip
        refine mx_J.step (sn_91 14) (fun _ _ => rfl) ?_
        have b7 : (-1) ≤ Z 1 3 ∧ Z 1 3 ≤ 900 := hG.pr 1 3
        refine JgetI (g := 3) (z := Z 1 3) hx (show mx_Sn _ _ 15 (mx_getf 11 3 18) from sn_91 15) a1 s1 rfl rfl rfl ?_
        refine mx_J.step (sn_91 18) (fun _ _ => rfl) ?_
        exact c22 (Z 1 3) (by omega) (by omega)
    · skip
      refine mx_J.step (sn_91 4) (fun _ _ => rfl) ?_
      have b9 : 0 ≤ Z 1 2 ∧ Z 1 2 ≤ 4 := hG.pr 1 2
      refine JgetI (g := 2) (z := Z 1 2) hx (show mx_Sn _ _ 5 (mx_getf 11 2 8) from sn_91 5) a1 s1 rfl rfl rfl ?_
      have b10 : (-1) ≤ Z 1 3 ∧ Z 1 3 ≤ 900 := hG.pr 1 3
      exact mx_J.ret (sn_91 8) (fun _ _ => rfl) (hP (Z 1 2) (by omega))
theorem ct_91_1 {l : Launch} {D : va_G} {b0 : Nat} {ad : Nat → Nat} {Hb : Heap} {tau : Nat → Int64} {d n s : Nat} {S : Nat → xS} {Z : xZ} {h : mx_H} (hx : XH n s S Z h) (hG : GI n S Z)  {x0 : Int} (p0 : (-2147483648) ≤ x0 ∧ x0 ≤ 2147483647) : ∃ z : Int, mx_Ca (tB l D b0 ad Hb tau) (d + 1) 91 [.ref 1, xI x0] h (some (xI z), h) ∧ ((-1) ≤ z ∧ z ≤ 900 ∧ ((x0 = 0 → z = Z 1 2) ∧ (x0 = 1 → z = Z 1 3) ∧ (¬ x0 = 0 → ¬ x0 = 1 → z = -1))) := by
  obtain ⟨r, hca, z, e, hp⟩ := Jmt (B := tB l D b0 ad Hb tau) (M := mt_91) (mi := 91) (as := [.ref 1, xI x0]) (d := d + 0) (ls := [some (.ref 1), some (xI x0)]) rfl rfl rfl rfl rfl rfl (cw_91_1 (l := l) (D := D) (b0 := b0) (ad := ad) (Hb := Hb) (tau := tau) (d := d) (Post := fun r => ∃ z : Int, r = (some (xI z), h) ∧ ((-1) ≤ z ∧ z ≤ 900 ∧ ((x0 = 0 → z = Z 1 2) ∧ (x0 = 1 → z = Z 1 3) ∧ (¬ x0 = 0 → ¬ x0 = 1 → z = -1)))) hx hG p0 (fun z hz => ⟨z, rfl, hz⟩))
  subst e; exact ⟨z, hca, hp⟩
set_option maxRecDepth 100000 in
theorem cw_92_1 {l : Launch} {D : va_G} {b0 : Nat} {ad : Nat → Nat} {Hb : Heap} {tau : Nat → Int64} {d n s : Nat} {S : Nat → xS} {Z : xZ} {h : mx_H} {Post : mx_R → Prop} (hx : XH n s S Z h) (hG : GI n S Z)  {x0 : Int} (p0 : (-2147483648) ≤ x0 ∧ x0 ≤ 2147483647) (hP : ∀ z : Int, (-3) ≤ z ∧ z ≤ 18 → Post (some (xI z), h)) : mx_J (tB l D b0 ad Hb tau) mt_92 (d + 2) 0 [some (.ref 1), some (xI x0)] [] h Post := by
    have a1 : 1 < n := lt83 (GI_n hG) rfl
    have s1 : S 1 = .inl (11, [2, 0, 0, 0, 2, 2, 2, 2, 2, 2, 2, 2, 2, 2, 2, 2, 2]) := GI_s hG 1 rfl
    have a7 : 7 < n := lt83 (GI_n hG) rfl
    have s7 : S 7 = .inl (0, [2, 2, 2, 2, 0, 0]) := GI_s hG 7 rfl
    have a36 : 36 < n := lt83 (GI_n hG) rfl
    have s36 : S 36 = .inl (5, [2, 0, 0, 0, 0, 0]) := GI_s hG 36 rfl
    refine mx_J.step (sn_92 0) (fun _ _ => rfl) ?_
    refine Jif_ge (show mx_Sn _ _ 1 (mx_if_ge 7 4) from sn_92 1) (by omega) (fun q1 => ?_) (fun q1 => ?_)
    · skip
      refine mx_J.step (sn_92 7) (fun _ _ => rfl) ?_
      refine mx_J.step (sn_92 8) (fun _ _ => rfl) ?_
      refine JgetR (g := 5) (b := 7) hx (show mx_Sn _ _ 9 (mx_getf 11 5 12) from sn_92 9) a1 s1 rfl rfl (hG.prr 1 5 rfl) ?_
      refine mx_J.step (sn_92 12) (fun _ _ => rfl) ?_
      refine JgetR (g := 12) (b := 36) hx (show mx_Sn _ _ 13 (mx_getf 11 12 16) from sn_92 13) a1 s1 rfl rfl (hG.prr 1 12 rfl) ?_
      have b5 : 0 ≤ Z 36 2 ∧ Z 36 2 ≤ 384 := hG.pr 36 2
      refine JgetI (g := 2) (z := Z 36 2) hx (show mx_Sn _ _ 16 (mx_getf 5 2 19) from sn_92 16) a36 s36 rfl rfl rfl ?_
      have b7 : 0 ≤ Z 7 5 ∧ Z 7 5 ≤ 385 := hG.pr 7 5
      have b8 : 0 ≤ Z 10 (Z 36 2) ∧ Z 10 (Z 36 2) ≤ 18 := hG.pr 10 (Z 36 2)
      obtain ⟨z6, hc6, b6⟩ := ct_5_7 (d := d + 1) (l := l) (D := D) (b0 := b0) (ad := ad) (Hb := Hb) (tau := tau) hx hG (show (-2147483648) ≤ Z 36 2 ∧ Z 36 2 ≤ 2147483647 by omega)
      refine Jcv hx (show mx_Sn _ _ 19 (mx_callv 5 2 0 22) from sn_92 19) a7 s7 hc6 rfl rfl rfl ?_
      have c44 : ∀ (k9_0 : Int), (-1) ≤ k9_0 ∧ k9_0 ≤ 18 → mx_J (tB l D b0 ad Hb tau) mt_92 (d + 2) 44 [some (.ref 1), some (xI x0)] [xI k9_0] h Post := by
        intro k9_0 f9_0
        exact mx_J.ret (sn_92 44) (fun _ _ => rfl) (hP k9_0 (by omega))
      refine Jicmp_ge (show mx_Sn _ _ 22 (mx_icmp_ge 43 25) from sn_92 22) (by omega) (by omega) (fun q10 => ?_) (fun q10 => ?_)
      · skip
        refine JcI (z := (-1)) (show mx_Sn _ _ 43 (mx_const (.int (-1)) 44) from sn_92 43) rfl ?_
        exact c44 (-1) (by omega)
      · skip
        refine mx_J.step (sn_92 25) (fun _ _ => rfl) ?_
        refine JgetR (g := 5) (b := 7) hx (show mx_Sn _ _ 26 (mx_getf 11 5 29) from sn_92 26) a1 s1 rfl rfl (hG.prr 1 5 rfl) ?_
        refine mx_J.step (sn_92 29) (fun _ _ => rfl) ?_
        refine JgetR (g := 12) (b := 36) hx (show mx_Sn _ _ 30 (mx_getf 11 12 33) from sn_92 30) a1 s1 rfl rfl (hG.prr 1 12 rfl) ?_
        refine JgetI (g := 2) (z := Z 36 2) hx (show mx_Sn _ _ 33 (mx_getf 5 2 36) from sn_92 33) a36 s36 rfl rfl rfl ?_
        refine mx_J.step (sn_92 36) (fun _ _ => rfl) ?_
        have b15 : 0 ≤ Z 9 ((Z 36 2) * 18 + x0) ∧ Z 9 ((Z 36 2) * 18 + x0) ≤ 18 := hG.pr 9 ((Z 36 2) * 18 + x0)
        obtain ⟨z14, hc14, b14⟩ := ct_6_7 (d := d + 0) (l := l) (D := D) (b0 := b0) (ad := ad) (Hb := Hb) (tau := tau) hx hG (show (-2147483648) ≤ Z 36 2 ∧ Z 36 2 ≤ 2147483647 by omega) (show (-2147483648) ≤ x0 ∧ x0 ≤ 2147483647 by omega)
        refine Jcv hx (show mx_Sn _ _ 37 (mx_callv 6 3 0 40) from sn_92 37) a7 s7 hc14 rfl rfl rfl ?_
        refine mx_J.step (sn_92 40) (fun _ _ => rfl) ?_
        exact c44 z14 (by omega)
    · skip
      refine JcI (z := (-3)) (show mx_Sn _ _ 4 (mx_const (.int (-3)) 6) from sn_92 4) rfl ?_
      exact mx_J.ret (sn_92 6) (fun _ _ => rfl) (hP (-3) (by omega))
theorem ct_92_1 {l : Launch} {D : va_G} {b0 : Nat} {ad : Nat → Nat} {Hb : Heap} {tau : Nat → Int64} {d n s : Nat} {S : Nat → xS} {Z : xZ} {h : mx_H} (hx : XH n s S Z h) (hG : GI n S Z)  {x0 : Int} (p0 : (-2147483648) ≤ x0 ∧ x0 ≤ 2147483647) : ∃ z : Int, mx_Ca (tB l D b0 ad Hb tau) (d + 3) 92 [.ref 1, xI x0] h (some (xI z), h) ∧ ((-3) ≤ z ∧ z ≤ 18) := by
  obtain ⟨r, hca, z, e, hp⟩ := Jmt (B := tB l D b0 ad Hb tau) (M := mt_92) (mi := 92) (as := [.ref 1, xI x0]) (d := d + 2) (ls := [some (.ref 1), some (xI x0)]) rfl rfl rfl rfl rfl rfl (cw_92_1 (l := l) (D := D) (b0 := b0) (ad := ad) (Hb := Hb) (tau := tau) (d := d) (Post := fun r => ∃ z : Int, r = (some (xI z), h) ∧ ((-3) ≤ z ∧ z ≤ 18)) hx hG p0 (fun z hz => ⟨z, rfl, hz⟩))
  subst e; exact ⟨z, hca, hp⟩
set_option maxRecDepth 100000 in
theorem cw_31_12_C {l : Launch} {D : va_G} {b0 : Nat} {ad : Nat → Nat} {Hb : Heap} {tau : Nat → Int64} {d n s : Nat} {S : Nat → xS} {Z : xZ} {h : mx_H} {Post : mx_R → Prop} (hx : XH n s S Z h) (hG : GI n S Z) {c0 len0 : Nat} (oc0 : okC c0) (ac0 : c0 < n) (lc0 : len0 ≤ 900) (sc0 : S c0 = .inr (.int, len0, 0))  (hP : ∀ (z : Int) (Z' : xZ) (h' : mx_H), XH n s S Z' h' → GI n S Z' → fr' [(18, (-1))] Z Z' → (-2147483648) ≤ z ∧ z ≤ 2147483647 → Post (some (xI z), h')) : mx_J (tB l D b0 ad Hb tau) mt_31 (d + 0) 0 [some (.ref 12), some (.ref c0), none, none, none, none, none, none, none, none] [] h Post := by
    have a12 : 12 < n := lt83 (GI_n hG) rfl
    have s12 : S 12 = .inl (4, [2, 2, 0, 2, 2, 2, 2, 2, 2]) := GI_s hG 12 rfl
    have a17 : 17 < n := lt83 (GI_n hG) rfl
    have s17 : S 17 = .inr (.int, 5, 0) := GI_s hG 17 rfl
    have a18 : 18 < n := lt83 (GI_n hG) rfl
    have s18 : S 18 = .inr (.int, 64, 0) := GI_s hG 18 rfl
    refine JcI (z := (-1)) (show mx_Sn _ _ 0 (mx_const (.int (-1)) 1) from sn_31 0) rfl ?_
    refine mx_J.step (ls2 := [some (.ref 12), some (.ref c0), some (xI (-1)), none, none, none, none, none, none, none]) (sn_31 1) (fun _ _ => rfl) ?_
    refine JcI (z := 0) (show mx_Sn _ _ 2 (mx_const (.int 0) 3) from sn_31 2) rfl ?_
    refine mx_J.step (ls2 := [some (.ref 12), some (.ref c0), some (xI (-1)), some (xI 0), none, none, none, none, none, none]) (sn_31 3) (fun _ _ => rfl) ?_
    have c4 : ∀ (m1 : Nat) (w1_2 : Int) (w1_3 : Int) (u1_4 : Option Value) (u1_5 : Option Value) (u1_6 : Option Value) (u1_7 : Option Value) (u1_8 : Option Value) (u1_9 : Option Value) (Z2 : xZ) (h2 : mx_H), 900 - w1_3 < (m1 : Int) → (-1) ≤ w1_2 ∧ w1_2 ≤ 63 → 0 ≤ w1_3 ∧ w1_3 ≤ 900 → XH n s S Z2 h2 → GI n S Z2 → fr' [(18, (-1))] Z Z2 → mx_J (tB l D b0 ad Hb tau) mt_31 (d + 0) 4 [some (.ref 12), some (.ref c0), some (xI w1_2), some (xI w1_3), u1_4, u1_5, u1_6, u1_7, u1_8, u1_9] [] h2 Post := by
      intro m1
      induction m1 with
      | zero => intro w1_2 w1_3 u1_4 u1_5 u1_6 u1_7 u1_8 u1_9 Z2 h2 q1 f1_0 f1_1 hx2 hG2 hf2; exact absurd q1 (by omega)
      | succ m1 ih1 =>
        intro w1_2 w1_3 u1_4 u1_5 u1_6 u1_7 u1_8 u1_9 Z2 h2 q1 f1_0 f1_1 hx2 hG2 hf2
        refine mx_J.step (sn_31 4) (fun _ _ => rfl) ?_
        refine mx_J.step (sn_31 5) (fun _ _ => rfl) ?_
        refine JalenI (z := (len0 : Int)) hx2 (show mx_Sn _ _ 6 (mx_alen 7) from sn_31 6) ac0 sc0 (by decide) rfl ?_
        refine Jicmp_ge (show mx_Sn _ _ 7 (mx_icmp_ge 389 10) from sn_31 7) (by omega) (by omega) (fun q3 => ?_) (fun q3 => ?_)
        · skip
          refine mx_J.step (sn_31 389) (fun _ _ => rfl) ?_
          have c403 : ∀ (k4_0 : Int), (-2147483648) ≤ k4_0 ∧ k4_0 ≤ 2147483647 → mx_J (tB l D b0 ad Hb tau) mt_31 (d + 0) 403 [some (.ref 12), some (.ref c0), some (xI w1_2), some (xI w1_3), u1_4, u1_5, u1_6, u1_7, u1_8, u1_9] [xI k4_0] h2 Post := by
            intro k4_0 f4_0
            exact mx_J.ret (sn_31 403) (fun _ _ => rfl) (hP k4_0 Z2 h2 hx2 hG2 (fr_tr (M := [(18, (-1))]) fr_rf (hf2) (M1 := []) rfl rfl) (by omega))
          refine Jif_ge (show mx_Sn _ _ 390 (mx_if_ge 397 393) from sn_31 390) (by omega) (fun q5 => ?_) (fun q5 => ?_)
          · skip
            refine mx_J.step (sn_31 397) (fun _ _ => rfl) ?_
            refine JgetR (g := 7) (b := 18) hx2 (show mx_Sn _ _ 398 (mx_getf 4 7 401) from sn_31 398) a12 s12 rfl rfl (hG2.prr 12 7 rfl) ?_
            refine JcI (z := 0) (show mx_Sn _ _ 401 (mx_const (.int 0) 402) from sn_31 401) rfl ?_
            have b7 : (-2147483648) ≤ Z2 18 0 ∧ Z2 18 0 ≤ 2147483647 := hG2.pr 18 0
            refine JialdI (z := Z2 18 0) hx2 (show mx_Sn _ _ 402 (mx_iald 403) from sn_31 402) a18 s18 (by omega) rfl ?_
            exact c403 (Z2 18 0) (by omega)
          · skip
            refine JcI (z := 0) (show mx_Sn _ _ 393 (mx_const (.int 0) 394) from sn_31 393) rfl ?_
            refine mx_J.step (sn_31 394) (fun _ _ => rfl) ?_
            exact c403 0 (by omega)
        · skip
          refine mx_J.step (sn_31 10) (fun _ _ => rfl) ?_
          refine mx_J.step (sn_31 11) (fun _ _ => rfl) ?_
          have b8 : 0 ≤ Z2 c0 w1_3 ∧ Z2 c0 w1_3 ≤ 1019 ∧ (Z2 c0 w1_3 ≤ 1004 ∨ 1010 ≤ Z2 c0 w1_3) := GI_cd hG2 oc0 ac0 sc0 w1_3 (by omega) (by omega)
          refine JialdI (z := Z2 c0 w1_3) hx2 (show mx_Sn _ _ 12 (mx_iald 13) from sn_31 12) ac0 sc0 (by omega) rfl ?_
          refine mx_J.step (ls2 := [some (.ref 12), some (.ref c0), some (xI w1_2), some (xI w1_3), some (xI (Z2 c0 w1_3)), u1_5, u1_6, u1_7, u1_8, u1_9]) (sn_31 13) (fun _ _ => rfl) ?_
          refine mx_J.step (sn_31 15) (fun _ _ => rfl) ?_
          refine JcI (z := 1004) (show mx_Sn _ _ 17 (mx_const (.int 1004) 20) from sn_31 17) rfl ?_
          have c52 : ∀ (k9_0 : Int), 0 ≤ k9_0 ∧ k9_0 ≤ 3 → ((k9_0 = 0 ∧ (Z2 c0 w1_3) ≤ 1004) ∨ (1004 < (Z2 c0 w1_3) ∧ ((Z2 c0 w1_3) = 1018 → k9_0 = 1) ∧ ((Z2 c0 w1_3) = 1019 → k9_0 = 3) ∧ (¬ (Z2 c0 w1_3) = 1018 → ¬ (Z2 c0 w1_3) = 1019 → k9_0 = 2))) → mx_J (tB l D b0 ad Hb tau) mt_31 (d + 0) 52 [some (.ref 12), some (.ref c0), some (xI w1_2), some (xI w1_3), some (xI (Z2 c0 w1_3)), u1_5, u1_6, u1_7, u1_8, u1_9] [xI k9_0] h2 Post := by
            intro k9_0 f9_0 f9_1
            refine mx_J.step (ls2 := [some (.ref 12), some (.ref c0), some (xI w1_2), some (xI w1_3), some (xI (Z2 c0 w1_3)), some (xI k9_0), u1_6, u1_7, u1_8, u1_9]) (sn_31 52) (fun _ _ => rfl) ?_
            refine mx_J.step (sn_31 54) (fun _ _ => rfl) ?_
            refine JcI (z := 1) (show mx_Sn _ _ 55 (mx_const (.int 1) 56) from sn_31 55) rfl ?_
            refine Jiadd (show mx_Sn _ _ 56 (mx_iadd 57) from sn_31 56) ?_
            refine mx_J.step (sn_31 57) (fun _ _ => rfl) ?_
            have c76 : mx_J (tB l D b0 ad Hb tau) mt_31 (d + 0) 76 [some (.ref 12), some (.ref c0), some (xI w1_2), some (xI w1_3), some (xI (Z2 c0 w1_3)), some (xI k9_0), u1_6, u1_7, u1_8, u1_9] [] h2 Post := by
              refine JcI (z := 0) (show mx_Sn _ _ 76 (mx_const (.int 0) 77) from sn_31 76) rfl ?_
              exact mx_J.ret (sn_31 77) (fun _ _ => rfl) (hP 0 Z2 h2 hx2 hG2 (fr_tr (M := [(18, (-1))]) fr_rf (hf2) (M1 := []) rfl rfl) (by omega))
            refine Jicmp_lt (show mx_Sn _ _ 59 (mx_icmp_lt 76 62) from sn_31 59) (by omega) (by omega) (fun q11 => ?_) (fun q11 => ?_)
            · skip
              exact c76 
            · skip
              refine mx_J.step (sn_31 62) (fun _ _ => rfl) ?_
              refine JcI (z := 1) (show mx_Sn _ _ 63 (mx_const (.int 1) 64) from sn_31 63) rfl ?_
              refine Jiadd (show mx_Sn _ _ 64 (mx_iadd 65) from sn_31 64) ?_
              refine mx_J.step (sn_31 65) (fun _ _ => rfl) ?_
              refine Jisub (show mx_Sn _ _ 67 (mx_isub 68) from sn_31 67) ?_
              refine mx_J.step (sn_31 68) (fun _ _ => rfl) ?_
              refine JgetR (g := 7) (b := 18) hx2 (show mx_Sn _ _ 69 (mx_getf 4 7 72) from sn_31 69) a12 s12 rfl rfl (hG2.prr 12 7 rfl) ?_
              refine JalenI (z := 64) hx2 (show mx_Sn _ _ 72 (mx_alen 73) from sn_31 72) a18 s18 (by decide) rfl ?_
              refine Jicmp_lt (show mx_Sn _ _ 73 (mx_icmp_lt 78 76) from sn_31 73) (by omega) (by omega) (fun q13 => ?_) (fun q13 => ?_)
              · skip
                refine mx_J.step (sn_31 78) (fun _ _ => rfl) ?_
                refine JcI (z := 1) (show mx_Sn _ _ 79 (mx_const (.int 1) 80) from sn_31 79) rfl ?_
                refine mx_J.step (sn_31 80) (fun _ _ => rfl) ?_
                refine Jisub (show mx_Sn _ _ 82 (mx_isub 83) from sn_31 82) ?_
                refine Jiadd (show mx_Sn _ _ 83 (mx_iadd 84) from sn_31 83) ?_
                refine mx_J.step (ls2 := [some (.ref 12), some (.ref c0), some (xI (w1_2 + (1 - k9_0))), some (xI w1_3), some (xI (Z2 c0 w1_3)), some (xI k9_0), u1_6, u1_7, u1_8, u1_9]) (sn_31 84) (fun _ _ => rfl) ?_
                refine mx_J.step (sn_31 85) (fun _ _ => rfl) ?_
                refine JgetR (g := 7) (b := 18) hx2 (show mx_Sn _ _ 86 (mx_getf 4 7 89) from sn_31 86) a12 s12 rfl rfl (hG2.prr 12 7 rfl) ?_
                refine mx_J.step (sn_31 89) (fun _ _ => rfl) ?_
                have b15 : (-2147483648) ≤ Z2 18 (w1_2 + (1 - k9_0)) ∧ Z2 18 (w1_2 + (1 - k9_0)) ≤ 2147483647 := hG2.pr 18 (w1_2 + (1 - k9_0))
                refine JialdI (z := Z2 18 (w1_2 + (1 - k9_0))) hx2 (show mx_Sn _ _ 90 (mx_iald 91) from sn_31 90) a18 s18 (by omega) rfl ?_
                refine mx_J.step (ls2 := [some (.ref 12), some (.ref c0), some (xI (w1_2 + (1 - k9_0))), some (xI w1_3), some (xI (Z2 c0 w1_3)), some (xI k9_0), some (xI (Z2 18 (w1_2 + (1 - k9_0)))), u1_7, u1_8, u1_9]) (sn_31 91) (fun _ _ => rfl) ?_
                refine mx_J.step (sn_31 93) (fun _ _ => rfl) ?_
                refine JcI (z := 1) (show mx_Sn _ _ 95 (mx_const (.int 1) 96) from sn_31 95) rfl ?_
                have c111 : ∀ (k16_0 : Int), (-2147483648) ≤ k16_0 ∧ k16_0 ≤ 2147483647 → mx_J (tB l D b0 ad Hb tau) mt_31 (d + 0) 111 [some (.ref 12), some (.ref c0), some (xI (w1_2 + (1 - k9_0))), some (xI w1_3), some (xI (Z2 c0 w1_3)), some (xI k9_0), some (xI (Z2 18 (w1_2 + (1 - k9_0)))), u1_7, u1_8, u1_9] [xI k16_0] h2 Post := by
                  intro k16_0 f16_0
                  refine mx_J.step (ls2 := [some (.ref 12), some (.ref c0), some (xI (w1_2 + (1 - k9_0))), some (xI w1_3), some (xI (Z2 c0 w1_3)), some (xI k9_0), some (xI (Z2 18 (w1_2 + (1 - k9_0)))), some (xI k16_0), u1_8, u1_9]) (sn_31 111) (fun _ _ => rfl) ?_
                  refine JcL (z := 0) (show mx_Sn _ _ 113 (mx_const (.long 0) 114) from sn_31 113) rfl ?_
                  refine mx_J.step (ls2 := [some (.ref 12), some (.ref c0), some (xI (w1_2 + (1 - k9_0))), some (xI w1_3), some (xI (Z2 c0 w1_3)), some (xI k9_0), some (xI (Z2 18 (w1_2 + (1 - k9_0)))), some (xI k16_0), some (xL 0), none]) (sn_31 114) (fun _ _ => rfl) ?_
                  refine mx_J.step (sn_31 116) (fun _ _ => rfl) ?_
                  have c344 : ∀ (w17_8 : Int), (-9223372036854775808) ≤ w17_8 ∧ w17_8 ≤ 9223372036854775807 → mx_J (tB l D b0 ad Hb tau) mt_31 (d + 0) 344 [some (.ref 12), some (.ref c0), some (xI (w1_2 + (1 - k9_0))), some (xI w1_3), some (xI (Z2 c0 w1_3)), some (xI k9_0), some (xI (Z2 18 (w1_2 + (1 - k9_0)))), some (xI k16_0), some (xL w17_8), none] [] h2 Post := by
                    intro w17_8 f17_0
                    refine mx_J.step (sn_31 344) (fun _ _ => rfl) ?_
                    refine JgetR (g := 7) (b := 18) hx2 (show mx_Sn _ _ 345 (mx_getf 4 7 348) from sn_31 345) a12 s12 rfl rfl (hG2.prr 12 7 rfl) ?_
                    refine mx_J.step (sn_31 348) (fun _ _ => rfl) ?_
                    refine mx_J.step (sn_31 349) (fun _ _ => rfl) ?_
                    refine JcL (z := 1000000) (show mx_Sn _ _ 351 (mx_const (.long 1000000) 354) from sn_31 351) rfl ?_
                    have c381 : ∀ (k19_2 : Int), (-1000000) ≤ k19_2 ∧ k19_2 ≤ 1000000 → mx_J (tB l D b0 ad Hb tau) mt_31 (d + 0) 381 [some (.ref 12), some (.ref c0), some (xI (w1_2 + (1 - k9_0))), some (xI w1_3), some (xI (Z2 c0 w1_3)), some (xI k9_0), some (xI (Z2 18 (w1_2 + (1 - k9_0)))), some (xI k16_0), some (xL w17_8), none] [xL k19_2, xI (w1_2 + (1 - k9_0)), .ref 18] h2 Post := by
                      intro k19_2 f19_0
                      refine Jl2i (show mx_Sn _ _ 381 (mx_l2i 382) from sn_31 381) ?_
                      refine JiastI hx2 (show mx_Sn _ _ 382 (mx_iast 1 383) from sn_31 382) a18 s18 rfl (by omega) (fun Z20 h20 hx20 hE20 => ?_)
                      have hG20 := GI_up hG2 hE20 (show (-2147483648) ≤ k19_2 ∧ k19_2 ≤ 2147483647 by omega) trivial rfl
                      refine Jiinc (z := w1_3) (cz := 1) (ls2 := [some (.ref 12), some (.ref c0), some (xI (w1_2 + (1 - k9_0))), some (xI (w1_3 + 1)), some (xI (Z2 c0 w1_3)), some (xI k9_0), some (xI (Z2 18 (w1_2 + (1 - k9_0)))), some (xI k16_0), some (xL w17_8), none]) (show mx_Sn _ _ 383 (mx_iinc 3 1 386) from sn_31 383) rfl rfl rfl rfl ?_
                      refine mx_J.step (sn_31 386) (fun _ _ => rfl) ?_
                      exact ih1 (w1_2 + (1 - k9_0)) (w1_3 + 1) (some (xI (Z2 c0 w1_3))) (some (xI k9_0)) (some (xI (Z2 18 (w1_2 + (1 - k9_0))))) (some (xI k16_0)) (some (xL w17_8)) none Z20 h20 (by omega) (by omega) (by omega) hx20 hG20 (fr_tr (M := [(18, (-1))]) (fr_tr (M := [(18, (-1))]) fr_rf (hf2) (M1 := []) rfl rfl) (fr_ua hE20) rfl rfl)
                    refine Jlif_le (show mx_Sn _ _ 354 (mx_lif_le 364 358) from sn_31 354) (by omega) (by omega) (fun q21 => ?_) (fun q21 => ?_)
                    · skip
                      refine mx_J.step (sn_31 364) (fun _ _ => rfl) ?_
                      refine JcL (z := (-1000000)) (show mx_Sn _ _ 366 (mx_const (.long (-1000000)) 369) from sn_31 366) rfl ?_
                      refine Jlif_ge (show mx_Sn _ _ 369 (mx_lif_ge 379 373) from sn_31 369) (by omega) (by omega) (fun q22 => ?_) (fun q22 => ?_)
                      · skip
                        refine mx_J.step (sn_31 379) (fun _ _ => rfl) ?_
                        exact c381 w17_8 (by omega)
                      · skip
                        refine JcL (z := (-1000000)) (show mx_Sn _ _ 373 (mx_const (.long (-1000000)) 376) from sn_31 373) rfl ?_
                        refine mx_J.step (sn_31 376) (fun _ _ => rfl) ?_
                        exact c381 (-1000000) (by omega)
                    · skip
                      refine JcL (z := 1000000) (show mx_Sn _ _ 358 (mx_const (.long 1000000) 361) from sn_31 358) rfl ?_
                      refine mx_J.step (sn_31 361) (fun _ _ => rfl) ?_
                      exact c381 1000000 (by omega)
                  refine Jtsw (z := Z2 c0 w1_3) (show mx_Sn _ _ 118 (mx_tsw 1010 1019 [172, 184, 196, 208, 225, 242, 259, 270, 281, 291] 316) from sn_31 118) (by omega) (fun q23 => ?_) (fun q23 => ?_)
                  · skip
                    refine mx_J.step (sn_31 316) (fun _ _ => rfl) ?_
                    refine JcI (z := 1000) (show mx_Sn _ _ 318 (mx_const (.int 1000) 321) from sn_31 318) rfl ?_
                    have c342 : ∀ (k24_0 : Int), (-2147483648) ≤ k24_0 ∧ k24_0 ≤ 2147483647 → mx_J (tB l D b0 ad Hb tau) mt_31 (d + 0) 342 [some (.ref 12), some (.ref c0), some (xI (w1_2 + (1 - k9_0))), some (xI w1_3), some (xI (Z2 c0 w1_3)), some (xI k9_0), some (xI (Z2 18 (w1_2 + (1 - k9_0)))), some (xI k16_0), some (xL 0), none] [xL k24_0] h2 Post := by
                      intro k24_0 f24_0
                      refine mx_J.step (ls2 := [some (.ref 12), some (.ref c0), some (xI (w1_2 + (1 - k9_0))), some (xI w1_3), some (xI (Z2 c0 w1_3)), some (xI k9_0), some (xI (Z2 18 (w1_2 + (1 - k9_0)))), some (xI k16_0), some (xL k24_0), none]) (sn_31 342) (fun _ _ => rfl) ?_
                      exact c344 k24_0 (by omega)
                    refine Jicmp_ge (show mx_Sn _ _ 321 (mx_icmp_ge 330 324) from sn_31 321) (by omega) (by omega) (fun q25 => ?_) (fun q25 => ?_)
                    · skip
                      refine mx_J.step (sn_31 330) (fun _ _ => rfl) ?_
                      refine JgetR (g := 6) (b := 17) hx2 (show mx_Sn _ _ 331 (mx_getf 4 6 334) from sn_31 331) a12 s12 rfl rfl (hG2.prr 12 6 rfl) ?_
                      refine mx_J.step (sn_31 334) (fun _ _ => rfl) ?_
                      refine JcI (z := 1000) (show mx_Sn _ _ 336 (mx_const (.int 1000) 339) from sn_31 336) rfl ?_
                      refine Jisub (show mx_Sn _ _ 339 (mx_isub 340) from sn_31 339) ?_
                      have b27 : (-2147483648) ≤ Z 17 ((Z2 c0 w1_3) - 1000) ∧ Z 17 ((Z2 c0 w1_3) - 1000) ≤ 2147483647 := hG.pr 17 ((Z2 c0 w1_3) - 1000)
                      refine JialdI (z := Z 17 ((Z2 c0 w1_3) - 1000)) hx2 (show mx_Sn _ _ 340 (mx_iald 341) from sn_31 340) a17 s17 (by omega) (hf2 17 ((Z2 c0 w1_3) - 1000) rfl) ?_
                      refine Ji2l (show mx_Sn _ _ 341 (mx_i2l 342) from sn_31 341) (by omega) ?_
                      exact c342 (Z 17 ((Z2 c0 w1_3) - 1000)) (by omega)
                    · skip
                      refine mx_J.step (sn_31 324) (fun _ _ => rfl) ?_
                      refine Ji2l (show mx_Sn _ _ 326 (mx_i2l 327) from sn_31 326) (by omega) ?_
                      refine mx_J.step (sn_31 327) (fun _ _ => rfl) ?_
                      exact c342 (Z2 c0 w1_3) (by omega)
                  · skip
                    have e23 : Z2 c0 w1_3 = 1010 ∨ Z2 c0 w1_3 = 1011 ∨ Z2 c0 w1_3 = 1012 ∨ Z2 c0 w1_3 = 1013 ∨ Z2 c0 w1_3 = 1014 ∨ Z2 c0 w1_3 = 1015 ∨ Z2 c0 w1_3 = 1016 ∨ Z2 c0 w1_3 = 1017 ∨ Z2 c0 w1_3 = 1018 ∨ Z2 c0 w1_3 = 1019 := by omega
                    rcases e23 with e23 | e23 | e23 | e23 | e23 | e23 | e23 | e23 | e23 | e23
                    · refine ⟨172, by rw [e23]; rfl, ?_⟩
                      refine mx_J.step (sn_31 172) (fun _ _ => rfl) ?_
                      refine Ji2l (show mx_Sn _ _ 174 (mx_i2l 175) from sn_31 174) (by omega) ?_
                      refine mx_J.step (sn_31 175) (fun _ _ => rfl) ?_
                      refine Ji2l (show mx_Sn _ _ 177 (mx_i2l 178) from sn_31 177) (by omega) ?_
                      refine Jladd (show mx_Sn _ _ 178 (mx_ladd 179) from sn_31 178) ?_
                      refine mx_J.step (ls2 := [some (.ref 12), some (.ref c0), some (xI (w1_2 + (1 - k9_0))), some (xI w1_3), some (xI (Z2 c0 w1_3)), some (xI k9_0), some (xI (Z2 18 (w1_2 + (1 - k9_0)))), some (xI k16_0), some (xL ((Z2 18 (w1_2 + (1 - k9_0))) + k16_0)), none]) (sn_31 179) (fun _ _ => rfl) ?_
                      refine mx_J.step (sn_31 181) (fun _ _ => rfl) ?_
                      exact c344 ((Z2 18 (w1_2 + (1 - k9_0))) + k16_0) (by omega)
                    · refine ⟨184, by rw [e23]; rfl, ?_⟩
                      refine mx_J.step (sn_31 184) (fun _ _ => rfl) ?_
                      refine Ji2l (show mx_Sn _ _ 186 (mx_i2l 187) from sn_31 186) (by omega) ?_
                      refine mx_J.step (sn_31 187) (fun _ _ => rfl) ?_
                      refine Ji2l (show mx_Sn _ _ 189 (mx_i2l 190) from sn_31 189) (by omega) ?_
                      refine Jlsub (show mx_Sn _ _ 190 (mx_lsub 191) from sn_31 190) ?_
                      refine mx_J.step (ls2 := [some (.ref 12), some (.ref c0), some (xI (w1_2 + (1 - k9_0))), some (xI w1_3), some (xI (Z2 c0 w1_3)), some (xI k9_0), some (xI (Z2 18 (w1_2 + (1 - k9_0)))), some (xI k16_0), some (xL ((Z2 18 (w1_2 + (1 - k9_0))) - k16_0)), none]) (sn_31 191) (fun _ _ => rfl) ?_
                      refine mx_J.step (sn_31 193) (fun _ _ => rfl) ?_
                      exact c344 ((Z2 18 (w1_2 + (1 - k9_0))) - k16_0) (by omega)
                    · refine ⟨196, by rw [e23]; rfl, ?_⟩
                      refine mx_J.step (sn_31 196) (fun _ _ => rfl) ?_
                      refine Ji2l (show mx_Sn _ _ 198 (mx_i2l 199) from sn_31 198) (by omega) ?_
                      refine mx_J.step (sn_31 199) (fun _ _ => rfl) ?_
                      refine Ji2l (show mx_Sn _ _ 201 (mx_i2l 202) from sn_31 201) (by omega) ?_
                      refine JlmulN (show mx_Sn _ _ 202 (mx_lmul 203) from sn_31 202) (fun y28 hy28 hq28 => ?_)
                      refine mx_J.step (ls2 := [some (.ref 12), some (.ref c0), some (xI (w1_2 + (1 - k9_0))), some (xI w1_3), some (xI (Z2 c0 w1_3)), some (xI k9_0), some (xI (Z2 18 (w1_2 + (1 - k9_0)))), some (xI k16_0), some (xL y28), none]) (sn_31 203) (fun _ _ => rfl) ?_
                      refine mx_J.step (sn_31 205) (fun _ _ => rfl) ?_
                      exact c344 y28 (by omega)
                    · refine ⟨208, by rw [e23]; rfl, ?_⟩
                      refine mx_J.step (sn_31 208) (fun _ _ => rfl) ?_
                      refine mx_J.step (sn_31 210) (fun _ _ => rfl) ?_
                      have c220 : ∀ (k29_0 : Int), 0 ≤ k29_0 ∧ k29_0 ≤ 1 → mx_J (tB l D b0 ad Hb tau) mt_31 (d + 0) 220 [some (.ref 12), some (.ref c0), some (xI (w1_2 + (1 - k9_0))), some (xI w1_3), some (xI (Z2 c0 w1_3)), some (xI k9_0), some (xI (Z2 18 (w1_2 + (1 - k9_0)))), some (xI k16_0), some (xL 0), none] [xL k29_0] h2 Post := by
                        intro k29_0 f29_0
                        refine mx_J.step (ls2 := [some (.ref 12), some (.ref c0), some (xI (w1_2 + (1 - k9_0))), some (xI w1_3), some (xI (Z2 c0 w1_3)), some (xI k9_0), some (xI (Z2 18 (w1_2 + (1 - k9_0)))), some (xI k16_0), some (xL k29_0), none]) (sn_31 220) (fun _ _ => rfl) ?_
                        refine mx_J.step (sn_31 222) (fun _ _ => rfl) ?_
                        exact c344 k29_0 (by omega)
                      refine Jicmp_ne (show mx_Sn _ _ 212 (mx_icmp_ne 219 215) from sn_31 212) (by omega) (by omega) (fun q30 => ?_) (fun q30 => ?_)
                      · skip
                        refine JcL (z := 0) (show mx_Sn _ _ 219 (mx_const (.long 0) 220) from sn_31 219) rfl ?_
                        exact c220 0 (by omega)
                      · skip
                        refine JcL (z := 1) (show mx_Sn _ _ 215 (mx_const (.long 1) 216) from sn_31 215) rfl ?_
                        refine mx_J.step (sn_31 216) (fun _ _ => rfl) ?_
                        exact c220 1 (by omega)
                    · refine ⟨225, by rw [e23]; rfl, ?_⟩
                      refine mx_J.step (sn_31 225) (fun _ _ => rfl) ?_
                      refine mx_J.step (sn_31 227) (fun _ _ => rfl) ?_
                      have c237 : ∀ (k31_0 : Int), 0 ≤ k31_0 ∧ k31_0 ≤ 1 → mx_J (tB l D b0 ad Hb tau) mt_31 (d + 0) 237 [some (.ref 12), some (.ref c0), some (xI (w1_2 + (1 - k9_0))), some (xI w1_3), some (xI (Z2 c0 w1_3)), some (xI k9_0), some (xI (Z2 18 (w1_2 + (1 - k9_0)))), some (xI k16_0), some (xL 0), none] [xL k31_0] h2 Post := by
                        intro k31_0 f31_0
                        refine mx_J.step (ls2 := [some (.ref 12), some (.ref c0), some (xI (w1_2 + (1 - k9_0))), some (xI w1_3), some (xI (Z2 c0 w1_3)), some (xI k9_0), some (xI (Z2 18 (w1_2 + (1 - k9_0)))), some (xI k16_0), some (xL k31_0), none]) (sn_31 237) (fun _ _ => rfl) ?_
                        refine mx_J.step (sn_31 239) (fun _ _ => rfl) ?_
                        exact c344 k31_0 (by omega)
                      refine Jicmp_ge (show mx_Sn _ _ 229 (mx_icmp_ge 236 232) from sn_31 229) (by omega) (by omega) (fun q32 => ?_) (fun q32 => ?_)
                      · skip
                        refine JcL (z := 0) (show mx_Sn _ _ 236 (mx_const (.long 0) 237) from sn_31 236) rfl ?_
                        exact c237 0 (by omega)
                      · skip
                        refine JcL (z := 1) (show mx_Sn _ _ 232 (mx_const (.long 1) 233) from sn_31 232) rfl ?_
                        refine mx_J.step (sn_31 233) (fun _ _ => rfl) ?_
                        exact c237 1 (by omega)
                    · refine ⟨242, by rw [e23]; rfl, ?_⟩
                      refine mx_J.step (sn_31 242) (fun _ _ => rfl) ?_
                      refine mx_J.step (sn_31 244) (fun _ _ => rfl) ?_
                      have c254 : ∀ (k33_0 : Int), 0 ≤ k33_0 ∧ k33_0 ≤ 1 → mx_J (tB l D b0 ad Hb tau) mt_31 (d + 0) 254 [some (.ref 12), some (.ref c0), some (xI (w1_2 + (1 - k9_0))), some (xI w1_3), some (xI (Z2 c0 w1_3)), some (xI k9_0), some (xI (Z2 18 (w1_2 + (1 - k9_0)))), some (xI k16_0), some (xL 0), none] [xL k33_0] h2 Post := by
                        intro k33_0 f33_0
                        refine mx_J.step (ls2 := [some (.ref 12), some (.ref c0), some (xI (w1_2 + (1 - k9_0))), some (xI w1_3), some (xI (Z2 c0 w1_3)), some (xI k9_0), some (xI (Z2 18 (w1_2 + (1 - k9_0)))), some (xI k16_0), some (xL k33_0), none]) (sn_31 254) (fun _ _ => rfl) ?_
                        refine mx_J.step (sn_31 256) (fun _ _ => rfl) ?_
                        exact c344 k33_0 (by omega)
                      refine Jicmp_le (show mx_Sn _ _ 246 (mx_icmp_le 253 249) from sn_31 246) (by omega) (by omega) (fun q34 => ?_) (fun q34 => ?_)
                      · skip
                        refine JcL (z := 0) (show mx_Sn _ _ 253 (mx_const (.long 0) 254) from sn_31 253) rfl ?_
                        exact c254 0 (by omega)
                      · skip
                        refine JcL (z := 1) (show mx_Sn _ _ 249 (mx_const (.long 1) 250) from sn_31 249) rfl ?_
                        refine mx_J.step (sn_31 250) (fun _ _ => rfl) ?_
                        exact c254 1 (by omega)
                    · refine ⟨259, by rw [e23]; rfl, ?_⟩
                      refine mx_J.step (sn_31 259) (fun _ _ => rfl) ?_
                      refine mx_J.step (sn_31 261) (fun _ _ => rfl) ?_
                      refine JiandX (show mx_Sn _ _ 263 (mx_iand 264) from sn_31 263) (fun y35 hy35 => ?_)
                      refine Ji2l (show mx_Sn _ _ 264 (mx_i2l 265) from sn_31 264) (by omega) ?_
                      refine mx_J.step (ls2 := [some (.ref 12), some (.ref c0), some (xI (w1_2 + (1 - k9_0))), some (xI w1_3), some (xI (Z2 c0 w1_3)), some (xI k9_0), some (xI (Z2 18 (w1_2 + (1 - k9_0)))), some (xI k16_0), some (xL y35), none]) (sn_31 265) (fun _ _ => rfl) ?_
                      refine mx_J.step (sn_31 267) (fun _ _ => rfl) ?_
                      exact c344 y35 (by omega)
                    · refine ⟨270, by rw [e23]; rfl, ?_⟩
                      refine mx_J.step (sn_31 270) (fun _ _ => rfl) ?_
                      refine mx_J.step (sn_31 272) (fun _ _ => rfl) ?_
                      refine JiorX (show mx_Sn _ _ 274 (mx_ior 275) from sn_31 274) (fun y36 hy36 => ?_)
                      refine Ji2l (show mx_Sn _ _ 275 (mx_i2l 276) from sn_31 275) (by omega) ?_
                      refine mx_J.step (ls2 := [some (.ref 12), some (.ref c0), some (xI (w1_2 + (1 - k9_0))), some (xI w1_3), some (xI (Z2 c0 w1_3)), some (xI k9_0), some (xI (Z2 18 (w1_2 + (1 - k9_0)))), some (xI k16_0), some (xL y36), none]) (sn_31 276) (fun _ _ => rfl) ?_
                      refine mx_J.step (sn_31 278) (fun _ _ => rfl) ?_
                      exact c344 y36 (by omega)
                    · refine ⟨281, by rw [e23]; rfl, ?_⟩
                      refine JcI (z := 1) (show mx_Sn _ _ 281 (mx_const (.int 1) 282) from sn_31 281) rfl ?_
                      refine mx_J.step (sn_31 282) (fun _ _ => rfl) ?_
                      refine JisubN (show mx_Sn _ _ 284 (mx_isub 285) from sn_31 284) (fun y37 hy37 hq37 => ?_)
                      refine Ji2l (show mx_Sn _ _ 285 (mx_i2l 286) from sn_31 285) (by omega) ?_
                      refine mx_J.step (ls2 := [some (.ref 12), some (.ref c0), some (xI (w1_2 + (1 - k9_0))), some (xI w1_3), some (xI (Z2 c0 w1_3)), some (xI k9_0), some (xI (Z2 18 (w1_2 + (1 - k9_0)))), some (xI k16_0), some (xL y37), none]) (sn_31 286) (fun _ _ => rfl) ?_
                      refine mx_J.step (sn_31 288) (fun _ _ => rfl) ?_
                      exact c344 y37 (by omega)
                    · refine ⟨291, by rw [e23]; rfl, ?_⟩
                      refine mx_J.step (sn_31 291) (fun _ _ => rfl) ?_
                      have c311 : ∀ (k38_0 : Int), (-2147483648) ≤ k38_0 ∧ k38_0 ≤ 2147483647 → mx_J (tB l D b0 ad Hb tau) mt_31 (d + 0) 311 [some (.ref 12), some (.ref c0), some (xI (w1_2 + (1 - k9_0))), some (xI w1_3), some (xI (Z2 c0 w1_3)), some (xI k9_0), some (xI (Z2 18 (w1_2 + (1 - k9_0)))), some (xI k16_0), some (xL 0), none] [xL k38_0] h2 Post := by
                        intro k38_0 f38_0
                        refine mx_J.step (ls2 := [some (.ref 12), some (.ref c0), some (xI (w1_2 + (1 - k9_0))), some (xI w1_3), some (xI (Z2 c0 w1_3)), some (xI k9_0), some (xI (Z2 18 (w1_2 + (1 - k9_0)))), some (xI k16_0), some (xL k38_0), none]) (sn_31 311) (fun _ _ => rfl) ?_
                        refine mx_J.step (sn_31 313) (fun _ _ => rfl) ?_
                        exact c344 k38_0 (by omega)
                      refine Jif_eq (show mx_Sn _ _ 293 (mx_if_eq 302 296) from sn_31 293) (by omega) (fun q39 => ?_) (fun q39 => ?_)
                      · skip
                        refine mx_J.step (sn_31 302) (fun _ _ => rfl) ?_
                        refine JgetR (g := 7) (b := 18) hx2 (show mx_Sn _ _ 303 (mx_getf 4 7 306) from sn_31 303) a12 s12 rfl rfl (hG2.prr 12 7 rfl) ?_
                        refine mx_J.step (sn_31 306) (fun _ _ => rfl) ?_
                        refine JcI (z := 2) (show mx_Sn _ _ 307 (mx_const (.int 2) 308) from sn_31 307) rfl ?_
                        refine Jiadd (show mx_Sn _ _ 308 (mx_iadd 309) from sn_31 308) ?_
                        have b41 : (-2147483648) ≤ Z2 18 ((w1_2 + (1 - k9_0)) + 2) ∧ Z2 18 ((w1_2 + (1 - k9_0)) + 2) ≤ 2147483647 := hG2.pr 18 ((w1_2 + (1 - k9_0)) + 2)
                        refine JialdI (z := Z2 18 ((w1_2 + (1 - k9_0)) + 2)) hx2 (show mx_Sn _ _ 309 (mx_iald 310) from sn_31 309) a18 s18 (by omega) rfl ?_
                        refine Ji2l (show mx_Sn _ _ 310 (mx_i2l 311) from sn_31 310) (by omega) ?_
                        exact c311 (Z2 18 ((w1_2 + (1 - k9_0)) + 2)) (by omega)
                      · skip
                        refine mx_J.step (sn_31 296) (fun _ _ => rfl) ?_
                        refine Ji2l (show mx_Sn _ _ 298 (mx_i2l 299) from sn_31 298) (by omega) ?_
                        refine mx_J.step (sn_31 299) (fun _ _ => rfl) ?_
                        exact c311 k16_0 (by omega)
                refine Jicmp_le (show mx_Sn _ _ 96 (mx_icmp_le 110 99) from sn_31 96) (by omega) (by omega) (fun q42 => ?_) (fun q42 => ?_)
                · skip
                  refine JcI (z := 0) (show mx_Sn _ _ 110 (mx_const (.int 0) 111) from sn_31 110) rfl ?_
                  exact c111 0 (by omega)
                · skip
                  refine mx_J.step (sn_31 99) (fun _ _ => rfl) ?_
                  refine JgetR (g := 7) (b := 18) hx2 (show mx_Sn _ _ 100 (mx_getf 4 7 103) from sn_31 100) a12 s12 rfl rfl (hG2.prr 12 7 rfl) ?_
                  refine mx_J.step (sn_31 103) (fun _ _ => rfl) ?_
                  refine JcI (z := 1) (show mx_Sn _ _ 104 (mx_const (.int 1) 105) from sn_31 104) rfl ?_
                  refine Jiadd (show mx_Sn _ _ 105 (mx_iadd 106) from sn_31 105) ?_
                  have b44 : (-2147483648) ≤ Z2 18 ((w1_2 + (1 - k9_0)) + 1) ∧ Z2 18 ((w1_2 + (1 - k9_0)) + 1) ≤ 2147483647 := hG2.pr 18 ((w1_2 + (1 - k9_0)) + 1)
                  refine JialdI (z := Z2 18 ((w1_2 + (1 - k9_0)) + 1)) hx2 (show mx_Sn _ _ 106 (mx_iald 107) from sn_31 106) a18 s18 (by omega) rfl ?_
                  refine mx_J.step (sn_31 107) (fun _ _ => rfl) ?_
                  exact c111 (Z2 18 ((w1_2 + (1 - k9_0)) + 1)) (by omega)
              · skip
                exact c76 
          refine Jicmp_gt (show mx_Sn _ _ 20 (mx_icmp_gt 27 23) from sn_31 20) (by omega) (by omega) (fun q45 => ?_) (fun q45 => ?_)
          · skip
            refine mx_J.step (sn_31 27) (fun _ _ => rfl) ?_
            refine JcI (z := 1018) (show mx_Sn _ _ 29 (mx_const (.int 1018) 32) from sn_31 29) rfl ?_
            refine Jicmp_ne (show mx_Sn _ _ 32 (mx_icmp_ne 39 35) from sn_31 32) (by omega) (by omega) (fun q46 => ?_) (fun q46 => ?_)
            · skip
              refine mx_J.step (sn_31 39) (fun _ _ => rfl) ?_
              refine JcI (z := 1019) (show mx_Sn _ _ 41 (mx_const (.int 1019) 44) from sn_31 41) rfl ?_
              refine Jicmp_ne (show mx_Sn _ _ 44 (mx_icmp_ne 51 47) from sn_31 44) (by omega) (by omega) (fun q47 => ?_) (fun q47 => ?_)
              · skip
                refine JcI (z := 2) (show mx_Sn _ _ 51 (mx_const (.int 2) 52) from sn_31 51) rfl ?_
                exact c52 2 (by omega) (by omega)
              · skip
                refine JcI (z := 3) (show mx_Sn _ _ 47 (mx_const (.int 3) 48) from sn_31 47) rfl ?_
                refine mx_J.step (sn_31 48) (fun _ _ => rfl) ?_
                exact c52 3 (by omega) (by omega)
            · skip
              refine JcI (z := 1) (show mx_Sn _ _ 35 (mx_const (.int 1) 36) from sn_31 35) rfl ?_
              refine mx_J.step (sn_31 36) (fun _ _ => rfl) ?_
              exact c52 1 (by omega) (by omega)
          · skip
            refine JcI (z := 0) (show mx_Sn _ _ 23 (mx_const (.int 0) 24) from sn_31 23) rfl ?_
            refine mx_J.step (sn_31 24) (fun _ _ => rfl) ?_
            exact c52 0 (by omega) (by omega)
    exact c4 (Int.toNat (900 - 0) + 1) (-1) 0 none none none none none none Z h (by omega) (by omega) (by omega) hx hG fr_rf
theorem ct_31_12_C {l : Launch} {D : va_G} {b0 : Nat} {ad : Nat → Nat} {Hb : Heap} {tau : Nat → Int64} {d n s : Nat} {S : Nat → xS} {Z : xZ} {h : mx_H} (hx : XH n s S Z h) (hG : GI n S Z) {c0 len0 : Nat} (oc0 : okC c0) (ac0 : c0 < n) (lc0 : len0 ≤ 900) (sc0 : S c0 = .inr (.int, len0, 0))  : ∃ (z : Int) (Z' : xZ) (h' : mx_H), mx_Ca (tB l D b0 ad Hb tau) (d + 1) 31 [.ref 12, .ref c0] h (some (xI z), h') ∧ XH n s S Z' h' ∧ GI n S Z' ∧ fr' [(18, (-1))] Z Z' ∧ ((-2147483648) ≤ z ∧ z ≤ 2147483647) := by
  obtain ⟨r, hca, z, Z', h', e, q⟩ := Jmt (B := tB l D b0 ad Hb tau) (M := mt_31) (mi := 31) (as := [.ref 12, .ref c0]) (d := d + 0) (ls := [some (.ref 12), some (.ref c0), none, none, none, none, none, none, none, none]) rfl rfl rfl rfl rfl rfl (cw_31_12_C (l := l) (D := D) (b0 := b0) (ad := ad) (Hb := Hb) (tau := tau) (d := d) (Post := fun r => ∃ (z : Int) (Z' : xZ) (h' : mx_H), r = (some (xI z), h') ∧ XH n s S Z' h' ∧ GI n S Z' ∧ fr' [(18, (-1))] Z Z' ∧ ((-2147483648) ≤ z ∧ z ≤ 2147483647)) hx hG oc0 ac0 lc0 sc0 (fun z Z' h' q1 q2 q3 q4 => ⟨z, Z', h', rfl, q1, q2, q3, q4⟩))
  subst e; exact ⟨z, Z', h', hca, q⟩
set_option maxRecDepth 100000 in
theorem cw_30_12 {l : Launch} {D : va_G} {b0 : Nat} {ad : Nat → Nat} {Hb : Heap} {tau : Nat → Int64} {d n s : Nat} {S : Nat → xS} {Z : xZ} {h : mx_H} {Post : mx_R → Prop} (hx : XH n s S Z h) (hG : GI n S Z)  {x0 x1 x2 : Int} (p0 : 1 ≤ x0 ∧ x0 ≤ 18) (p1 : 0 ≤ x1 ∧ x1 ≤ 17) (p2 : 0 ≤ x2 ∧ x2 ≤ 18) (hP : ∀ (z : Int) (Z' : xZ) (h' : mx_H), XH n s S Z' h' → GI n S Z' → fr' [(16, (-1)), (17, (-1)), (18, (-1))] Z Z' → 0 ≤ z ∧ z ≤ 18 ∧ z ≤ x0 → Post (some (xI z), h')) : mx_J (tB l D b0 ad Hb tau) mt_30 (d + 1) 0 [some (.ref 12), some (xI x0), some (xI x1), some (xI x2), none, none] [] h Post := by
    have a12 : 12 < n := lt83 (GI_n hG) rfl
    have s12 : S 12 = .inl (4, [2, 2, 0, 2, 2, 2, 2, 2, 2]) := GI_s hG 12 rfl
    have a16 : 16 < n := lt83 (GI_n hG) rfl
    have s16 : S 16 = .inr (.int, 6498, 0) := GI_s hG 16 rfl
    have a17 : 17 < n := lt83 (GI_n hG) rfl
    have s17 : S 17 = .inr (.int, 5, 0) := GI_s hG 17 rfl
    refine mx_J.step (sn_30 0) (fun _ _ => rfl) ?_
    refine JcI (z := 18) (show mx_Sn _ _ 1 (mx_const (.int 18) 3) from sn_30 1) rfl ?_
    refine Jimul (show mx_Sn _ _ 3 (mx_imul 4) from sn_30 3) ?_
    refine mx_J.step (sn_30 4) (fun _ _ => rfl) ?_
    refine Jiadd (show mx_Sn _ _ 5 (mx_iadd 6) from sn_30 5) ?_
    refine JcI (z := 19) (show mx_Sn _ _ 6 (mx_const (.int 19) 8) from sn_30 6) rfl ?_
    refine Jimul (show mx_Sn _ _ 8 (mx_imul 9) from sn_30 8) ?_
    refine mx_J.step (sn_30 9) (fun _ _ => rfl) ?_
    refine Jiadd (show mx_Sn _ _ 10 (mx_iadd 11) from sn_30 10) ?_
    refine mx_J.step (ls2 := [some (.ref 12), some (xI x0), some (xI x1), some (xI x2), some (xI ((((x0 * 18) + x1) * 19) + x2)), none]) (sn_30 11) (fun _ _ => rfl) ?_
    refine mx_J.step (sn_30 13) (fun _ _ => rfl) ?_
    refine Jif_lt (show mx_Sn _ _ 15 (mx_if_lt 28 18) from sn_30 15) (by omega) (fun q1 => ?_) (fun q1 => ?_)
    · skip
      exfalso; omega
    · skip
      refine mx_J.step (sn_30 18) (fun _ _ => rfl) ?_
      refine mx_J.step (sn_30 20) (fun _ _ => rfl) ?_
      refine JgetR (g := 5) (b := 16) hx (show mx_Sn _ _ 21 (mx_getf 4 5 24) from sn_30 21) a12 s12 rfl rfl (hG.prr 12 5 rfl) ?_
      refine JalenI (z := 6498) hx (show mx_Sn _ _ 24 (mx_alen 25) from sn_30 24) a16 s16 (by decide) rfl ?_
      refine Jicmp_lt (show mx_Sn _ _ 25 (mx_icmp_lt 30 28) from sn_30 25) (by omega) (by omega) (fun q3 => ?_) (fun q3 => ?_)
      · skip
        refine mx_J.step (sn_30 30) (fun _ _ => rfl) ?_
        refine JgetR (g := 5) (b := 16) hx (show mx_Sn _ _ 31 (mx_getf 4 5 34) from sn_30 31) a12 s12 rfl rfl (hG.prr 12 5 rfl) ?_
        refine mx_J.step (sn_30 34) (fun _ _ => rfl) ?_
        have kk : ((((x0 * 18) + x1) * 19) + x2) / 342 = x0 := by omega
        have b5 : (-2147483648) ≤ Z 16 ((((x0 * 18) + x1) * 19) + x2) ∧ Z 16 ((((x0 * 18) + x1) * 19) + x2) ≤ 2147483647 := hG.pr 16 ((((x0 * 18) + x1) * 19) + x2)
        have b6 : ((0 : Int) ≤ ((((x0 * 18) + x1) * 19) + x2) → (Z 16 ((((x0 * 18) + x1) * 19) + x2)) % 32 ≤ ((((x0 * 18) + x1) * 19) + x2) / 342) := GI_ex hG 16 ((((x0 * 18) + x1) * 19) + x2)
        refine JialdI (z := Z 16 ((((x0 * 18) + x1) * 19) + x2)) hx (show mx_Sn _ _ 36 (mx_iald 37) from sn_30 36) a16 s16 (by omega) rfl ?_
        refine JcI (z := 5) (show mx_Sn _ _ 37 (mx_const (.int 5) 38) from sn_30 37) rfl ?_
        refine JishrX (show mx_Sn _ _ 38 (mx_ishr 39) from sn_30 38) (fun y7 hy7 => ?_)
        refine mx_J.step (sn_30 39) (fun _ _ => rfl) ?_
        have b9 : (-2147483648) ≤ Z 12 2 ∧ Z 12 2 ≤ 2147483647 := hG.pr 12 2
        refine JgetI (g := 2) (z := Z 12 2) hx (show mx_Sn _ _ 40 (mx_getf 4 2 43) from sn_30 40) a12 s12 rfl rfl rfl ?_
        have c149 : ∀ (u10_5 : Option Value) (Z11 : xZ) (h11 : mx_H), XH n s S Z11 h11 → GI n S Z11 → fr' [(16, (-1)), (17, (-1)), (18, (-1))] Z Z11 → mx_J (tB l D b0 ad Hb tau) mt_30 (d + 1) 149 [some (.ref 12), some (xI x0), some (xI x1), some (xI x2), some (xI ((((x0 * 18) + x1) * 19) + x2)), u10_5] [] h11 Post := by
          intro u10_5 Z11 h11 hx11 hG11 hf11
          refine mx_J.step (sn_30 149) (fun _ _ => rfl) ?_
          refine JgetR (g := 5) (b := 16) hx11 (show mx_Sn _ _ 150 (mx_getf 4 5 153) from sn_30 150) a12 s12 rfl rfl (hG11.prr 12 5 rfl) ?_
          refine mx_J.step (sn_30 153) (fun _ _ => rfl) ?_
          have b13 : (-2147483648) ≤ Z11 16 ((((x0 * 18) + x1) * 19) + x2) ∧ Z11 16 ((((x0 * 18) + x1) * 19) + x2) ≤ 2147483647 := hG11.pr 16 ((((x0 * 18) + x1) * 19) + x2)
          have b14 : ((0 : Int) ≤ ((((x0 * 18) + x1) * 19) + x2) → (Z11 16 ((((x0 * 18) + x1) * 19) + x2)) % 32 ≤ ((((x0 * 18) + x1) * 19) + x2) / 342) := GI_ex hG11 16 ((((x0 * 18) + x1) * 19) + x2)
          refine JialdI (z := Z11 16 ((((x0 * 18) + x1) * 19) + x2)) hx11 (show mx_Sn _ _ 155 (mx_iald 156) from sn_30 155) a16 s16 (by omega) rfl ?_
          refine JcI (z := 31) (show mx_Sn _ _ 156 (mx_const (.int 31) 158) from sn_30 156) rfl ?_
          refine JiandM (q := 32) 5 (show mx_Sn _ _ 158 (mx_iand 159) from sn_30 158) rfl rfl rfl ?_
          exact mx_J.ret (sn_30 159) (fun _ _ => rfl) (hP ((Z11 16 ((((x0 * 18) + x1) * 19) + x2)) % 32) Z11 h11 hx11 hG11 (fr_tr (M := [(16, (-1)), (17, (-1)), (18, (-1))]) fr_rf (hf11) (M1 := []) rfl rfl) (by omega))
        refine Jicmp_eq (show mx_Sn _ _ 43 (mx_icmp_eq 149 46) from sn_30 43) (by omega) (by omega) (fun q15 => ?_) (fun q15 => ?_)
        · skip
          exact c149 none Z h hx hG fr_rf
        · skip
          refine mx_J.step (sn_30 46) (fun _ _ => rfl) ?_
          refine JgetR (g := 6) (b := 17) hx (show mx_Sn _ _ 47 (mx_getf 4 6 50) from sn_30 47) a12 s12 rfl rfl (hG.prr 12 6 rfl) ?_
          refine JcI (z := 0) (show mx_Sn _ _ 50 (mx_const (.int 0) 51) from sn_30 50) rfl ?_
          refine mx_J.step (sn_30 51) (fun _ _ => rfl) ?_
          refine JiastI hx (show mx_Sn _ _ 52 (mx_iast 1 53) from sn_30 52) a17 s17 rfl (by omega) (fun Z17 h17 hx17 hE17 => ?_)
          have hG17 := GI_up hG hE17 (show (-2147483648) ≤ x0 ∧ x0 ≤ 2147483647 by omega) trivial rfl
          refine mx_J.step (sn_30 53) (fun _ _ => rfl) ?_
          refine JgetR (g := 6) (b := 17) hx17 (show mx_Sn _ _ 54 (mx_getf 4 6 57) from sn_30 54) a12 s12 rfl rfl (hG17.prr 12 6 rfl) ?_
          refine JcI (z := 1) (show mx_Sn _ _ 57 (mx_const (.int 1) 58) from sn_30 57) rfl ?_
          refine mx_J.step (sn_30 58) (fun _ _ => rfl) ?_
          refine JiastI hx17 (show mx_Sn _ _ 59 (mx_iast 1 60) from sn_30 59) a17 s17 rfl (by omega) (fun Z19 h19 hx19 hE19 => ?_)
          have hG19 := GI_up hG17 hE19 (show (-2147483648) ≤ x1 ∧ x1 ≤ 2147483647 by omega) trivial rfl
          refine mx_J.step (sn_30 60) (fun _ _ => rfl) ?_
          refine JgetR (g := 6) (b := 17) hx19 (show mx_Sn _ _ 61 (mx_getf 4 6 64) from sn_30 61) a12 s12 rfl rfl (hG19.prr 12 6 rfl) ?_
          refine JcI (z := 2) (show mx_Sn _ _ 64 (mx_const (.int 2) 65) from sn_30 64) rfl ?_
          refine mx_J.step (sn_30 65) (fun _ _ => rfl) ?_
          refine JiastI hx19 (show mx_Sn _ _ 66 (mx_iast 1 67) from sn_30 66) a17 s17 rfl (by omega) (fun Z21 h21 hx21 hE21 => ?_)
          have hG21 := GI_up hG19 hE21 (show (-2147483648) ≤ x2 ∧ x2 ≤ 2147483647 by omega) trivial rfl
          refine JcI (z := 1) (show mx_Sn _ _ 67 (mx_const (.int 1) 68) from sn_30 67) rfl ?_
          refine mx_J.step (ls2 := [some (.ref 12), some (xI x0), some (xI x1), some (xI x2), some (xI ((((x0 * 18) + x1) * 19) + x2)), some (xI 1)]) (sn_30 68) (fun _ _ => rfl) ?_
          refine mx_J.step (sn_30 70) (fun _ _ => rfl) ?_
          obtain ⟨r22, er22, or22, ar22, sr22⟩ := GI_l12 hG21
          refine JgetR (g := 1) (b := r22) hx21 (show mx_Sn _ _ 71 (mx_getf 4 1 74) from sn_30 71) a12 s12 rfl rfl er22 ?_
          obtain ⟨c23, len23, ec23, oc23, ac23, lc23, sc23⟩ := (GI_rc hG21 or22 ar22 sr22).2.1
          refine JgetR (g := 1) (b := c23) hx21 (show mx_Sn _ _ 74 (mx_getf 3 1 77) from sn_30 74) ar22 sr22 rfl rfl ec23 ?_
          refine JalenI (z := (len23 : Int)) hx21 (show mx_Sn _ _ 77 (mx_alen 78) from sn_30 77) ac23 sc23 (by decide) rfl ?_
          have c133 : ∀ (w24_5 : Int) (Z25 : xZ) (h25 : mx_H), 0 ≤ w24_5 ∧ w24_5 ≤ 18 → w24_5 ≤ x0 → XH n s S Z25 h25 → GI n S Z25 → fr' [(18, (-1))] Z21 Z25 → mx_J (tB l D b0 ad Hb tau) mt_30 (d + 1) 133 [some (.ref 12), some (xI x0), some (xI x1), some (xI x2), some (xI ((((x0 * 18) + x1) * 19) + x2)), some (xI w24_5)] [] h25 Post := by
            intro w24_5 Z25 h25 f24_0 f24_1 hx25 hG25 hf25
            refine mx_J.step (sn_30 133) (fun _ _ => rfl) ?_
            refine JgetR (g := 5) (b := 16) hx25 (show mx_Sn _ _ 134 (mx_getf 4 5 137) from sn_30 134) a12 s12 rfl rfl (hG25.prr 12 5 rfl) ?_
            refine mx_J.step (sn_30 137) (fun _ _ => rfl) ?_
            refine mx_J.step (sn_30 139) (fun _ _ => rfl) ?_
            refine JgetI (g := 2) (z := Z 12 2) hx25 (show mx_Sn _ _ 140 (mx_getf 4 2 143) from sn_30 140) a12 s12 rfl rfl ((hf25 12 2 rfl).trans ((up_nk hE21 rfl).trans ((up_nk hE19 rfl).trans (up_nk hE17 rfl)))) ?_
            refine JcI (z := 5) (show mx_Sn _ _ 143 (mx_const (.int 5) 144) from sn_30 143) rfl ?_
            refine Jishl5 (show mx_Sn _ _ 144 (mx_ishl 145) from sn_30 144) (fun y28 hy28 => ?_)
            refine mx_J.step (sn_30 145) (fun _ _ => rfl) ?_
            refine Jior5 (show mx_Sn _ _ 147 (mx_ior 148) from sn_30 147) (by omega) (by omega) (fun y29 hy29 => ?_)
            refine JiastI hx25 (show mx_Sn _ _ 148 (mx_iast 1 149) from sn_30 148) a16 s16 rfl (by omega) (fun Z30 h30 hx30 hE30 => ?_)
            have hG30 := GI_up hG25 hE30 (show (-2147483648) ≤ y29 ∧ y29 ≤ 2147483647 by omega) (show ((0 : Int) ≤ ((((x0 * 18) + x1) * 19) + x2) → y29 % 32 ≤ ((((x0 * 18) + x1) * 19) + x2) / 342) by first | omega | (unfold f57 at *; omega)) rfl
            exact c149 (some (xI w24_5)) Z30 h30 hx30 hG30 (fr_tr (M := [(16, (-1)), (17, (-1)), (18, (-1))]) (fr_tr (M := [(16, (-1)), (17, (-1)), (18, (-1))]) (fr_tr (M := [(16, (-1)), (17, (-1)), (18, (-1))]) (fr_tr (M := [(16, (-1)), (17, (-1)), (18, (-1))]) (fr_tr (M := [(16, (-1)), (17, (-1)), (18, (-1))]) fr_rf (fr_ua hE17) (M1 := []) rfl rfl) (fr_ua hE19) rfl rfl) (fr_ua hE21) rfl rfl) (hf25) rfl rfl) (fr_ua hE30) rfl rfl)
          have c101 : ∀  (Z32 : xZ) (h32 : mx_H), XH n s S Z32 h32 → GI n S Z32 → fr' [(18, (-1))] Z21 Z32 → mx_J (tB l D b0 ad Hb tau) mt_30 (d + 1) 101 [some (.ref 12), some (xI x0), some (xI x1), some (xI x2), some (xI ((((x0 * 18) + x1) * 19) + x2)), some (xI 1)] [] h32 Post := by
            intro Z32 h32 hx32 hG32 hf32
            refine mx_J.step (sn_30 101) (fun _ _ => rfl) ?_
            obtain ⟨r33, er33, or33, ar33, sr33⟩ := GI_l12 hG32
            refine JgetR (g := 1) (b := r33) hx32 (show mx_Sn _ _ 102 (mx_getf 4 1 105) from sn_30 102) a12 s12 rfl rfl er33 ?_
            obtain ⟨c34, len34, ec34, oc34, ac34, lc34, sc34⟩ := (GI_rc hG32 or33 ar33 sr33).1
            refine JgetR (g := 0) (b := c34) hx32 (show mx_Sn _ _ 105 (mx_getf 3 0 108) from sn_30 105) ar33 sr33 rfl rfl ec34 ?_
            refine JalenI (z := (len34 : Int)) hx32 (show mx_Sn _ _ 108 (mx_alen 109) from sn_30 108) ac34 sc34 (by decide) rfl ?_
            refine Jif_le (show mx_Sn _ _ 109 (mx_if_le 133 112) from sn_30 109) (by omega) (fun q35 => ?_) (fun q35 => ?_)
            · skip
              exact c133 1 Z32 h32 (by omega) (by omega) hx32 hG32 (fr_tr (M := [(18, (-1))]) fr_rf (hf32) (M1 := []) rfl rfl)
            · skip
              refine JcI (z := 0) (show mx_Sn _ _ 112 (mx_const (.int 0) 113) from sn_30 112) rfl ?_
              refine mx_J.step (sn_30 113) (fun _ _ => rfl) ?_
              refine mx_J.step (sn_30 114) (fun _ _ => rfl) ?_
              refine mx_J.step (sn_30 115) (fun _ _ => rfl) ?_
              obtain ⟨r36, er36, or36, ar36, sr36⟩ := GI_l12 hG32
              refine JgetR (g := 1) (b := r36) hx32 (show mx_Sn _ _ 116 (mx_getf 4 1 119) from sn_30 116) a12 s12 rfl rfl er36 ?_
              obtain ⟨c37, len37, ec37, oc37, ac37, lc37, sc37⟩ := (GI_rc hG32 or36 ar36 sr36).1
              refine JgetR (g := 0) (b := c37) hx32 (show mx_Sn _ _ 119 (mx_getf 3 0 122) from sn_30 119) ar36 sr36 rfl rfl ec37 ?_
              obtain ⟨z38, Z38, h38, hc38, hx38, hG38, hf38, b38⟩ := ct_31_12_C (d := d + 0) (l := l) (D := D) (b0 := b0) (ad := ad) (Hb := Hb) (tau := tau) hx32 hG32 oc37 ac37 lc37 sc37 
              refine Jcv hx32 (show mx_Sn _ _ 122 (mx_callv 31 2 4 125) from sn_30 122) a12 s12 hc38 rfl rfl rfl ?_
              refine Jmmin (show mx_Sn _ _ 125 (mx_mmin 128) from sn_30 125) (by omega) (by omega) ⟨_, rfl⟩ rfl (fun y39 hy39 => ?_)
              refine Jmmax (show mx_Sn _ _ 128 (mx_mmax 131) from sn_30 128) (by omega) (by omega) ⟨_, rfl⟩ rfl (fun y40 hy40 => ?_)
              refine mx_J.step (ls2 := [some (.ref 12), some (xI x0), some (xI x1), some (xI x2), some (xI ((((x0 * 18) + x1) * 19) + x2)), some (xI y40)]) (sn_30 131) (fun _ _ => rfl) ?_
              exact c133 y40 Z38 h38 (by omega) (by omega) hx38 hG38 (fr_tr (M := [(18, (-1))]) (fr_tr (M := [(18, (-1))]) fr_rf (hf32) (M1 := []) rfl rfl) (hf38) rfl rfl)
          refine Jif_le (show mx_Sn _ _ 78 (mx_if_le 101 81) from sn_30 78) (by omega) (fun q41 => ?_) (fun q41 => ?_)
          · skip
            exact c101 Z21 h21 hx21 hG21 fr_rf
          · skip
            refine mx_J.step (sn_30 81) (fun _ _ => rfl) ?_
            refine mx_J.step (sn_30 82) (fun _ _ => rfl) ?_
            obtain ⟨r42, er42, or42, ar42, sr42⟩ := GI_l12 hG21
            refine JgetR (g := 1) (b := r42) hx21 (show mx_Sn _ _ 83 (mx_getf 4 1 86) from sn_30 83) a12 s12 rfl rfl er42 ?_
            obtain ⟨c43, len43, ec43, oc43, ac43, lc43, sc43⟩ := (GI_rc hG21 or42 ar42 sr42).2.1
            refine JgetR (g := 1) (b := c43) hx21 (show mx_Sn _ _ 86 (mx_getf 3 1 89) from sn_30 86) ar42 sr42 rfl rfl ec43 ?_
            obtain ⟨z44, Z44, h44, hc44, hx44, hG44, hf44, b44⟩ := ct_31_12_C (d := d + 0) (l := l) (D := D) (b0 := b0) (ad := ad) (Hb := Hb) (tau := tau) hx21 hG21 oc43 ac43 lc43 sc43 
            refine Jcv hx21 (show mx_Sn _ _ 89 (mx_callv 31 2 4 92) from sn_30 89) a12 s12 hc44 rfl rfl rfl ?_
            refine Jif_ne (show mx_Sn _ _ 92 (mx_if_ne 101 95) from sn_30 92) (by omega) (fun q45 => ?_) (fun q45 => ?_)
            · skip
              exact c101 Z44 h44 hx44 hG44 (fr_tr (M := [(18, (-1))]) fr_rf (hf44) (M1 := []) rfl rfl)
            · skip
              refine JcI (z := 0) (show mx_Sn _ _ 95 (mx_const (.int 0) 96) from sn_30 95) rfl ?_
              refine mx_J.step (ls2 := [some (.ref 12), some (xI x0), some (xI x1), some (xI x2), some (xI ((((x0 * 18) + x1) * 19) + x2)), some (xI 0)]) (sn_30 96) (fun _ _ => rfl) ?_
              refine mx_J.step (sn_30 98) (fun _ _ => rfl) ?_
              exact c133 0 Z44 h44 (by omega) (by omega) hx44 hG44 (fr_tr (M := [(18, (-1))]) fr_rf (hf44) (M1 := []) rfl rfl)
      · skip
        exfalso; omega
theorem ct_30_12 {l : Launch} {D : va_G} {b0 : Nat} {ad : Nat → Nat} {Hb : Heap} {tau : Nat → Int64} {d n s : Nat} {S : Nat → xS} {Z : xZ} {h : mx_H} (hx : XH n s S Z h) (hG : GI n S Z)  {x0 x1 x2 : Int} (p0 : 1 ≤ x0 ∧ x0 ≤ 18) (p1 : 0 ≤ x1 ∧ x1 ≤ 17) (p2 : 0 ≤ x2 ∧ x2 ≤ 18) : ∃ (z : Int) (Z' : xZ) (h' : mx_H), mx_Ca (tB l D b0 ad Hb tau) (d + 2) 30 [.ref 12, xI x0, xI x1, xI x2] h (some (xI z), h') ∧ XH n s S Z' h' ∧ GI n S Z' ∧ fr' [(16, (-1)), (17, (-1)), (18, (-1))] Z Z' ∧ (0 ≤ z ∧ z ≤ 18 ∧ z ≤ x0) := by
  obtain ⟨r, hca, z, Z', h', e, q⟩ := Jmt (B := tB l D b0 ad Hb tau) (M := mt_30) (mi := 30) (as := [.ref 12, xI x0, xI x1, xI x2]) (d := d + 1) (ls := [some (.ref 12), some (xI x0), some (xI x1), some (xI x2), none, none]) rfl rfl rfl rfl rfl rfl (cw_30_12 (l := l) (D := D) (b0 := b0) (ad := ad) (Hb := Hb) (tau := tau) (d := d) (Post := fun r => ∃ (z : Int) (Z' : xZ) (h' : mx_H), r = (some (xI z), h') ∧ XH n s S Z' h' ∧ GI n S Z' ∧ fr' [(16, (-1)), (17, (-1)), (18, (-1))] Z Z' ∧ (0 ≤ z ∧ z ≤ 18 ∧ z ≤ x0)) hx hG p0 p1 p2 (fun z Z' h' q1 q2 q3 q4 => ⟨z, Z', h', rfl, q1, q2, q3, q4⟩))
  subst e; exact ⟨z, Z', h', hca, q⟩
set_option maxRecDepth 100000 in
theorem cw_9_7_6 {l : Launch} {D : va_G} {b0 : Nat} {ad : Nat → Nat} {Hb : Heap} {tau : Nat → Int64} {d n s : Nat} {S : Nat → xS} {Z : xZ} {h : mx_H} {Post : mx_R → Prop} (hx : XH n s S Z h) (hG : GI n S Z)  (m6 : AB Z 6 19 (-40) 40) (hP : ∀ z : Int, z = nmN (Z 7 4) (Z 6) ∧ 0 ≤ z ∧ z ≤ 384 → Post (some (xI z), h)) : mx_J (tB l D b0 ad Hb tau) mt_9 (d + 1) 0 [some (.ref 7), some (.ref 6), none, none, none, none] [] h Post := by
    have a6 : 6 < n := lt83 (GI_n hG) rfl
    have s6 : S 6 = .inr (.int, 19, 0) := GI_s hG 6 rfl
    have a7 : 7 < n := lt83 (GI_n hG) rfl
    have s7 : S 7 = .inl (0, [2, 2, 2, 2, 0, 0]) := GI_s hG 7 rfl
    refine JcI (z := 0) (show mx_Sn _ _ 0 (mx_const (.int 0) 1) from sn_9 0) rfl ?_
    refine mx_J.step (ls2 := [some (.ref 7), some (.ref 6), some (xI 0), none, none, none]) (sn_9 1) (fun _ _ => rfl) ?_
    refine mx_J.step (sn_9 2) (fun _ _ => rfl) ?_
    have b2 : 0 ≤ Z 7 4 ∧ Z 7 4 ≤ 18 := hG.pr 7 4
    refine JgetI (g := 4) (z := Z 7 4) hx (show mx_Sn _ _ 3 (mx_getf 0 4 6) from sn_9 3) a7 s7 rfl rfl rfl ?_
    refine mx_J.step (ls2 := [some (.ref 7), some (.ref 6), some (xI 0), some (xI (Z 7 4)), none, none]) (sn_9 6) (fun _ _ => rfl) ?_
    have wd := W1z (n := (Z 7 4)) (by omega)
    refine JcI (z := 18) (show mx_Sn _ _ 7 (mx_const (.int 18) 9) from sn_9 7) rfl ?_
    refine mx_J.step (ls2 := [some (.ref 7), some (.ref 6), some (xI 0), some (xI (Z 7 4)), some (xI 18), none]) (sn_9 9) (fun _ _ => rfl) ?_
    refine JcI (z := 18) (show mx_Sn _ _ 11 (mx_const (.int 18) 13) from sn_9 11) rfl ?_
    refine mx_J.step (ls2 := [some (.ref 7), some (.ref 6), some (xI 0), some (xI (Z 7 4)), some (xI 18), some (xI 18)]) (sn_9 13) (fun _ _ => rfl) ?_
    have c15 : ∀ (m3 : Nat) (w3_2 : Int) (w3_3 : Int) (w3_4 : Int) (w3_5 : Int), w3_5 - 0 < (m3 : Int) → 0 ≤ w3_2 ∧ w3_2 ≤ 384 → (-719) ≤ w3_3 ∧ w3_3 ≤ 18 → 1 ≤ w3_4 ∧ w3_4 ≤ 18 → 0 ≤ w3_5 ∧ w3_5 ≤ 18 → (w3_3 ≤ 0 ∨ w3_2 + wy (w3_3 * 19 + w3_4) ≤ 385) → w3_5 ≤ w3_4 → nmi (Z 6) w3_5 w3_2 w3_3 w3_4 = nmN (Z 7 4) (Z 6) → mx_J (tB l D b0 ad Hb tau) mt_9 (d + 1) 15 [some (.ref 7), some (.ref 6), some (xI w3_2), some (xI w3_3), some (xI w3_4), some (xI w3_5)] [] h Post := by
      intro m3
      induction m3 with
      | zero => intro w3_2 w3_3 w3_4 w3_5 q3 f3_0 f3_1 f3_2 f3_3 f3_4 f3_5 f3_6; exact absurd q3 (by omega)
      | succ m3 ih3 =>
        intro w3_2 w3_3 w3_4 w3_5 q3 f3_0 f3_1 f3_2 f3_3 f3_4 f3_5 f3_6
        refine mx_J.step (sn_9 15) (fun _ _ => rfl) ?_
        have c69 : (w3_5 ≤ 0 ∨ w3_3 ≤ 0) → mx_J (tB l D b0 ad Hb tau) mt_9 (d + 1) 69 [some (.ref 7), some (.ref 6), some (xI w3_2), some (xI w3_3), some (xI w3_4), some (xI w3_5)] [] h Post := by
          intro f4_0
          refine mx_J.step (sn_9 69) (fun _ _ => rfl) ?_
          exact mx_J.ret (sn_9 70) (fun _ _ => rfl) (hP w3_2 ⟨((nmi_0 (f := Z 6) (sz := w3_5) (nb := w3_2) (rest := w3_3) (above := w3_4) (by omega)).symm.trans (by assumption)), by omega⟩)
        refine Jif_le (show mx_Sn _ _ 17 (mx_if_le 69 20) from sn_9 17) (by omega) (fun q5 => ?_) (fun q5 => ?_)
        · skip
          exact c69 (by omega)
        · skip
          refine mx_J.step (sn_9 20) (fun _ _ => rfl) ?_
          refine Jif_le (show mx_Sn _ _ 21 (mx_if_le 69 24) from sn_9 21) (by omega) (fun q6 => ?_) (fun q6 => ?_)
          · skip
            exact c69 (by omega)
          · skip
            refine mx_J.step (sn_9 24) (fun _ _ => rfl) ?_
            refine mx_J.step (sn_9 25) (fun _ _ => rfl) ?_
            have b7 : (-40) ≤ Z 6 w3_5 ∧ Z 6 w3_5 ≤ 40 := m6 w3_5 (by omega) (by omega)
            have b8 : 0 ≤ Z 6 w3_5 ∧ Z 6 w3_5 ≤ 20 := hG.pr 6 w3_5
            refine JialdI (z := Z 6 w3_5) hx (show mx_Sn _ _ 27 (mx_iald 28) from sn_9 27) a6 s6 (by omega) rfl ?_
            have c63 : ∀ (w9_2 : Int) (w9_3 : Int) (w9_4 : Int), 0 ≤ w9_2 ∧ w9_2 ≤ 384 → (-719) ≤ w9_3 ∧ w9_3 ≤ 18 → 1 ≤ w9_4 ∧ w9_4 ≤ 18 → (w9_3 ≤ 0 ∨ w9_2 + wy (w9_3 * 19 + w9_4) ≤ 385) → w3_5 ≤ w9_4 → nmi (Z 6) (w3_5 - 1) w9_2 w9_3 w9_4 = nmN (Z 7 4) (Z 6) → mx_J (tB l D b0 ad Hb tau) mt_9 (d + 1) 63 [some (.ref 7), some (.ref 6), some (xI w9_2), some (xI w9_3), some (xI w9_4), some (xI w3_5)] [] h Post := by
              intro w9_2 w9_3 w9_4 f9_0 f9_1 f9_2 f9_3 f9_4 f9_5
              refine Jiinc (z := w3_5) (cz := (-1)) (ls2 := [some (.ref 7), some (.ref 6), some (xI w9_2), some (xI w9_3), some (xI w9_4), some (xI (w3_5 + (-1)))]) (show mx_Sn _ _ 63 (mx_iinc 5 (-1) 66) from sn_9 63) rfl rfl rfl rfl ?_
              refine mx_J.step (sn_9 66) (fun _ _ => rfl) ?_
              exact ih3 w9_2 w9_3 w9_4 (w3_5 + (-1)) (by omega) (by omega) (by omega) (by omega) (by omega) (by omega) (by omega) (by assumption)
            refine Jif_le (show mx_Sn _ _ 28 (mx_if_le 63 31) from sn_9 28) (by omega) (fun q10 => ?_) (fun q10 => ?_)
            · skip
              exact c63 w3_2 w3_3 w3_4 (by omega) (by omega) (by omega) (by omega) (by omega) ((nmi_n (f := Z 6) (sz := w3_5) (nb := w3_2) (rest := w3_3) (above := w3_4) (by omega) (by omega) (by omega)).symm.trans (by assumption))
            · skip
              refine mx_J.step (sn_9 31) (fun _ _ => rfl) ?_
              refine mx_J.step (sn_9 32) (fun _ _ => rfl) ?_
              refine mx_J.step (sn_9 33) (fun _ _ => rfl) ?_
              refine mx_J.step (sn_9 34) (fun _ _ => rfl) ?_
              obtain ⟨z11, hc11, b11⟩ := ct_2_7 (d := d + 0) (l := l) (D := D) (b0 := b0) (ad := ad) (Hb := Hb) (tau := tau) hx hG (show 0 ≤ w3_3 ∧ w3_3 ≤ 18 by omega) (show 0 ≤ w3_4 ∧ w3_4 ≤ 18 by omega)
              refine Jcv hx (show mx_Sn _ _ 36 (mx_callv 2 3 0 39) from sn_9 36) a7 s7 hc11 rfl rfl rfl ?_
              refine mx_J.step (sn_9 39) (fun _ _ => rfl) ?_
              refine mx_J.step (sn_9 40) (fun _ _ => rfl) ?_
              refine mx_J.step (sn_9 41) (fun _ _ => rfl) ?_
              obtain ⟨z12, hc12, b12⟩ := ct_2_7 (d := d + 0) (l := l) (D := D) (b0 := b0) (ad := ad) (Hb := Hb) (tau := tau) hx hG (show 0 ≤ w3_3 ∧ w3_3 ≤ 18 by omega) (show 0 ≤ w3_5 ∧ w3_5 ≤ 18 by omega)
              refine Jcv hx (show mx_Sn _ _ 43 (mx_callv 2 3 0 46) from sn_9 43) a7 s7 hc12 rfl rfl rfl ?_
              refine Jisub (show mx_Sn _ _ 46 (mx_isub 47) from sn_9 46) ?_
              refine Jiadd (show mx_Sn _ _ 47 (mx_iadd 48) from sn_9 47) ?_
              refine mx_J.step (ls2 := [some (.ref 7), some (.ref 6), some (xI (w3_2 + (z11 - z12))), some (xI w3_3), some (xI w3_4), some (xI w3_5)]) (sn_9 48) (fun _ _ => rfl) ?_
              refine mx_J.step (sn_9 49) (fun _ _ => rfl) ?_
              refine mx_J.step (sn_9 50) (fun _ _ => rfl) ?_
              refine mx_J.step (sn_9 52) (fun _ _ => rfl) ?_
              refine mx_J.step (sn_9 53) (fun _ _ => rfl) ?_
              refine JialdI (z := Z 6 w3_5) hx (show mx_Sn _ _ 55 (mx_iald 56) from sn_9 55) a6 s6 (by omega) rfl ?_
              refine JimulQ (A := 18) (C := 40) (show mx_Sn _ _ 56 (mx_imul 57) from sn_9 56) (by omega) (by omega) (by decide) (fun y13 hy13 hym => ?_)
              refine Jisub (show mx_Sn _ _ 57 (mx_isub 58) from sn_9 57) ?_
              have wa := W1 (n := w3_3) (m := w3_5) (by omega) (by omega)
              have wb : (w3_3 - y13) < 0 ∨ wy ((w3_3 - y13) * 19 + w3_5) ≤ wy (w3_3 * 19 + w3_5) := W2 (by omega) (by omega)
              have wc : wy (w3_3 * 19 + w3_5) ≤ wy (w3_3 * 19 + w3_4) := W3 (by omega) (by omega)
              refine mx_J.step (ls2 := [some (.ref 7), some (.ref 6), some (xI (w3_2 + (z11 - z12))), some (xI (w3_3 - y13)), some (xI w3_4), some (xI w3_5)]) (sn_9 58) (fun _ _ => rfl) ?_
              refine mx_J.step (sn_9 59) (fun _ _ => rfl) ?_
              refine mx_J.step (ls2 := [some (.ref 7), some (.ref 6), some (xI (w3_2 + (z11 - z12))), some (xI (w3_3 - y13)), some (xI w3_5), some (xI w3_5)]) (sn_9 61) (fun _ _ => rfl) ?_
              exact c63 (w3_2 + (z11 - z12)) (w3_3 - y13) w3_5 (by omega) (by omega) (by omega) (by omega) (by omega) (nmt_y (by assumption) (by omega) (by omega) (by omega) hym (by omega))
    exact c15 (Int.toNat (18 - 0) + 1) 0 (Z 7 4) 18 18 (by omega) (by omega) (by omega) (by omega) (by omega) (by omega) (by omega) (nmi_x)
theorem ct_9_7_6 {l : Launch} {D : va_G} {b0 : Nat} {ad : Nat → Nat} {Hb : Heap} {tau : Nat → Int64} {d n s : Nat} {S : Nat → xS} {Z : xZ} {h : mx_H} (hx : XH n s S Z h) (hG : GI n S Z)  (m6 : AB Z 6 19 (-40) 40) : ∃ z : Int, mx_Ca (tB l D b0 ad Hb tau) (d + 2) 9 [.ref 7, .ref 6] h (some (xI z), h) ∧ (z = nmN (Z 7 4) (Z 6) ∧ 0 ≤ z ∧ z ≤ 384) := by
  obtain ⟨r, hca, z, e, hp⟩ := Jmt (B := tB l D b0 ad Hb tau) (M := mt_9) (mi := 9) (as := [.ref 7, .ref 6]) (d := d + 1) (ls := [some (.ref 7), some (.ref 6), none, none, none, none]) rfl rfl rfl rfl rfl rfl (cw_9_7_6 (l := l) (D := D) (b0 := b0) (ad := ad) (Hb := Hb) (tau := tau) (d := d) (Post := fun r => ∃ z : Int, r = (some (xI z), h) ∧ (z = nmN (Z 7 4) (Z 6) ∧ 0 ≤ z ∧ z ≤ 384)) hx hG m6 (fun z hz => ⟨z, rfl, hz⟩))
  subst e; exact ⟨z, hca, hp⟩
set_option maxRecDepth 100000 in
theorem cw_9_7_42 {l : Launch} {D : va_G} {b0 : Nat} {ad : Nat → Nat} {Hb : Heap} {tau : Nat → Int64} {d n s : Nat} {S : Nat → xS} {Z : xZ} {h : mx_H} {Post : mx_R → Prop} (hx : XH n s S Z h) (hG : GI n S Z)  (m42 : AB Z 42 19 (-40) 40) (hP : ∀ z : Int, z = nmN (Z 7 4) (Z 42) ∧ 0 ≤ z ∧ z ≤ 384 → Post (some (xI z), h)) : mx_J (tB l D b0 ad Hb tau) mt_9 (d + 1) 0 [some (.ref 7), some (.ref 42), none, none, none, none] [] h Post := by
    have a7 : 7 < n := lt83 (GI_n hG) rfl
    have s7 : S 7 = .inl (0, [2, 2, 2, 2, 0, 0]) := GI_s hG 7 rfl
    have a42 : 42 < n := lt83 (GI_n hG) rfl
    have s42 : S 42 = .inr (.int, 19, 0) := GI_s hG 42 rfl
    refine JcI (z := 0) (show mx_Sn _ _ 0 (mx_const (.int 0) 1) from sn_9 0) rfl ?_
    refine mx_J.step (ls2 := [some (.ref 7), some (.ref 42), some (xI 0), none, none, none]) (sn_9 1) (fun _ _ => rfl) ?_
    refine mx_J.step (sn_9 2) (fun _ _ => rfl) ?_
    have b2 : 0 ≤ Z 7 4 ∧ Z 7 4 ≤ 18 := hG.pr 7 4
    refine JgetI (g := 4) (z := Z 7 4) hx (show mx_Sn _ _ 3 (mx_getf 0 4 6) from sn_9 3) a7 s7 rfl rfl rfl ?_
    refine mx_J.step (ls2 := [some (.ref 7), some (.ref 42), some (xI 0), some (xI (Z 7 4)), none, none]) (sn_9 6) (fun _ _ => rfl) ?_
    have wd := W1z (n := (Z 7 4)) (by omega)
    refine JcI (z := 18) (show mx_Sn _ _ 7 (mx_const (.int 18) 9) from sn_9 7) rfl ?_
    refine mx_J.step (ls2 := [some (.ref 7), some (.ref 42), some (xI 0), some (xI (Z 7 4)), some (xI 18), none]) (sn_9 9) (fun _ _ => rfl) ?_
    refine JcI (z := 18) (show mx_Sn _ _ 11 (mx_const (.int 18) 13) from sn_9 11) rfl ?_
    refine mx_J.step (ls2 := [some (.ref 7), some (.ref 42), some (xI 0), some (xI (Z 7 4)), some (xI 18), some (xI 18)]) (sn_9 13) (fun _ _ => rfl) ?_
    have c15 : ∀ (m3 : Nat) (w3_2 : Int) (w3_3 : Int) (w3_4 : Int) (w3_5 : Int), w3_5 - 0 < (m3 : Int) → 0 ≤ w3_2 ∧ w3_2 ≤ 384 → (-719) ≤ w3_3 ∧ w3_3 ≤ 18 → 1 ≤ w3_4 ∧ w3_4 ≤ 18 → 0 ≤ w3_5 ∧ w3_5 ≤ 18 → (w3_3 ≤ 0 ∨ w3_2 + wy (w3_3 * 19 + w3_4) ≤ 385) → w3_5 ≤ w3_4 → nmi (Z 42) w3_5 w3_2 w3_3 w3_4 = nmN (Z 7 4) (Z 42) → mx_J (tB l D b0 ad Hb tau) mt_9 (d + 1) 15 [some (.ref 7), some (.ref 42), some (xI w3_2), some (xI w3_3), some (xI w3_4), some (xI w3_5)] [] h Post := by
      intro m3
      induction m3 with
      | zero => intro w3_2 w3_3 w3_4 w3_5 q3 f3_0 f3_1 f3_2 f3_3 f3_4 f3_5 f3_6; exact absurd q3 (by omega)
      | succ m3 ih3 =>
        intro w3_2 w3_3 w3_4 w3_5 q3 f3_0 f3_1 f3_2 f3_3 f3_4 f3_5 f3_6
        refine mx_J.step (sn_9 15) (fun _ _ => rfl) ?_
        have c69 : (w3_5 ≤ 0 ∨ w3_3 ≤ 0) → mx_J (tB l D b0 ad Hb tau) mt_9 (d + 1) 69 [some (.ref 7), some (.ref 42), some (xI w3_2), some (xI w3_3), some (xI w3_4), some (xI w3_5)] [] h Post := by
          intro f4_0
          refine mx_J.step (sn_9 69) (fun _ _ => rfl) ?_
          exact mx_J.ret (sn_9 70) (fun _ _ => rfl) (hP w3_2 ⟨((nmi_0 (f := Z 42) (sz := w3_5) (nb := w3_2) (rest := w3_3) (above := w3_4) (by omega)).symm.trans (by assumption)), by omega⟩)
        refine Jif_le (show mx_Sn _ _ 17 (mx_if_le 69 20) from sn_9 17) (by omega) (fun q5 => ?_) (fun q5 => ?_)
        · skip
          exact c69 (by omega)
        · skip
          refine mx_J.step (sn_9 20) (fun _ _ => rfl) ?_
          refine Jif_le (show mx_Sn _ _ 21 (mx_if_le 69 24) from sn_9 21) (by omega) (fun q6 => ?_) (fun q6 => ?_)
          · skip
            exact c69 (by omega)
          · skip
            refine mx_J.step (sn_9 24) (fun _ _ => rfl) ?_
            refine mx_J.step (sn_9 25) (fun _ _ => rfl) ?_
            have b7 : (-40) ≤ Z 42 w3_5 ∧ Z 42 w3_5 ≤ 40 := m42 w3_5 (by omega) (by omega)
            have b8 : (-2147483648) ≤ Z 42 w3_5 ∧ Z 42 w3_5 ≤ 2147483647 := hG.pr 42 w3_5
            refine JialdI (z := Z 42 w3_5) hx (show mx_Sn _ _ 27 (mx_iald 28) from sn_9 27) a42 s42 (by omega) rfl ?_
            have c63 : ∀ (w9_2 : Int) (w9_3 : Int) (w9_4 : Int), 0 ≤ w9_2 ∧ w9_2 ≤ 384 → (-719) ≤ w9_3 ∧ w9_3 ≤ 18 → 1 ≤ w9_4 ∧ w9_4 ≤ 18 → (w9_3 ≤ 0 ∨ w9_2 + wy (w9_3 * 19 + w9_4) ≤ 385) → w3_5 ≤ w9_4 → nmi (Z 42) (w3_5 - 1) w9_2 w9_3 w9_4 = nmN (Z 7 4) (Z 42) → mx_J (tB l D b0 ad Hb tau) mt_9 (d + 1) 63 [some (.ref 7), some (.ref 42), some (xI w9_2), some (xI w9_3), some (xI w9_4), some (xI w3_5)] [] h Post := by
              intro w9_2 w9_3 w9_4 f9_0 f9_1 f9_2 f9_3 f9_4 f9_5
              refine Jiinc (z := w3_5) (cz := (-1)) (ls2 := [some (.ref 7), some (.ref 42), some (xI w9_2), some (xI w9_3), some (xI w9_4), some (xI (w3_5 + (-1)))]) (show mx_Sn _ _ 63 (mx_iinc 5 (-1) 66) from sn_9 63) rfl rfl rfl rfl ?_
              refine mx_J.step (sn_9 66) (fun _ _ => rfl) ?_
              exact ih3 w9_2 w9_3 w9_4 (w3_5 + (-1)) (by omega) (by omega) (by omega) (by omega) (by omega) (by omega) (by omega) (by assumption)
            refine Jif_le (show mx_Sn _ _ 28 (mx_if_le 63 31) from sn_9 28) (by omega) (fun q10 => ?_) (fun q10 => ?_)
            · skip
              exact c63 w3_2 w3_3 w3_4 (by omega) (by omega) (by omega) (by omega) (by omega) ((nmi_n (f := Z 42) (sz := w3_5) (nb := w3_2) (rest := w3_3) (above := w3_4) (by omega) (by omega) (by omega)).symm.trans (by assumption))
            · skip
              refine mx_J.step (sn_9 31) (fun _ _ => rfl) ?_
              refine mx_J.step (sn_9 32) (fun _ _ => rfl) ?_
              refine mx_J.step (sn_9 33) (fun _ _ => rfl) ?_
              refine mx_J.step (sn_9 34) (fun _ _ => rfl) ?_
              obtain ⟨z11, hc11, b11⟩ := ct_2_7 (d := d + 0) (l := l) (D := D) (b0 := b0) (ad := ad) (Hb := Hb) (tau := tau) hx hG (show 0 ≤ w3_3 ∧ w3_3 ≤ 18 by omega) (show 0 ≤ w3_4 ∧ w3_4 ≤ 18 by omega)
              refine Jcv hx (show mx_Sn _ _ 36 (mx_callv 2 3 0 39) from sn_9 36) a7 s7 hc11 rfl rfl rfl ?_
              refine mx_J.step (sn_9 39) (fun _ _ => rfl) ?_
              refine mx_J.step (sn_9 40) (fun _ _ => rfl) ?_
              refine mx_J.step (sn_9 41) (fun _ _ => rfl) ?_
              obtain ⟨z12, hc12, b12⟩ := ct_2_7 (d := d + 0) (l := l) (D := D) (b0 := b0) (ad := ad) (Hb := Hb) (tau := tau) hx hG (show 0 ≤ w3_3 ∧ w3_3 ≤ 18 by omega) (show 0 ≤ w3_5 ∧ w3_5 ≤ 18 by omega)
              refine Jcv hx (show mx_Sn _ _ 43 (mx_callv 2 3 0 46) from sn_9 43) a7 s7 hc12 rfl rfl rfl ?_
              refine Jisub (show mx_Sn _ _ 46 (mx_isub 47) from sn_9 46) ?_
              refine Jiadd (show mx_Sn _ _ 47 (mx_iadd 48) from sn_9 47) ?_
              refine mx_J.step (ls2 := [some (.ref 7), some (.ref 42), some (xI (w3_2 + (z11 - z12))), some (xI w3_3), some (xI w3_4), some (xI w3_5)]) (sn_9 48) (fun _ _ => rfl) ?_
              refine mx_J.step (sn_9 49) (fun _ _ => rfl) ?_
              refine mx_J.step (sn_9 50) (fun _ _ => rfl) ?_
              refine mx_J.step (sn_9 52) (fun _ _ => rfl) ?_
              refine mx_J.step (sn_9 53) (fun _ _ => rfl) ?_
              refine JialdI (z := Z 42 w3_5) hx (show mx_Sn _ _ 55 (mx_iald 56) from sn_9 55) a42 s42 (by omega) rfl ?_
              refine JimulQ (A := 18) (C := 40) (show mx_Sn _ _ 56 (mx_imul 57) from sn_9 56) (by omega) (by omega) (by decide) (fun y13 hy13 hym => ?_)
              refine Jisub (show mx_Sn _ _ 57 (mx_isub 58) from sn_9 57) ?_
              have wa := W1 (n := w3_3) (m := w3_5) (by omega) (by omega)
              have wb : (w3_3 - y13) < 0 ∨ wy ((w3_3 - y13) * 19 + w3_5) ≤ wy (w3_3 * 19 + w3_5) := W2 (by omega) (by omega)
              have wc : wy (w3_3 * 19 + w3_5) ≤ wy (w3_3 * 19 + w3_4) := W3 (by omega) (by omega)
              refine mx_J.step (ls2 := [some (.ref 7), some (.ref 42), some (xI (w3_2 + (z11 - z12))), some (xI (w3_3 - y13)), some (xI w3_4), some (xI w3_5)]) (sn_9 58) (fun _ _ => rfl) ?_
              refine mx_J.step (sn_9 59) (fun _ _ => rfl) ?_
              refine mx_J.step (ls2 := [some (.ref 7), some (.ref 42), some (xI (w3_2 + (z11 - z12))), some (xI (w3_3 - y13)), some (xI w3_5), some (xI w3_5)]) (sn_9 61) (fun _ _ => rfl) ?_
              exact c63 (w3_2 + (z11 - z12)) (w3_3 - y13) w3_5 (by omega) (by omega) (by omega) (by omega) (by omega) (nmt_y (by assumption) (by omega) (by omega) (by omega) hym (by omega))
    exact c15 (Int.toNat (18 - 0) + 1) 0 (Z 7 4) 18 18 (by omega) (by omega) (by omega) (by omega) (by omega) (by omega) (by omega) (nmi_x)
theorem ct_9_7_42 {l : Launch} {D : va_G} {b0 : Nat} {ad : Nat → Nat} {Hb : Heap} {tau : Nat → Int64} {d n s : Nat} {S : Nat → xS} {Z : xZ} {h : mx_H} (hx : XH n s S Z h) (hG : GI n S Z)  (m42 : AB Z 42 19 (-40) 40) : ∃ z : Int, mx_Ca (tB l D b0 ad Hb tau) (d + 2) 9 [.ref 7, .ref 42] h (some (xI z), h) ∧ (z = nmN (Z 7 4) (Z 42) ∧ 0 ≤ z ∧ z ≤ 384) := by
  obtain ⟨r, hca, z, e, hp⟩ := Jmt (B := tB l D b0 ad Hb tau) (M := mt_9) (mi := 9) (as := [.ref 7, .ref 42]) (d := d + 1) (ls := [some (.ref 7), some (.ref 42), none, none, none, none]) rfl rfl rfl rfl rfl rfl (cw_9_7_42 (l := l) (D := D) (b0 := b0) (ad := ad) (Hb := Hb) (tau := tau) (d := d) (Post := fun r => ∃ z : Int, r = (some (xI z), h) ∧ (z = nmN (Z 7 4) (Z 42) ∧ 0 ≤ z ∧ z ≤ 384)) hx hG m42 (fun z hz => ⟨z, rfl, hz⟩))
  subst e; exact ⟨z, hca, hp⟩
