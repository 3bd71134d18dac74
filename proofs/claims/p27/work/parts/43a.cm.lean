set_option maxRecDepth 100000 in
theorem cw_154_ {l : Launch} {D : va_G} {b0 : Nat} {ad : Nat → Nat} {Hb : Heap} {tau : Nat → Int64} {d n s : Nat} {S : Nat → xS} {Z : xZ} {h : mx_H} {Post : mx_R → Prop} (hx : XH n s S Z h) (hG : GI n S Z)  {x0 x1 x2 : Int} (p0 : (-9223372036854775808) ≤ x0 ∧ x0 ≤ 9223372036854775807) (p1 : (-9223372036854775808) ≤ x1 ∧ x1 ≤ 9223372036854775807) (p2 : (-9223372036854775808) ≤ x2 ∧ x2 ≤ 9223372036854775807) (hP : ∀ z : Int, 0 ≤ z ∧ z ≤ 1 ∧ ((z = 1 ∧ x1 ≤ x0 ∧ x0 ≤ x2) ∨ (z = 0 ∧ ¬ (x1 ≤ x0 ∧ x0 ≤ x2))) → Post (some (xI z), h)) : mx_J (tB l D b0 ad Hb tau) mt_154 (d + 0) 0 [some (xL x0), none, some (xL x1), none, some (xL x2), none] [] h Post := by
    refine mx_J.step (sn_154 0) (fun _ _ => rfl) ?_
    refine mx_J.step (sn_154 1) (fun _ _ => rfl) ?_
    have c18 : ∀ (k1_0 : Int), 0 ≤ k1_0 ∧ k1_0 ≤ 1 → ((k1_0 = 1 ∧ x1 ≤ x0 ∧ x0 ≤ x2) ∨ (k1_0 = 0 ∧ ¬ (x1 ≤ x0 ∧ x0 ≤ x2))) → mx_J (tB l D b0 ad Hb tau) mt_154 (d + 0) 18 [some (xL x0), none, some (xL x1), none, some (xL x2), none] [xI k1_0] h Post := by
      intro k1_0 f1_0 f1_1
      exact mx_J.ret (show mx_Sn _ _ 18 (mx_zret) from sn_154 18) (fun _ _ => zr_ok (by omega)) (hP k1_0 (by omega))
    have c17 : ¬ (x1 ≤ x0 ∧ x0 ≤ x2) → mx_J (tB l D b0 ad Hb tau) mt_154 (d + 0) 17 [some (xL x0), none, some (xL x1), none, some (xL x2), none] [] h Post := by
      intro f2_0
      refine JcI (z := 0) (show mx_Sn _ _ 17 (mx_const (.int 0) 18) from sn_154 17) rfl ?_
      exact c18 0 (by omega) (by omega)
    refine Jlif_lt (show mx_Sn _ _ 2 (mx_lif_lt 17 6) from sn_154 2) (by omega) (by omega) (fun q3 => ?_) (fun q3 => ?_)
    · skip
      exact c17 (by omega)
    · skip
      refine mx_J.step (sn_154 6) (fun _ _ => rfl) ?_
      refine mx_J.step (sn_154 7) (fun _ _ => rfl) ?_
      refine Jlif_gt (show mx_Sn _ _ 9 (mx_lif_gt 17 13) from sn_154 9) (by omega) (by omega) (fun q4 => ?_) (fun q4 => ?_)
      · skip
        exact c17 (by omega)
      · skip
        refine JcI (z := 1) (show mx_Sn _ _ 13 (mx_const (.int 1) 14) from sn_154 13) rfl ?_
        refine mx_J.step (sn_154 14) (fun _ _ => rfl) ?_
        exact c18 1 (by omega) (by omega)
theorem ct_154_ {l : Launch} {D : va_G} {b0 : Nat} {ad : Nat → Nat} {Hb : Heap} {tau : Nat → Int64} {d n s : Nat} {S : Nat → xS} {Z : xZ} {h : mx_H} (hx : XH n s S Z h) (hG : GI n S Z)  {x0 x1 x2 : Int} (p0 : (-9223372036854775808) ≤ x0 ∧ x0 ≤ 9223372036854775807) (p1 : (-9223372036854775808) ≤ x1 ∧ x1 ≤ 9223372036854775807) (p2 : (-9223372036854775808) ≤ x2 ∧ x2 ≤ 9223372036854775807) : ∃ z : Int, mx_Ca (tB l D b0 ad Hb tau) (d + 1) 154 [xL x0, xL x1, xL x2] h (some (xI z), h) ∧ (0 ≤ z ∧ z ≤ 1 ∧ ((z = 1 ∧ x1 ≤ x0 ∧ x0 ≤ x2) ∨ (z = 0 ∧ ¬ (x1 ≤ x0 ∧ x0 ≤ x2)))) := by
  obtain ⟨r, hca, z, e, hp⟩ := Jmt (B := tB l D b0 ad Hb tau) (M := mt_154) (mi := 154) (as := [xL x0, xL x1, xL x2]) (d := d + 0) (ls := [some (xL x0), none, some (xL x1), none, some (xL x2), none]) rfl rfl rfl rfl rfl rfl (cw_154_ (l := l) (D := D) (b0 := b0) (ad := ad) (Hb := Hb) (tau := tau) (d := d) (Post := fun r => ∃ z : Int, r = (some (xI z), h) ∧ (0 ≤ z ∧ z ≤ 1 ∧ ((z = 1 ∧ x1 ≤ x0 ∧ x0 ≤ x2) ∨ (z = 0 ∧ ¬ (x1 ≤ x0 ∧ x0 ≤ x2))))) hx hG p0 p1 p2 (fun z hz => ⟨z, rfl, hz⟩))
  subst e; exact ⟨z, hca, hp⟩
set_option maxRecDepth 100000 in
theorem cw_208_ {l : Launch} {D : va_G} {b0 : Nat} {ad : Nat → Nat} {Hb : Heap} {tau : Nat → Int64} {d n s : Nat} {S : Nat → xS} {Z : xZ} {h : mx_H} {Post : mx_R → Prop} (hx : XH n s S Z h) (hG : GI n S Z)  {x0 : Int} (p0 : (-9223372036854775808) ≤ x0 ∧ x0 ≤ 9223372036854775807) (hP : ∀ z : Int, 0 ≤ z ∧ z ≤ 1 ∧ ((z = 1 ∧ 1 ≤ x0 ∧ x0 ≤ 18) ∨ (z = 0 ∧ ¬ (1 ≤ x0 ∧ x0 ≤ 18))) → Post (some (xI z), h)) : mx_J (tB l D b0 ad Hb tau) mt_208 (d + 1) 0 [some (xL x0), none] [] h Post := by
    refine mx_J.step (sn_208 0) (fun _ _ => rfl) ?_
    refine JcL (z := 1) (show mx_Sn _ _ 1 (mx_const (.long 1) 2) from sn_208 1) rfl ?_
    refine JcL (z := 18) (show mx_Sn _ _ 2 (mx_const (.long 18) 5) from sn_208 2) rfl ?_
    obtain ⟨z1, hc1, b1⟩ := ct_154_ (d := d + 0) (l := l) (D := D) (b0 := b0) (ad := ad) (Hb := Hb) (tau := tau) hx hG (show (-9223372036854775808) ≤ x0 ∧ x0 ≤ 9223372036854775807 by omega) (show (-9223372036854775808) ≤ 1 ∧ 1 ≤ 9223372036854775807 by omega) (show (-9223372036854775808) ≤ 18 ∧ 18 ≤ 9223372036854775807 by omega)
    refine Jcs (show mx_Sn _ _ 5 (mx_calls 154 3 8) from sn_208 5) hc1 rfl rfl rfl ?_
    exact mx_J.ret (show mx_Sn _ _ 8 (mx_zret) from sn_208 8) (fun _ _ => zr_ok (by omega)) (hP z1 (by omega))
theorem ct_208_ {l : Launch} {D : va_G} {b0 : Nat} {ad : Nat → Nat} {Hb : Heap} {tau : Nat → Int64} {d n s : Nat} {S : Nat → xS} {Z : xZ} {h : mx_H} (hx : XH n s S Z h) (hG : GI n S Z)  {x0 : Int} (p0 : (-9223372036854775808) ≤ x0 ∧ x0 ≤ 9223372036854775807) : ∃ z : Int, mx_Ca (tB l D b0 ad Hb tau) (d + 2) 208 [xL x0] h (some (xI z), h) ∧ (0 ≤ z ∧ z ≤ 1 ∧ ((z = 1 ∧ 1 ≤ x0 ∧ x0 ≤ 18) ∨ (z = 0 ∧ ¬ (1 ≤ x0 ∧ x0 ≤ 18)))) := by
  obtain ⟨r, hca, z, e, hp⟩ := Jmt (B := tB l D b0 ad Hb tau) (M := mt_208) (mi := 208) (as := [xL x0]) (d := d + 1) (ls := [some (xL x0), none]) rfl rfl rfl rfl rfl rfl (cw_208_ (l := l) (D := D) (b0 := b0) (ad := ad) (Hb := Hb) (tau := tau) (d := d) (Post := fun r => ∃ z : Int, r = (some (xI z), h) ∧ (0 ≤ z ∧ z ≤ 1 ∧ ((z = 1 ∧ 1 ≤ x0 ∧ x0 ≤ 18) ∨ (z = 0 ∧ ¬ (1 ≤ x0 ∧ x0 ≤ 18))))) hx hG p0 (fun z hz => ⟨z, rfl, hz⟩))
  subst e; exact ⟨z, hca, hp⟩
set_option maxRecDepth 100000 in
theorem cw_190_56 {l : Launch} {D : va_G} {b0 : Nat} {ad : Nat → Nat} {Hb : Heap} {tau : Nat → Int64} {d n s : Nat} {S : Nat → xS} {Z : xZ} {h : mx_H} {Post : mx_R → Prop} (hx : XH n s S Z h) (hG : GI n S Z)  {x0 x1 : Int} (p0 : 0 ≤ x0 ∧ x0 ≤ 384) (p1 : 0 ≤ x1 ∧ x1 ≤ 17) (hP : ∀ z : Int, 0 ≤ z ∧ z ≤ 18 ∧ z = Z 61 (18 * x0 + x1) → Post (some (xI z), h)) : mx_J (tB l D b0 ad Hb tau) mt_190 (d + 0) 0 [some (.ref 56), some (xI x0), some (xI x1)] [] h Post := by
    have a56 : 56 < n := lt83 (GI_n hG) rfl
    have s56 : S 56 = .inl (12, [0, 2, 2, 2, 2, 0, 0, 0, 0, 0, 0, 0, 0, 0, 0, 2, 2, 2, 0, 2, 2, 2, 0, 0, 2, 2, 2, 2, 2, 2, 0, 0, 2, 2, 2, 2, 2, 2, 2, 2, 2, 2]) := GI_s hG 56 rfl
    have a61 : 61 < n := lt83 (GI_n hG) rfl
    have s61 : S 61 = .inr (.int, 6930, 0) := GI_s hG 61 rfl
    refine mx_J.step (sn_190 0) (fun _ _ => rfl) ?_
    refine JgetR (g := 15) (b := 61) hx (show mx_Sn _ _ 1 (mx_getf 12 15 4) from sn_190 1) a56 s56 rfl rfl (hG.prr 56 15 rfl) ?_
    refine JcI (z := 18) (show mx_Sn _ _ 4 (mx_const (.int 18) 6) from sn_190 4) rfl ?_
    refine mx_J.step (sn_190 6) (fun _ _ => rfl) ?_
    refine Jimul (show mx_Sn _ _ 7 (mx_imul 8) from sn_190 7) ?_
    refine mx_J.step (sn_190 8) (fun _ _ => rfl) ?_
    refine Jiadd (show mx_Sn _ _ 9 (mx_iadd 10) from sn_190 9) ?_
    have b2 : 0 ≤ Z 61 ((18 * x0) + x1) ∧ Z 61 ((18 * x0) + x1) ≤ 18 := hG.pr 61 ((18 * x0) + x1)
    refine JialdI (z := Z 61 ((18 * x0) + x1)) hx (show mx_Sn _ _ 10 (mx_iald 11) from sn_190 10) a61 s61 (by omega) rfl ?_
    have b3 : 0 ≤ Z 61 (18 * x0 + x1) ∧ Z 61 (18 * x0 + x1) ≤ 18 := hG.pr 61 (18 * x0 + x1)
    exact mx_J.ret (sn_190 11) (fun _ _ => rfl) (hP (Z 61 ((18 * x0) + x1)) (by omega))
theorem ct_190_56 {l : Launch} {D : va_G} {b0 : Nat} {ad : Nat → Nat} {Hb : Heap} {tau : Nat → Int64} {d n s : Nat} {S : Nat → xS} {Z : xZ} {h : mx_H} (hx : XH n s S Z h) (hG : GI n S Z)  {x0 x1 : Int} (p0 : 0 ≤ x0 ∧ x0 ≤ 384) (p1 : 0 ≤ x1 ∧ x1 ≤ 17) : ∃ z : Int, mx_Ca (tB l D b0 ad Hb tau) (d + 1) 190 [.ref 56, xI x0, xI x1] h (some (xI z), h) ∧ (0 ≤ z ∧ z ≤ 18 ∧ z = Z 61 (18 * x0 + x1)) := by
  obtain ⟨r, hca, z, e, hp⟩ := Jmt (B := tB l D b0 ad Hb tau) (M := mt_190) (mi := 190) (as := [.ref 56, xI x0, xI x1]) (d := d + 0) (ls := [some (.ref 56), some (xI x0), some (xI x1)]) rfl rfl rfl rfl rfl rfl (cw_190_56 (l := l) (D := D) (b0 := b0) (ad := ad) (Hb := Hb) (tau := tau) (d := d) (Post := fun r => ∃ z : Int, r = (some (xI z), h) ∧ (0 ≤ z ∧ z ≤ 18 ∧ z = Z 61 (18 * x0 + x1))) hx hG p0 p1 (fun z hz => ⟨z, rfl, hz⟩))
  subst e; exact ⟨z, hca, hp⟩
set_option maxRecDepth 100000 in
theorem cw_191_56 {l : Launch} {D : va_G} {b0 : Nat} {ad : Nat → Nat} {Hb : Heap} {tau : Nat → Int64} {d n s : Nat} {S : Nat → xS} {Z : xZ} {h : mx_H} {Post : mx_R → Prop} (hx : XH n s S Z h) (hG : GI n S Z)  {x0 : Int} (p0 : 0 ≤ x0 ∧ x0 ≤ 384) (hP : ∀ z : Int, 0 ≤ z ∧ z ≤ 18 ∧ z = mn Z x0 → Post (some (xI z), h)) : mx_J (tB l D b0 ad Hb tau) mt_191 (d + 1) 0 [some (.ref 56), some (xI x0), none] [] h Post := by
    have a56 : 56 < n := lt83 (GI_n hG) rfl
    have s56 : S 56 = .inl (12, [0, 2, 2, 2, 2, 0, 0, 0, 0, 0, 0, 0, 0, 0, 0, 2, 2, 2, 0, 2, 2, 2, 0, 0, 2, 2, 2, 2, 2, 2, 0, 0, 2, 2, 2, 2, 2, 2, 2, 2, 2, 2]) := GI_s hG 56 rfl
    refine JcI (z := 0) (show mx_Sn _ _ 0 (mx_const (.int 0) 1) from sn_191 0) rfl ?_
    refine mx_J.step (ls2 := [some (.ref 56), some (xI x0), some (xI 0)]) (sn_191 1) (fun _ _ => rfl) ?_
    have c2 : ∀ (m1 : Nat) (w1_2 : Int), 18 - w1_2 < (m1 : Int) → 0 ≤ w1_2 ∧ w1_2 ≤ 18 → mn Z x0 = mnk Z x0 w1_2 → mx_J (tB l D b0 ad Hb tau) mt_191 (d + 1) 2 [some (.ref 56), some (xI x0), some (xI w1_2)] [] h Post := by
      intro m1
      induction m1 with
      | zero => intro w1_2 q1 f1_0 f1_1; exact absurd q1 (by omega)
      | succ m1 ih1 =>
        intro w1_2 q1 f1_0 f1_1
        refine mx_J.step (sn_191 2) (fun _ _ => rfl) ?_
        refine JcI (z := 18) (show mx_Sn _ _ 3 (mx_const (.int 18) 5) from sn_191 3) rfl ?_
        refine Jicmp_ge (show mx_Sn _ _ 5 (mx_icmp_ge 23 8) from sn_191 5) (by omega) (by omega) (fun q2 => ?_) (fun q2 => ?_)
        · skip
          refine mx_J.step (sn_191 23) (fun _ _ => rfl) ?_
          have mx := mn_x (Z := Z) (s := x0) (k := w1_2) (by omega) (by omega)
          exact mx_J.ret (sn_191 24) (fun _ _ => rfl) (hP w1_2 (by omega))
        · skip
          refine mx_J.step (sn_191 8) (fun _ _ => rfl) ?_
          refine mx_J.step (sn_191 9) (fun _ _ => rfl) ?_
          refine mx_J.step (sn_191 10) (fun _ _ => rfl) ?_
          have b4 : 0 ≤ Z 61 (18 * x0 + w1_2) ∧ Z 61 (18 * x0 + w1_2) ≤ 18 := hG.pr 61 (18 * x0 + w1_2)
          obtain ⟨z3, hc3, b3⟩ := ct_190_56 (d := d + 0) (l := l) (D := D) (b0 := b0) (ad := ad) (Hb := Hb) (tau := tau) hx hG (show 0 ≤ x0 ∧ x0 ≤ 384 by omega) (show 0 ≤ w1_2 ∧ w1_2 ≤ 17 by omega)
          refine Jcv hx (show mx_Sn _ _ 11 (mx_callv 190 3 12 14) from sn_191 11) a56 s56 hc3 rfl rfl rfl ?_
          refine Jif_le (show mx_Sn _ _ 14 (mx_if_le 23 17) from sn_191 14) (by omega) (fun q5 => ?_) (fun q5 => ?_)
          · skip
            refine mx_J.step (sn_191 23) (fun _ _ => rfl) ?_
            have mx := mn_x (Z := Z) (s := x0) (k := w1_2) (by omega) (by omega)
            exact mx_J.ret (sn_191 24) (fun _ _ => rfl) (hP w1_2 (by omega))
          · skip
            have ms := mn_s (Z := Z) (s := x0) (k := w1_2) (by omega) (by omega)
            refine Jiinc (z := w1_2) (cz := 1) (ls2 := [some (.ref 56), some (xI x0), some (xI (w1_2 + 1))]) (show mx_Sn _ _ 17 (mx_iinc 2 1 20) from sn_191 17) rfl rfl rfl rfl ?_
            refine mx_J.step (sn_191 20) (fun _ _ => rfl) ?_
            exact ih1 (w1_2 + 1) (by omega) (by omega) (by first | rfl | omega)
    exact c2 (Int.toNat (18 - 0) + 1) 0 (by omega) (by omega) (by first | rfl | omega)
theorem ct_191_56 {l : Launch} {D : va_G} {b0 : Nat} {ad : Nat → Nat} {Hb : Heap} {tau : Nat → Int64} {d n s : Nat} {S : Nat → xS} {Z : xZ} {h : mx_H} (hx : XH n s S Z h) (hG : GI n S Z)  {x0 : Int} (p0 : 0 ≤ x0 ∧ x0 ≤ 384) : ∃ z : Int, mx_Ca (tB l D b0 ad Hb tau) (d + 2) 191 [.ref 56, xI x0] h (some (xI z), h) ∧ (0 ≤ z ∧ z ≤ 18 ∧ z = mn Z x0) := by
  obtain ⟨r, hca, z, e, hp⟩ := Jmt (B := tB l D b0 ad Hb tau) (M := mt_191) (mi := 191) (as := [.ref 56, xI x0]) (d := d + 1) (ls := [some (.ref 56), some (xI x0), none]) rfl rfl rfl rfl rfl rfl (cw_191_56 (l := l) (D := D) (b0 := b0) (ad := ad) (Hb := Hb) (tau := tau) (d := d) (Post := fun r => ∃ z : Int, r = (some (xI z), h) ∧ (0 ≤ z ∧ z ≤ 18 ∧ z = mn Z x0)) hx hG p0 (fun z hz => ⟨z, rfl, hz⟩))
  subst e; exact ⟨z, hca, hp⟩
set_option maxRecDepth 100000 in
theorem cw_192_56 {l : Launch} {D : va_G} {b0 : Nat} {ad : Nat → Nat} {Hb : Heap} {tau : Nat → Int64} {d n s : Nat} {S : Nat → xS} {Z : xZ} {h : mx_H} {Post : mx_R → Prop} (hx : XH n s S Z h) (hG : GI n S Z)  {x0 x1 : Int} (p0 : 0 ≤ x0 ∧ x0 ≤ 384) (p1 : (-2147483648) ≤ x1 ∧ x1 ≤ 2147483647) (hP : ∀ z : Int, (-1) ≤ z ∧ z ≤ 17 ∧ ((z = -1 ∧ hv Z x0 x1 = 0) ∨ (0 ≤ z ∧ hv Z x0 x1 = 1)) → Post (some (xI z), h)) : mx_J (tB l D b0 ad Hb tau) mt_192 (d + 1) 0 [some (.ref 56), some (xI x0), some (xI x1), none] [] h Post := by
    have a56 : 56 < n := lt83 (GI_n hG) rfl
    have s56 : S 56 = .inl (12, [0, 2, 2, 2, 2, 0, 0, 0, 0, 0, 0, 0, 0, 0, 0, 2, 2, 2, 0, 2, 2, 2, 0, 0, 2, 2, 2, 2, 2, 2, 0, 0, 2, 2, 2, 2, 2, 2, 2, 2, 2, 2]) := GI_s hG 56 rfl
    refine JcI (z := 0) (show mx_Sn _ _ 0 (mx_const (.int 0) 1) from sn_192 0) rfl ?_
    refine mx_J.step (ls2 := [some (.ref 56), some (xI x0), some (xI x1), some (xI 0)]) (sn_192 1) (fun _ _ => rfl) ?_
    have c2 : ∀ (m1 : Nat) (w1_3 : Int), 18 - w1_3 < (m1 : Int) → 0 ≤ w1_3 ∧ w1_3 ≤ 18 → nm Z x0 x1 w1_3 → mx_J (tB l D b0 ad Hb tau) mt_192 (d + 1) 2 [some (.ref 56), some (xI x0), some (xI x1), some (xI w1_3)] [] h Post := by
      intro m1
      induction m1 with
      | zero => intro w1_3 q1 f1_0 f1_1; exact absurd q1 (by omega)
      | succ m1 ih1 =>
        intro w1_3 q1 f1_0 f1_1
        refine mx_J.step (sn_192 2) (fun _ _ => rfl) ?_
        refine JcI (z := 18) (show mx_Sn _ _ 3 (mx_const (.int 18) 5) from sn_192 3) rfl ?_
        refine Jicmp_ge (show mx_Sn _ _ 5 (mx_icmp_ge 30 8) from sn_192 5) (by omega) (by omega) (fun q2 => ?_) (fun q2 => ?_)
        · skip
          refine JcI (z := (-1)) (show mx_Sn _ _ 30 (mx_const (.int (-1)) 31) from sn_192 30) rfl ?_
          have hvn := hv_n (Z := Z) (s := x0) (t := x1) (k := w1_3) (by first | exact Or.inl (by omega) | exact Or.inr ⟨by omega, by assumption⟩)
          exact mx_J.ret (sn_192 31) (fun _ _ => rfl) (hP (-1) (by omega))
        · skip
          refine mx_J.step (sn_192 8) (fun _ _ => rfl) ?_
          refine Jif_le (show mx_Sn _ _ 9 (mx_if_le 30 12) from sn_192 9) (by omega) (fun q3 => ?_) (fun q3 => ?_)
          · skip
            refine JcI (z := (-1)) (show mx_Sn _ _ 30 (mx_const (.int (-1)) 31) from sn_192 30) rfl ?_
            have hvn := hv_n (Z := Z) (s := x0) (t := x1) (k := w1_3) (by first | exact Or.inl (by omega) | exact Or.inr ⟨by omega, by assumption⟩)
            exact mx_J.ret (sn_192 31) (fun _ _ => rfl) (hP (-1) (by omega))
          · skip
            refine mx_J.step (sn_192 12) (fun _ _ => rfl) ?_
            refine mx_J.step (sn_192 13) (fun _ _ => rfl) ?_
            refine mx_J.step (sn_192 14) (fun _ _ => rfl) ?_
            have b5 : 0 ≤ Z 61 (18 * x0 + w1_3) ∧ Z 61 (18 * x0 + w1_3) ≤ 18 := hG.pr 61 (18 * x0 + w1_3)
            obtain ⟨z4, hc4, b4⟩ := ct_190_56 (d := d + 0) (l := l) (D := D) (b0 := b0) (ad := ad) (Hb := Hb) (tau := tau) hx hG (show 0 ≤ x0 ∧ x0 ≤ 384 by omega) (show 0 ≤ w1_3 ∧ w1_3 ≤ 17 by omega)
            refine Jcv hx (show mx_Sn _ _ 15 (mx_callv 190 3 12 18) from sn_192 15) a56 s56 hc4 rfl rfl rfl ?_
            refine mx_J.step (sn_192 18) (fun _ _ => rfl) ?_
            refine Jicmp_ne (show mx_Sn _ _ 19 (mx_icmp_ne 24 22) from sn_192 19) (by omega) (by omega) (fun q6 => ?_) (fun q6 => ?_)
            · skip
              refine Jiinc (z := w1_3) (cz := 1) (ls2 := [some (.ref 56), some (xI x0), some (xI x1), some (xI (w1_3 + 1))]) (show mx_Sn _ _ 24 (mx_iinc 3 1 27) from sn_192 24) rfl rfl rfl rfl ?_
              refine mx_J.step (sn_192 27) (fun _ _ => rfl) ?_
              exact ih1 (w1_3 + 1) (by omega) (by omega) (by first | exact nm_0 (by omega) | exact nm_s (by assumption) (by omega))
            · skip
              refine mx_J.step (sn_192 22) (fun _ _ => rfl) ?_
              have hvy := hv_y (Z := Z) (s := x0) (t := x1) (j := w1_3) (by omega) (by omega) (by omega)
              exact mx_J.ret (sn_192 23) (fun _ _ => rfl) (hP w1_3 (by omega))
    exact c2 (Int.toNat (18 - 0) + 1) 0 (by omega) (by omega) (by first | exact nm_0 (by omega) | exact nm_s (by assumption) (by omega))
theorem ct_192_56 {l : Launch} {D : va_G} {b0 : Nat} {ad : Nat → Nat} {Hb : Heap} {tau : Nat → Int64} {d n s : Nat} {S : Nat → xS} {Z : xZ} {h : mx_H} (hx : XH n s S Z h) (hG : GI n S Z)  {x0 x1 : Int} (p0 : 0 ≤ x0 ∧ x0 ≤ 384) (p1 : (-2147483648) ≤ x1 ∧ x1 ≤ 2147483647) : ∃ z : Int, mx_Ca (tB l D b0 ad Hb tau) (d + 2) 192 [.ref 56, xI x0, xI x1] h (some (xI z), h) ∧ ((-1) ≤ z ∧ z ≤ 17 ∧ ((z = -1 ∧ hv Z x0 x1 = 0) ∨ (0 ≤ z ∧ hv Z x0 x1 = 1))) := by
  obtain ⟨r, hca, z, e, hp⟩ := Jmt (B := tB l D b0 ad Hb tau) (M := mt_192) (mi := 192) (as := [.ref 56, xI x0, xI x1]) (d := d + 1) (ls := [some (.ref 56), some (xI x0), some (xI x1), none]) rfl rfl rfl rfl rfl rfl (cw_192_56 (l := l) (D := D) (b0 := b0) (ad := ad) (Hb := Hb) (tau := tau) (d := d) (Post := fun r => ∃ z : Int, r = (some (xI z), h) ∧ ((-1) ≤ z ∧ z ≤ 17 ∧ ((z = -1 ∧ hv Z x0 x1 = 0) ∨ (0 ≤ z ∧ hv Z x0 x1 = 1)))) hx hG p0 p1 (fun z hz => ⟨z, rfl, hz⟩))
  subst e; exact ⟨z, hca, hp⟩
set_option maxRecDepth 100000 in
theorem cw_186_56 {l : Launch} {D : va_G} {b0 : Nat} {ad : Nat → Nat} {Hb : Heap} {tau : Nat → Int64} {d n s : Nat} {S : Nat → xS} {Z : xZ} {h : mx_H} {Post : mx_R → Prop} (hx : XH n s S Z h) (hG : GI n S Z)   (hP : ∀ (Z' : xZ) (h' : mx_H), XH n s S Z' h' → GI n S Z' → fr' [(62, (-1))] Z Z' → FLL Z' 62 20 0 → Post (none, h')) : mx_J (tB l D b0 ad Hb tau) mt_186 (d + 0) 0 [some (.ref 56), none] [] h Post := by
    have a56 : 56 < n := lt83 (GI_n hG) rfl
    have s56 : S 56 = .inl (12, [0, 2, 2, 2, 2, 0, 0, 0, 0, 0, 0, 0, 0, 0, 0, 2, 2, 2, 0, 2, 2, 2, 0, 0, 2, 2, 2, 2, 2, 2, 0, 0, 2, 2, 2, 2, 2, 2, 2, 2, 2, 2]) := GI_s hG 56 rfl
    have a62 : 62 < n := lt83 (GI_n hG) rfl
    have s62 : S 62 = .inr (.int, 20, 0) := GI_s hG 62 rfl
    refine JcI (z := 0) (show mx_Sn _ _ 0 (mx_const (.int 0) 1) from sn_186 0) rfl ?_
    refine mx_J.step (ls2 := [some (.ref 56), some (xI 0)]) (sn_186 1) (fun _ _ => rfl) ?_
    have c2 : ∀ (m1 : Nat) (w1_1 : Int) (Z2 : xZ) (h2 : mx_H), 20 - w1_1 < (m1 : Int) → 0 ≤ w1_1 ∧ w1_1 ≤ 20 → FLL Z2 62 w1_1 0 → XH n s S Z2 h2 → GI n S Z2 → fr' [(62, (-1))] Z Z2 → mx_J (tB l D b0 ad Hb tau) mt_186 (d + 0) 2 [some (.ref 56), some (xI w1_1)] [] h2 Post := by
      intro m1
      induction m1 with
      | zero => intro w1_1 Z2 h2 q1 f1_0 f1_1 hx2 hG2 hf2; exact absurd q1 (by omega)
      | succ m1 ih1 =>
        intro w1_1 Z2 h2 q1 f1_0 f1_1 hx2 hG2 hf2
        refine mx_J.step (sn_186 2) (fun _ _ => rfl) ?_
        refine JcI (z := 20) (show mx_Sn _ _ 3 (mx_const (.int 20) 5) from sn_186 3) rfl ?_
        refine Jicmp_ge (show mx_Sn _ _ 5 (mx_icmp_ge 21 8) from sn_186 5) (by omega) (by omega) (fun q3 => ?_) (fun q3 => ?_)
        · skip
          exact mx_J.ret (sn_186 21) (fun _ _ => rfl) (hP Z2 h2 hx2 hG2 (fr_tr (M := [(62, (-1))]) fr_rf (hf2) (M1 := []) rfl rfl) (fll_m (by assumption) (by omega)))
        · skip
          refine mx_J.step (sn_186 8) (fun _ _ => rfl) ?_
          refine JgetR (g := 16) (b := 62) hx2 (show mx_Sn _ _ 9 (mx_getf 12 16 12) from sn_186 9) a56 s56 rfl rfl (hG2.prr 56 16 rfl) ?_
          refine mx_J.step (sn_186 12) (fun _ _ => rfl) ?_
          refine JcI (z := 0) (show mx_Sn _ _ 13 (mx_const (.int 0) 14) from sn_186 13) rfl ?_
          refine JiastI hx2 (show mx_Sn _ _ 14 (mx_iast 1 15) from sn_186 14) a62 s62 rfl (by omega) (fun Z5 h5 hx5 hE5 => ?_)
          have hG5 := GI_up hG2 hE5 (show (-2147483648) ≤ 0 ∧ 0 ≤ 2147483647 by omega) trivial rfl
          have fl1 : FLL Z5 62 (w1_1 + 1) 0 := fll_s (Z := Z2) (by assumption) hE5
          refine Jiinc (z := w1_1) (cz := 1) (ls2 := [some (.ref 56), some (xI (w1_1 + 1))]) (show mx_Sn _ _ 15 (mx_iinc 1 1 18) from sn_186 15) rfl rfl rfl rfl ?_
          refine mx_J.step (sn_186 18) (fun _ _ => rfl) ?_
          exact ih1 (w1_1 + 1) Z5 h5 (by omega) (by omega) (by first | exact fll_0 | assumption) hx5 hG5 (fr_tr (M := [(62, (-1))]) (fr_tr (M := [(62, (-1))]) fr_rf (hf2) (M1 := []) rfl rfl) (fr_ua hE5) rfl rfl)
    exact c2 (Int.toNat (20 - 0) + 1) 0 Z h (by omega) (by omega) (by first | exact fll_0 | assumption) hx hG fr_rf
theorem ct_186_56 {l : Launch} {D : va_G} {b0 : Nat} {ad : Nat → Nat} {Hb : Heap} {tau : Nat → Int64} {d n s : Nat} {S : Nat → xS} {Z : xZ} {h : mx_H} (hx : XH n s S Z h) (hG : GI n S Z)   : ∃ (Z' : xZ) (h' : mx_H), mx_Ca (tB l D b0 ad Hb tau) (d + 1) 186 [.ref 56] h (none, h') ∧ XH n s S Z' h' ∧ GI n S Z' ∧ fr' [(62, (-1))] Z Z' ∧ (FLL Z' 62 20 0) := by
  obtain ⟨r, hca, Z', h', e, q⟩ := Jmt (B := tB l D b0 ad Hb tau) (M := mt_186) (mi := 186) (as := [.ref 56]) (d := d + 0) (ls := [some (.ref 56), none]) rfl rfl rfl rfl rfl rfl (cw_186_56 (l := l) (D := D) (b0 := b0) (ad := ad) (Hb := Hb) (tau := tau) (d := d) (Post := fun r => ∃ (Z' : xZ) (h' : mx_H), r = (none, h') ∧ XH n s S Z' h' ∧ GI n S Z' ∧ fr' [(62, (-1))] Z Z' ∧ (FLL Z' 62 20 0)) hx hG  (fun Z' h' q1 q2 q3 q4 => ⟨Z', h', rfl, q1, q2, q3, q4⟩))
  subst e; exact ⟨Z', h', hca, q⟩
set_option maxRecDepth 100000 in
theorem cw_187_56 {l : Launch} {D : va_G} {b0 : Nat} {ad : Nat → Nat} {Hb : Heap} {tau : Nat → Int64} {d n s : Nat} {S : Nat → xS} {Z : xZ} {h : mx_H} {Post : mx_R → Prop} (hx : XH n s S Z h) (hG : GI n S Z)  {x0 : Int} (p0 : 0 ≤ x0 ∧ x0 ≤ 384) (hP : ∀ (Z' : xZ) (h' : mx_H), XH n s S Z' h' → GI n S Z' → fr' [(62, (-1))] Z Z' → Post (none, h')) : mx_J (tB l D b0 ad Hb tau) mt_187 (d + 1) 0 [some (.ref 56), some (xI x0), none] [] h Post := by
    have a56 : 56 < n := lt83 (GI_n hG) rfl
    have s56 : S 56 = .inl (12, [0, 2, 2, 2, 2, 0, 0, 0, 0, 0, 0, 0, 0, 0, 0, 2, 2, 2, 0, 2, 2, 2, 0, 0, 2, 2, 2, 2, 2, 2, 0, 0, 2, 2, 2, 2, 2, 2, 2, 2, 2, 2]) := GI_s hG 56 rfl
    have a61 : 61 < n := lt83 (GI_n hG) rfl
    have s61 : S 61 = .inr (.int, 6930, 0) := GI_s hG 61 rfl
    have a62 : 62 < n := lt83 (GI_n hG) rfl
    have s62 : S 62 = .inr (.int, 20, 0) := GI_s hG 62 rfl
    refine mx_J.step (sn_187 0) (fun _ _ => rfl) ?_
    obtain ⟨Z1, h1, hc1, hx1, hG1, hf1, b1⟩ := ct_186_56 (d := d + 0) (l := l) (D := D) (b0 := b0) (ad := ad) (Hb := Hb) (tau := tau) hx hG 
    have bs1_0 := b1
    clear b1
    refine Jcv0 hx (show mx_Sn _ _ 1 (mx_callv 186 1 12 4) from sn_187 1) a56 s56 hc1 rfl rfl rfl ?_
    refine JcI (z := 0) (show mx_Sn _ _ 4 (mx_const (.int 0) 5) from sn_187 4) rfl ?_
    refine mx_J.step (ls2 := [some (.ref 56), some (xI x0), some (xI 0)]) (sn_187 5) (fun _ _ => rfl) ?_
    have c6 : ∀ (m2 : Nat) (w2_2 : Int) (Z3 : xZ) (h3 : mx_H), 18 - w2_2 < (m2 : Int) → 0 ≤ w2_2 ∧ w2_2 ≤ 18 → XH n s S Z3 h3 → GI n S Z3 → fr' [(62, (-1))] Z1 Z3 → mx_J (tB l D b0 ad Hb tau) mt_187 (d + 1) 6 [some (.ref 56), some (xI x0), some (xI w2_2)] [] h3 Post := by
      intro m2
      induction m2 with
      | zero => intro w2_2 Z3 h3 q2 f2_0 hx3 hG3 hf3; exact absurd q2 (by omega)
      | succ m2 ih2 =>
        intro w2_2 Z3 h3 q2 f2_0 hx3 hG3 hf3
        refine mx_J.step (sn_187 6) (fun _ _ => rfl) ?_
        refine JcI (z := 18) (show mx_Sn _ _ 7 (mx_const (.int 18) 9) from sn_187 7) rfl ?_
        refine Jicmp_ge (show mx_Sn _ _ 9 (mx_icmp_ge 35 12) from sn_187 9) (by omega) (by omega) (fun q4 => ?_) (fun q4 => ?_)
        · skip
          exact mx_J.ret (sn_187 35) (fun _ _ => rfl) (hP Z3 h3 hx3 hG3 (fr_tr (M := [(62, (-1))]) (fr_tr (M := [(62, (-1))]) fr_rf (hf1) (M1 := []) rfl rfl) (hf3) rfl rfl))
        · skip
          refine mx_J.step (sn_187 12) (fun _ _ => rfl) ?_
          refine JgetR (g := 16) (b := 62) hx3 (show mx_Sn _ _ 13 (mx_getf 12 16 16) from sn_187 13) a56 s56 rfl rfl (hG3.prr 56 16 rfl) ?_
          refine mx_J.step (sn_187 16) (fun _ _ => rfl) ?_
          refine mx_J.step (sn_187 17) (fun _ _ => rfl) ?_
          refine JgetR (g := 15) (b := 61) hx3 (show mx_Sn _ _ 18 (mx_getf 12 15 21) from sn_187 18) a56 s56 rfl rfl (hG3.prr 56 15 rfl) ?_
          refine JcI (z := 18) (show mx_Sn _ _ 21 (mx_const (.int 18) 23) from sn_187 21) rfl ?_
          refine mx_J.step (sn_187 23) (fun _ _ => rfl) ?_
          refine Jimul (show mx_Sn _ _ 24 (mx_imul 25) from sn_187 24) ?_
          refine mx_J.step (sn_187 25) (fun _ _ => rfl) ?_
          refine Jiadd (show mx_Sn _ _ 26 (mx_iadd 27) from sn_187 26) ?_
          have b7 : 0 ≤ Z 61 ((18 * x0) + w2_2) ∧ Z 61 ((18 * x0) + w2_2) ≤ 18 := hG.pr 61 ((18 * x0) + w2_2)
          refine JialdI (z := Z 61 ((18 * x0) + w2_2)) hx3 (show mx_Sn _ _ 27 (mx_iald 28) from sn_187 27) a61 s61 (by omega) ((hf3 61 ((18 * x0) + w2_2) rfl).trans (hf1 61 ((18 * x0) + w2_2) rfl)) ?_
          refine JiastI hx3 (show mx_Sn _ _ 28 (mx_iast 1 29) from sn_187 28) a62 s62 rfl (by omega) (fun Z8 h8 hx8 hE8 => ?_)
          have hG8 := GI_up hG3 hE8 (show (-2147483648) ≤ Z 61 ((18 * x0) + w2_2) ∧ Z 61 ((18 * x0) + w2_2) ≤ 2147483647 by omega) trivial rfl
          refine Jiinc (z := w2_2) (cz := 1) (ls2 := [some (.ref 56), some (xI x0), some (xI (w2_2 + 1))]) (show mx_Sn _ _ 29 (mx_iinc 2 1 32) from sn_187 29) rfl rfl rfl rfl ?_
          refine mx_J.step (sn_187 32) (fun _ _ => rfl) ?_
          exact ih2 (w2_2 + 1) Z8 h8 (by omega) (by omega) hx8 hG8 (fr_tr (M := [(62, (-1))]) (fr_tr (M := [(62, (-1))]) fr_rf (hf3) (M1 := []) rfl rfl) (fr_ua hE8) rfl rfl)
    exact c6 (Int.toNat (18 - 0) + 1) 0 Z1 h1 (by omega) (by omega) hx1 hG1 fr_rf
theorem ct_187_56 {l : Launch} {D : va_G} {b0 : Nat} {ad : Nat → Nat} {Hb : Heap} {tau : Nat → Int64} {d n s : Nat} {S : Nat → xS} {Z : xZ} {h : mx_H} (hx : XH n s S Z h) (hG : GI n S Z)  {x0 : Int} (p0 : 0 ≤ x0 ∧ x0 ≤ 384) : ∃ (Z' : xZ) (h' : mx_H), mx_Ca (tB l D b0 ad Hb tau) (d + 2) 187 [.ref 56, xI x0] h (none, h') ∧ XH n s S Z' h' ∧ GI n S Z' ∧ fr' [(62, (-1))] Z Z' := by
  obtain ⟨r, hca, Z', h', e, q⟩ := Jmt (B := tB l D b0 ad Hb tau) (M := mt_187) (mi := 187) (as := [.ref 56, xI x0]) (d := d + 1) (ls := [some (.ref 56), some (xI x0), none]) rfl rfl rfl rfl rfl rfl (cw_187_56 (l := l) (D := D) (b0 := b0) (ad := ad) (Hb := Hb) (tau := tau) (d := d) (Post := fun r => ∃ (Z' : xZ) (h' : mx_H), r = (none, h') ∧ XH n s S Z' h' ∧ GI n S Z' ∧ fr' [(62, (-1))] Z Z') hx hG p0 (fun Z' h' q1 q2 q3 => ⟨Z', h', rfl, q1, q2, q3⟩))
  subst e; exact ⟨Z', h', hca, q⟩
set_option maxRecDepth 100000 in
theorem cw_189_56 {l : Launch} {D : va_G} {b0 : Nat} {ad : Nat → Nat} {Hb : Heap} {tau : Nat → Int64} {d n s : Nat} {S : Nat → xS} {Z : xZ} {h : mx_H} {Post : mx_R → Prop} (hx : XH n s S Z h) (hG : GI n S Z)  {x0 : Int} (p0 : 0 ≤ x0 ∧ x0 ≤ 384) (hP : ∀ z : Int, (z = 1 ↔ lxb (Z 62) (fun k => Z 61 (18 * x0 + k))) ∧ 0 ≤ z ∧ z ≤ 1 → Post (some (xI z), h)) : mx_J (tB l D b0 ad Hb tau) mt_189 (d + 0) 0 [some (.ref 56), some (xI x0), none] [] h Post := by
    have a56 : 56 < n := lt83 (GI_n hG) rfl
    have s56 : S 56 = .inl (12, [0, 2, 2, 2, 2, 0, 0, 0, 0, 0, 0, 0, 0, 0, 0, 2, 2, 2, 0, 2, 2, 2, 0, 0, 2, 2, 2, 2, 2, 2, 0, 0, 2, 2, 2, 2, 2, 2, 2, 2, 2, 2]) := GI_s hG 56 rfl
    have a61 : 61 < n := lt83 (GI_n hG) rfl
    have s61 : S 61 = .inr (.int, 6930, 0) := GI_s hG 61 rfl
    have a62 : 62 < n := lt83 (GI_n hG) rfl
    have s62 : S 62 = .inr (.int, 20, 0) := GI_s hG 62 rfl
    refine JcI (z := 0) (show mx_Sn _ _ 0 (mx_const (.int 0) 1) from sn_189 0) rfl ?_
    refine mx_J.step (ls2 := [some (.ref 56), some (xI x0), some (xI 0)]) (sn_189 1) (fun _ _ => rfl) ?_
    have c2 : ∀ (m1 : Nat) (w1_2 : Int), 18 - w1_2 < (m1 : Int) → 0 ≤ w1_2 ∧ w1_2 ≤ 18 → EQK Z x0 w1_2 → mx_J (tB l D b0 ad Hb tau) mt_189 (d + 0) 2 [some (.ref 56), some (xI x0), some (xI w1_2)] [] h Post := by
      intro m1
      induction m1 with
      | zero => intro w1_2 q1 f1_0 f1_1; exact absurd q1 (by omega)
      | succ m1 ih1 =>
        intro w1_2 q1 f1_0 f1_1
        refine mx_J.step (sn_189 2) (fun _ _ => rfl) ?_
        refine JcI (z := 18) (show mx_Sn _ _ 3 (mx_const (.int 18) 5) from sn_189 3) rfl ?_
        refine Jicmp_ge (show mx_Sn _ _ 5 (mx_icmp_ge 60 8) from sn_189 5) (by omega) (by omega) (fun q2 => ?_) (fun q2 => ?_)
        · skip
          refine JcI (z := 0) (show mx_Sn _ _ 60 (mx_const (.int 0) 61) from sn_189 60) rfl ?_
          exact mx_J.ret (show mx_Sn _ _ 61 (mx_zret) from sn_189 61) (fun _ _ => zr_ok (by omega)) (hP 0 ⟨(lx_n (by assumption) (by omega) rfl), by omega⟩)
        · skip
          refine mx_J.step (sn_189 8) (fun _ _ => rfl) ?_
          refine JgetR (g := 16) (b := 62) hx (show mx_Sn _ _ 9 (mx_getf 12 16 12) from sn_189 9) a56 s56 rfl rfl (hG.prr 56 16 rfl) ?_
          refine mx_J.step (sn_189 12) (fun _ _ => rfl) ?_
          have b4 : (-2147483648) ≤ Z 62 w1_2 ∧ Z 62 w1_2 ≤ 2147483647 := hG.pr 62 w1_2
          refine JialdI (z := Z 62 w1_2) hx (show mx_Sn _ _ 13 (mx_iald 14) from sn_189 13) a62 s62 (by omega) rfl ?_
          refine mx_J.step (sn_189 14) (fun _ _ => rfl) ?_
          refine JgetR (g := 15) (b := 61) hx (show mx_Sn _ _ 15 (mx_getf 12 15 18) from sn_189 15) a56 s56 rfl rfl (hG.prr 56 15 rfl) ?_
          refine JcI (z := 18) (show mx_Sn _ _ 18 (mx_const (.int 18) 20) from sn_189 18) rfl ?_
          refine mx_J.step (sn_189 20) (fun _ _ => rfl) ?_
          refine Jimul (show mx_Sn _ _ 21 (mx_imul 22) from sn_189 21) ?_
          refine mx_J.step (sn_189 22) (fun _ _ => rfl) ?_
          refine Jiadd (show mx_Sn _ _ 23 (mx_iadd 24) from sn_189 23) ?_
          have b6 : 0 ≤ Z 61 ((18 * x0) + w1_2) ∧ Z 61 ((18 * x0) + w1_2) ≤ 18 := hG.pr 61 ((18 * x0) + w1_2)
          refine JialdI (z := Z 61 ((18 * x0) + w1_2)) hx (show mx_Sn _ _ 24 (mx_iald 25) from sn_189 24) a61 s61 (by omega) rfl ?_
          refine Jicmp_eq (show mx_Sn _ _ 25 (mx_icmp_eq 54 28) from sn_189 25) (by omega) (by omega) (fun q7 => ?_) (fun q7 => ?_)
          · skip
            refine Jiinc (z := w1_2) (cz := 1) (ls2 := [some (.ref 56), some (xI x0), some (xI (w1_2 + 1))]) (show mx_Sn _ _ 54 (mx_iinc 2 1 57) from sn_189 54) rfl rfl rfl rfl ?_
            refine mx_J.step (sn_189 57) (fun _ _ => rfl) ?_
            exact ih1 (w1_2 + 1) (by omega) (by omega) (eqk_s (by assumption) (by omega))
          · skip
            refine mx_J.step (sn_189 28) (fun _ _ => rfl) ?_
            refine JgetR (g := 16) (b := 62) hx (show mx_Sn _ _ 29 (mx_getf 12 16 32) from sn_189 29) a56 s56 rfl rfl (hG.prr 56 16 rfl) ?_
            refine mx_J.step (sn_189 32) (fun _ _ => rfl) ?_
            refine JialdI (z := Z 62 w1_2) hx (show mx_Sn _ _ 33 (mx_iald 34) from sn_189 33) a62 s62 (by omega) rfl ?_
            refine mx_J.step (sn_189 34) (fun _ _ => rfl) ?_
            refine JgetR (g := 15) (b := 61) hx (show mx_Sn _ _ 35 (mx_getf 12 15 38) from sn_189 35) a56 s56 rfl rfl (hG.prr 56 15 rfl) ?_
            refine JcI (z := 18) (show mx_Sn _ _ 38 (mx_const (.int 18) 40) from sn_189 38) rfl ?_
            refine mx_J.step (sn_189 40) (fun _ _ => rfl) ?_
            refine Jimul (show mx_Sn _ _ 41 (mx_imul 42) from sn_189 41) ?_
            refine mx_J.step (sn_189 42) (fun _ _ => rfl) ?_
            refine Jiadd (show mx_Sn _ _ 43 (mx_iadd 44) from sn_189 43) ?_
            refine JialdI (z := Z 61 ((18 * x0) + w1_2)) hx (show mx_Sn _ _ 44 (mx_iald 45) from sn_189 44) a61 s61 (by omega) rfl ?_
            have c53 : ∀ (k10_0 : Int), 0 ≤ k10_0 ∧ k10_0 ≤ 1 → (k10_0 = 1 ↔ lxb (Z 62) (fun k => Z 61 (18 * x0 + k))) → mx_J (tB l D b0 ad Hb tau) mt_189 (d + 0) 53 [some (.ref 56), some (xI x0), some (xI w1_2)] [xI k10_0] h Post := by
              intro k10_0 f10_0 f10_1
              exact mx_J.ret (show mx_Sn _ _ 53 (mx_zret) from sn_189 53) (fun _ _ => zr_ok (by omega)) (hP k10_0 ⟨(by assumption), by omega⟩)
            refine Jicmp_ge (show mx_Sn _ _ 45 (mx_icmp_ge 52 48) from sn_189 45) (by omega) (by omega) (fun q11 => ?_) (fun q11 => ?_)
            · skip
              refine JcI (z := 0) (show mx_Sn _ _ 52 (mx_const (.int 0) 53) from sn_189 52) rfl ?_
              exact c53 0 (by omega) (lx_y (by assumption) (by omega) (by omega) (by omega) ⟨fun q => absurd q (by omega), fun _ => rfl⟩)
            · skip
              refine JcI (z := 1) (show mx_Sn _ _ 48 (mx_const (.int 1) 49) from sn_189 48) rfl ?_
              refine mx_J.step (sn_189 49) (fun _ _ => rfl) ?_
              exact c53 1 (by omega) (lx_y (by assumption) (by omega) (by omega) (by omega) ⟨fun _ => rfl, fun q => absurd q (by omega)⟩)
    exact c2 (Int.toNat (18 - 0) + 1) 0 (by omega) (by omega) (eqk_0)
theorem ct_189_56 {l : Launch} {D : va_G} {b0 : Nat} {ad : Nat → Nat} {Hb : Heap} {tau : Nat → Int64} {d n s : Nat} {S : Nat → xS} {Z : xZ} {h : mx_H} (hx : XH n s S Z h) (hG : GI n S Z)  {x0 : Int} (p0 : 0 ≤ x0 ∧ x0 ≤ 384) : ∃ z : Int, mx_Ca (tB l D b0 ad Hb tau) (d + 1) 189 [.ref 56, xI x0] h (some (xI z), h) ∧ ((z = 1 ↔ lxb (Z 62) (fun k => Z 61 (18 * x0 + k))) ∧ 0 ≤ z ∧ z ≤ 1) := by
  obtain ⟨r, hca, z, e, hp⟩ := Jmt (B := tB l D b0 ad Hb tau) (M := mt_189) (mi := 189) (as := [.ref 56, xI x0]) (d := d + 0) (ls := [some (.ref 56), some (xI x0), none]) rfl rfl rfl rfl rfl rfl (cw_189_56 (l := l) (D := D) (b0 := b0) (ad := ad) (Hb := Hb) (tau := tau) (d := d) (Post := fun r => ∃ z : Int, r = (some (xI z), h) ∧ ((z = 1 ↔ lxb (Z 62) (fun k => Z 61 (18 * x0 + k))) ∧ 0 ≤ z ∧ z ≤ 1)) hx hG p0 (fun z hz => ⟨z, rfl, hz⟩))
  subst e; exact ⟨z, hca, hp⟩
set_option maxRecDepth 100000 in
theorem cw_188_56 {l : Launch} {D : va_G} {b0 : Nat} {ad : Nat → Nat} {Hb : Heap} {tau : Nat → Int64} {d n s : Nat} {S : Nat → xS} {Z : xZ} {h : mx_H} {Post : mx_R → Prop} (hx : XH n s S Z h) (hG : GI n S Z)   (hP : ∀ (z : Int) (Z' : xZ) (h' : mx_H), XH n s S Z' h' → GI n S Z' → fr' [(62, (-1))] Z Z' → 0 ≤ z ∧ z ≤ 384 ∧ (z < Z 56 18) → Post (some (xI z), h')) : mx_J (tB l D b0 ad Hb tau) mt_188 (d + 1) 0 [some (.ref 56), none, none, none] [] h Post := by
    have a56 : 56 < n := lt83 (GI_n hG) rfl
    have s56 : S 56 = .inl (12, [0, 2, 2, 2, 2, 0, 0, 0, 0, 0, 0, 0, 0, 0, 0, 2, 2, 2, 0, 2, 2, 2, 0, 0, 2, 2, 2, 2, 2, 2, 0, 0, 2, 2, 2, 2, 2, 2, 2, 2, 2, 2]) := GI_s hG 56 rfl
    have a62 : 62 < n := lt83 (GI_n hG) rfl
    have s62 : S 62 = .inr (.int, 20, 0) := GI_s hG 62 rfl
    refine JcI (z := 1) (show mx_Sn _ _ 0 (mx_const (.int 1) 1) from sn_188 0) rfl ?_
    refine mx_J.step (ls2 := [some (.ref 56), some (xI 1), none, none]) (sn_188 1) (fun _ _ => rfl) ?_
    have c2 : ∀ (m1 : Nat) (w1_1 : Int) (u1_2 : Option Value) (u1_3 : Option Value) (Z2 : xZ) (h2 : mx_H), 20 - w1_1 < (m1 : Int) → 1 ≤ w1_1 ∧ w1_1 ≤ 20 → XH n s S Z2 h2 → GI n S Z2 → fr' [(62, (-1))] Z Z2 → mx_J (tB l D b0 ad Hb tau) mt_188 (d + 1) 2 [some (.ref 56), some (xI w1_1), u1_2, u1_3] [] h2 Post := by
      intro m1
      induction m1 with
      | zero => intro w1_1 u1_2 u1_3 Z2 h2 q1 f1_0 hx2 hG2 hf2; exact absurd q1 (by omega)
      | succ m1 ih1 =>
        intro w1_1 u1_2 u1_3 Z2 h2 q1 f1_0 hx2 hG2 hf2
        refine mx_J.step (sn_188 2) (fun _ _ => rfl) ?_
        refine JcI (z := 20) (show mx_Sn _ _ 3 (mx_const (.int 20) 5) from sn_188 3) rfl ?_
        refine Jicmp_ge (show mx_Sn _ _ 5 (mx_icmp_ge 66 8) from sn_188 5) (by omega) (by omega) (fun q3 => ?_) (fun q3 => ?_)
        · skip
          refine JcI (z := 0) (show mx_Sn _ _ 66 (mx_const (.int 0) 67) from sn_188 66) rfl ?_
          refine mx_J.step (ls2 := [some (.ref 56), some (xI 0), u1_2, u1_3]) (sn_188 67) (fun _ _ => rfl) ?_
          refine mx_J.step (sn_188 68) (fun _ _ => rfl) ?_
          have b5 : 0 ≤ Z 56 18 ∧ Z 56 18 ≤ 385 := hG.pr 56 18
          refine JgetI (g := 18) (z := Z 56 18) hx2 (show mx_Sn _ _ 69 (mx_getf 12 18 72) from sn_188 69) a56 s56 rfl rfl (hf2 56 18 rfl) ?_
          refine JcI (z := 1) (show mx_Sn _ _ 72 (mx_const (.int 1) 73) from sn_188 72) rfl ?_
          refine Jisub (show mx_Sn _ _ 73 (mx_isub 74) from sn_188 73) ?_
          refine mx_J.step (ls2 := [some (.ref 56), some (xI 0), some (xI ((Z 56 18) - 1)), u1_3]) (sn_188 74) (fun _ _ => rfl) ?_
          have c75 : ∀ (m6 : Nat) (w6_1 : Int) (w6_2 : Int) (u6_3 : Option Value), (((w6_2 - w6_1).toNat : Nat) : Int) < (m6 : Int) → 0 ≤ w6_1 ∧ w6_1 ≤ 384 → (-1) ≤ w6_2 ∧ w6_2 ≤ 384 → (w6_2 ≤ Z 56 18 - 1 ∧ (w6_1 ≤ w6_2 ∨ Z 56 18 ≤ 0)) → mx_J (tB l D b0 ad Hb tau) mt_188 (d + 1) 75 [some (.ref 56), some (xI w6_1), some (xI w6_2), u6_3] [] h2 Post := by
            intro m6
            induction m6 with
            | zero => intro w6_1 w6_2 u6_3 q6 f6_0 f6_1 f6_2; exact absurd q6 (by omega)
            | succ m6 ih6 =>
              intro w6_1 w6_2 u6_3 q6 f6_0 f6_1 f6_2
              refine mx_J.step (sn_188 75) (fun _ _ => rfl) ?_
              refine mx_J.step (sn_188 76) (fun _ _ => rfl) ?_
              refine Jicmp_ge (show mx_Sn _ _ 77 (mx_icmp_ge 106 80) from sn_188 77) (by omega) (by omega) (fun q7 => ?_) (fun q7 => ?_)
              · skip
                refine mx_J.step (sn_188 106) (fun _ _ => rfl) ?_
                have gs := GI_s1 hG
                have eq8 : Z2 56 18 = Z 56 18 := (hf2 56 18 rfl)
                exact mx_J.ret (sn_188 107) (fun _ _ => rfl) (hP w6_1 Z2 h2 hx2 hG2 (fr_tr (M := [(62, (-1))]) fr_rf (hf2) (M1 := []) rfl rfl) (by omega))
              · skip
                refine mx_J.step (sn_188 80) (fun _ _ => rfl) ?_
                refine mx_J.step (sn_188 81) (fun _ _ => rfl) ?_
                refine Jiadd (show mx_Sn _ _ 82 (mx_iadd 83) from sn_188 82) ?_
                refine JcI (z := 2) (show mx_Sn _ _ 83 (mx_const (.int 2) 84) from sn_188 83) rfl ?_
                refine Jidiv (show mx_Sn _ _ 84 (mx_idiv 85) from sn_188 84) (by omega) (by omega) ?_
                refine mx_J.step (ls2 := [some (.ref 56), some (xI w6_1), some (xI w6_2), some (xI ((w6_1 + w6_2) / 2))]) (sn_188 85) (fun _ _ => rfl) ?_
                refine mx_J.step (sn_188 86) (fun _ _ => rfl) ?_
                refine mx_J.step (sn_188 87) (fun _ _ => rfl) ?_
                obtain ⟨z9, hc9, b9⟩ := ct_189_56 (d := d + 0) (l := l) (D := D) (b0 := b0) (ad := ad) (Hb := Hb) (tau := tau) hx2 hG2 (show 0 ≤ (w6_1 + w6_2) / 2 ∧ (w6_1 + w6_2) / 2 ≤ 384 by omega)
                obtain ⟨bs9_0, b9⟩ := b9
                refine Jcv hx2 (show mx_Sn _ _ 88 (mx_callv 189 2 12 91) from sn_188 88) a56 s56 hc9 rfl rfl rfl ?_
                refine Jif_eq (show mx_Sn _ _ 91 (mx_if_eq 101 94) from sn_188 91) (by omega) (fun q10 => ?_) (fun q10 => ?_)
                · skip
                  refine mx_J.step (sn_188 101) (fun _ _ => rfl) ?_
                  refine mx_J.step (ls2 := [some (.ref 56), some (xI w6_1), some (xI ((w6_1 + w6_2) / 2)), some (xI ((w6_1 + w6_2) / 2))]) (sn_188 102) (fun _ _ => rfl) ?_
                  refine mx_J.step (sn_188 103) (fun _ _ => rfl) ?_
                  exact ih6 w6_1 ((w6_1 + w6_2) / 2) (some (xI ((w6_1 + w6_2) / 2))) (by omega) (by omega) (by omega) (by omega)
                · skip
                  refine mx_J.step (sn_188 94) (fun _ _ => rfl) ?_
                  refine JcI (z := 1) (show mx_Sn _ _ 95 (mx_const (.int 1) 96) from sn_188 95) rfl ?_
                  refine Jiadd (show mx_Sn _ _ 96 (mx_iadd 97) from sn_188 96) ?_
                  refine mx_J.step (ls2 := [some (.ref 56), some (xI (((w6_1 + w6_2) / 2) + 1)), some (xI w6_2), some (xI ((w6_1 + w6_2) / 2))]) (sn_188 97) (fun _ _ => rfl) ?_
                  refine mx_J.step (sn_188 98) (fun _ _ => rfl) ?_
                  refine mx_J.step (sn_188 103) (fun _ _ => rfl) ?_
                  exact ih6 (((w6_1 + w6_2) / 2) + 1) w6_2 (some (xI ((w6_1 + w6_2) / 2))) (by omega) (by omega) (by omega) (by omega)
          exact c75 (Int.toNat ((((((Z 56 18) - 1) - 0).toNat : Nat) : Int)) + 1) 0 ((Z 56 18) - 1) u1_3 (by omega) (by omega) (by omega) (by omega)
        · skip
          refine mx_J.step (sn_188 8) (fun _ _ => rfl) ?_
          refine JgetR (g := 16) (b := 62) hx2 (show mx_Sn _ _ 9 (mx_getf 12 16 12) from sn_188 9) a56 s56 rfl rfl (hG2.prr 56 16 rfl) ?_
          refine mx_J.step (sn_188 12) (fun _ _ => rfl) ?_
          have b12 : (-2147483648) ≤ Z2 62 w1_1 ∧ Z2 62 w1_1 ≤ 2147483647 := hG2.pr 62 w1_1
          refine JialdI (z := Z2 62 w1_1) hx2 (show mx_Sn _ _ 13 (mx_iald 14) from sn_188 13) a62 s62 (by omega) rfl ?_
          refine mx_J.step (ls2 := [some (.ref 56), some (xI w1_1), some (xI (Z2 62 w1_1)), u1_3]) (sn_188 14) (fun _ _ => rfl) ?_
          refine mx_J.step (sn_188 15) (fun _ _ => rfl) ?_
          refine mx_J.step (ls2 := [some (.ref 56), some (xI w1_1), some (xI (Z2 62 w1_1)), some (xI w1_1)]) (sn_188 16) (fun _ _ => rfl) ?_
          have c17 : ∀ (m13 : Nat) (w13_3 : Int) (Z14 : xZ) (h14 : mx_H), w13_3 - 0 < (m13 : Int) → 0 ≤ w13_3 ∧ w13_3 ≤ 19 → XH n s S Z14 h14 → GI n S Z14 → fr' [(62, (-1))] Z2 Z14 → mx_J (tB l D b0 ad Hb tau) mt_188 (d + 1) 17 [some (.ref 56), some (xI w1_1), some (xI (Z2 62 w1_1)), some (xI w13_3)] [] h14 Post := by
            intro m13
            induction m13 with
            | zero => intro w13_3 Z14 h14 q13 f13_0 hx14 hG14 hf14; exact absurd q13 (by omega)
            | succ m13 ih13 =>
              intro w13_3 Z14 h14 q13 f13_0 hx14 hG14 hf14
              refine mx_J.step (sn_188 17) (fun _ _ => rfl) ?_
              have c53 : mx_J (tB l D b0 ad Hb tau) mt_188 (d + 1) 53 [some (.ref 56), some (xI w1_1), some (xI (Z2 62 w1_1)), some (xI w13_3)] [] h14 Post := by
                refine mx_J.step (sn_188 53) (fun _ _ => rfl) ?_
                refine JgetR (g := 16) (b := 62) hx14 (show mx_Sn _ _ 54 (mx_getf 12 16 57) from sn_188 54) a56 s56 rfl rfl (hG14.prr 56 16 rfl) ?_
                refine mx_J.step (sn_188 57) (fun _ _ => rfl) ?_
                refine mx_J.step (sn_188 58) (fun _ _ => rfl) ?_
                refine JiastI hx14 (show mx_Sn _ _ 59 (mx_iast 1 60) from sn_188 59) a62 s62 rfl (by omega) (fun Z17 h17 hx17 hE17 => ?_)
                have hG17 := GI_up hG14 hE17 (show (-2147483648) ≤ Z2 62 w1_1 ∧ Z2 62 w1_1 ≤ 2147483647 by omega) trivial rfl
                refine Jiinc (z := w1_1) (cz := 1) (ls2 := [some (.ref 56), some (xI (w1_1 + 1)), some (xI (Z2 62 w1_1)), some (xI w13_3)]) (show mx_Sn _ _ 60 (mx_iinc 1 1 63) from sn_188 60) rfl rfl rfl rfl ?_
                refine mx_J.step (sn_188 63) (fun _ _ => rfl) ?_
                exact ih1 (w1_1 + 1) (some (xI (Z2 62 w1_1))) (some (xI w13_3)) Z17 h17 (by omega) (by omega) hx17 hG17 (fr_tr (M := [(62, (-1))]) (fr_tr (M := [(62, (-1))]) (fr_tr (M := [(62, (-1))]) fr_rf (hf2) (M1 := []) rfl rfl) (hf14) rfl rfl) (fr_ua hE17) rfl rfl)
              refine Jif_le (show mx_Sn _ _ 18 (mx_if_le 53 21) from sn_188 18) (by omega) (fun q18 => ?_) (fun q18 => ?_)
              · skip
                exact c53 
              · skip
                refine mx_J.step (sn_188 21) (fun _ _ => rfl) ?_
                refine JgetR (g := 16) (b := 62) hx14 (show mx_Sn _ _ 22 (mx_getf 12 16 25) from sn_188 22) a56 s56 rfl rfl (hG14.prr 56 16 rfl) ?_
                refine mx_J.step (sn_188 25) (fun _ _ => rfl) ?_
                refine JcI (z := 1) (show mx_Sn _ _ 26 (mx_const (.int 1) 27) from sn_188 26) rfl ?_
                refine Jisub (show mx_Sn _ _ 27 (mx_isub 28) from sn_188 27) ?_
                have b20 : (-2147483648) ≤ Z14 62 (w13_3 - 1) ∧ Z14 62 (w13_3 - 1) ≤ 2147483647 := hG14.pr 62 (w13_3 - 1)
                refine JialdI (z := Z14 62 (w13_3 - 1)) hx14 (show mx_Sn _ _ 28 (mx_iald 29) from sn_188 28) a62 s62 (by omega) rfl ?_
                refine mx_J.step (sn_188 29) (fun _ _ => rfl) ?_
                refine Jicmp_ge (show mx_Sn _ _ 30 (mx_icmp_ge 53 33) from sn_188 30) (by omega) (by omega) (fun q21 => ?_) (fun q21 => ?_)
                · skip
                  exact c53 
                · skip
                  refine mx_J.step (sn_188 33) (fun _ _ => rfl) ?_
                  refine JgetR (g := 16) (b := 62) hx14 (show mx_Sn _ _ 34 (mx_getf 12 16 37) from sn_188 34) a56 s56 rfl rfl (hG14.prr 56 16 rfl) ?_
                  refine mx_J.step (sn_188 37) (fun _ _ => rfl) ?_
                  refine mx_J.step (sn_188 38) (fun _ _ => rfl) ?_
                  refine JgetR (g := 16) (b := 62) hx14 (show mx_Sn _ _ 39 (mx_getf 12 16 42) from sn_188 39) a56 s56 rfl rfl (hG14.prr 56 16 rfl) ?_
                  refine mx_J.step (sn_188 42) (fun _ _ => rfl) ?_
                  refine JcI (z := 1) (show mx_Sn _ _ 43 (mx_const (.int 1) 44) from sn_188 43) rfl ?_
                  refine Jisub (show mx_Sn _ _ 44 (mx_isub 45) from sn_188 44) ?_
                  refine JialdI (z := Z14 62 (w13_3 - 1)) hx14 (show mx_Sn _ _ 45 (mx_iald 46) from sn_188 45) a62 s62 (by omega) rfl ?_
                  refine JiastI hx14 (show mx_Sn _ _ 46 (mx_iast 1 47) from sn_188 46) a62 s62 rfl (by omega) (fun Z24 h24 hx24 hE24 => ?_)
                  have hG24 := GI_up hG14 hE24 (show (-2147483648) ≤ Z14 62 (w13_3 - 1) ∧ Z14 62 (w13_3 - 1) ≤ 2147483647 by omega) trivial rfl
                  refine Jiinc (z := w13_3) (cz := (-1)) (ls2 := [some (.ref 56), some (xI w1_1), some (xI (Z2 62 w1_1)), some (xI (w13_3 + (-1)))]) (show mx_Sn _ _ 47 (mx_iinc 3 (-1) 50) from sn_188 47) rfl rfl rfl rfl ?_
                  refine mx_J.step (sn_188 50) (fun _ _ => rfl) ?_
                  exact ih13 (w13_3 + (-1)) Z24 h24 (by omega) (by omega) hx24 hG24 (fr_tr (M := [(62, (-1))]) (fr_tr (M := [(62, (-1))]) fr_rf (hf14) (M1 := []) rfl rfl) (fr_ua hE24) rfl rfl)
          exact c17 (Int.toNat (w1_1 - 0) + 1) w1_1 Z2 h2 (by omega) (by omega) hx2 hG2 fr_rf
    exact c2 (Int.toNat (20 - 1) + 1) 1 none none Z h (by omega) (by omega) hx hG fr_rf
theorem ct_188_56 {l : Launch} {D : va_G} {b0 : Nat} {ad : Nat → Nat} {Hb : Heap} {tau : Nat → Int64} {d n s : Nat} {S : Nat → xS} {Z : xZ} {h : mx_H} (hx : XH n s S Z h) (hG : GI n S Z)   : ∃ (z : Int) (Z' : xZ) (h' : mx_H), mx_Ca (tB l D b0 ad Hb tau) (d + 2) 188 [.ref 56] h (some (xI z), h') ∧ XH n s S Z' h' ∧ GI n S Z' ∧ fr' [(62, (-1))] Z Z' ∧ (0 ≤ z ∧ z ≤ 384 ∧ (z < Z 56 18)) := by
  obtain ⟨r, hca, z, Z', h', e, q⟩ := Jmt (B := tB l D b0 ad Hb tau) (M := mt_188) (mi := 188) (as := [.ref 56]) (d := d + 1) (ls := [some (.ref 56), none, none, none]) rfl rfl rfl rfl rfl rfl (cw_188_56 (l := l) (D := D) (b0 := b0) (ad := ad) (Hb := Hb) (tau := tau) (d := d) (Post := fun r => ∃ (z : Int) (Z' : xZ) (h' : mx_H), r = (some (xI z), h') ∧ XH n s S Z' h' ∧ GI n S Z' ∧ fr' [(62, (-1))] Z Z' ∧ (0 ≤ z ∧ z ≤ 384 ∧ (z < Z 56 18))) hx hG  (fun z Z' h' q1 q2 q3 q4 => ⟨z, Z', h', rfl, q1, q2, q3, q4⟩))
  subst e; exact ⟨z, Z', h', hca, q⟩
set_option maxRecDepth 100000 in
theorem cw_188_56_n {l : Launch} {D : va_G} {b0 : Nat} {ad : Nat → Nat} {Hb : Heap} {tau : Nat → Int64} {d n s : Nat} {S : Nat → xS} {Z : xZ} {h : mx_H} {Post : mx_R → Prop} {g0 : Int} {g2 : Int} (hx : XH n s S Z h) (hG : GI n S Z)   (k0 : RTB Z g2) (k1 : NPR Z g2 g0) (k2 : Z 57 1 = g2) (hP : ∀ (z : Int) (Z' : xZ) (h' : mx_H), XH n s S Z' h' → GI n S Z' → fr' [(62, (-1))] Z Z' → z = g0 ∧ 0 ≤ z ∧ z ≤ 384 ∧ (z < Z 56 18) → Post (some (xI z), h')) : mx_J (tB l D b0 ad Hb tau) mt_188 (d + 1) 0 [some (.ref 56), none, none, none] [] h Post := by
    have a56 : 56 < n := lt83 (GI_n hG) rfl
    have s56 : S 56 = .inl (12, [0, 2, 2, 2, 2, 0, 0, 0, 0, 0, 0, 0, 0, 0, 0, 2, 2, 2, 0, 2, 2, 2, 0, 0, 2, 2, 2, 2, 2, 2, 0, 0, 2, 2, 2, 2, 2, 2, 2, 2, 2, 2]) := GI_s hG 56 rfl
    have a62 : 62 < n := lt83 (GI_n hG) rfl
    have s62 : S 62 = .inr (.int, 20, 0) := GI_s hG 62 rfl
    have e18 : Z 56 18 = pN g2 := by rw [← k2]; exact (GI_stt hG).1
    refine JcI (z := 1) (show mx_Sn _ _ 0 (mx_const (.int 1) 1) from sn_188 0) rfl ?_
    refine mx_J.step (ls2 := [some (.ref 56), some (xI 1), none, none]) (sn_188 1) (fun _ _ => rfl) ?_
    have c2 : ∀ (m1 : Nat) (w1_1 : Int) (u1_2 : Option Value) (u1_3 : Option Value) (Z2 : xZ) (h2 : mx_H), 20 - w1_1 < (m1 : Int) → 1 ≤ w1_1 ∧ w1_1 ≤ 20 → SOT Z2 w1_1 → ECG Z Z2 → XH n s S Z2 h2 → GI n S Z2 → fr' [(62, (-1))] Z Z2 → mx_J (tB l D b0 ad Hb tau) mt_188 (d + 1) 2 [some (.ref 56), some (xI w1_1), u1_2, u1_3] [] h2 Post := by
      intro m1
      induction m1 with
      | zero => intro w1_1 u1_2 u1_3 Z2 h2 q1 f1_0 f1_1 f1_2 hx2 hG2 hf2; exact absurd q1 (by omega)
      | succ m1 ih1 =>
        intro w1_1 u1_2 u1_3 Z2 h2 q1 f1_0 f1_1 f1_2 hx2 hG2 hf2
        refine mx_J.step (sn_188 2) (fun _ _ => rfl) ?_
        refine JcI (z := 20) (show mx_Sn _ _ 3 (mx_const (.int 20) 5) from sn_188 3) rfl ?_
        refine Jicmp_ge (show mx_Sn _ _ 5 (mx_icmp_ge 66 8) from sn_188 5) (by omega) (by omega) (fun q3 => ?_) (fun q3 => ?_)
        · skip
          have hs := npr_s (k := w1_1) k1 (by assumption) (by omega) (by assumption)
          have gb := k1.2.1
          refine JcI (z := 0) (show mx_Sn _ _ 66 (mx_const (.int 0) 67) from sn_188 66) rfl ?_
          refine mx_J.step (ls2 := [some (.ref 56), some (xI 0), u1_2, u1_3]) (sn_188 67) (fun _ _ => rfl) ?_
          refine mx_J.step (sn_188 68) (fun _ _ => rfl) ?_
          have b5 : 0 ≤ Z 56 18 ∧ Z 56 18 ≤ 385 := hG.pr 56 18
          refine JgetI (g := 18) (z := Z 56 18) hx2 (show mx_Sn _ _ 69 (mx_getf 12 18 72) from sn_188 69) a56 s56 rfl rfl (hf2 56 18 rfl) ?_
          refine JcI (z := 1) (show mx_Sn _ _ 72 (mx_const (.int 1) 73) from sn_188 72) rfl ?_
          refine Jisub (show mx_Sn _ _ 73 (mx_isub 74) from sn_188 73) ?_
          refine mx_J.step (ls2 := [some (.ref 56), some (xI 0), some (xI ((Z 56 18) - 1)), u1_3]) (sn_188 74) (fun _ _ => rfl) ?_
          have c75 : ∀ (m6 : Nat) (w6_1 : Int) (w6_2 : Int) (u6_3 : Option Value), (((w6_2 - w6_1).toNat : Nat) : Int) < (m6 : Int) → 0 ≤ w6_1 ∧ w6_1 ≤ 384 → (-1) ≤ w6_2 ∧ w6_2 ≤ 384 → (w6_2 ≤ Z 56 18 - 1 ∧ (w6_1 ≤ w6_2 ∨ Z 56 18 ≤ 0)) → (w6_1 ≤ g0 ∧ g0 ≤ w6_2) → mx_J (tB l D b0 ad Hb tau) mt_188 (d + 1) 75 [some (.ref 56), some (xI w6_1), some (xI w6_2), u6_3] [] h2 Post := by
            intro m6
            induction m6 with
            | zero => intro w6_1 w6_2 u6_3 q6 f6_0 f6_1 f6_2 f6_3; exact absurd q6 (by omega)
            | succ m6 ih6 =>
              intro w6_1 w6_2 u6_3 q6 f6_0 f6_1 f6_2 f6_3
              refine mx_J.step (sn_188 75) (fun _ _ => rfl) ?_
              refine mx_J.step (sn_188 76) (fun _ _ => rfl) ?_
              refine Jicmp_ge (show mx_Sn _ _ 77 (mx_icmp_ge 106 80) from sn_188 77) (by omega) (by omega) (fun q7 => ?_) (fun q7 => ?_)
              · skip
                refine mx_J.step (sn_188 106) (fun _ _ => rfl) ?_
                have gs := GI_s1 hG
                have eq8 : Z2 56 18 = Z 56 18 := (hf2 56 18 rfl)
                exact mx_J.ret (sn_188 107) (fun _ _ => rfl) (hP w6_1 Z2 h2 hx2 hG2 (fr_tr (M := [(62, (-1))]) fr_rf (hf2) (M1 := []) rfl rfl) ⟨(by omega), by omega⟩)
              · skip
                refine mx_J.step (sn_188 80) (fun _ _ => rfl) ?_
                refine mx_J.step (sn_188 81) (fun _ _ => rfl) ?_
                refine Jiadd (show mx_Sn _ _ 82 (mx_iadd 83) from sn_188 82) ?_
                refine JcI (z := 2) (show mx_Sn _ _ 83 (mx_const (.int 2) 84) from sn_188 83) rfl ?_
                refine Jidiv (show mx_Sn _ _ 84 (mx_idiv 85) from sn_188 84) (by omega) (by omega) ?_
                refine mx_J.step (ls2 := [some (.ref 56), some (xI w6_1), some (xI w6_2), some (xI ((w6_1 + w6_2) / 2))]) (sn_188 85) (fun _ _ => rfl) ?_
                refine mx_J.step (sn_188 86) (fun _ _ => rfl) ?_
                refine mx_J.step (sn_188 87) (fun _ _ => rfl) ?_
                obtain ⟨z9, hc9, b9⟩ := ct_189_56 (d := d + 0) (l := l) (D := D) (b0 := b0) (ad := ad) (Hb := Hb) (tau := tau) hx2 hG2 (show 0 ≤ (w6_1 + w6_2) / 2 ∧ (w6_1 + w6_2) / 2 ≤ 384 by omega)
                obtain ⟨bs9_0, b9⟩ := b9
                refine Jcv hx2 (show mx_Sn _ _ 88 (mx_callv 189 2 12 91) from sn_188 88) a56 s56 hc9 rfl rfl rfl ?_
                have mm := so_m (RTB_c k0 (fun i => (hf2 61 i rfl))) hs k1.1 gb.1 gb.2 (m := ((w6_1 + w6_2) / 2)) (by omega) (by omega) bs9_0
                refine Jif_eq (show mx_Sn _ _ 91 (mx_if_eq 101 94) from sn_188 91) (by omega) (fun q10 => ?_) (fun q10 => ?_)
                · skip
                  refine mx_J.step (sn_188 101) (fun _ _ => rfl) ?_
                  refine mx_J.step (ls2 := [some (.ref 56), some (xI w6_1), some (xI ((w6_1 + w6_2) / 2)), some (xI ((w6_1 + w6_2) / 2))]) (sn_188 102) (fun _ _ => rfl) ?_
                  refine mx_J.step (sn_188 103) (fun _ _ => rfl) ?_
                  exact ih6 w6_1 ((w6_1 + w6_2) / 2) (some (xI ((w6_1 + w6_2) / 2))) (by omega) (by omega) (by omega) (by omega) (by omega)
                · skip
                  refine mx_J.step (sn_188 94) (fun _ _ => rfl) ?_
                  refine JcI (z := 1) (show mx_Sn _ _ 95 (mx_const (.int 1) 96) from sn_188 95) rfl ?_
                  refine Jiadd (show mx_Sn _ _ 96 (mx_iadd 97) from sn_188 96) ?_
                  refine mx_J.step (ls2 := [some (.ref 56), some (xI (((w6_1 + w6_2) / 2) + 1)), some (xI w6_2), some (xI ((w6_1 + w6_2) / 2))]) (sn_188 97) (fun _ _ => rfl) ?_
                  refine mx_J.step (sn_188 98) (fun _ _ => rfl) ?_
                  refine mx_J.step (sn_188 103) (fun _ _ => rfl) ?_
                  exact ih6 (((w6_1 + w6_2) / 2) + 1) w6_2 (some (xI ((w6_1 + w6_2) / 2))) (by omega) (by omega) (by omega) (by omega) (by omega)
          exact c75 (Int.toNat ((((((Z 56 18) - 1) - 0).toNat : Nat) : Int)) + 1) 0 ((Z 56 18) - 1) u1_3 (by omega) (by omega) (by omega) (by omega) (by omega)
        · skip
          refine mx_J.step (sn_188 8) (fun _ _ => rfl) ?_
          refine JgetR (g := 16) (b := 62) hx2 (show mx_Sn _ _ 9 (mx_getf 12 16 12) from sn_188 9) a56 s56 rfl rfl (hG2.prr 56 16 rfl) ?_
          refine mx_J.step (sn_188 12) (fun _ _ => rfl) ?_
          have b12 : (-2147483648) ≤ Z2 62 w1_1 ∧ Z2 62 w1_1 ≤ 2147483647 := hG2.pr 62 w1_1
          refine JialdI (z := Z2 62 w1_1) hx2 (show mx_Sn _ _ 13 (mx_iald 14) from sn_188 13) a62 s62 (by omega) rfl ?_
          refine mx_J.step (ls2 := [some (.ref 56), some (xI w1_1), some (xI (Z2 62 w1_1)), u1_3]) (sn_188 14) (fun _ _ => rfl) ?_
          refine mx_J.step (sn_188 15) (fun _ _ => rfl) ?_
          refine mx_J.step (ls2 := [some (.ref 56), some (xI w1_1), some (xI (Z2 62 w1_1)), some (xI w1_1)]) (sn_188 16) (fun _ _ => rfl) ?_
          have c17 : ∀ (m13 : Nat) (w13_3 : Int) (Z14 : xZ) (h14 : mx_H), w13_3 - 0 < (m13 : Int) → 0 ≤ w13_3 ∧ w13_3 ≤ 19 → HOL Z14 w1_1 w13_3 (Z2 62 w1_1) → HCG Z Z14 w13_3 (Z2 62 w1_1) → (0 ≤ w13_3 ∧ w13_3 ≤ w1_1) → XH n s S Z14 h14 → GI n S Z14 → fr' [(62, (-1))] Z2 Z14 → mx_J (tB l D b0 ad Hb tau) mt_188 (d + 1) 17 [some (.ref 56), some (xI w1_1), some (xI (Z2 62 w1_1)), some (xI w13_3)] [] h14 Post := by
            intro m13
            induction m13 with
            | zero => intro w13_3 Z14 h14 q13 f13_0 f13_1 f13_2 f13_3 hx14 hG14 hf14; exact absurd q13 (by omega)
            | succ m13 ih13 =>
              intro w13_3 Z14 h14 q13 f13_0 f13_1 f13_2 f13_3 hx14 hG14 hf14
              refine mx_J.step (sn_188 17) (fun _ _ => rfl) ?_
              have c53 : (w13_3 ≤ 0 ∨ (Z2 62 w1_1) ≤ Z14 62 (w13_3 - 1)) → mx_J (tB l D b0 ad Hb tau) mt_188 (d + 1) 53 [some (.ref 56), some (xI w1_1), some (xI (Z2 62 w1_1)), some (xI w13_3)] [] h14 Post := by
                intro f15_0
                refine mx_J.step (sn_188 53) (fun _ _ => rfl) ?_
                refine JgetR (g := 16) (b := 62) hx14 (show mx_Sn _ _ 54 (mx_getf 12 16 57) from sn_188 54) a56 s56 rfl rfl (hG14.prr 56 16 rfl) ?_
                refine mx_J.step (sn_188 57) (fun _ _ => rfl) ?_
                refine mx_J.step (sn_188 58) (fun _ _ => rfl) ?_
                refine JiastI hx14 (show mx_Sn _ _ 59 (mx_iast 1 60) from sn_188 59) a62 s62 rfl (by omega) (fun Z17 h17 hx17 hE17 => ?_)
                have hG17 := GI_up hG14 hE17 (show (-2147483648) ≤ Z2 62 w1_1 ∧ Z2 62 w1_1 ≤ 2147483647 by omega) trivial rfl
                have so1 := ho_e (k := w1_1) (i := w13_3) (by assumption) (by omega) (by omega) (by omega) hE17
                have ec1 := hc_e (Z0 := Z) (i := w13_3) (by assumption) hE17
                refine Jiinc (z := w1_1) (cz := 1) (ls2 := [some (.ref 56), some (xI (w1_1 + 1)), some (xI (Z2 62 w1_1)), some (xI w13_3)]) (show mx_Sn _ _ 60 (mx_iinc 1 1 63) from sn_188 60) rfl rfl rfl rfl ?_
                refine mx_J.step (sn_188 63) (fun _ _ => rfl) ?_
                exact ih1 (w1_1 + 1) (some (xI (Z2 62 w1_1))) (some (xI w13_3)) Z17 h17 (by omega) (by omega) (so1) (ec1) hx17 hG17 (fr_tr (M := [(62, (-1))]) (fr_tr (M := [(62, (-1))]) (fr_tr (M := [(62, (-1))]) fr_rf (hf2) (M1 := []) rfl rfl) (hf14) rfl rfl) (fr_ua hE17) rfl rfl)
              refine Jif_le (show mx_Sn _ _ 18 (mx_if_le 53 21) from sn_188 18) (by omega) (fun q18 => ?_) (fun q18 => ?_)
              · skip
                exact c53 (by omega)
              · skip
                refine mx_J.step (sn_188 21) (fun _ _ => rfl) ?_
                refine JgetR (g := 16) (b := 62) hx14 (show mx_Sn _ _ 22 (mx_getf 12 16 25) from sn_188 22) a56 s56 rfl rfl (hG14.prr 56 16 rfl) ?_
                refine mx_J.step (sn_188 25) (fun _ _ => rfl) ?_
                refine JcI (z := 1) (show mx_Sn _ _ 26 (mx_const (.int 1) 27) from sn_188 26) rfl ?_
                refine Jisub (show mx_Sn _ _ 27 (mx_isub 28) from sn_188 27) ?_
                have b20 : (-2147483648) ≤ Z14 62 (w13_3 - 1) ∧ Z14 62 (w13_3 - 1) ≤ 2147483647 := hG14.pr 62 (w13_3 - 1)
                refine JialdI (z := Z14 62 (w13_3 - 1)) hx14 (show mx_Sn _ _ 28 (mx_iald 29) from sn_188 28) a62 s62 (by omega) rfl ?_
                refine mx_J.step (sn_188 29) (fun _ _ => rfl) ?_
                refine Jicmp_ge (show mx_Sn _ _ 30 (mx_icmp_ge 53 33) from sn_188 30) (by omega) (by omega) (fun q21 => ?_) (fun q21 => ?_)
                · skip
                  exact c53 (by omega)
                · skip
                  refine mx_J.step (sn_188 33) (fun _ _ => rfl) ?_
                  refine JgetR (g := 16) (b := 62) hx14 (show mx_Sn _ _ 34 (mx_getf 12 16 37) from sn_188 34) a56 s56 rfl rfl (hG14.prr 56 16 rfl) ?_
                  refine mx_J.step (sn_188 37) (fun _ _ => rfl) ?_
                  refine mx_J.step (sn_188 38) (fun _ _ => rfl) ?_
                  refine JgetR (g := 16) (b := 62) hx14 (show mx_Sn _ _ 39 (mx_getf 12 16 42) from sn_188 39) a56 s56 rfl rfl (hG14.prr 56 16 rfl) ?_
                  refine mx_J.step (sn_188 42) (fun _ _ => rfl) ?_
                  refine JcI (z := 1) (show mx_Sn _ _ 43 (mx_const (.int 1) 44) from sn_188 43) rfl ?_
                  refine Jisub (show mx_Sn _ _ 44 (mx_isub 45) from sn_188 44) ?_
                  refine JialdI (z := Z14 62 (w13_3 - 1)) hx14 (show mx_Sn _ _ 45 (mx_iald 46) from sn_188 45) a62 s62 (by omega) rfl ?_
                  refine JiastI hx14 (show mx_Sn _ _ 46 (mx_iast 1 47) from sn_188 46) a62 s62 rfl (by omega) (fun Z24 h24 hx24 hE24 => ?_)
                  have hG24 := GI_up hG14 hE24 (show (-2147483648) ≤ Z14 62 (w13_3 - 1) ∧ Z14 62 (w13_3 - 1) ≤ 2147483647 by omega) trivial rfl
                  have ho1 := ho_s (k := w1_1) (i := w13_3) (by assumption) (by omega) (by omega) (by omega) hE24 rfl
                  have hc1 := hc_s (Z0 := Z) (i := w13_3) (by assumption) (by omega) (by omega) hE24 rfl
                  refine Jiinc (z := w13_3) (cz := (-1)) (ls2 := [some (.ref 56), some (xI w1_1), some (xI (Z2 62 w1_1)), some (xI (w13_3 + (-1)))]) (show mx_Sn _ _ 47 (mx_iinc 3 (-1) 50) from sn_188 47) rfl rfl rfl rfl ?_
                  refine mx_J.step (sn_188 50) (fun _ _ => rfl) ?_
                  exact ih13 (w13_3 + (-1)) Z24 h24 (by omega) (by omega) (ho1) (hc1) (by omega) hx24 hG24 (fr_tr (M := [(62, (-1))]) (fr_tr (M := [(62, (-1))]) fr_rf (hf14) (M1 := []) rfl rfl) (fr_ua hE24) rfl rfl)
          exact c17 (Int.toNat (w1_1 - 0) + 1) w1_1 Z2 h2 (by omega) (by omega) (ho_0 (by assumption)) (hc_0 (by assumption)) (by omega) hx2 hG2 fr_rf
    exact c2 (Int.toNat (20 - 1) + 1) 1 none none Z h (by omega) (by omega) (so_0) (ecg_0) hx hG fr_rf
theorem ct_188_56_n {l : Launch} {D : va_G} {b0 : Nat} {ad : Nat → Nat} {Hb : Heap} {tau : Nat → Int64} {d n s : Nat} {S : Nat → xS} {Z : xZ} {h : mx_H} {g0 : Int} {g2 : Int} (hx : XH n s S Z h) (hG : GI n S Z)   (k0 : RTB Z g2) (k1 : NPR Z g2 g0) (k2 : Z 57 1 = g2) : ∃ (z : Int) (Z' : xZ) (h' : mx_H), mx_Ca (tB l D b0 ad Hb tau) (d + 2) 188 [.ref 56] h (some (xI z), h') ∧ XH n s S Z' h' ∧ GI n S Z' ∧ fr' [(62, (-1))] Z Z' ∧ (z = g0 ∧ 0 ≤ z ∧ z ≤ 384 ∧ (z < Z 56 18)) := by
  obtain ⟨r, hca, z, Z', h', e, q⟩ := Jmt (B := tB l D b0 ad Hb tau) (M := mt_188) (mi := 188) (as := [.ref 56]) (d := d + 1) (ls := [some (.ref 56), none, none, none]) rfl rfl rfl rfl rfl rfl (cw_188_56_n (l := l) (D := D) (b0 := b0) (ad := ad) (Hb := Hb) (tau := tau) (d := d) (Post := fun r => ∃ (z : Int) (Z' : xZ) (h' : mx_H), r = (some (xI z), h') ∧ XH n s S Z' h' ∧ GI n S Z' ∧ fr' [(62, (-1))] Z Z' ∧ (z = g0 ∧ 0 ≤ z ∧ z ≤ 384 ∧ (z < Z 56 18))) hx hG k0 k1 k2 (fun z Z' h' q1 q2 q3 q4 => ⟨z, Z', h', rfl, q1, q2, q3, q4⟩))
  subst e; exact ⟨z, Z', h', hca, q⟩
set_option maxRecDepth 100000 in
theorem cw_183_56 {l : Launch} {D : va_G} {b0 : Nat} {ad : Nat → Nat} {Hb : Heap} {tau : Nat → Int64} {d n s : Nat} {S : Nat → xS} {Z : xZ} {h : mx_H} {Post : mx_R → Prop} (hx : XH n s S Z h) (hG : GI n S Z)  {x0 : Int} (p0 : (-2147483648) ≤ x0 ∧ x0 ≤ 2147483647) (hP : ∀ (z : Int) (Z' : xZ) (h' : mx_H), XH n s S Z' h' → GI n S Z' → fr' [(56, 0)] Z Z' → (-1) ≤ z ∧ z ≤ 900 ∧ ((x0 = 0 → z = Z 56 13) ∧ (x0 = 1 → z = Z 56 14) ∧ (¬ x0 = 0 → ¬ x0 = 1 → z = -1)) → Post (some (xI z), h')) : mx_J (tB l D b0 ad Hb tau) mt_183 (d + 0) 0 [some (.ref 56), some (xI x0)] [] h Post := by
    have a56 : 56 < n := lt83 (GI_n hG) rfl
    have s56 : S 56 = .inl (12, [0, 2, 2, 2, 2, 0, 0, 0, 0, 0, 0, 0, 0, 0, 0, 2, 2, 2, 0, 2, 2, 2, 0, 0, 2, 2, 2, 2, 2, 2, 0, 0, 2, 2, 2, 2, 2, 2, 2, 2, 2, 2]) := GI_s hG 56 rfl
    refine mx_J.step (sn_183 0) (fun _ _ => rfl) ?_
    refine JcI (z := 0) (show mx_Sn _ _ 1 (mx_const (.int 0) 2) from sn_183 1) rfl ?_
    refine JputI (g := 0) hx (show mx_Sn _ _ 2 (mx_putf 1 12 0 (.int) 5) from sn_183 2) a56 s56 rfl rfl rfl rfl (fun Z1 h1 hx1 hE1 => ?_)
    have hG1 := GI_up hG hE1 (show (-2147483648) ≤ 0 ∧ 0 ≤ 2147483647 by omega) trivial rfl
    refine mx_J.step (sn_183 5) (fun _ _ => rfl) ?_
    have c29 : ∀ (k2_0 : Int), (-1) ≤ k2_0 ∧ k2_0 ≤ 900 → ((x0 = 0 → k2_0 = Z 56 13) ∧ (x0 = 1 → k2_0 = Z 56 14) ∧ (¬ x0 = 0 → ¬ x0 = 1 → k2_0 = -1)) → mx_J (tB l D b0 ad Hb tau) mt_183 (d + 0) 29 [some (.ref 56), some (xI x0)] [xI k2_0] h1 Post := by
      intro k2_0 f2_0 f2_1
      have eq3 : Z1 56 13 = Z 56 13 := (up_ni hE1 (by decide))
      have b4 : 0 ≤ Z 56 13 ∧ Z 56 13 ≤ 4 := hG.pr 56 13
      have eq5 : Z1 56 14 = Z 56 14 := (up_ni hE1 (by decide))
      have b6 : (-1) ≤ Z 56 14 ∧ Z 56 14 ≤ 900 := hG.pr 56 14
      have eq7 : Z1 56 13 = Z 56 13 := (up_ni hE1 (by decide))
      have eq8 : Z1 56 14 = Z 56 14 := (up_ni hE1 (by decide))
      exact mx_J.ret (sn_183 29) (fun _ _ => rfl) (hP k2_0 Z1 h1 hx1 hG1 (fr_tr (M := [(56, 0)]) fr_rf (fr_up hE1) (M1 := []) rfl rfl) (by omega))
    refine Jif_ne (show mx_Sn _ _ 6 (mx_if_ne 16 9) from sn_183 6) (by omega) (fun q9 => ?_) (fun q9 => ?_)
    · skip
      refine mx_J.step (sn_183 16) (fun _ _ => rfl) ?_
      refine JcI (z := 1) (show mx_Sn _ _ 17 (mx_const (.int 1) 18) from sn_183 17) rfl ?_
      refine Jicmp_ne (show mx_Sn _ _ 18 (mx_icmp_ne 28 21) from sn_183 18) (by omega) (by omega) (fun q10 => ?_) (fun q10 => ?_)
      · skip
        refine JcI (z := (-1)) (show mx_Sn _ _ 28 (mx_const (.int (-1)) 29) from sn_183 28) rfl ?_
        exact c29 (-1) (by omega) (by omega)
      · skip
        refine mx_J.step (sn_183 21) (fun _ _ => rfl) ?_
        have b12 : (-1) ≤ Z 56 14 ∧ Z 56 14 ≤ 900 := hG.pr 56 14
        refine JgetI (g := 14) (z := Z 56 14) hx1 (show mx_Sn _ _ 22 (mx_getf 12 14 25) from sn_183 22) a56 s56 rfl rfl (up_ni hE1 (by decide)) ?_
        refine mx_J.step (sn_183 25) (fun _ _ => rfl) ?_
        exact c29 (Z 56 14) (by omega) (by omega)
    · skip
      refine mx_J.step (sn_183 9) (fun _ _ => rfl) ?_
      have b14 : 0 ≤ Z 56 13 ∧ Z 56 13 ≤ 4 := hG.pr 56 13
      refine JgetI (g := 13) (z := Z 56 13) hx1 (show mx_Sn _ _ 10 (mx_getf 12 13 13) from sn_183 10) a56 s56 rfl rfl (up_ni hE1 (by decide)) ?_
      refine mx_J.step (sn_183 13) (fun _ _ => rfl) ?_
      exact c29 (Z 56 13) (by omega) (by omega)
theorem ct_183_56 {l : Launch} {D : va_G} {b0 : Nat} {ad : Nat → Nat} {Hb : Heap} {tau : Nat → Int64} {d n s : Nat} {S : Nat → xS} {Z : xZ} {h : mx_H} (hx : XH n s S Z h) (hG : GI n S Z)  {x0 : Int} (p0 : (-2147483648) ≤ x0 ∧ x0 ≤ 2147483647) : ∃ (z : Int) (Z' : xZ) (h' : mx_H), mx_Ca (tB l D b0 ad Hb tau) (d + 1) 183 [.ref 56, xI x0] h (some (xI z), h') ∧ XH n s S Z' h' ∧ GI n S Z' ∧ fr' [(56, 0)] Z Z' ∧ ((-1) ≤ z ∧ z ≤ 900 ∧ ((x0 = 0 → z = Z 56 13) ∧ (x0 = 1 → z = Z 56 14) ∧ (¬ x0 = 0 → ¬ x0 = 1 → z = -1))) := by
  obtain ⟨r, hca, z, Z', h', e, q⟩ := Jmt (B := tB l D b0 ad Hb tau) (M := mt_183) (mi := 183) (as := [.ref 56, xI x0]) (d := d + 0) (ls := [some (.ref 56), some (xI x0)]) rfl rfl rfl rfl rfl rfl (cw_183_56 (l := l) (D := D) (b0 := b0) (ad := ad) (Hb := Hb) (tau := tau) (d := d) (Post := fun r => ∃ (z : Int) (Z' : xZ) (h' : mx_H), r = (some (xI z), h') ∧ XH n s S Z' h' ∧ GI n S Z' ∧ fr' [(56, 0)] Z Z' ∧ ((-1) ≤ z ∧ z ≤ 900 ∧ ((x0 = 0 → z = Z 56 13) ∧ (x0 = 1 → z = Z 56 14) ∧ (¬ x0 = 0 → ¬ x0 = 1 → z = -1)))) hx hG p0 (fun z Z' h' q1 q2 q3 q4 => ⟨z, Z', h', rfl, q1, q2, q3, q4⟩))
  subst e; exact ⟨z, Z', h', hca, q⟩
set_option maxRecDepth 100000 in
theorem cw_199_56 {l : Launch} {D : va_G} {b0 : Nat} {ad : Nat → Nat} {Hb : Heap} {tau : Nat → Int64} {d n s : Nat} {S : Nat → xS} {Z : xZ} {h : mx_H} {Post : mx_R → Prop} (hx : XH n s S Z h) (hG : GI n S Z)  {x0 : Int} (p0 : (-2147483648) ≤ x0 ∧ x0 ≤ 2147483647) (hP : ∀ (z : Int) (Z' : xZ) (h' : mx_H), XH n s S Z' h' → GI n S Z' → fr' [(56, 0)] Z Z' → (-3) ≤ z ∧ z ≤ 18 → Post (some (xI z), h')) : mx_J (tB l D b0 ad Hb tau) mt_199 (d + 2) 0 [some (.ref 56), some (xI x0)] [] h Post := by
    have a56 : 56 < n := lt83 (GI_n hG) rfl
    have s56 : S 56 = .inl (12, [0, 2, 2, 2, 2, 0, 0, 0, 0, 0, 0, 0, 0, 0, 0, 2, 2, 2, 0, 2, 2, 2, 0, 0, 2, 2, 2, 2, 2, 2, 0, 0, 2, 2, 2, 2, 2, 2, 2, 2, 2, 2]) := GI_s hG 56 rfl
    have a57 : 57 < n := lt83 (GI_n hG) rfl
    have s57 : S 57 = .inr (.int, 2886, 0) := GI_s hG 57 rfl
    refine mx_J.step (sn_199 0) (fun _ _ => rfl) ?_
    refine JcI (z := 0) (show mx_Sn _ _ 1 (mx_const (.int 0) 2) from sn_199 1) rfl ?_
    refine JputI (g := 0) hx (show mx_Sn _ _ 2 (mx_putf 1 12 0 (.int) 5) from sn_199 2) a56 s56 rfl rfl rfl rfl (fun Z1 h1 hx1 hE1 => ?_)
    have hG1 := GI_up hG hE1 (show (-2147483648) ≤ 0 ∧ 0 ≤ 2147483647 by omega) trivial rfl
    refine mx_J.step (sn_199 5) (fun _ _ => rfl) ?_
    refine Jif_ge (show mx_Sn _ _ 6 (mx_if_ge 12 9) from sn_199 6) (by omega) (fun q2 => ?_) (fun q2 => ?_)
    · skip
      refine mx_J.step (sn_199 12) (fun _ _ => rfl) ?_
      refine mx_J.step (sn_199 13) (fun _ _ => rfl) ?_
      refine mx_J.step (sn_199 14) (fun _ _ => rfl) ?_
      refine JgetR (g := 1) (b := 57) hx1 (show mx_Sn _ _ 15 (mx_getf 12 1 18) from sn_199 15) a56 s56 rfl rfl (hG1.prr 56 1 rfl) ?_
      refine JcI (z := 27) (show mx_Sn _ _ 18 (mx_const (.int 27) 20) from sn_199 18) rfl ?_
      have b4 := GI_st hG 27
      have b5 : 0 ≤ Z 56 18 ∧ Z 56 18 ≤ 385 := hG.pr 56 18
      have b6 : 0 ≤ Z 57 27 ∧ Z 57 27 ≤ 384 := by have hq := GI_ex hG 57 27; replace hq : f57 (27 % 962) (Z 57 27) := hq; unfold f57 at hq; omega
      have b7 : (-2147483648) ≤ Z 57 27 ∧ Z 57 27 ≤ 2147483647 := hG.pr 57 27
      refine JialdI (z := Z 57 27) hx1 (show mx_Sn _ _ 20 (mx_iald 21) from sn_199 20) a57 s57 (by omega) (up_nk hE1 rfl) ?_
      have eq9 : mn Z1 (Z 57 27) = mn Z (Z 57 27) := (mn_c (fun i => up_nk hE1 rfl))
      obtain ⟨z8, hc8, b8⟩ := ct_191_56 (d := d + 0) (l := l) (D := D) (b0 := b0) (ad := ad) (Hb := Hb) (tau := tau) hx1 hG1 (show 0 ≤ Z 57 27 ∧ Z 57 27 ≤ 384 by omega)
      refine Jcv hx1 (show mx_Sn _ _ 21 (mx_callv 191 2 12 24) from sn_199 21) a56 s56 hc8 rfl rfl rfl ?_
      have c43 : ∀ (k10_0 : Int), (-1) ≤ k10_0 ∧ k10_0 ≤ 18 → mx_J (tB l D b0 ad Hb tau) mt_199 (d + 2) 43 [some (.ref 56), some (xI x0)] [xI k10_0] h1 Post := by
        intro k10_0 f10_0
        exact mx_J.ret (sn_199 43) (fun _ _ => rfl) (hP k10_0 Z1 h1 hx1 hG1 (fr_tr (M := [(56, 0)]) fr_rf (fr_up hE1) (M1 := []) rfl rfl) (by omega))
      refine Jicmp_ge (show mx_Sn _ _ 24 (mx_icmp_ge 42 27) from sn_199 24) (by omega) (by omega) (fun q11 => ?_) (fun q11 => ?_)
      · skip
        refine JcI (z := (-1)) (show mx_Sn _ _ 42 (mx_const (.int (-1)) 43) from sn_199 42) rfl ?_
        exact c43 (-1) (by omega)
      · skip
        refine mx_J.step (sn_199 27) (fun _ _ => rfl) ?_
        refine mx_J.step (sn_199 28) (fun _ _ => rfl) ?_
        refine JgetR (g := 1) (b := 57) hx1 (show mx_Sn _ _ 29 (mx_getf 12 1 32) from sn_199 29) a56 s56 rfl rfl (hG1.prr 56 1 rfl) ?_
        refine JcI (z := 27) (show mx_Sn _ _ 32 (mx_const (.int 27) 34) from sn_199 32) rfl ?_
        refine JialdI (z := Z 57 27) hx1 (show mx_Sn _ _ 34 (mx_iald 35) from sn_199 34) a57 s57 (by omega) (up_nk hE1 rfl) ?_
        refine mx_J.step (sn_199 35) (fun _ _ => rfl) ?_
        have eq14 : Z1 61 (18 * (Z 57 27) + x0) = Z 61 (18 * (Z 57 27) + x0) := (up_nk hE1 rfl)
        have b15 : 0 ≤ Z 61 (18 * (Z 57 27) + x0) ∧ Z 61 (18 * (Z 57 27) + x0) ≤ 18 := hG.pr 61 (18 * (Z 57 27) + x0)
        obtain ⟨z13, hc13, b13⟩ := ct_190_56 (d := d + 1) (l := l) (D := D) (b0 := b0) (ad := ad) (Hb := Hb) (tau := tau) hx1 hG1 (show 0 ≤ Z 57 27 ∧ Z 57 27 ≤ 384 by omega) (show 0 ≤ x0 ∧ x0 ≤ 17 by omega)
        try rw [eq14] at b13
        refine Jcv hx1 (show mx_Sn _ _ 36 (mx_callv 190 3 12 39) from sn_199 36) a56 s56 hc13 rfl rfl rfl ?_
        refine mx_J.step (sn_199 39) (fun _ _ => rfl) ?_
        exact c43 z13 (by omega)
    · skip
      refine JcI (z := (-3)) (show mx_Sn _ _ 9 (mx_const (.int (-3)) 11) from sn_199 9) rfl ?_
      exact mx_J.ret (sn_199 11) (fun _ _ => rfl) (hP (-3) Z1 h1 hx1 hG1 (fr_tr (M := [(56, 0)]) fr_rf (fr_up hE1) (M1 := []) rfl rfl) (by omega))
theorem ct_199_56 {l : Launch} {D : va_G} {b0 : Nat} {ad : Nat → Nat} {Hb : Heap} {tau : Nat → Int64} {d n s : Nat} {S : Nat → xS} {Z : xZ} {h : mx_H} (hx : XH n s S Z h) (hG : GI n S Z)  {x0 : Int} (p0 : (-2147483648) ≤ x0 ∧ x0 ≤ 2147483647) : ∃ (z : Int) (Z' : xZ) (h' : mx_H), mx_Ca (tB l D b0 ad Hb tau) (d + 3) 199 [.ref 56, xI x0] h (some (xI z), h') ∧ XH n s S Z' h' ∧ GI n S Z' ∧ fr' [(56, 0)] Z Z' ∧ ((-3) ≤ z ∧ z ≤ 18) := by
  obtain ⟨r, hca, z, Z', h', e, q⟩ := Jmt (B := tB l D b0 ad Hb tau) (M := mt_199) (mi := 199) (as := [.ref 56, xI x0]) (d := d + 2) (ls := [some (.ref 56), some (xI x0)]) rfl rfl rfl rfl rfl rfl (cw_199_56 (l := l) (D := D) (b0 := b0) (ad := ad) (Hb := Hb) (tau := tau) (d := d) (Post := fun r => ∃ (z : Int) (Z' : xZ) (h' : mx_H), r = (some (xI z), h') ∧ XH n s S Z' h' ∧ GI n S Z' ∧ fr' [(56, 0)] Z Z' ∧ ((-3) ≤ z ∧ z ≤ 18)) hx hG p0 (fun z Z' h' q1 q2 q3 q4 => ⟨z, Z', h', rfl, q1, q2, q3, q4⟩))
  subst e; exact ⟨z, Z', h', hca, q⟩
set_option maxRecDepth 100000 in
theorem cw_197_56 {l : Launch} {D : va_G} {b0 : Nat} {ad : Nat → Nat} {Hb : Heap} {tau : Nat → Int64} {d n s : Nat} {S : Nat → xS} {Z : xZ} {h : mx_H} {Post : mx_R → Prop} (hx : XH n s S Z h) (hG : GI n S Z)  {x0 x1 : Int} (p0 : 0 ≤ x0 ∧ x0 ≤ 384) (p1 : (-2147483648) ≤ x1 ∧ x1 ≤ 2147483647) (hP : ∀ z : Int, 0 ≤ z ∧ z ≤ 1 ∧ (z = 1 → x1 = 0 ∨ (1 ≤ x1 ∧ x1 ≤ 18 ∧ hv Z x0 x1 = 1)) → Post (some (xI z), h)) : mx_J (tB l D b0 ad Hb tau) mt_197 (d + 2) 0 [some (.ref 56), some (xI x0), some (xI x1)] [] h Post := by
    have a56 : 56 < n := lt83 (GI_n hG) rfl
    have s56 : S 56 = .inl (12, [0, 2, 2, 2, 2, 0, 0, 0, 0, 0, 0, 0, 0, 0, 0, 2, 2, 2, 0, 2, 2, 2, 0, 0, 2, 2, 2, 2, 2, 2, 0, 0, 2, 2, 2, 2, 2, 2, 2, 2, 2, 2]) := GI_s hG 56 rfl
    refine mx_J.step (sn_197 0) (fun _ _ => rfl) ?_
    have c31 : ∀ (k1_0 : Int), 0 ≤ k1_0 ∧ k1_0 ≤ 1 → (k1_0 = 1 → x1 = 0 ∨ (1 ≤ x1 ∧ x1 ≤ 18 ∧ hv Z x0 x1 = 1)) → mx_J (tB l D b0 ad Hb tau) mt_197 (d + 2) 31 [some (.ref 56), some (xI x0), some (xI x1)] [xI k1_0] h Post := by
      intro k1_0 f1_0 f1_1
      exact mx_J.ret (show mx_Sn _ _ 31 (mx_zret) from sn_197 31) (fun _ _ => zr_ok (by omega)) (hP k1_0 (by omega))
    have c26 : (x1 = 0 ∨ (1 ≤ x1 ∧ x1 ≤ 18 ∧ hv Z x0 x1 = 1)) → mx_J (tB l D b0 ad Hb tau) mt_197 (d + 2) 26 [some (.ref 56), some (xI x0), some (xI x1)] [] h Post := by
      intro f2_0
      refine JcI (z := 1) (show mx_Sn _ _ 26 (mx_const (.int 1) 27) from sn_197 26) rfl ?_
      refine mx_J.step (sn_197 27) (fun _ _ => rfl) ?_
      exact c31 1 (by omega) (by omega)
    refine Jif_eq (show mx_Sn _ _ 1 (mx_if_eq 26 4) from sn_197 1) (by omega) (fun q3 => ?_) (fun q3 => ?_)
    · skip
      exact c26 (by omega)
    · skip
      refine mx_J.step (sn_197 4) (fun _ _ => rfl) ?_
      refine Ji2l (show mx_Sn _ _ 5 (mx_i2l 6) from sn_197 5) (by omega) ?_
      refine JcL (z := 1) (show mx_Sn _ _ 6 (mx_const (.long 1) 7) from sn_197 6) rfl ?_
      refine JcL (z := 18) (show mx_Sn _ _ 7 (mx_const (.long 18) 10) from sn_197 7) rfl ?_
      obtain ⟨z4, hc4, b4⟩ := ct_154_ (d := d + 1) (l := l) (D := D) (b0 := b0) (ad := ad) (Hb := Hb) (tau := tau) hx hG (show (-9223372036854775808) ≤ x1 ∧ x1 ≤ 9223372036854775807 by omega) (show (-9223372036854775808) ≤ 1 ∧ 1 ≤ 9223372036854775807 by omega) (show (-9223372036854775808) ≤ 18 ∧ 18 ≤ 9223372036854775807 by omega)
      refine Jcs (show mx_Sn _ _ 10 (mx_calls 154 3 13) from sn_197 10) hc4 rfl rfl rfl ?_
      have c30 : mx_J (tB l D b0 ad Hb tau) mt_197 (d + 2) 30 [some (.ref 56), some (xI x0), some (xI x1)] [] h Post := by
        refine JcI (z := 0) (show mx_Sn _ _ 30 (mx_const (.int 0) 31) from sn_197 30) rfl ?_
        exact c31 0 (by omega) (by omega)
      refine Jif_eq (show mx_Sn _ _ 13 (mx_if_eq 30 16) from sn_197 13) (by omega) (fun q6 => ?_) (fun q6 => ?_)
      · skip
        exact c30 
      · skip
        refine mx_J.step (sn_197 16) (fun _ _ => rfl) ?_
        refine mx_J.step (sn_197 17) (fun _ _ => rfl) ?_
        refine mx_J.step (sn_197 18) (fun _ _ => rfl) ?_
        obtain ⟨z7, hc7, b7⟩ := ct_192_56 (d := d + 0) (l := l) (D := D) (b0 := b0) (ad := ad) (Hb := Hb) (tau := tau) hx hG (show 0 ≤ x0 ∧ x0 ≤ 384 by omega) (show (-2147483648) ≤ x1 ∧ x1 ≤ 2147483647 by omega)
        refine Jcv hx (show mx_Sn _ _ 19 (mx_callv 192 3 12 22) from sn_197 19) a56 s56 hc7 rfl rfl rfl ?_
        refine JcI (z := (-1)) (show mx_Sn _ _ 22 (mx_const (.int (-1)) 23) from sn_197 22) rfl ?_
        refine Jicmp_eq (show mx_Sn _ _ 23 (mx_icmp_eq 30 26) from sn_197 23) (by omega) (by omega) (fun q8 => ?_) (fun q8 => ?_)
        · skip
          exact c30 
        · skip
          exact c26 (by omega)
theorem ct_197_56 {l : Launch} {D : va_G} {b0 : Nat} {ad : Nat → Nat} {Hb : Heap} {tau : Nat → Int64} {d n s : Nat} {S : Nat → xS} {Z : xZ} {h : mx_H} (hx : XH n s S Z h) (hG : GI n S Z)  {x0 x1 : Int} (p0 : 0 ≤ x0 ∧ x0 ≤ 384) (p1 : (-2147483648) ≤ x1 ∧ x1 ≤ 2147483647) : ∃ z : Int, mx_Ca (tB l D b0 ad Hb tau) (d + 3) 197 [.ref 56, xI x0, xI x1] h (some (xI z), h) ∧ (0 ≤ z ∧ z ≤ 1 ∧ (z = 1 → x1 = 0 ∨ (1 ≤ x1 ∧ x1 ≤ 18 ∧ hv Z x0 x1 = 1))) := by
  obtain ⟨r, hca, z, e, hp⟩ := Jmt (B := tB l D b0 ad Hb tau) (M := mt_197) (mi := 197) (as := [.ref 56, xI x0, xI x1]) (d := d + 2) (ls := [some (.ref 56), some (xI x0), some (xI x1)]) rfl rfl rfl rfl rfl rfl (cw_197_56 (l := l) (D := D) (b0 := b0) (ad := ad) (Hb := Hb) (tau := tau) (d := d) (Post := fun r => ∃ z : Int, r = (some (xI z), h) ∧ (0 ≤ z ∧ z ≤ 1 ∧ (z = 1 → x1 = 0 ∨ (1 ≤ x1 ∧ x1 ≤ 18 ∧ hv Z x0 x1 = 1)))) hx hG p0 p1 (fun z hz => ⟨z, rfl, hz⟩))
  subst e; exact ⟨z, hca, hp⟩
set_option maxRecDepth 100000 in
theorem cw_220_56 {l : Launch} {D : va_G} {b0 : Nat} {ad : Nat → Nat} {Hb : Heap} {tau : Nat → Int64} {d n s : Nat} {S : Nat → xS} {Z : xZ} {h : mx_H} {Post : mx_R → Prop} (hx : XH n s S Z h) (hG : GI n S Z)  {x0 : Int} (p0 : (-2147483648) ≤ x0 ∧ x0 ≤ 2147483647) (hP : ∀ z : Int, (-6) ≤ z ∧ z ≤ 0 ∧ ((((x0 < 0 ∨ 3 < x0) → z = -2) ∧ (0 ≤ x0 → x0 ≤ 3 → (Z 80 x0 = -1 → z = -6) ∧ (¬ Z 80 x0 = -1 → z = 0))) ∧ (z = 0 → 0 ≤ x0 ∧ x0 ≤ 3)) → Post (some (xI z), h)) : mx_J (tB l D b0 ad Hb tau) mt_220 (d + 1) 0 [some (.ref 56), some (xI x0)] [] h Post := by
    have a56 : 56 < n := lt83 (GI_n hG) rfl
    have s56 : S 56 = .inl (12, [0, 2, 2, 2, 2, 0, 0, 0, 0, 0, 0, 0, 0, 0, 0, 2, 2, 2, 0, 2, 2, 2, 0, 0, 2, 2, 2, 2, 2, 2, 0, 0, 2, 2, 2, 2, 2, 2, 2, 2, 2, 2]) := GI_s hG 56 rfl
    have a80 : 80 < n := lt83 (GI_n hG) rfl
    have s80 : S 80 = .inr (.int, 4, 0) := GI_s hG 80 rfl
    refine mx_J.step (sn_220 0) (fun _ _ => rfl) ?_
    refine Ji2l (show mx_Sn _ _ 1 (mx_i2l 2) from sn_220 1) (by omega) ?_
    refine JcL (z := 0) (show mx_Sn _ _ 2 (mx_const (.long 0) 3) from sn_220 2) rfl ?_
    refine JcL (z := 3) (show mx_Sn _ _ 3 (mx_const (.long 3) 6) from sn_220 3) rfl ?_
    obtain ⟨z1, hc1, b1⟩ := ct_154_ (d := d + 0) (l := l) (D := D) (b0 := b0) (ad := ad) (Hb := Hb) (tau := tau) hx hG (show (-9223372036854775808) ≤ x0 ∧ x0 ≤ 9223372036854775807 by omega) (show (-9223372036854775808) ≤ 0 ∧ 0 ≤ 9223372036854775807 by omega) (show (-9223372036854775808) ≤ 3 ∧ 3 ≤ 9223372036854775807 by omega)
    refine Jcs (show mx_Sn _ _ 6 (mx_calls 154 3 9) from sn_220 6) hc1 rfl rfl rfl ?_
    have c33 : ∀ (k2_0 : Int), (-6) ≤ k2_0 ∧ k2_0 ≤ 0 → ((((x0 < 0 ∨ 3 < x0) → k2_0 = -2) ∧ (0 ≤ x0 → x0 ≤ 3 → (Z 80 x0 = -1 → k2_0 = -6) ∧ (¬ Z 80 x0 = -1 → k2_0 = 0))) ∧ (k2_0 = 0 → 0 ≤ x0 ∧ x0 ≤ 3)) → mx_J (tB l D b0 ad Hb tau) mt_220 (d + 1) 33 [some (.ref 56), some (xI x0)] [xI k2_0] h Post := by
      intro k2_0 f2_0 f2_1
      have b3 : (-1) ≤ Z 80 x0 ∧ Z 80 x0 ≤ 3 := hG.pr 80 x0
      exact mx_J.ret (sn_220 33) (fun _ _ => rfl) (hP k2_0 (by omega))
    refine Jif_ne (show mx_Sn _ _ 9 (mx_if_ne 17 12) from sn_220 9) (by omega) (fun q4 => ?_) (fun q4 => ?_)
    · skip
      refine mx_J.step (sn_220 17) (fun _ _ => rfl) ?_
      refine JgetR (g := 39) (b := 80) hx (show mx_Sn _ _ 18 (mx_getf 12 39 21) from sn_220 18) a56 s56 rfl rfl (hG.prr 56 39 rfl) ?_
      refine mx_J.step (sn_220 21) (fun _ _ => rfl) ?_
      have b6 : (-1) ≤ Z 80 x0 ∧ Z 80 x0 ≤ 3 := hG.pr 80 x0
      refine JialdI (z := Z 80 x0) hx (show mx_Sn _ _ 22 (mx_iald 23) from sn_220 22) a80 s80 (by omega) rfl ?_
      refine JcI (z := (-1)) (show mx_Sn _ _ 23 (mx_const (.int (-1)) 24) from sn_220 23) rfl ?_
      refine Jicmp_ne (show mx_Sn _ _ 24 (mx_icmp_ne 32 27) from sn_220 24) (by omega) (by omega) (fun q7 => ?_) (fun q7 => ?_)
      · skip
        refine JcI (z := 0) (show mx_Sn _ _ 32 (mx_const (.int 0) 33) from sn_220 32) rfl ?_
        exact c33 0 (by omega) (by omega)
      · skip
        refine JcI (z := (-6)) (show mx_Sn _ _ 27 (mx_const (.int (-6)) 29) from sn_220 27) rfl ?_
        refine mx_J.step (sn_220 29) (fun _ _ => rfl) ?_
        exact c33 (-6) (by omega) (by omega)
    · skip
      refine JcI (z := (-2)) (show mx_Sn _ _ 12 (mx_const (.int (-2)) 14) from sn_220 12) rfl ?_
      refine mx_J.step (sn_220 14) (fun _ _ => rfl) ?_
      exact c33 (-2) (by omega) (by omega)
theorem ct_220_56 {l : Launch} {D : va_G} {b0 : Nat} {ad : Nat → Nat} {Hb : Heap} {tau : Nat → Int64} {d n s : Nat} {S : Nat → xS} {Z : xZ} {h : mx_H} (hx : XH n s S Z h) (hG : GI n S Z)  {x0 : Int} (p0 : (-2147483648) ≤ x0 ∧ x0 ≤ 2147483647) : ∃ z : Int, mx_Ca (tB l D b0 ad Hb tau) (d + 2) 220 [.ref 56, xI x0] h (some (xI z), h) ∧ ((-6) ≤ z ∧ z ≤ 0 ∧ ((((x0 < 0 ∨ 3 < x0) → z = -2) ∧ (0 ≤ x0 → x0 ≤ 3 → (Z 80 x0 = -1 → z = -6) ∧ (¬ Z 80 x0 = -1 → z = 0))) ∧ (z = 0 → 0 ≤ x0 ∧ x0 ≤ 3))) := by
  obtain ⟨r, hca, z, e, hp⟩ := Jmt (B := tB l D b0 ad Hb tau) (M := mt_220) (mi := 220) (as := [.ref 56, xI x0]) (d := d + 1) (ls := [some (.ref 56), some (xI x0)]) rfl rfl rfl rfl rfl rfl (cw_220_56 (l := l) (D := D) (b0 := b0) (ad := ad) (Hb := Hb) (tau := tau) (d := d) (Post := fun r => ∃ z : Int, r = (some (xI z), h) ∧ ((-6) ≤ z ∧ z ≤ 0 ∧ ((((x0 < 0 ∨ 3 < x0) → z = -2) ∧ (0 ≤ x0 → x0 ≤ 3 → (Z 80 x0 = -1 → z = -6) ∧ (¬ Z 80 x0 = -1 → z = 0))) ∧ (z = 0 → 0 ≤ x0 ∧ x0 ≤ 3)))) hx hG p0 (fun z hz => ⟨z, rfl, hz⟩))
  subst e; exact ⟨z, hca, hp⟩
set_option maxRecDepth 100000 in
theorem cw_236_56 {l : Launch} {D : va_G} {b0 : Nat} {ad : Nat → Nat} {Hb : Heap} {tau : Nat → Int64} {d n s : Nat} {S : Nat → xS} {Z : xZ} {h : mx_H} {Post : mx_R → Prop} (hx : XH n s S Z h) (hG : GI n S Z)  {x0 x1 : Int} (p0 : 0 ≤ x0 ∧ x0 ≤ 384) (p1 : 0 ≤ x1 ∧ x1 ≤ 18) (hP : ∀ z : Int, 1 ≤ z ∧ z ≤ 268435457 ∧ z = fb Z x0 x1 → Post (some (xI z), h)) : mx_J (tB l D b0 ad Hb tau) mt_236 (d + 0) 0 [some (.ref 56), some (xI x0), some (xI x1), none] [] h Post := by
    have a56 : 56 < n := lt83 (GI_n hG) rfl
    have s56 : S 56 = .inl (12, [0, 2, 2, 2, 2, 0, 0, 0, 0, 0, 0, 0, 0, 0, 0, 2, 2, 2, 0, 2, 2, 2, 0, 0, 2, 2, 2, 2, 2, 2, 0, 0, 2, 2, 2, 2, 2, 2, 2, 2, 2, 2]) := GI_s hG 56 rfl
    have a73 : 73 < n := lt83 (GI_n hG) rfl
    have s73 : S 73 = .inr (.int, 7315, 0) := GI_s hG 73 rfl
    have a74 : 74 < n := lt83 (GI_n hG) rfl
    have s74 : S 74 = .inr (.int, 385, 0) := GI_s hG 74 rfl
    have ff := fb_e Z x0 x1
    refine mx_J.step (sn_236 0) (fun _ _ => rfl) ?_
    refine JgetR (g := 32) (b := 73) hx (show mx_Sn _ _ 1 (mx_getf 12 32 4) from sn_236 1) a56 s56 rfl rfl (hG.prr 56 32 rfl) ?_
    refine JcI (z := 19) (show mx_Sn _ _ 4 (mx_const (.int 19) 6) from sn_236 4) rfl ?_
    refine mx_J.step (sn_236 6) (fun _ _ => rfl) ?_
    refine Jimul (show mx_Sn _ _ 7 (mx_imul 8) from sn_236 7) ?_
    refine mx_J.step (sn_236 8) (fun _ _ => rfl) ?_
    refine Jiadd (show mx_Sn _ _ 9 (mx_iadd 10) from sn_236 9) ?_
    have b2 : (-1) ≤ Z 73 ((19 * x0) + x1) ∧ Z 73 ((19 * x0) + x1) ≤ 384 := hG.pr 73 ((19 * x0) + x1)
    refine JialdI (z := Z 73 ((19 * x0) + x1)) hx (show mx_Sn _ _ 10 (mx_iald 11) from sn_236 10) a73 s73 (by omega) rfl ?_
    refine mx_J.step (ls2 := [some (.ref 56), some (xI x0), some (xI x1), some (xI (Z 73 ((19 * x0) + x1)))]) (sn_236 11) (fun _ _ => rfl) ?_
    refine mx_J.step (sn_236 12) (fun _ _ => rfl) ?_
    refine JcI (z := (-1)) (show mx_Sn _ _ 13 (mx_const (.int (-1)) 14) from sn_236 13) rfl ?_
    have c43 : ∀ (k3_0 : Int), 1 ≤ k3_0 ∧ k3_0 ≤ 268435457 → (k3_0 = fb Z x0 x1) → mx_J (tB l D b0 ad Hb tau) mt_236 (d + 0) 43 [some (.ref 56), some (xI x0), some (xI x1), some (xI (Z 73 ((19 * x0) + x1)))] [xI k3_0] h Post := by
      intro k3_0 f3_0 f3_1
      exact mx_J.ret (sn_236 43) (fun _ _ => rfl) (hP k3_0 (by omega))
    have c29 : (Z 73 (19 * x0 + x1) = -1 ∨ Z 74 (Z 73 (19 * x0 + x1)) = 268435456) → mx_J (tB l D b0 ad Hb tau) mt_236 (d + 0) 29 [some (.ref 56), some (xI x0), some (xI x1), some (xI (Z 73 ((19 * x0) + x1)))] [] h Post := by
      intro f4_0
      refine JcI (z := 268435456) (show mx_Sn _ _ 29 (mx_const (.int 268435456) 32) from sn_236 29) rfl ?_
      refine mx_J.step (sn_236 32) (fun _ _ => rfl) ?_
      exact c43 268435456 (by omega) (by omega)
    refine Jicmp_eq (show mx_Sn _ _ 14 (mx_icmp_eq 29 17) from sn_236 14) (by omega) (by omega) (fun q5 => ?_) (fun q5 => ?_)
    · skip
      exact c29 (by omega)
    · skip
      refine mx_J.step (sn_236 17) (fun _ _ => rfl) ?_
      refine JgetR (g := 33) (b := 74) hx (show mx_Sn _ _ 18 (mx_getf 12 33 21) from sn_236 18) a56 s56 rfl rfl (hG.prr 56 33 rfl) ?_
      refine mx_J.step (sn_236 21) (fun _ _ => rfl) ?_
      have b7 : 0 ≤ Z 74 (Z 73 ((19 * x0) + x1)) ∧ Z 74 (Z 73 ((19 * x0) + x1)) ≤ 268435456 := hG.pr 74 (Z 73 ((19 * x0) + x1))
      refine JialdI (z := Z 74 (Z 73 ((19 * x0) + x1))) hx (show mx_Sn _ _ 22 (mx_iald 23) from sn_236 22) a74 s74 (by omega) rfl ?_
      refine JcI (z := 268435456) (show mx_Sn _ _ 23 (mx_const (.int 268435456) 26) from sn_236 23) rfl ?_
      refine Jicmp_ne (show mx_Sn _ _ 26 (mx_icmp_ne 35 29) from sn_236 26) (by omega) (by omega) (fun q8 => ?_) (fun q8 => ?_)
      · skip
        refine mx_J.step (sn_236 35) (fun _ _ => rfl) ?_
        refine JgetR (g := 33) (b := 74) hx (show mx_Sn _ _ 36 (mx_getf 12 33 39) from sn_236 36) a56 s56 rfl rfl (hG.prr 56 33 rfl) ?_
        refine mx_J.step (sn_236 39) (fun _ _ => rfl) ?_
        refine JialdI (z := Z 74 (Z 73 ((19 * x0) + x1))) hx (show mx_Sn _ _ 40 (mx_iald 41) from sn_236 40) a74 s74 (by omega) rfl ?_
        refine JcI (z := 1) (show mx_Sn _ _ 41 (mx_const (.int 1) 42) from sn_236 41) rfl ?_
        refine Jiadd (show mx_Sn _ _ 42 (mx_iadd 43) from sn_236 42) ?_
        exact c43 ((Z 74 (Z 73 ((19 * x0) + x1))) + 1) (by omega) (by omega)
      · skip
        exact c29 (by omega)
theorem ct_236_56 {l : Launch} {D : va_G} {b0 : Nat} {ad : Nat → Nat} {Hb : Heap} {tau : Nat → Int64} {d n s : Nat} {S : Nat → xS} {Z : xZ} {h : mx_H} (hx : XH n s S Z h) (hG : GI n S Z)  {x0 x1 : Int} (p0 : 0 ≤ x0 ∧ x0 ≤ 384) (p1 : 0 ≤ x1 ∧ x1 ≤ 18) : ∃ z : Int, mx_Ca (tB l D b0 ad Hb tau) (d + 1) 236 [.ref 56, xI x0, xI x1] h (some (xI z), h) ∧ (1 ≤ z ∧ z ≤ 268435457 ∧ z = fb Z x0 x1) := by
  obtain ⟨r, hca, z, e, hp⟩ := Jmt (B := tB l D b0 ad Hb tau) (M := mt_236) (mi := 236) (as := [.ref 56, xI x0, xI x1]) (d := d + 0) (ls := [some (.ref 56), some (xI x0), some (xI x1), none]) rfl rfl rfl rfl rfl rfl (cw_236_56 (l := l) (D := D) (b0 := b0) (ad := ad) (Hb := Hb) (tau := tau) (d := d) (Post := fun r => ∃ z : Int, r = (some (xI z), h) ∧ (1 ≤ z ∧ z ≤ 268435457 ∧ z = fb Z x0 x1)) hx hG p0 p1 (fun z hz => ⟨z, rfl, hz⟩))
  subst e; exact ⟨z, hca, hp⟩
set_option maxRecDepth 100000 in
theorem cw_238_ {l : Launch} {D : va_G} {b0 : Nat} {ad : Nat → Nat} {Hb : Heap} {tau : Nat → Int64} {d n s : Nat} {S : Nat → xS} {Z : xZ} {h : mx_H} {Post : mx_R → Prop} (hx : XH n s S Z h) (hG : GI n S Z)  {x0 : Int} (p0 : 0 ≤ x0 ∧ x0 ≤ 268435456) (hP : ∀ z : Int, (-1) ≤ z ∧ z ≤ 268435455 → Post (some (xI z), h)) : mx_J (tB l D b0 ad Hb tau) mt_238 (d + 0) 0 [some (xI x0)] [] h Post := by
    refine mx_J.step (sn_238 0) (fun _ _ => rfl) ?_
    refine JcI (z := 268435456) (show mx_Sn _ _ 1 (mx_const (.int 268435456) 4) from sn_238 1) rfl ?_
    have c12 : ∀ (k1_0 : Int), (-1) ≤ k1_0 ∧ k1_0 ≤ 268435455 → mx_J (tB l D b0 ad Hb tau) mt_238 (d + 0) 12 [some (xI x0)] [xI k1_0] h Post := by
      intro k1_0 f1_0
      exact mx_J.ret (sn_238 12) (fun _ _ => rfl) (hP k1_0 (by omega))
    refine Jicmp_ne (show mx_Sn _ _ 4 (mx_icmp_ne 11 7) from sn_238 4) (by omega) (by omega) (fun q2 => ?_) (fun q2 => ?_)
    · skip
      refine mx_J.step (sn_238 11) (fun _ _ => rfl) ?_
      exact c12 x0 (by omega)
    · skip
      refine JcI (z := (-1)) (show mx_Sn _ _ 7 (mx_const (.int (-1)) 8) from sn_238 7) rfl ?_
      refine mx_J.step (sn_238 8) (fun _ _ => rfl) ?_
      exact c12 (-1) (by omega)
theorem ct_238_ {l : Launch} {D : va_G} {b0 : Nat} {ad : Nat → Nat} {Hb : Heap} {tau : Nat → Int64} {d n s : Nat} {S : Nat → xS} {Z : xZ} {h : mx_H} (hx : XH n s S Z h) (hG : GI n S Z)  {x0 : Int} (p0 : 0 ≤ x0 ∧ x0 ≤ 268435456) : ∃ z : Int, mx_Ca (tB l D b0 ad Hb tau) (d + 1) 238 [xI x0] h (some (xI z), h) ∧ ((-1) ≤ z ∧ z ≤ 268435455) := by
  obtain ⟨r, hca, z, e, hp⟩ := Jmt (B := tB l D b0 ad Hb tau) (M := mt_238) (mi := 238) (as := [xI x0]) (d := d + 0) (ls := [some (xI x0)]) rfl rfl rfl rfl rfl rfl (cw_238_ (l := l) (D := D) (b0 := b0) (ad := ad) (Hb := Hb) (tau := tau) (d := d) (Post := fun r => ∃ z : Int, r = (some (xI z), h) ∧ ((-1) ≤ z ∧ z ≤ 268435455)) hx hG p0 (fun z hz => ⟨z, rfl, hz⟩))
  subst e; exact ⟨z, hca, hp⟩
set_option maxRecDepth 100000 in
theorem cw_243_56 {l : Launch} {D : va_G} {b0 : Nat} {ad : Nat → Nat} {Hb : Heap} {tau : Nat → Int64} {d n s : Nat} {S : Nat → xS} {Z : xZ} {h : mx_H} {Post : mx_R → Prop} (hx : XH n s S Z h) (hG : GI n S Z)   (hP : ∀ (Z' : xZ) (h' : mx_H), XH n s S Z' h' → GI n S Z' → fr' [(76, (-1)), (77, (-1))] Z Z' → Post (none, h')) : mx_J (tB l D b0 ad Hb tau) mt_243 (d + 0) 0 [some (.ref 56), none] [] h Post := by
    have a56 : 56 < n := lt83 (GI_n hG) rfl
    have s56 : S 56 = .inl (12, [0, 2, 2, 2, 2, 0, 0, 0, 0, 0, 0, 0, 0, 0, 0, 2, 2, 2, 0, 2, 2, 2, 0, 0, 2, 2, 2, 2, 2, 2, 0, 0, 2, 2, 2, 2, 2, 2, 2, 2, 2, 2]) := GI_s hG 56 rfl
    have a57 : 57 < n := lt83 (GI_n hG) rfl
    have s57 : S 57 = .inr (.int, 2886, 0) := GI_s hG 57 rfl
    have a76 : 76 < n := lt83 (GI_n hG) rfl
    have s76 : S 76 = .inr (.long, 385, 1) := GI_s hG 76 rfl
    have a77 : 77 < n := lt83 (GI_n hG) rfl
    have s77 : S 77 = .inr (.long, 385, 1) := GI_s hG 77 rfl
    refine JcI (z := 0) (show mx_Sn _ _ 0 (mx_const (.int 0) 1) from sn_243 0) rfl ?_
    refine mx_J.step (ls2 := [some (.ref 56), some (xI 0)]) (sn_243 1) (fun _ _ => rfl) ?_
    have c2 : ∀ (m1 : Nat) (w1_1 : Int) (Z2 : xZ) (h2 : mx_H), 385 - w1_1 < (m1 : Int) → 0 ≤ w1_1 ∧ w1_1 ≤ 385 → XH n s S Z2 h2 → GI n S Z2 → fr' [(76, (-1)), (77, (-1))] Z Z2 → mx_J (tB l D b0 ad Hb tau) mt_243 (d + 0) 2 [some (.ref 56), some (xI w1_1)] [] h2 Post := by
      intro m1
      induction m1 with
      | zero => intro w1_1 Z2 h2 q1 f1_0 hx2 hG2 hf2; exact absurd q1 (by omega)
      | succ m1 ih1 =>
        intro w1_1 Z2 h2 q1 f1_0 hx2 hG2 hf2
        refine mx_J.step (sn_243 2) (fun _ _ => rfl) ?_
        refine JcI (z := 385) (show mx_Sn _ _ 3 (mx_const (.int 385) 6) from sn_243 3) rfl ?_
        refine Jicmp_ge (show mx_Sn _ _ 6 (mx_icmp_ge 44 9) from sn_243 6) (by omega) (by omega) (fun q3 => ?_) (fun q3 => ?_)
        · skip
          exact mx_J.ret (sn_243 44) (fun _ _ => rfl) (hP Z2 h2 hx2 hG2 (fr_tr (M := [(76, (-1)), (77, (-1))]) fr_rf (hf2) (M1 := []) rfl rfl))
        · skip
          refine mx_J.step (sn_243 9) (fun _ _ => rfl) ?_
          refine JgetR (g := 35) (b := 76) hx2 (show mx_Sn _ _ 10 (mx_getf 12 35 13) from sn_243 10) a56 s56 rfl rfl (hG2.prr 56 35 rfl) ?_
          refine mx_J.step (sn_243 13) (fun _ _ => rfl) ?_
          refine mx_J.step (sn_243 14) (fun _ _ => rfl) ?_
          refine mx_J.step (sn_243 15) (fun _ _ => rfl) ?_
          refine JgetR (g := 1) (b := 57) hx2 (show mx_Sn _ _ 16 (mx_getf 12 1 19) from sn_243 16) a56 s56 rfl rfl (hG2.prr 56 1 rfl) ?_
          refine JcI (z := 27) (show mx_Sn _ _ 19 (mx_const (.int 27) 21) from sn_243 19) rfl ?_
          have b6 := GI_st hG 27
          have b7 : 0 ≤ Z 56 18 ∧ Z 56 18 ≤ 385 := hG.pr 56 18
          have b8 : 0 ≤ Z 57 27 ∧ Z 57 27 ≤ 384 := by have hq := GI_ex hG 57 27; replace hq : f57 (27 % 962) (Z 57 27) := hq; unfold f57 at hq; omega
          have b9 : (-2147483648) ≤ Z 57 27 ∧ Z 57 27 ≤ 2147483647 := hG.pr 57 27
          refine JialdI (z := Z 57 27) hx2 (show mx_Sn _ _ 21 (mx_iald 22) from sn_243 21) a57 s57 (by omega) (hf2 57 27 rfl) ?_
          have c30 : ∀ (k10_2 : Int), 0 ≤ k10_2 ∧ k10_2 ≤ 1 → mx_J (tB l D b0 ad Hb tau) mt_243 (d + 0) 30 [some (.ref 56), some (xI w1_1)] [xL k10_2, xI w1_1, .ref 76] h2 Post := by
            intro k10_2 f10_0
            refine JlastL hx2 (show mx_Sn _ _ 30 (mx_last 1 31) from sn_243 30) a76 s76 rfl (by omega) (fun Z11 h11 hx11 hE11 => ?_)
            have hG11 := GI_up hG2 hE11 (show (-9223372036854775808) ≤ k10_2 ∧ k10_2 ≤ 9223372036854775807 by omega) trivial rfl
            refine mx_J.step (sn_243 31) (fun _ _ => rfl) ?_
            refine JgetR (g := 36) (b := 77) hx11 (show mx_Sn _ _ 32 (mx_getf 12 36 35) from sn_243 32) a56 s56 rfl rfl (hG11.prr 56 36 rfl) ?_
            refine mx_J.step (sn_243 35) (fun _ _ => rfl) ?_
            refine JcL (z := 0) (show mx_Sn _ _ 36 (mx_const (.long 0) 37) from sn_243 36) rfl ?_
            refine JlastL hx11 (show mx_Sn _ _ 37 (mx_last 1 38) from sn_243 37) a77 s77 rfl (by omega) (fun Z13 h13 hx13 hE13 => ?_)
            have hG13 := GI_up hG11 hE13 (show (-9223372036854775808) ≤ 0 ∧ 0 ≤ 9223372036854775807 by omega) trivial rfl
            refine Jiinc (z := w1_1) (cz := 1) (ls2 := [some (.ref 56), some (xI (w1_1 + 1))]) (show mx_Sn _ _ 38 (mx_iinc 1 1 41) from sn_243 38) rfl rfl rfl rfl ?_
            refine mx_J.step (sn_243 41) (fun _ _ => rfl) ?_
            exact ih1 (w1_1 + 1) Z13 h13 (by omega) (by omega) hx13 hG13 (fr_tr (M := [(76, (-1)), (77, (-1))]) (fr_tr (M := [(76, (-1)), (77, (-1))]) (fr_tr (M := [(76, (-1)), (77, (-1))]) fr_rf (hf2) (M1 := []) rfl rfl) (fr_ua hE11) rfl rfl) (fr_ua hE13) rfl rfl)
          refine Jicmp_ne (show mx_Sn _ _ 22 (mx_icmp_ne 29 25) from sn_243 22) (by omega) (by omega) (fun q14 => ?_) (fun q14 => ?_)
          · skip
            refine JcL (z := 0) (show mx_Sn _ _ 29 (mx_const (.long 0) 30) from sn_243 29) rfl ?_
            exact c30 0 (by omega)
          · skip
            refine JcL (z := 1) (show mx_Sn _ _ 25 (mx_const (.long 1) 26) from sn_243 25) rfl ?_
            refine mx_J.step (sn_243 26) (fun _ _ => rfl) ?_
            exact c30 1 (by omega)
    exact c2 (Int.toNat (385 - 0) + 1) 0 Z h (by omega) (by omega) hx hG fr_rf
theorem ct_243_56 {l : Launch} {D : va_G} {b0 : Nat} {ad : Nat → Nat} {Hb : Heap} {tau : Nat → Int64} {d n s : Nat} {S : Nat → xS} {Z : xZ} {h : mx_H} (hx : XH n s S Z h) (hG : GI n S Z)   : ∃ (Z' : xZ) (h' : mx_H), mx_Ca (tB l D b0 ad Hb tau) (d + 1) 243 [.ref 56] h (none, h') ∧ XH n s S Z' h' ∧ GI n S Z' ∧ fr' [(76, (-1)), (77, (-1))] Z Z' := by
  obtain ⟨r, hca, Z', h', e, q⟩ := Jmt (B := tB l D b0 ad Hb tau) (M := mt_243) (mi := 243) (as := [.ref 56]) (d := d + 0) (ls := [some (.ref 56), none]) rfl rfl rfl rfl rfl rfl (cw_243_56 (l := l) (D := D) (b0 := b0) (ad := ad) (Hb := Hb) (tau := tau) (d := d) (Post := fun r => ∃ (Z' : xZ) (h' : mx_H), r = (none, h') ∧ XH n s S Z' h' ∧ GI n S Z' ∧ fr' [(76, (-1)), (77, (-1))] Z Z') hx hG  (fun Z' h' q1 q2 q3 => ⟨Z', h', rfl, q1, q2, q3⟩))
  subst e; exact ⟨Z', h', hca, q⟩
set_option maxRecDepth 100000 in
theorem cw_244_56 {l : Launch} {D : va_G} {b0 : Nat} {ad : Nat → Nat} {Hb : Heap} {tau : Nat → Int64} {d n s : Nat} {S : Nat → xS} {Z : xZ} {h : mx_H} {Post : mx_R → Prop} (hx : XH n s S Z h) (hG : GI n S Z)   (hP : ∀ (Z' : xZ) (h' : mx_H), XH n s S Z' h' → GI n S Z' → fr' [(76, (-1)), (77, (-1))] Z Z' → Post (none, h')) : mx_J (tB l D b0 ad Hb tau) mt_244 (d + 0) 0 [some (.ref 56), none] [] h Post := by
    have a56 : 56 < n := lt83 (GI_n hG) rfl
    have s56 : S 56 = .inl (12, [0, 2, 2, 2, 2, 0, 0, 0, 0, 0, 0, 0, 0, 0, 0, 2, 2, 2, 0, 2, 2, 2, 0, 0, 2, 2, 2, 2, 2, 2, 0, 0, 2, 2, 2, 2, 2, 2, 2, 2, 2, 2]) := GI_s hG 56 rfl
    have a76 : 76 < n := lt83 (GI_n hG) rfl
    have s76 : S 76 = .inr (.long, 385, 1) := GI_s hG 76 rfl
    have a77 : 77 < n := lt83 (GI_n hG) rfl
    have s77 : S 77 = .inr (.long, 385, 1) := GI_s hG 77 rfl
    refine JcI (z := 0) (show mx_Sn _ _ 0 (mx_const (.int 0) 1) from sn_244 0) rfl ?_
    refine mx_J.step (ls2 := [some (.ref 56), some (xI 0)]) (sn_244 1) (fun _ _ => rfl) ?_
    have c2 : ∀ (m1 : Nat) (w1_1 : Int) (Z2 : xZ) (h2 : mx_H), 385 - w1_1 < (m1 : Int) → 0 ≤ w1_1 ∧ w1_1 ≤ 385 → XH n s S Z2 h2 → GI n S Z2 → fr' [(76, (-1)), (77, (-1))] Z Z2 → mx_J (tB l D b0 ad Hb tau) mt_244 (d + 0) 2 [some (.ref 56), some (xI w1_1)] [] h2 Post := by
      intro m1
      induction m1 with
      | zero => intro w1_1 Z2 h2 q1 f1_0 hx2 hG2 hf2; exact absurd q1 (by omega)
      | succ m1 ih1 =>
        intro w1_1 Z2 h2 q1 f1_0 hx2 hG2 hf2
        refine mx_J.step (sn_244 2) (fun _ _ => rfl) ?_
        refine JcI (z := 385) (show mx_Sn _ _ 3 (mx_const (.int 385) 6) from sn_244 3) rfl ?_
        refine Jicmp_ge (show mx_Sn _ _ 6 (mx_icmp_ge 34 9) from sn_244 6) (by omega) (by omega) (fun q3 => ?_) (fun q3 => ?_)
        · skip
          exact mx_J.ret (sn_244 34) (fun _ _ => rfl) (hP Z2 h2 hx2 hG2 (fr_tr (M := [(76, (-1)), (77, (-1))]) fr_rf (hf2) (M1 := []) rfl rfl))
        · skip
          refine mx_J.step (sn_244 9) (fun _ _ => rfl) ?_
          refine JgetR (g := 35) (b := 76) hx2 (show mx_Sn _ _ 10 (mx_getf 12 35 13) from sn_244 10) a56 s56 rfl rfl (hG2.prr 56 35 rfl) ?_
          refine mx_J.step (sn_244 13) (fun _ _ => rfl) ?_
          refine mx_J.step (sn_244 14) (fun _ _ => rfl) ?_
          refine JgetR (g := 36) (b := 77) hx2 (show mx_Sn _ _ 15 (mx_getf 12 36 18) from sn_244 15) a56 s56 rfl rfl (hG2.prr 56 36 rfl) ?_
          refine mx_J.step (sn_244 18) (fun _ _ => rfl) ?_
          have b6 : (-9223372036854775808) ≤ Z2 77 w1_1 ∧ Z2 77 w1_1 ≤ 9223372036854775807 := hG2.pr 77 w1_1
          refine JlaldL (z := Z2 77 w1_1) hx2 (show mx_Sn _ _ 19 (mx_lald 20) from sn_244 19) a77 s77 (by omega) rfl ?_
          refine JlastL hx2 (show mx_Sn _ _ 20 (mx_last 1 21) from sn_244 20) a76 s76 rfl (by omega) (fun Z7 h7 hx7 hE7 => ?_)
          have hG7 := GI_up hG2 hE7 (show (-9223372036854775808) ≤ Z2 77 w1_1 ∧ Z2 77 w1_1 ≤ 9223372036854775807 by omega) trivial rfl
          refine mx_J.step (sn_244 21) (fun _ _ => rfl) ?_
          refine JgetR (g := 36) (b := 77) hx7 (show mx_Sn _ _ 22 (mx_getf 12 36 25) from sn_244 22) a56 s56 rfl rfl (hG7.prr 56 36 rfl) ?_
          refine mx_J.step (sn_244 25) (fun _ _ => rfl) ?_
          refine JcL (z := 0) (show mx_Sn _ _ 26 (mx_const (.long 0) 27) from sn_244 26) rfl ?_
          refine JlastL hx7 (show mx_Sn _ _ 27 (mx_last 1 28) from sn_244 27) a77 s77 rfl (by omega) (fun Z9 h9 hx9 hE9 => ?_)
          have hG9 := GI_up hG7 hE9 (show (-9223372036854775808) ≤ 0 ∧ 0 ≤ 9223372036854775807 by omega) trivial rfl
          refine Jiinc (z := w1_1) (cz := 1) (ls2 := [some (.ref 56), some (xI (w1_1 + 1))]) (show mx_Sn _ _ 28 (mx_iinc 1 1 31) from sn_244 28) rfl rfl rfl rfl ?_
          refine mx_J.step (sn_244 31) (fun _ _ => rfl) ?_
          exact ih1 (w1_1 + 1) Z9 h9 (by omega) (by omega) hx9 hG9 (fr_tr (M := [(76, (-1)), (77, (-1))]) (fr_tr (M := [(76, (-1)), (77, (-1))]) (fr_tr (M := [(76, (-1)), (77, (-1))]) fr_rf (hf2) (M1 := []) rfl rfl) (fr_ua hE7) rfl rfl) (fr_ua hE9) rfl rfl)
    exact c2 (Int.toNat (385 - 0) + 1) 0 Z h (by omega) (by omega) hx hG fr_rf
theorem ct_244_56 {l : Launch} {D : va_G} {b0 : Nat} {ad : Nat → Nat} {Hb : Heap} {tau : Nat → Int64} {d n s : Nat} {S : Nat → xS} {Z : xZ} {h : mx_H} (hx : XH n s S Z h) (hG : GI n S Z)   : ∃ (Z' : xZ) (h' : mx_H), mx_Ca (tB l D b0 ad Hb tau) (d + 1) 244 [.ref 56] h (none, h') ∧ XH n s S Z' h' ∧ GI n S Z' ∧ fr' [(76, (-1)), (77, (-1))] Z Z' := by
  obtain ⟨r, hca, Z', h', e, q⟩ := Jmt (B := tB l D b0 ad Hb tau) (M := mt_244) (mi := 244) (as := [.ref 56]) (d := d + 0) (ls := [some (.ref 56), none]) rfl rfl rfl rfl rfl rfl (cw_244_56 (l := l) (D := D) (b0 := b0) (ad := ad) (Hb := Hb) (tau := tau) (d := d) (Post := fun r => ∃ (Z' : xZ) (h' : mx_H), r = (none, h') ∧ XH n s S Z' h' ∧ GI n S Z' ∧ fr' [(76, (-1)), (77, (-1))] Z Z') hx hG  (fun Z' h' q1 q2 q3 => ⟨Z', h', rfl, q1, q2, q3⟩))
  subst e; exact ⟨Z', h', hca, q⟩
set_option maxRecDepth 100000 in
theorem cw_246_56 {l : Launch} {D : va_G} {b0 : Nat} {ad : Nat → Nat} {Hb : Heap} {tau : Nat → Int64} {d n s : Nat} {S : Nat → xS} {Z : xZ} {h : mx_H} {Post : mx_R → Prop} (hx : XH n s S Z h) (hG : GI n S Z)  {x0 x1 x2 : Int} (p0 : 0 ≤ x0 ∧ x0 ≤ 384) (p1 : 0 ≤ x1 ∧ x1 ≤ 18) (p2 : 1 ≤ x2 ∧ x2 ≤ 18) (hP : ∀ z : Int, (-1) ≤ z ∧ z ≤ 268435456 ∧ ((z = -1 ∧ (Z 73 (19 * x0 + x1) = -1 ∨ x2 < Z 61 (18 * Z 73 (19 * x0 + x1) + 0))) ∨ (0 ≤ z ∧ ¬ Z 73 (19 * x0 + x1) = -1 ∧ Z 61 (18 * Z 73 (19 * x0 + x1) + 0) ≤ x2)) → Post (some (xI z), h)) : mx_J (tB l D b0 ad Hb tau) mt_246 (d + 1) 0 [some (.ref 56), some (xI x0), some (xI x1), some (xI x2), none] [] h Post := by
    have a56 : 56 < n := lt83 (GI_n hG) rfl
    have s56 : S 56 = .inl (12, [0, 2, 2, 2, 2, 0, 0, 0, 0, 0, 0, 0, 0, 0, 0, 2, 2, 2, 0, 2, 2, 2, 0, 0, 2, 2, 2, 2, 2, 2, 0, 0, 2, 2, 2, 2, 2, 2, 2, 2, 2, 2]) := GI_s hG 56 rfl
    have a73 : 73 < n := lt83 (GI_n hG) rfl
    have s73 : S 73 = .inr (.int, 7315, 0) := GI_s hG 73 rfl
    have a74 : 74 < n := lt83 (GI_n hG) rfl
    have s74 : S 74 = .inr (.int, 385, 0) := GI_s hG 74 rfl
    refine mx_J.step (sn_246 0) (fun _ _ => rfl) ?_
    refine JgetR (g := 32) (b := 73) hx (show mx_Sn _ _ 1 (mx_getf 12 32 4) from sn_246 1) a56 s56 rfl rfl (hG.prr 56 32 rfl) ?_
    refine JcI (z := 19) (show mx_Sn _ _ 4 (mx_const (.int 19) 6) from sn_246 4) rfl ?_
    refine mx_J.step (sn_246 6) (fun _ _ => rfl) ?_
    refine Jimul (show mx_Sn _ _ 7 (mx_imul 8) from sn_246 7) ?_
    refine mx_J.step (sn_246 8) (fun _ _ => rfl) ?_
    refine Jiadd (show mx_Sn _ _ 9 (mx_iadd 10) from sn_246 9) ?_
    have b2 : (-1) ≤ Z 73 ((19 * x0) + x1) ∧ Z 73 ((19 * x0) + x1) ≤ 384 := hG.pr 73 ((19 * x0) + x1)
    refine JialdI (z := Z 73 ((19 * x0) + x1)) hx (show mx_Sn _ _ 10 (mx_iald 11) from sn_246 10) a73 s73 (by omega) rfl ?_
    refine mx_J.step (ls2 := [some (.ref 56), some (xI x0), some (xI x1), some (xI x2), some (xI (Z 73 ((19 * x0) + x1)))]) (sn_246 11) (fun _ _ => rfl) ?_
    refine mx_J.step (sn_246 13) (fun _ _ => rfl) ?_
    refine JcI (z := (-1)) (show mx_Sn _ _ 15 (mx_const (.int (-1)) 16) from sn_246 15) rfl ?_
    have c62 : ∀ (k3_0 : Int), (-1) ≤ k3_0 ∧ k3_0 ≤ 268435456 → ((k3_0 = -1 ∧ (Z 73 (19 * x0 + x1) = -1 ∨ x2 < Z 61 (18 * Z 73 (19 * x0 + x1) + 0))) ∨ (0 ≤ k3_0 ∧ ¬ Z 73 (19 * x0 + x1) = -1 ∧ Z 61 (18 * Z 73 (19 * x0 + x1) + 0) ≤ x2)) → mx_J (tB l D b0 ad Hb tau) mt_246 (d + 1) 62 [some (.ref 56), some (xI x0), some (xI x1), some (xI x2), some (xI (Z 73 ((19 * x0) + x1)))] [xI k3_0] h Post := by
      intro k3_0 f3_0 f3_1
      exact mx_J.ret (sn_246 62) (fun _ _ => rfl) (hP k3_0 (by omega))
    have c30 : (Z 73 (19 * x0 + x1) = -1 ∨ x2 < Z 61 (18 * Z 73 (19 * x0 + x1) + 0)) → mx_J (tB l D b0 ad Hb tau) mt_246 (d + 1) 30 [some (.ref 56), some (xI x0), some (xI x1), some (xI x2), some (xI (Z 73 ((19 * x0) + x1)))] [] h Post := by
      intro f4_0
      refine JcI (z := (-1)) (show mx_Sn _ _ 30 (mx_const (.int (-1)) 31) from sn_246 30) rfl ?_
      refine mx_J.step (sn_246 31) (fun _ _ => rfl) ?_
      exact c62 (-1) (by omega) (by omega)
    refine Jicmp_eq (show mx_Sn _ _ 16 (mx_icmp_eq 30 19) from sn_246 16) (by omega) (by omega) (fun q5 => ?_) (fun q5 => ?_)
    · skip
      exact c30 (by omega)
    · skip
      refine mx_J.step (sn_246 19) (fun _ _ => rfl) ?_
      refine mx_J.step (sn_246 20) (fun _ _ => rfl) ?_
      refine JcI (z := 0) (show mx_Sn _ _ 22 (mx_const (.int 0) 23) from sn_246 22) rfl ?_
      have b7 : 0 ≤ Z 61 (18 * (Z 73 ((19 * x0) + x1)) + 0) ∧ Z 61 (18 * (Z 73 ((19 * x0) + x1)) + 0) ≤ 18 := hG.pr 61 (18 * (Z 73 ((19 * x0) + x1)) + 0)
      obtain ⟨z6, hc6, b6⟩ := ct_190_56 (d := d + 0) (l := l) (D := D) (b0 := b0) (ad := ad) (Hb := Hb) (tau := tau) hx hG (show 0 ≤ Z 73 ((19 * x0) + x1) ∧ Z 73 ((19 * x0) + x1) ≤ 384 by omega) (show 0 ≤ 0 ∧ 0 ≤ 17 by omega)
      refine Jcv hx (show mx_Sn _ _ 23 (mx_callv 190 3 12 26) from sn_246 23) a56 s56 hc6 rfl rfl rfl ?_
      refine mx_J.step (sn_246 26) (fun _ _ => rfl) ?_
      refine Jicmp_le (show mx_Sn _ _ 27 (mx_icmp_le 34 30) from sn_246 27) (by omega) (by omega) (fun q8 => ?_) (fun q8 => ?_)
      · skip
        refine mx_J.step (sn_246 34) (fun _ _ => rfl) ?_
        refine JgetR (g := 33) (b := 74) hx (show mx_Sn _ _ 35 (mx_getf 12 33 38) from sn_246 35) a56 s56 rfl rfl (hG.prr 56 33 rfl) ?_
        refine mx_J.step (sn_246 38) (fun _ _ => rfl) ?_
        have b10 : 0 ≤ Z 74 (Z 73 ((19 * x0) + x1)) ∧ Z 74 (Z 73 ((19 * x0) + x1)) ≤ 268435456 := hG.pr 74 (Z 73 ((19 * x0) + x1))
        refine JialdI (z := Z 74 (Z 73 ((19 * x0) + x1))) hx (show mx_Sn _ _ 40 (mx_iald 41) from sn_246 40) a74 s74 (by omega) rfl ?_
        refine JcI (z := 268435456) (show mx_Sn _ _ 41 (mx_const (.int 268435456) 44) from sn_246 41) rfl ?_
        refine Jicmp_ne (show mx_Sn _ _ 44 (mx_icmp_ne 53 47) from sn_246 44) (by omega) (by omega) (fun q11 => ?_) (fun q11 => ?_)
        · skip
          refine mx_J.step (sn_246 53) (fun _ _ => rfl) ?_
          refine JgetR (g := 33) (b := 74) hx (show mx_Sn _ _ 54 (mx_getf 12 33 57) from sn_246 54) a56 s56 rfl rfl (hG.prr 56 33 rfl) ?_
          refine mx_J.step (sn_246 57) (fun _ _ => rfl) ?_
          refine JialdI (z := Z 74 (Z 73 ((19 * x0) + x1))) hx (show mx_Sn _ _ 59 (mx_iald 60) from sn_246 59) a74 s74 (by omega) rfl ?_
          refine JcI (z := 1) (show mx_Sn _ _ 60 (mx_const (.int 1) 61) from sn_246 60) rfl ?_
          refine Jiadd (show mx_Sn _ _ 61 (mx_iadd 62) from sn_246 61) ?_
          exact c62 ((Z 74 (Z 73 ((19 * x0) + x1))) + 1) (by omega) (by omega)
        · skip
          refine JcI (z := 268435456) (show mx_Sn _ _ 47 (mx_const (.int 268435456) 50) from sn_246 47) rfl ?_
          refine mx_J.step (sn_246 50) (fun _ _ => rfl) ?_
          exact c62 268435456 (by omega) (by omega)
      · skip
        exact c30 (by omega)
theorem ct_246_56 {l : Launch} {D : va_G} {b0 : Nat} {ad : Nat → Nat} {Hb : Heap} {tau : Nat → Int64} {d n s : Nat} {S : Nat → xS} {Z : xZ} {h : mx_H} (hx : XH n s S Z h) (hG : GI n S Z)  {x0 x1 x2 : Int} (p0 : 0 ≤ x0 ∧ x0 ≤ 384) (p1 : 0 ≤ x1 ∧ x1 ≤ 18) (p2 : 1 ≤ x2 ∧ x2 ≤ 18) : ∃ z : Int, mx_Ca (tB l D b0 ad Hb tau) (d + 2) 246 [.ref 56, xI x0, xI x1, xI x2] h (some (xI z), h) ∧ ((-1) ≤ z ∧ z ≤ 268435456 ∧ ((z = -1 ∧ (Z 73 (19 * x0 + x1) = -1 ∨ x2 < Z 61 (18 * Z 73 (19 * x0 + x1) + 0))) ∨ (0 ≤ z ∧ ¬ Z 73 (19 * x0 + x1) = -1 ∧ Z 61 (18 * Z 73 (19 * x0 + x1) + 0) ≤ x2))) := by
  obtain ⟨r, hca, z, e, hp⟩ := Jmt (B := tB l D b0 ad Hb tau) (M := mt_246) (mi := 246) (as := [.ref 56, xI x0, xI x1, xI x2]) (d := d + 1) (ls := [some (.ref 56), some (xI x0), some (xI x1), some (xI x2), none]) rfl rfl rfl rfl rfl rfl (cw_246_56 (l := l) (D := D) (b0 := b0) (ad := ad) (Hb := Hb) (tau := tau) (d := d) (Post := fun r => ∃ z : Int, r = (some (xI z), h) ∧ ((-1) ≤ z ∧ z ≤ 268435456 ∧ ((z = -1 ∧ (Z 73 (19 * x0 + x1) = -1 ∨ x2 < Z 61 (18 * Z 73 (19 * x0 + x1) + 0))) ∨ (0 ≤ z ∧ ¬ Z 73 (19 * x0 + x1) = -1 ∧ Z 61 (18 * Z 73 (19 * x0 + x1) + 0) ≤ x2)))) hx hG p0 p1 p2 (fun z hz => ⟨z, rfl, hz⟩))
  subst e; exact ⟨z, hca, hp⟩
set_option maxRecDepth 100000 in
theorem cw_252_56 {l : Launch} {D : va_G} {b0 : Nat} {ad : Nat → Nat} {Hb : Heap} {tau : Nat → Int64} {d n s : Nat} {S : Nat → xS} {Z : xZ} {h : mx_H} {Post : mx_R → Prop} (hx : XH n s S Z h) (hG : GI n S Z)  {x0 x1 : Int} (p0 : 0 ≤ x0 ∧ x0 ≤ 384) (p1 : 0 ≤ x1 ∧ x1 ≤ 384) (hP : ∀ z : Int, 0 ≤ z ∧ z ≤ 1 → Post (some (xI z), h)) : mx_J (tB l D b0 ad Hb tau) mt_252 (d + 1) 0 [some (.ref 56), some (xI x0), some (xI x1), none, none] [] h Post := by
    have a56 : 56 < n := lt83 (GI_n hG) rfl
    have s56 : S 56 = .inl (12, [0, 2, 2, 2, 2, 0, 0, 0, 0, 0, 0, 0, 0, 0, 0, 2, 2, 2, 0, 2, 2, 2, 0, 0, 2, 2, 2, 2, 2, 2, 0, 0, 2, 2, 2, 2, 2, 2, 2, 2, 2, 2]) := GI_s hG 56 rfl
    refine JcI (z := 0) (show mx_Sn _ _ 0 (mx_const (.int 0) 1) from sn_252 0) rfl ?_
    refine mx_J.step (ls2 := [some (.ref 56), some (xI x0), some (xI x1), some (xI 0), none]) (sn_252 1) (fun _ _ => rfl) ?_
    refine JcI (z := 0) (show mx_Sn _ _ 2 (mx_const (.int 0) 3) from sn_252 2) rfl ?_
    refine mx_J.step (ls2 := [some (.ref 56), some (xI x0), some (xI x1), some (xI 0), some (xI 0)]) (sn_252 3) (fun _ _ => rfl) ?_
    have c5 : ∀ (m1 : Nat) (w1_3 : Int) (w1_4 : Int), 18 - w1_4 < (m1 : Int) → 0 ≤ w1_3 ∧ w1_3 ≤ 2147483647 → 0 ≤ w1_4 ∧ w1_4 ≤ 18 → mx_J (tB l D b0 ad Hb tau) mt_252 (d + 1) 5 [some (.ref 56), some (xI x0), some (xI x1), some (xI w1_3), some (xI w1_4)] [] h Post := by
      intro m1
      induction m1 with
      | zero => intro w1_3 w1_4 q1 f1_0 f1_1; exact absurd q1 (by omega)
      | succ m1 ih1 =>
        intro w1_3 w1_4 q1 f1_0 f1_1
        refine mx_J.step (sn_252 5) (fun _ _ => rfl) ?_
        refine JcI (z := 18) (show mx_Sn _ _ 7 (mx_const (.int 18) 9) from sn_252 7) rfl ?_
        refine Jicmp_ge (show mx_Sn _ _ 9 (mx_icmp_ge 42 12) from sn_252 9) (by omega) (by omega) (fun q2 => ?_) (fun q2 => ?_)
        · skip
          refine JcI (z := 1) (show mx_Sn _ _ 42 (mx_const (.int 1) 43) from sn_252 42) rfl ?_
          exact mx_J.ret (show mx_Sn _ _ 43 (mx_zret) from sn_252 43) (fun _ _ => zr_ok (by omega)) (hP 1 (by omega))
        · skip
          refine mx_J.step (sn_252 12) (fun _ _ => rfl) ?_
          refine mx_J.step (sn_252 13) (fun _ _ => rfl) ?_
          refine mx_J.step (sn_252 14) (fun _ _ => rfl) ?_
          refine mx_J.step (sn_252 15) (fun _ _ => rfl) ?_
          have b4 : 0 ≤ Z 61 (18 * x1 + w1_4) ∧ Z 61 (18 * x1 + w1_4) ≤ 18 := hG.pr 61 (18 * x1 + w1_4)
          obtain ⟨z3, hc3, b3⟩ := ct_190_56 (d := d + 0) (l := l) (D := D) (b0 := b0) (ad := ad) (Hb := Hb) (tau := tau) hx hG (show 0 ≤ x1 ∧ x1 ≤ 384 by omega) (show 0 ≤ w1_4 ∧ w1_4 ≤ 17 by omega)
          refine Jcv hx (show mx_Sn _ _ 17 (mx_callv 190 3 12 20) from sn_252 17) a56 s56 hc3 rfl rfl rfl ?_
          refine mx_J.step (sn_252 20) (fun _ _ => rfl) ?_
          refine mx_J.step (sn_252 21) (fun _ _ => rfl) ?_
          refine mx_J.step (sn_252 22) (fun _ _ => rfl) ?_
          have b6 : 0 ≤ Z 61 (18 * x0 + w1_4) ∧ Z 61 (18 * x0 + w1_4) ≤ 18 := hG.pr 61 (18 * x0 + w1_4)
          obtain ⟨z5, hc5, b5⟩ := ct_190_56 (d := d + 0) (l := l) (D := D) (b0 := b0) (ad := ad) (Hb := Hb) (tau := tau) hx hG (show 0 ≤ x0 ∧ x0 ≤ 384 by omega) (show 0 ≤ w1_4 ∧ w1_4 ≤ 17 by omega)
          refine Jcv hx (show mx_Sn _ _ 24 (mx_callv 190 3 12 27) from sn_252 24) a56 s56 hc5 rfl rfl rfl ?_
          refine Jisub (show mx_Sn _ _ 27 (mx_isub 28) from sn_252 27) ?_
          refine JiaddN (show mx_Sn _ _ 28 (mx_iadd 29) from sn_252 28) (fun y7 hy7 hq7 => ?_)
          refine mx_J.step (ls2 := [some (.ref 56), some (xI x0), some (xI x1), some (xI y7), some (xI w1_4)]) (sn_252 29) (fun _ _ => rfl) ?_
          refine mx_J.step (sn_252 30) (fun _ _ => rfl) ?_
          refine Jif_ge (show mx_Sn _ _ 31 (mx_if_ge 36 34) from sn_252 31) (by omega) (fun q8 => ?_) (fun q8 => ?_)
          · skip
            refine Jiinc (z := w1_4) (cz := 1) (ls2 := [some (.ref 56), some (xI x0), some (xI x1), some (xI y7), some (xI (w1_4 + 1))]) (show mx_Sn _ _ 36 (mx_iinc 4 1 39) from sn_252 36) rfl rfl rfl rfl ?_
            refine mx_J.step (sn_252 39) (fun _ _ => rfl) ?_
            exact ih1 y7 (w1_4 + 1) (by omega) (by omega) (by omega)
          · skip
            refine JcI (z := 0) (show mx_Sn _ _ 34 (mx_const (.int 0) 35) from sn_252 34) rfl ?_
            exact mx_J.ret (show mx_Sn _ _ 35 (mx_zret) from sn_252 35) (fun _ _ => zr_ok (by omega)) (hP 0 (by omega))
    exact c5 (Int.toNat (18 - 0) + 1) 0 0 (by omega) (by omega) (by omega)
theorem ct_252_56 {l : Launch} {D : va_G} {b0 : Nat} {ad : Nat → Nat} {Hb : Heap} {tau : Nat → Int64} {d n s : Nat} {S : Nat → xS} {Z : xZ} {h : mx_H} (hx : XH n s S Z h) (hG : GI n S Z)  {x0 x1 : Int} (p0 : 0 ≤ x0 ∧ x0 ≤ 384) (p1 : 0 ≤ x1 ∧ x1 ≤ 384) : ∃ z : Int, mx_Ca (tB l D b0 ad Hb tau) (d + 2) 252 [.ref 56, xI x0, xI x1] h (some (xI z), h) ∧ (0 ≤ z ∧ z ≤ 1) := by
  obtain ⟨r, hca, z, e, hp⟩ := Jmt (B := tB l D b0 ad Hb tau) (M := mt_252) (mi := 252) (as := [.ref 56, xI x0, xI x1]) (d := d + 1) (ls := [some (.ref 56), some (xI x0), some (xI x1), none, none]) rfl rfl rfl rfl rfl rfl (cw_252_56 (l := l) (D := D) (b0 := b0) (ad := ad) (Hb := Hb) (tau := tau) (d := d) (Post := fun r => ∃ z : Int, r = (some (xI z), h) ∧ (0 ≤ z ∧ z ≤ 1)) hx hG p0 p1 (fun z hz => ⟨z, rfl, hz⟩))
  subst e; exact ⟨z, hca, hp⟩
set_option maxRecDepth 100000 in
theorem cw_250_56 {l : Launch} {D : va_G} {b0 : Nat} {ad : Nat → Nat} {Hb : Heap} {tau : Nat → Int64} {d n s : Nat} {S : Nat → xS} {Z : xZ} {h : mx_H} {Post : mx_R → Prop} (hx : XH n s S Z h) (hG : GI n S Z)  {x0 x1 : Int} (p0 : (-2147483648) ≤ x0 ∧ x0 ≤ 2147483647) (p1 : (-2147483648) ≤ x1 ∧ x1 ≤ 2147483647) (k0 : RTB Z (Z 57 1)) (k1 : 1 ≤ Z 57 1) (hP : ∀ (z : Int) (Z' : xZ) (h' : mx_H), XH n s S Z' h' → GI n S Z' → fr' [(56, 0)] Z Z' → (¬ (x0 < 1 ∨ 18 < x0 ∨ x1 < 1 ∨ 18 < x1) → z = bnf (Z 57 1) x0 x1 (pN (Z 57 1)).toNat) ∧ (-3) ≤ z ∧ z ≤ 385 ∧ ((x0 < 1 ∨ 18 < x0 ∨ x1 < 1 ∨ 18 < x1) → z = -3) → Post (some (xI z), h')) : mx_J (tB l D b0 ad Hb tau) mt_250 (d + 2) 0 [some (.ref 56), some (xI x0), some (xI x1), none, none] [] h Post := by
    have a56 : 56 < n := lt83 (GI_n hG) rfl
    have s56 : S 56 = .inl (12, [0, 2, 2, 2, 2, 0, 0, 0, 0, 0, 0, 0, 0, 0, 0, 2, 2, 2, 0, 2, 2, 2, 0, 0, 2, 2, 2, 2, 2, 2, 0, 0, 2, 2, 2, 2, 2, 2, 2, 2, 2, 2]) := GI_s hG 56 rfl
    have e18 : Z 56 18 = pN (Z 57 1) := (GI_stt hG).1
    have hN9 : 1 ≤ Z 57 1 ∧ Z 57 1 ≤ 18 := ⟨k1, by have hq := GB_ex (GI_gb hG) 57 1; replace hq : f57 (1 % 962) (Z 57 1) := hq; unfold f57 at hq; omega⟩
    refine mx_J.step (sn_250 0) (fun _ _ => rfl) ?_
    refine JcI (z := 0) (show mx_Sn _ _ 1 (mx_const (.int 0) 2) from sn_250 1) rfl ?_
    refine JputI (g := 0) hx (show mx_Sn _ _ 2 (mx_putf 1 12 0 (.int) 5) from sn_250 2) a56 s56 rfl rfl rfl rfl (fun Z1 h1 hx1 hE1 => ?_)
    have hG1 := GI_up hG hE1 (show (-2147483648) ≤ 0 ∧ 0 ≤ 2147483647 by omega) trivial rfl
    refine mx_J.step (sn_250 5) (fun _ _ => rfl) ?_
    refine Ji2l (show mx_Sn _ _ 6 (mx_i2l 7) from sn_250 6) (by omega) ?_
    obtain ⟨z2, hc2, b2⟩ := ct_208_ (d := d + 0) (l := l) (D := D) (b0 := b0) (ad := ad) (Hb := Hb) (tau := tau) hx1 hG1 (show (-9223372036854775808) ≤ x0 ∧ x0 ≤ 9223372036854775807 by omega)
    refine Jcs (show mx_Sn _ _ 7 (mx_calls 208 1 10) from sn_250 7) hc2 rfl rfl rfl ?_
    have c21 : (x0 < 1 ∨ 18 < x0 ∨ x1 < 1 ∨ 18 < x1) → mx_J (tB l D b0 ad Hb tau) mt_250 (d + 2) 21 [some (.ref 56), some (xI x0), some (xI x1), none, none] [] h1 Post := by
      intro f3_0
      refine JcI (z := (-3)) (show mx_Sn _ _ 21 (mx_const (.int (-3)) 23) from sn_250 21) rfl ?_
      have eq4 : Z1 56 18 = Z 56 18 := (up_ni hE1 (by decide))
      have b5 : 0 ≤ Z 56 18 ∧ Z 56 18 ≤ 385 := hG.pr 56 18
      exact mx_J.ret (sn_250 23) (fun _ _ => rfl) (hP (-3) Z1 h1 hx1 hG1 (fr_tr (M := [(56, 0)]) fr_rf (fr_up hE1) (M1 := []) rfl rfl) ⟨(fun q => absurd (by omega) q), by omega⟩)
    refine Jif_eq (show mx_Sn _ _ 10 (mx_if_eq 21 13) from sn_250 10) (by omega) (fun q6 => ?_) (fun q6 => ?_)
    · skip
      exact c21 (by omega)
    · skip
      refine mx_J.step (sn_250 13) (fun _ _ => rfl) ?_
      refine Ji2l (show mx_Sn _ _ 14 (mx_i2l 15) from sn_250 14) (by omega) ?_
      obtain ⟨z7, hc7, b7⟩ := ct_208_ (d := d + 0) (l := l) (D := D) (b0 := b0) (ad := ad) (Hb := Hb) (tau := tau) hx1 hG1 (show (-9223372036854775808) ≤ x1 ∧ x1 ≤ 9223372036854775807 by omega)
      refine Jcs (show mx_Sn _ _ 15 (mx_calls 208 1 18) from sn_250 15) hc7 rfl rfl rfl ?_
      refine Jif_ne (show mx_Sn _ _ 18 (mx_if_ne 24 21) from sn_250 18) (by omega) (fun q8 => ?_) (fun q8 => ?_)
      · skip
        refine JcI (z := 0) (show mx_Sn _ _ 24 (mx_const (.int 0) 25) from sn_250 24) rfl ?_
        refine mx_J.step (ls2 := [some (.ref 56), some (xI x0), some (xI x1), some (xI 0), none]) (sn_250 25) (fun _ _ => rfl) ?_
        refine JcI (z := 0) (show mx_Sn _ _ 26 (mx_const (.int 0) 27) from sn_250 26) rfl ?_
        refine mx_J.step (ls2 := [some (.ref 56), some (xI x0), some (xI x1), some (xI 0), some (xI 0)]) (sn_250 27) (fun _ _ => rfl) ?_
        have c29 : ∀ (m9 : Nat) (w9_3 : Int) (w9_4 : Int), 385 - w9_4 < (m9 : Int) → 0 ≤ w9_3 ∧ w9_3 ≤ 385 → 0 ≤ w9_4 ∧ w9_4 ≤ 385 → w9_4 ≤ Z 56 18 → w9_3 = bnf (Z 57 1) x0 x1 (w9_4).toNat → (0 ≤ w9_3 ∧ w9_3 ≤ w9_4) → mx_J (tB l D b0 ad Hb tau) mt_250 (d + 2) 29 [some (.ref 56), some (xI x0), some (xI x1), some (xI w9_3), some (xI w9_4)] [] h1 Post := by
          intro m9
          induction m9 with
          | zero => intro w9_3 w9_4 q9 f9_0 f9_1 f9_2 f9_3 f9_4; exact absurd q9 (by omega)
          | succ m9 ih9 =>
            intro w9_3 w9_4 q9 f9_0 f9_1 f9_2 f9_3 f9_4
            have eq10 : Z1 56 18 = Z 56 18 := (up_ni hE1 (by decide))
            have b11 : 0 ≤ Z 56 18 ∧ Z 56 18 ≤ 385 := hG.pr 56 18
            refine mx_J.step (sn_250 29) (fun _ _ => rfl) ?_
            refine mx_J.step (sn_250 31) (fun _ _ => rfl) ?_
            refine JgetI (g := 18) (z := Z 56 18) hx1 (show mx_Sn _ _ 32 (mx_getf 12 18 35) from sn_250 32) a56 s56 rfl rfl (up_ni hE1 (by decide)) ?_
            refine Jicmp_ge (show mx_Sn _ _ 35 (mx_icmp_ge 73 38) from sn_250 35) (by omega) (by omega) (fun q13 => ?_) (fun q13 => ?_)
            · skip
              refine mx_J.step (sn_250 73) (fun _ _ => rfl) ?_
              have eq14 : Z1 56 18 = Z 56 18 := (up_ni hE1 (by decide))
              exact mx_J.ret (sn_250 74) (fun _ _ => rfl) (hP w9_3 Z1 h1 hx1 hG1 (fr_tr (M := [(56, 0)]) fr_rf (fr_up hE1) (M1 := []) rfl rfl) ⟨(fun _ => by have q : w9_4 = pN (Z 57 1) := (by omega); rw [← q]; assumption), by omega⟩)
            · skip
              refine mx_J.step (sn_250 38) (fun _ _ => rfl) ?_
              refine mx_J.step (sn_250 39) (fun _ _ => rfl) ?_
              refine mx_J.step (sn_250 40) (fun _ _ => rfl) ?_
              have eq16 : mn Z1 w9_4 = mn Z w9_4 := (mn_c (fun i => up_nk hE1 rfl))
              obtain ⟨z15, hc15, b15⟩ := ct_191_56 (d := d + 0) (l := l) (D := D) (b0 := b0) (ad := ad) (Hb := Hb) (tau := tau) hx1 hG1 (show 0 ≤ w9_4 ∧ w9_4 ≤ 384 by omega)
              refine Jcv hx1 (show mx_Sn _ _ 42 (mx_callv 191 2 12 45) from sn_250 42) a56 s56 hc15 rfl rfl rfl ?_
              refine mx_J.step (sn_250 45) (fun _ _ => rfl) ?_
              have c65 : ∀ (k17_1 : Int), 0 ≤ k17_1 ∧ k17_1 ≤ 1 → w9_3 + k17_1 = bnf (Z 57 1) x0 x1 (w9_4 + 1).toNat → (0 ≤ w9_3 + k17_1 ∧ w9_3 + k17_1 ≤ w9_4 + 1) → mx_J (tB l D b0 ad Hb tau) mt_250 (d + 2) 65 [some (.ref 56), some (xI x0), some (xI x1), some (xI w9_3), some (xI w9_4)] [xI k17_1, xI w9_3] h1 Post := by
                intro k17_1 f17_0 f17_1 f17_2
                refine Jiadd (show mx_Sn _ _ 65 (mx_iadd 66) from sn_250 65) ?_
                refine mx_J.step (ls2 := [some (.ref 56), some (xI x0), some (xI x1), some (xI (w9_3 + k17_1)), some (xI w9_4)]) (sn_250 66) (fun _ _ => rfl) ?_
                refine Jiinc (z := w9_4) (cz := 1) (ls2 := [some (.ref 56), some (xI x0), some (xI x1), some (xI (w9_3 + k17_1)), some (xI (w9_4 + 1))]) (show mx_Sn _ _ 67 (mx_iinc 4 1 70) from sn_250 67) rfl rfl rfl rfl ?_
                refine mx_J.step (sn_250 70) (fun _ _ => rfl) ?_
                have eq18 : Z1 56 18 = Z 56 18 := (up_ni hE1 (by decide))
                exact ih9 (w9_3 + k17_1) (w9_4 + 1) (by omega) (by omega) (by omega) (by omega) (by assumption) (by omega)
              have c64 : ¬ (hln (Z 57 1) w9_4 ≤ x0 ∧ hpk (Z 57 1) w9_4 0 ≤ x1) → mx_J (tB l D b0 ad Hb tau) mt_250 (d + 2) 64 [some (.ref 56), some (xI x0), some (xI x1), some (xI w9_3), some (xI w9_4)] [xI w9_3] h1 Post := by
                intro f19_0
                refine JcI (z := 0) (show mx_Sn _ _ 64 (mx_const (.int 0) 65) from sn_250 64) rfl ?_
                exact c65 0 (by omega) ((Int.add_zero _).trans (bn_n (by assumption) (by omega) (by assumption))) (by omega)
              refine Jicmp_gt (show mx_Sn _ _ 46 (mx_icmp_gt 64 49) from sn_250 46) (by omega) (by omega) (fun q20 => ?_) (fun q20 => ?_)
              · skip
                exact c64 (fun q => by have m := (mn_h (RTB_c k0 (fun i => (up_nk hE1 rfl))) hN9 (s := w9_4) (by omega) (by omega)); omega)
              · skip
                refine mx_J.step (sn_250 49) (fun _ _ => rfl) ?_
                refine mx_J.step (sn_250 50) (fun _ _ => rfl) ?_
                refine JcI (z := 0) (show mx_Sn _ _ 52 (mx_const (.int 0) 53) from sn_250 52) rfl ?_
                have eq22 : Z1 61 (18 * w9_4 + 0) = Z 61 (18 * w9_4 + 0) := (up_nk hE1 rfl)
                have b23 : 0 ≤ Z 61 (18 * w9_4 + 0) ∧ Z 61 (18 * w9_4 + 0) ≤ 18 := hG.pr 61 (18 * w9_4 + 0)
                obtain ⟨z21, hc21, b21⟩ := ct_190_56 (d := d + 1) (l := l) (D := D) (b0 := b0) (ad := ad) (Hb := Hb) (tau := tau) hx1 hG1 (show 0 ≤ w9_4 ∧ w9_4 ≤ 384 by omega) (show 0 ≤ 0 ∧ 0 ≤ 17 by omega)
                try rw [eq22] at b21
                refine Jcv hx1 (show mx_Sn _ _ 53 (mx_callv 190 3 12 56) from sn_250 53) a56 s56 hc21 rfl rfl rfl ?_
                refine mx_J.step (sn_250 56) (fun _ _ => rfl) ?_
                refine Jicmp_gt (show mx_Sn _ _ 57 (mx_icmp_gt 64 60) from sn_250 57) (by omega) (by omega) (fun q24 => ?_) (fun q24 => ?_)
                · skip
                  exact c64 (fun q => by have r := (RTB_c k0 (fun i => (up_nk hE1 rfl)) w9_4 0 (by omega) (by omega) (by decide) (by decide)); omega)
                · skip
                  refine JcI (z := 1) (show mx_Sn _ _ 60 (mx_const (.int 1) 61) from sn_250 60) rfl ?_
                  refine mx_J.step (sn_250 61) (fun _ _ => rfl) ?_
                  exact c65 1 (by omega) (bn_y (by assumption) (by omega) (by have m := (mn_h (RTB_c k0 (fun i => (up_nk hE1 rfl))) hN9 (s := w9_4) (by omega) (by omega)); omega) (by have r := (RTB_c k0 (fun i => (up_nk hE1 rfl)) w9_4 0 (by omega) (by omega) (by decide) (by decide)); omega)) (by omega)
        have eq25 : Z1 56 18 = Z 56 18 := (up_ni hE1 (by decide))
        have b26 : 0 ≤ Z 56 18 ∧ Z 56 18 ≤ 385 := hG.pr 56 18
        exact c29 (Int.toNat (385 - 0) + 1) 0 0 (by omega) (by omega) (by omega) (by omega) (bn_0) (by omega)
      · skip
        exact c21 (by omega)
theorem ct_250_56 {l : Launch} {D : va_G} {b0 : Nat} {ad : Nat → Nat} {Hb : Heap} {tau : Nat → Int64} {d n s : Nat} {S : Nat → xS} {Z : xZ} {h : mx_H} (hx : XH n s S Z h) (hG : GI n S Z)  {x0 x1 : Int} (p0 : (-2147483648) ≤ x0 ∧ x0 ≤ 2147483647) (p1 : (-2147483648) ≤ x1 ∧ x1 ≤ 2147483647) (k0 : RTB Z (Z 57 1)) (k1 : 1 ≤ Z 57 1) : ∃ (z : Int) (Z' : xZ) (h' : mx_H), mx_Ca (tB l D b0 ad Hb tau) (d + 3) 250 [.ref 56, xI x0, xI x1] h (some (xI z), h') ∧ XH n s S Z' h' ∧ GI n S Z' ∧ fr' [(56, 0)] Z Z' ∧ ((¬ (x0 < 1 ∨ 18 < x0 ∨ x1 < 1 ∨ 18 < x1) → z = bnf (Z 57 1) x0 x1 (pN (Z 57 1)).toNat) ∧ (-3) ≤ z ∧ z ≤ 385 ∧ ((x0 < 1 ∨ 18 < x0 ∨ x1 < 1 ∨ 18 < x1) → z = -3)) := by
  obtain ⟨r, hca, z, Z', h', e, q⟩ := Jmt (B := tB l D b0 ad Hb tau) (M := mt_250) (mi := 250) (as := [.ref 56, xI x0, xI x1]) (d := d + 2) (ls := [some (.ref 56), some (xI x0), some (xI x1), none, none]) rfl rfl rfl rfl rfl rfl (cw_250_56 (l := l) (D := D) (b0 := b0) (ad := ad) (Hb := Hb) (tau := tau) (d := d) (Post := fun r => ∃ (z : Int) (Z' : xZ) (h' : mx_H), r = (some (xI z), h') ∧ XH n s S Z' h' ∧ GI n S Z' ∧ fr' [(56, 0)] Z Z' ∧ ((¬ (x0 < 1 ∨ 18 < x0 ∨ x1 < 1 ∨ 18 < x1) → z = bnf (Z 57 1) x0 x1 (pN (Z 57 1)).toNat) ∧ (-3) ≤ z ∧ z ≤ 385 ∧ ((x0 < 1 ∨ 18 < x0 ∨ x1 < 1 ∨ 18 < x1) → z = -3))) hx hG p0 p1 k0 k1 (fun z Z' h' q1 q2 q3 q4 => ⟨z, Z', h', rfl, q1, q2, q3, q4⟩))
  subst e; exact ⟨z, Z', h', hca, q⟩
set_option maxRecDepth 100000 in
theorem cw_254_56 {l : Launch} {D : va_G} {b0 : Nat} {ad : Nat → Nat} {Hb : Heap} {tau : Nat → Int64} {d n s : Nat} {S : Nat → xS} {Z : xZ} {h : mx_H} {Post : mx_R → Prop} (hx : XH n s S Z h) (hG : GI n S Z)   (hP : ∀ (z : Int) (Z' : xZ) (h' : mx_H), XH n s S Z' h' → GI n S Z' → fr' [(56, 0)] Z Z' → (-2147483648) ≤ z ∧ z ≤ 2147483647 → Post (some (xI z), h')) : mx_J (tB l D b0 ad Hb tau) mt_254 (d + 2) 0 [some (.ref 56), none, none] [] h Post := by
    have a56 : 56 < n := lt83 (GI_n hG) rfl
    have s56 : S 56 = .inl (12, [0, 2, 2, 2, 2, 0, 0, 0, 0, 0, 0, 0, 0, 0, 0, 2, 2, 2, 0, 2, 2, 2, 0, 0, 2, 2, 2, 2, 2, 2, 0, 0, 2, 2, 2, 2, 2, 2, 2, 2, 2, 2]) := GI_s hG 56 rfl
    have a57 : 57 < n := lt83 (GI_n hG) rfl
    have s57 : S 57 = .inr (.int, 2886, 0) := GI_s hG 57 rfl
    refine mx_J.step (sn_254 0) (fun _ _ => rfl) ?_
    refine JcI (z := 0) (show mx_Sn _ _ 1 (mx_const (.int 0) 2) from sn_254 1) rfl ?_
    refine JputI (g := 0) hx (show mx_Sn _ _ 2 (mx_putf 1 12 0 (.int) 5) from sn_254 2) a56 s56 rfl rfl rfl rfl (fun Z1 h1 hx1 hE1 => ?_)
    have hG1 := GI_up hG hE1 (show (-2147483648) ≤ 0 ∧ 0 ≤ 2147483647 by omega) trivial rfl
    refine JcI (z := 0) (show mx_Sn _ _ 5 (mx_const (.int 0) 6) from sn_254 5) rfl ?_
    refine mx_J.step (ls2 := [some (.ref 56), some (xI 0), none]) (sn_254 6) (fun _ _ => rfl) ?_
    refine JcI (z := 0) (show mx_Sn _ _ 7 (mx_const (.int 0) 8) from sn_254 7) rfl ?_
    refine mx_J.step (ls2 := [some (.ref 56), some (xI 0), some (xI 0)]) (sn_254 8) (fun _ _ => rfl) ?_
    have c9 : ∀ (m2 : Nat) (w2_1 : Int) (w2_2 : Int), 385 - w2_2 < (m2 : Int) → (-2147483648) ≤ w2_1 ∧ w2_1 ≤ 2147483647 → 0 ≤ w2_2 ∧ w2_2 ≤ 385 → mx_J (tB l D b0 ad Hb tau) mt_254 (d + 2) 9 [some (.ref 56), some (xI w2_1), some (xI w2_2)] [] h1 Post := by
      intro m2
      induction m2 with
      | zero => intro w2_1 w2_2 q2 f2_0 f2_1; exact absurd q2 (by omega)
      | succ m2 ih2 =>
        intro w2_1 w2_2 q2 f2_0 f2_1
        refine mx_J.step (sn_254 9) (fun _ _ => rfl) ?_
        refine mx_J.step (sn_254 10) (fun _ _ => rfl) ?_
        have b4 : 0 ≤ Z 56 18 ∧ Z 56 18 ≤ 385 := hG.pr 56 18
        refine JgetI (g := 18) (z := Z 56 18) hx1 (show mx_Sn _ _ 11 (mx_getf 12 18 14) from sn_254 11) a56 s56 rfl rfl (up_ni hE1 (by decide)) ?_
        refine Jicmp_ge (show mx_Sn _ _ 14 (mx_icmp_ge 46 17) from sn_254 14) (by omega) (by omega) (fun q5 => ?_) (fun q5 => ?_)
        · skip
          refine mx_J.step (sn_254 46) (fun _ _ => rfl) ?_
          exact mx_J.ret (sn_254 47) (fun _ _ => rfl) (hP w2_1 Z1 h1 hx1 hG1 (fr_tr (M := [(56, 0)]) fr_rf (fr_up hE1) (M1 := []) rfl rfl) (by omega))
        · skip
          refine mx_J.step (sn_254 17) (fun _ _ => rfl) ?_
          refine mx_J.step (sn_254 18) (fun _ _ => rfl) ?_
          refine mx_J.step (sn_254 19) (fun _ _ => rfl) ?_
          refine mx_J.step (sn_254 20) (fun _ _ => rfl) ?_
          refine JgetR (g := 1) (b := 57) hx1 (show mx_Sn _ _ 21 (mx_getf 12 1 24) from sn_254 21) a56 s56 rfl rfl (hG1.prr 56 1 rfl) ?_
          refine JcI (z := 27) (show mx_Sn _ _ 24 (mx_const (.int 27) 26) from sn_254 24) rfl ?_
          have b7 := GI_st hG 27
          have b8 : 0 ≤ Z 57 27 ∧ Z 57 27 ≤ 384 := by have hq := GI_ex hG 57 27; replace hq : f57 (27 % 962) (Z 57 27) := hq; unfold f57 at hq; omega
          have b9 : (-2147483648) ≤ Z 57 27 ∧ Z 57 27 ≤ 2147483647 := hG.pr 57 27
          refine JialdI (z := Z 57 27) hx1 (show mx_Sn _ _ 26 (mx_iald 27) from sn_254 26) a57 s57 (by omega) (up_nk hE1 rfl) ?_
          obtain ⟨z10, hc10, b10⟩ := ct_252_56 (d := d + 0) (l := l) (D := D) (b0 := b0) (ad := ad) (Hb := Hb) (tau := tau) hx1 hG1 (show 0 ≤ w2_2 ∧ w2_2 ≤ 384 by omega) (show 0 ≤ Z 57 27 ∧ Z 57 27 ≤ 384 by omega)
          refine Jcv hx1 (show mx_Sn _ _ 27 (mx_callv 252 3 12 30) from sn_254 27) a56 s56 hc10 rfl rfl rfl ?_
          have c38 : ∀ (k11_1 : Int), 0 ≤ k11_1 ∧ k11_1 ≤ 1 → mx_J (tB l D b0 ad Hb tau) mt_254 (d + 2) 38 [some (.ref 56), some (xI w2_1), some (xI w2_2)] [xI k11_1, xI w2_1] h1 Post := by
            intro k11_1 f11_0
            refine JiaddN (show mx_Sn _ _ 38 (mx_iadd 39) from sn_254 38) (fun y12 hy12 hq12 => ?_)
            refine mx_J.step (ls2 := [some (.ref 56), some (xI y12), some (xI w2_2)]) (sn_254 39) (fun _ _ => rfl) ?_
            refine Jiinc (z := w2_2) (cz := 1) (ls2 := [some (.ref 56), some (xI y12), some (xI (w2_2 + 1))]) (show mx_Sn _ _ 40 (mx_iinc 2 1 43) from sn_254 40) rfl rfl rfl rfl ?_
            refine mx_J.step (sn_254 43) (fun _ _ => rfl) ?_
            exact ih2 y12 (w2_2 + 1) (by omega) (by omega) (by omega)
          refine Jif_eq (show mx_Sn _ _ 30 (mx_if_eq 37 33) from sn_254 30) (by omega) (fun q13 => ?_) (fun q13 => ?_)
          · skip
            refine JcI (z := 0) (show mx_Sn _ _ 37 (mx_const (.int 0) 38) from sn_254 37) rfl ?_
            exact c38 0 (by omega)
          · skip
            refine JcI (z := 1) (show mx_Sn _ _ 33 (mx_const (.int 1) 34) from sn_254 33) rfl ?_
            refine mx_J.step (sn_254 34) (fun _ _ => rfl) ?_
            exact c38 1 (by omega)
    exact c9 (Int.toNat (385 - 0) + 1) 0 0 (by omega) (by omega) (by omega)
theorem ct_254_56 {l : Launch} {D : va_G} {b0 : Nat} {ad : Nat → Nat} {Hb : Heap} {tau : Nat → Int64} {d n s : Nat} {S : Nat → xS} {Z : xZ} {h : mx_H} (hx : XH n s S Z h) (hG : GI n S Z)   : ∃ (z : Int) (Z' : xZ) (h' : mx_H), mx_Ca (tB l D b0 ad Hb tau) (d + 3) 254 [.ref 56] h (some (xI z), h') ∧ XH n s S Z' h' ∧ GI n S Z' ∧ fr' [(56, 0)] Z Z' ∧ ((-2147483648) ≤ z ∧ z ≤ 2147483647) := by
  obtain ⟨r, hca, z, Z', h', e, q⟩ := Jmt (B := tB l D b0 ad Hb tau) (M := mt_254) (mi := 254) (as := [.ref 56]) (d := d + 2) (ls := [some (.ref 56), none, none]) rfl rfl rfl rfl rfl rfl (cw_254_56 (l := l) (D := D) (b0 := b0) (ad := ad) (Hb := Hb) (tau := tau) (d := d) (Post := fun r => ∃ (z : Int) (Z' : xZ) (h' : mx_H), r = (some (xI z), h') ∧ XH n s S Z' h' ∧ GI n S Z' ∧ fr' [(56, 0)] Z Z' ∧ ((-2147483648) ≤ z ∧ z ≤ 2147483647)) hx hG  (fun z Z' h' q1 q2 q3 q4 => ⟨z, Z', h', rfl, q1, q2, q3, q4⟩))
  subst e; exact ⟨z, Z', h', hca, q⟩
set_option maxRecDepth 100000 in
theorem cw_251_56 {l : Launch} {D : va_G} {b0 : Nat} {ad : Nat → Nat} {Hb : Heap} {tau : Nat → Int64} {d n s : Nat} {S : Nat → xS} {Z : xZ} {h : mx_H} {Post : mx_R → Prop} (hx : XH n s S Z h) (hG : GI n S Z)   (hP : ∀ (z : Int) (Z' : xZ) (h' : mx_H), XH n s S Z' h' → GI n S Z' → fr' [(56, 0), (62, (-1))] Z Z' → 0 ≤ z ∧ z ≤ 384 → Post (some (xI z), h')) : mx_J (tB l D b0 ad Hb tau) mt_251 (d + 2) 0 [some (.ref 56), none, none, none] [] h Post := by
    have a56 : 56 < n := lt83 (GI_n hG) rfl
    have s56 : S 56 = .inl (12, [0, 2, 2, 2, 2, 0, 0, 0, 0, 0, 0, 0, 0, 0, 0, 2, 2, 2, 0, 2, 2, 2, 0, 0, 2, 2, 2, 2, 2, 2, 0, 0, 2, 2, 2, 2, 2, 2, 2, 2, 2, 2]) := GI_s hG 56 rfl
    have a57 : 57 < n := lt83 (GI_n hG) rfl
    have s57 : S 57 = .inr (.int, 2886, 0) := GI_s hG 57 rfl
    have a62 : 62 < n := lt83 (GI_n hG) rfl
    have s62 : S 62 = .inr (.int, 20, 0) := GI_s hG 62 rfl
    refine mx_J.step (sn_251 0) (fun _ _ => rfl) ?_
    refine JcI (z := 0) (show mx_Sn _ _ 1 (mx_const (.int 0) 2) from sn_251 1) rfl ?_
    refine JputI (g := 0) hx (show mx_Sn _ _ 2 (mx_putf 1 12 0 (.int) 5) from sn_251 2) a56 s56 rfl rfl rfl rfl (fun Z1 h1 hx1 hE1 => ?_)
    have hG1 := GI_up hG hE1 (show (-2147483648) ≤ 0 ∧ 0 ≤ 2147483647 by omega) trivial rfl
    refine mx_J.step (sn_251 5) (fun _ _ => rfl) ?_
    obtain ⟨Z2, h2, hc2, hx2, hG2, hf2, b2⟩ := ct_186_56 (d := d + 1) (l := l) (D := D) (b0 := b0) (ad := ad) (Hb := Hb) (tau := tau) hx1 hG1 
    have bs2_0 := b2
    clear b2
    refine Jcv0 hx1 (show mx_Sn _ _ 6 (mx_callv 186 1 12 9) from sn_251 6) a56 s56 hc2 rfl rfl rfl ?_
    refine mx_J.step (sn_251 9) (fun _ _ => rfl) ?_
    refine JgetR (g := 1) (b := 57) hx2 (show mx_Sn _ _ 10 (mx_getf 12 1 13) from sn_251 10) a56 s56 rfl rfl (hG2.prr 56 1 rfl) ?_
    refine JcI (z := 27) (show mx_Sn _ _ 13 (mx_const (.int 27) 15) from sn_251 13) rfl ?_
    have b4 := GI_st hG 27
    have b5 : 0 ≤ Z 56 18 ∧ Z 56 18 ≤ 385 := hG.pr 56 18
    have b6 : 0 ≤ Z 57 27 ∧ Z 57 27 ≤ 384 := by have hq := GI_ex hG 57 27; replace hq : f57 (27 % 962) (Z 57 27) := hq; unfold f57 at hq; omega
    have b7 : (-2147483648) ≤ Z 57 27 ∧ Z 57 27 ≤ 2147483647 := hG.pr 57 27
    refine JialdI (z := Z 57 27) hx2 (show mx_Sn _ _ 15 (mx_iald 16) from sn_251 15) a57 s57 (by omega) ((hf2 57 27 rfl).trans (up_nk hE1 rfl)) ?_
    refine mx_J.step (ls2 := [some (.ref 56), some (xI (Z 57 27)), none, none]) (sn_251 16) (fun _ _ => rfl) ?_
    refine JcI (z := 1) (show mx_Sn _ _ 17 (mx_const (.int 1) 18) from sn_251 17) rfl ?_
    refine mx_J.step (ls2 := [some (.ref 56), some (xI (Z 57 27)), some (xI 1), none]) (sn_251 18) (fun _ _ => rfl) ?_
    have c19 : ∀ (m8 : Nat) (w8_2 : Int) (u8_3 : Option Value) (Z9 : xZ) (h9 : mx_H), 19 - w8_2 < (m8 : Int) → 1 ≤ w8_2 ∧ w8_2 ≤ 19 → XH n s S Z9 h9 → GI n S Z9 → fr' [(62, (-1))] Z2 Z9 → mx_J (tB l D b0 ad Hb tau) mt_251 (d + 2) 19 [some (.ref 56), some (xI (Z 57 27)), some (xI w8_2), u8_3] [] h9 Post := by
      intro m8
      induction m8 with
      | zero => intro w8_2 u8_3 Z9 h9 q8 f8_0 hx9 hG9 hf9; exact absurd q8 (by omega)
      | succ m8 ih8 =>
        intro w8_2 u8_3 Z9 h9 q8 f8_0 hx9 hG9 hf9
        refine mx_J.step (sn_251 19) (fun _ _ => rfl) ?_
        refine JcI (z := 18) (show mx_Sn _ _ 20 (mx_const (.int 18) 22) from sn_251 20) rfl ?_
        refine Jicmp_gt (show mx_Sn _ _ 22 (mx_icmp_gt 71 25) from sn_251 22) (by omega) (by omega) (fun q10 => ?_) (fun q10 => ?_)
        · skip
          refine mx_J.step (sn_251 71) (fun _ _ => rfl) ?_
          have eq12 : Z9 56 18 = Z 56 18 := ((hf9 56 18 rfl).trans ((hf2 56 18 rfl).trans (up_ni hE1 (by decide))))
          obtain ⟨z11, Z11, h11, hc11, hx11, hG11, hf11, b11⟩ := ct_188_56 (d := d + 0) (l := l) (D := D) (b0 := b0) (ad := ad) (Hb := Hb) (tau := tau) hx9 hG9 
          try rw [eq12] at b11
          refine Jcv hx9 (show mx_Sn _ _ 72 (mx_callv 188 1 12 75) from sn_251 72) a56 s56 hc11 rfl rfl rfl ?_
          exact mx_J.ret (sn_251 75) (fun _ _ => rfl) (hP z11 Z11 h11 hx11 hG11 (fr_tr (M := [(56, 0), (62, (-1))]) (fr_tr (M := [(56, 0), (62, (-1))]) (fr_tr (M := [(56, 0), (62, (-1))]) (fr_tr (M := [(56, 0), (62, (-1))]) fr_rf (fr_up hE1) (M1 := []) rfl rfl) (hf2) rfl rfl) (hf9) rfl rfl) (hf11) rfl rfl) (by omega))
        · skip
          refine JcI (z := 0) (show mx_Sn _ _ 25 (mx_const (.int 0) 26) from sn_251 25) rfl ?_
          refine mx_J.step (ls2 := [some (.ref 56), some (xI (Z 57 27)), some (xI w8_2), some (xI 0)]) (sn_251 26) (fun _ _ => rfl) ?_
          have c27 : ∀ (m13 : Nat) (w13_3 : Int) (Z14 : xZ) (h14 : mx_H), 18 - w13_3 < (m13 : Int) → 0 ≤ w13_3 ∧ w13_3 ≤ 18 → XH n s S Z14 h14 → GI n S Z14 → fr' [(62, (-1))] Z9 Z14 → mx_J (tB l D b0 ad Hb tau) mt_251 (d + 2) 27 [some (.ref 56), some (xI (Z 57 27)), some (xI w8_2), some (xI w13_3)] [] h14 Post := by
            intro m13
            induction m13 with
            | zero => intro w13_3 Z14 h14 q13 f13_0 hx14 hG14 hf14; exact absurd q13 (by omega)
            | succ m13 ih13 =>
              intro w13_3 Z14 h14 q13 f13_0 hx14 hG14 hf14
              refine mx_J.step (sn_251 27) (fun _ _ => rfl) ?_
              refine JcI (z := 18) (show mx_Sn _ _ 28 (mx_const (.int 18) 30) from sn_251 28) rfl ?_
              refine Jicmp_ge (show mx_Sn _ _ 30 (mx_icmp_ge 65 33) from sn_251 30) (by omega) (by omega) (fun q15 => ?_) (fun q15 => ?_)
              · skip
                refine Jiinc (z := w8_2) (cz := 1) (ls2 := [some (.ref 56), some (xI (Z 57 27)), some (xI (w8_2 + 1)), some (xI w13_3)]) (show mx_Sn _ _ 65 (mx_iinc 2 1 68) from sn_251 65) rfl rfl rfl rfl ?_
                refine mx_J.step (sn_251 68) (fun _ _ => rfl) ?_
                exact ih8 (w8_2 + 1) (some (xI w13_3)) Z14 h14 (by omega) (by omega) hx14 hG14 (fr_tr (M := [(62, (-1))]) (fr_tr (M := [(62, (-1))]) fr_rf (hf9) (M1 := []) rfl rfl) (hf14) rfl rfl)
              · skip
                refine mx_J.step (sn_251 33) (fun _ _ => rfl) ?_
                refine JgetR (g := 16) (b := 62) hx14 (show mx_Sn _ _ 34 (mx_getf 12 16 37) from sn_251 34) a56 s56 rfl rfl (hG14.prr 56 16 rfl) ?_
                refine mx_J.step (sn_251 37) (fun _ _ => rfl) ?_
                refine JcI (z := 1) (show mx_Sn _ _ 38 (mx_const (.int 1) 39) from sn_251 38) rfl ?_
                refine Jisub (show mx_Sn _ _ 39 (mx_isub 40) from sn_251 39) ?_
                refine mx_J.step (sn_251 40) (fun _ _ => rfl) ?_
                have b17 : (-2147483648) ≤ Z14 62 (w8_2 - 1) ∧ Z14 62 (w8_2 - 1) ≤ 2147483647 := hG14.pr 62 (w8_2 - 1)
                refine JialdI (z := Z14 62 (w8_2 - 1)) hx14 (show mx_Sn _ _ 41 (mx_iald 42) from sn_251 41) a62 s62 (by omega) rfl ?_
                refine mx_J.step (sn_251 42) (fun _ _ => rfl) ?_
                refine mx_J.step (sn_251 43) (fun _ _ => rfl) ?_
                refine mx_J.step (sn_251 44) (fun _ _ => rfl) ?_
                have eq19 : Z14 61 (18 * (Z 57 27) + w13_3) = Z 61 (18 * (Z 57 27) + w13_3) := ((hf14 61 (18 * (Z 57 27) + w13_3) rfl).trans ((hf9 61 (18 * (Z 57 27) + w13_3) rfl).trans ((hf2 61 (18 * (Z 57 27) + w13_3) rfl).trans (up_nk hE1 rfl))))
                have b20 : 0 ≤ Z 61 (18 * (Z 57 27) + w13_3) ∧ Z 61 (18 * (Z 57 27) + w13_3) ≤ 18 := hG.pr 61 (18 * (Z 57 27) + w13_3)
                obtain ⟨z18, hc18, b18⟩ := ct_190_56 (d := d + 1) (l := l) (D := D) (b0 := b0) (ad := ad) (Hb := Hb) (tau := tau) hx14 hG14 (show 0 ≤ Z 57 27 ∧ Z 57 27 ≤ 384 by omega) (show 0 ≤ w13_3 ∧ w13_3 ≤ 17 by omega)
                try rw [eq19] at b18
                refine Jcv hx14 (show mx_Sn _ _ 45 (mx_callv 190 3 12 48) from sn_251 45) a56 s56 hc18 rfl rfl rfl ?_
                refine mx_J.step (sn_251 48) (fun _ _ => rfl) ?_
                have c57 : ∀ (k21_3 : Int), 0 ≤ k21_3 ∧ k21_3 ≤ 1 → mx_J (tB l D b0 ad Hb tau) mt_251 (d + 2) 57 [some (.ref 56), some (xI (Z 57 27)), some (xI w8_2), some (xI w13_3)] [xI k21_3, xI (Z14 62 (w8_2 - 1)), xI (w8_2 - 1), .ref 62] h14 Post := by
                  intro k21_3 f21_0
                  refine JiaddN (show mx_Sn _ _ 57 (mx_iadd 58) from sn_251 57) (fun y22 hy22 hq22 => ?_)
                  refine JiastI hx14 (show mx_Sn _ _ 58 (mx_iast 1 59) from sn_251 58) a62 s62 rfl (by omega) (fun Z23 h23 hx23 hE23 => ?_)
                  have hG23 := GI_up hG14 hE23 (show (-2147483648) ≤ y22 ∧ y22 ≤ 2147483647 by omega) trivial rfl
                  refine Jiinc (z := w13_3) (cz := 1) (ls2 := [some (.ref 56), some (xI (Z 57 27)), some (xI w8_2), some (xI (w13_3 + 1))]) (show mx_Sn _ _ 59 (mx_iinc 3 1 62) from sn_251 59) rfl rfl rfl rfl ?_
                  refine mx_J.step (sn_251 62) (fun _ _ => rfl) ?_
                  exact ih13 (w13_3 + 1) Z23 h23 (by omega) (by omega) hx23 hG23 (fr_tr (M := [(62, (-1))]) (fr_tr (M := [(62, (-1))]) fr_rf (hf14) (M1 := []) rfl rfl) (fr_ua hE23) rfl rfl)
                refine Jicmp_lt (show mx_Sn _ _ 49 (mx_icmp_lt 56 52) from sn_251 49) (by omega) (by omega) (fun q24 => ?_) (fun q24 => ?_)
                · skip
                  refine JcI (z := 0) (show mx_Sn _ _ 56 (mx_const (.int 0) 57) from sn_251 56) rfl ?_
                  exact c57 0 (by omega)
                · skip
                  refine JcI (z := 1) (show mx_Sn _ _ 52 (mx_const (.int 1) 53) from sn_251 52) rfl ?_
                  refine mx_J.step (sn_251 53) (fun _ _ => rfl) ?_
                  exact c57 1 (by omega)
          exact c27 (Int.toNat (18 - 0) + 1) 0 Z9 h9 (by omega) (by omega) hx9 hG9 fr_rf
    exact c19 (Int.toNat (19 - 1) + 1) 1 none Z2 h2 (by omega) (by omega) hx2 hG2 fr_rf
theorem ct_251_56 {l : Launch} {D : va_G} {b0 : Nat} {ad : Nat → Nat} {Hb : Heap} {tau : Nat → Int64} {d n s : Nat} {S : Nat → xS} {Z : xZ} {h : mx_H} (hx : XH n s S Z h) (hG : GI n S Z)   : ∃ (z : Int) (Z' : xZ) (h' : mx_H), mx_Ca (tB l D b0 ad Hb tau) (d + 3) 251 [.ref 56] h (some (xI z), h') ∧ XH n s S Z' h' ∧ GI n S Z' ∧ fr' [(56, 0), (62, (-1))] Z Z' ∧ (0 ≤ z ∧ z ≤ 384) := by
  obtain ⟨r, hca, z, Z', h', e, q⟩ := Jmt (B := tB l D b0 ad Hb tau) (M := mt_251) (mi := 251) (as := [.ref 56]) (d := d + 2) (ls := [some (.ref 56), none, none, none]) rfl rfl rfl rfl rfl rfl (cw_251_56 (l := l) (D := D) (b0 := b0) (ad := ad) (Hb := Hb) (tau := tau) (d := d) (Post := fun r => ∃ (z : Int) (Z' : xZ) (h' : mx_H), r = (some (xI z), h') ∧ XH n s S Z' h' ∧ GI n S Z' ∧ fr' [(56, 0), (62, (-1))] Z Z' ∧ (0 ≤ z ∧ z ≤ 384)) hx hG  (fun z Z' h' q1 q2 q3 q4 => ⟨z, Z', h', rfl, q1, q2, q3, q4⟩))
  subst e; exact ⟨z, Z', h', hca, q⟩
set_option maxRecDepth 100000 in
theorem cw_265_56 {l : Launch} {D : va_G} {b0 : Nat} {ad : Nat → Nat} {Hb : Heap} {tau : Nat → Int64} {d n s : Nat} {S : Nat → xS} {Z : xZ} {h : mx_H} {Post : mx_R → Prop} (hx : XH n s S Z h) (hG : GI n S Z)  {x0 x1 : Int} (p0 : 0 ≤ x0 ∧ x0 ≤ 384) (p1 : 0 ≤ x1 ∧ x1 ≤ 18) (hP : ∀ z : Int, 0 ≤ z ∧ z ≤ 268435456 ∧ z = fc Z x0 x1 → Post (some (xI z), h)) : mx_J (tB l D b0 ad Hb tau) mt_265 (d + 0) 0 [some (.ref 56), some (xI x0), some (xI x1), none] [] h Post := by
    have a56 : 56 < n := lt83 (GI_n hG) rfl
    have s56 : S 56 = .inl (12, [0, 2, 2, 2, 2, 0, 0, 0, 0, 0, 0, 0, 0, 0, 0, 2, 2, 2, 0, 2, 2, 2, 0, 0, 2, 2, 2, 2, 2, 2, 0, 0, 2, 2, 2, 2, 2, 2, 2, 2, 2, 2]) := GI_s hG 56 rfl
    have a73 : 73 < n := lt83 (GI_n hG) rfl
    have s73 : S 73 = .inr (.int, 7315, 0) := GI_s hG 73 rfl
    have a75 : 75 < n := lt83 (GI_n hG) rfl
    have s75 : S 75 = .inr (.int, 385, 0) := GI_s hG 75 rfl
    have ff := fc_e Z x0 x1
    refine mx_J.step (sn_265 0) (fun _ _ => rfl) ?_
    refine JgetR (g := 32) (b := 73) hx (show mx_Sn _ _ 1 (mx_getf 12 32 4) from sn_265 1) a56 s56 rfl rfl (hG.prr 56 32 rfl) ?_
    refine JcI (z := 19) (show mx_Sn _ _ 4 (mx_const (.int 19) 6) from sn_265 4) rfl ?_
    refine mx_J.step (sn_265 6) (fun _ _ => rfl) ?_
    refine Jimul (show mx_Sn _ _ 7 (mx_imul 8) from sn_265 7) ?_
    refine mx_J.step (sn_265 8) (fun _ _ => rfl) ?_
    refine Jiadd (show mx_Sn _ _ 9 (mx_iadd 10) from sn_265 9) ?_
    have b2 : (-1) ≤ Z 73 ((19 * x0) + x1) ∧ Z 73 ((19 * x0) + x1) ≤ 384 := hG.pr 73 ((19 * x0) + x1)
    refine JialdI (z := Z 73 ((19 * x0) + x1)) hx (show mx_Sn _ _ 10 (mx_iald 11) from sn_265 10) a73 s73 (by omega) rfl ?_
    refine mx_J.step (ls2 := [some (.ref 56), some (xI x0), some (xI x1), some (xI (Z 73 ((19 * x0) + x1)))]) (sn_265 11) (fun _ _ => rfl) ?_
    refine mx_J.step (sn_265 12) (fun _ _ => rfl) ?_
    refine JcI (z := (-1)) (show mx_Sn _ _ 13 (mx_const (.int (-1)) 14) from sn_265 13) rfl ?_
    have c43 : ∀ (k3_0 : Int), 1 ≤ k3_0 ∧ k3_0 ≤ 268435456 → (k3_0 = fc Z x0 x1) → mx_J (tB l D b0 ad Hb tau) mt_265 (d + 0) 43 [some (.ref 56), some (xI x0), some (xI x1), some (xI (Z 73 ((19 * x0) + x1)))] [xI k3_0] h Post := by
      intro k3_0 f3_0 f3_1
      exact mx_J.ret (sn_265 43) (fun _ _ => rfl) (hP k3_0 (by omega))
    have c29 : (Z 73 (19 * x0 + x1) = -1 ∨ Z 75 (Z 73 (19 * x0 + x1)) = 268435456) → mx_J (tB l D b0 ad Hb tau) mt_265 (d + 0) 29 [some (.ref 56), some (xI x0), some (xI x1), some (xI (Z 73 ((19 * x0) + x1)))] [] h Post := by
      intro f4_0
      refine JcI (z := 268435456) (show mx_Sn _ _ 29 (mx_const (.int 268435456) 32) from sn_265 29) rfl ?_
      refine mx_J.step (sn_265 32) (fun _ _ => rfl) ?_
      exact c43 268435456 (by omega) (by omega)
    refine Jicmp_eq (show mx_Sn _ _ 14 (mx_icmp_eq 29 17) from sn_265 14) (by omega) (by omega) (fun q5 => ?_) (fun q5 => ?_)
    · skip
      exact c29 (by omega)
    · skip
      refine mx_J.step (sn_265 17) (fun _ _ => rfl) ?_
      refine JgetR (g := 34) (b := 75) hx (show mx_Sn _ _ 18 (mx_getf 12 34 21) from sn_265 18) a56 s56 rfl rfl (hG.prr 56 34 rfl) ?_
      refine mx_J.step (sn_265 21) (fun _ _ => rfl) ?_
      have b7 : 0 ≤ Z 75 (Z 73 ((19 * x0) + x1)) ∧ Z 75 (Z 73 ((19 * x0) + x1)) ≤ 268435456 := hG.pr 75 (Z 73 ((19 * x0) + x1))
      refine JialdI (z := Z 75 (Z 73 ((19 * x0) + x1))) hx (show mx_Sn _ _ 22 (mx_iald 23) from sn_265 22) a75 s75 (by omega) rfl ?_
      refine JcI (z := 268435456) (show mx_Sn _ _ 23 (mx_const (.int 268435456) 26) from sn_265 23) rfl ?_
      refine Jicmp_ne (show mx_Sn _ _ 26 (mx_icmp_ne 35 29) from sn_265 26) (by omega) (by omega) (fun q8 => ?_) (fun q8 => ?_)
      · skip
        refine mx_J.step (sn_265 35) (fun _ _ => rfl) ?_
        refine JgetR (g := 34) (b := 75) hx (show mx_Sn _ _ 36 (mx_getf 12 34 39) from sn_265 36) a56 s56 rfl rfl (hG.prr 56 34 rfl) ?_
        refine mx_J.step (sn_265 39) (fun _ _ => rfl) ?_
        refine JialdI (z := Z 75 (Z 73 ((19 * x0) + x1))) hx (show mx_Sn _ _ 40 (mx_iald 41) from sn_265 40) a75 s75 (by omega) rfl ?_
        refine JcI (z := 1) (show mx_Sn _ _ 41 (mx_const (.int 1) 42) from sn_265 41) rfl ?_
        refine Jiadd (show mx_Sn _ _ 42 (mx_iadd 43) from sn_265 42) ?_
        exact c43 ((Z 75 (Z 73 ((19 * x0) + x1))) + 1) (by omega) (by omega)
      · skip
        exact c29 (by omega)
theorem ct_265_56 {l : Launch} {D : va_G} {b0 : Nat} {ad : Nat → Nat} {Hb : Heap} {tau : Nat → Int64} {d n s : Nat} {S : Nat → xS} {Z : xZ} {h : mx_H} (hx : XH n s S Z h) (hG : GI n S Z)  {x0 x1 : Int} (p0 : 0 ≤ x0 ∧ x0 ≤ 384) (p1 : 0 ≤ x1 ∧ x1 ≤ 18) : ∃ z : Int, mx_Ca (tB l D b0 ad Hb tau) (d + 1) 265 [.ref 56, xI x0, xI x1] h (some (xI z), h) ∧ (0 ≤ z ∧ z ≤ 268435456 ∧ z = fc Z x0 x1) := by
  obtain ⟨r, hca, z, e, hp⟩ := Jmt (B := tB l D b0 ad Hb tau) (M := mt_265) (mi := 265) (as := [.ref 56, xI x0, xI x1]) (d := d + 0) (ls := [some (.ref 56), some (xI x0), some (xI x1), none]) rfl rfl rfl rfl rfl rfl (cw_265_56 (l := l) (D := D) (b0 := b0) (ad := ad) (Hb := Hb) (tau := tau) (d := d) (Post := fun r => ∃ z : Int, r = (some (xI z), h) ∧ (0 ≤ z ∧ z ≤ 268435456 ∧ z = fc Z x0 x1)) hx hG p0 p1 (fun z hz => ⟨z, rfl, hz⟩))
  subst e; exact ⟨z, hca, hp⟩
set_option maxRecDepth 100000 in
theorem cw_266_56 {l : Launch} {D : va_G} {b0 : Nat} {ad : Nat → Nat} {Hb : Heap} {tau : Nat → Int64} {d n s : Nat} {S : Nat → xS} {Z : xZ} {h : mx_H} {Post : mx_R → Prop} (hx : XH n s S Z h) (hG : GI n S Z)  {x0 : Int} (p0 : 0 ≤ x0 ∧ x0 ≤ 384) (hP : ∀ z : Int, 0 ≤ z ∧ z ≤ 268435456 → Post (some (xI z), h)) : mx_J (tB l D b0 ad Hb tau) mt_266 (d + 0) 0 [some (.ref 56), some (xI x0), none, none, none] [] h Post := by
    have a56 : 56 < n := lt83 (GI_n hG) rfl
    have s56 : S 56 = .inl (12, [0, 2, 2, 2, 2, 0, 0, 0, 0, 0, 0, 0, 0, 0, 0, 2, 2, 2, 0, 2, 2, 2, 0, 0, 2, 2, 2, 2, 2, 2, 0, 0, 2, 2, 2, 2, 2, 2, 2, 2, 2, 2]) := GI_s hG 56 rfl
    have a73 : 73 < n := lt83 (GI_n hG) rfl
    have s73 : S 73 = .inr (.int, 7315, 0) := GI_s hG 73 rfl
    have a74 : 74 < n := lt83 (GI_n hG) rfl
    have s74 : S 74 = .inr (.int, 385, 0) := GI_s hG 74 rfl
    refine JcI (z := 0) (show mx_Sn _ _ 0 (mx_const (.int 0) 1) from sn_266 0) rfl ?_
    refine mx_J.step (ls2 := [some (.ref 56), some (xI x0), some (xI 0), none, none]) (sn_266 1) (fun _ _ => rfl) ?_
    refine JcI (z := 0) (show mx_Sn _ _ 2 (mx_const (.int 0) 3) from sn_266 2) rfl ?_
    refine mx_J.step (ls2 := [some (.ref 56), some (xI x0), some (xI 0), some (xI 0), none]) (sn_266 3) (fun _ _ => rfl) ?_
    have c4 : ∀ (m1 : Nat) (w1_2 : Int) (w1_3 : Int) (u1_4 : Option Value), 19 - w1_3 < (m1 : Int) → 0 ≤ w1_2 ∧ w1_2 ≤ 268435456 → 0 ≤ w1_3 ∧ w1_3 ≤ 19 → mx_J (tB l D b0 ad Hb tau) mt_266 (d + 0) 4 [some (.ref 56), some (xI x0), some (xI w1_2), some (xI w1_3), u1_4] [] h Post := by
      intro m1
      induction m1 with
      | zero => intro w1_2 w1_3 u1_4 q1 f1_0 f1_1; exact absurd q1 (by omega)
      | succ m1 ih1 =>
        intro w1_2 w1_3 u1_4 q1 f1_0 f1_1
        refine mx_J.step (sn_266 4) (fun _ _ => rfl) ?_
        refine JcI (z := 19) (show mx_Sn _ _ 5 (mx_const (.int 19) 7) from sn_266 5) rfl ?_
        refine Jicmp_ge (show mx_Sn _ _ 7 (mx_icmp_ge 82 10) from sn_266 7) (by omega) (by omega) (fun q2 => ?_) (fun q2 => ?_)
        · skip
          refine mx_J.step (sn_266 82) (fun _ _ => rfl) ?_
          exact mx_J.ret (sn_266 83) (fun _ _ => rfl) (hP w1_2 (by omega))
        · skip
          refine mx_J.step (sn_266 10) (fun _ _ => rfl) ?_
          refine JgetR (g := 32) (b := 73) hx (show mx_Sn _ _ 11 (mx_getf 12 32 14) from sn_266 11) a56 s56 rfl rfl (hG.prr 56 32 rfl) ?_
          refine JcI (z := 19) (show mx_Sn _ _ 14 (mx_const (.int 19) 16) from sn_266 14) rfl ?_
          refine mx_J.step (sn_266 16) (fun _ _ => rfl) ?_
          refine Jimul (show mx_Sn _ _ 17 (mx_imul 18) from sn_266 17) ?_
          refine mx_J.step (sn_266 18) (fun _ _ => rfl) ?_
          refine Jiadd (show mx_Sn _ _ 19 (mx_iadd 20) from sn_266 19) ?_
          have b4 : (-1) ≤ Z 73 ((19 * x0) + w1_3) ∧ Z 73 ((19 * x0) + w1_3) ≤ 384 := hG.pr 73 ((19 * x0) + w1_3)
          refine JialdI (z := Z 73 ((19 * x0) + w1_3)) hx (show mx_Sn _ _ 20 (mx_iald 21) from sn_266 20) a73 s73 (by omega) rfl ?_
          refine mx_J.step (ls2 := [some (.ref 56), some (xI x0), some (xI w1_2), some (xI w1_3), some (xI (Z 73 ((19 * x0) + w1_3)))]) (sn_266 21) (fun _ _ => rfl) ?_
          refine mx_J.step (sn_266 23) (fun _ _ => rfl) ?_
          refine JcI (z := (-1)) (show mx_Sn _ _ 25 (mx_const (.int (-1)) 26) from sn_266 25) rfl ?_
          have c76 : ∀ (w5_2 : Int), 0 ≤ w5_2 ∧ w5_2 ≤ 268435456 → mx_J (tB l D b0 ad Hb tau) mt_266 (d + 0) 76 [some (.ref 56), some (xI x0), some (xI w5_2), some (xI w1_3), some (xI (Z 73 ((19 * x0) + w1_3)))] [] h Post := by
            intro w5_2 f5_0
            refine Jiinc (z := w1_3) (cz := 1) (ls2 := [some (.ref 56), some (xI x0), some (xI w5_2), some (xI (w1_3 + 1)), some (xI (Z 73 ((19 * x0) + w1_3)))]) (show mx_Sn _ _ 76 (mx_iinc 3 1 79) from sn_266 76) rfl rfl rfl rfl ?_
            refine mx_J.step (sn_266 79) (fun _ _ => rfl) ?_
            exact ih1 w5_2 (w1_3 + 1) (some (xI (Z 73 ((19 * x0) + w1_3)))) (by omega) (by omega) (by omega)
          refine Jicmp_ne (show mx_Sn _ _ 26 (mx_icmp_ne 32 29) from sn_266 26) (by omega) (by omega) (fun q6 => ?_) (fun q6 => ?_)
          · skip
            refine mx_J.step (sn_266 32) (fun _ _ => rfl) ?_
            refine JgetR (g := 33) (b := 74) hx (show mx_Sn _ _ 33 (mx_getf 12 33 36) from sn_266 33) a56 s56 rfl rfl (hG.prr 56 33 rfl) ?_
            refine mx_J.step (sn_266 36) (fun _ _ => rfl) ?_
            have b8 : 0 ≤ Z 74 (Z 73 ((19 * x0) + w1_3)) ∧ Z 74 (Z 73 ((19 * x0) + w1_3)) ≤ 268435456 := hG.pr 74 (Z 73 ((19 * x0) + w1_3))
            refine JialdI (z := Z 74 (Z 73 ((19 * x0) + w1_3))) hx (show mx_Sn _ _ 38 (mx_iald 39) from sn_266 38) a74 s74 (by omega) rfl ?_
            refine JcI (z := 268435456) (show mx_Sn _ _ 39 (mx_const (.int 268435456) 42) from sn_266 39) rfl ?_
            refine Jicmp_ne (show mx_Sn _ _ 42 (mx_icmp_ne 49 45) from sn_266 42) (by omega) (by omega) (fun q9 => ?_) (fun q9 => ?_)
            · skip
              refine mx_J.step (sn_266 49) (fun _ _ => rfl) ?_
              refine JgetR (g := 33) (b := 74) hx (show mx_Sn _ _ 50 (mx_getf 12 33 53) from sn_266 50) a56 s56 rfl rfl (hG.prr 56 33 rfl) ?_
              refine mx_J.step (sn_266 53) (fun _ _ => rfl) ?_
              refine JialdI (z := Z 74 (Z 73 ((19 * x0) + w1_3))) hx (show mx_Sn _ _ 55 (mx_iald 56) from sn_266 55) a74 s74 (by omega) rfl ?_
              refine JcI (z := 1) (show mx_Sn _ _ 56 (mx_const (.int 1) 57) from sn_266 56) rfl ?_
              refine Jiadd (show mx_Sn _ _ 57 (mx_iadd 58) from sn_266 57) ?_
              refine mx_J.step (sn_266 58) (fun _ _ => rfl) ?_
              have c75 : ∀ (k11_0 : Int), 1 ≤ k11_0 ∧ k11_0 ≤ 268435456 → mx_J (tB l D b0 ad Hb tau) mt_266 (d + 0) 75 [some (.ref 56), some (xI x0), some (xI w1_2), some (xI w1_3), some (xI (Z 73 ((19 * x0) + w1_3)))] [xI k11_0] h Post := by
                intro k11_0 f11_0
                refine mx_J.step (ls2 := [some (.ref 56), some (xI x0), some (xI k11_0), some (xI w1_3), some (xI (Z 73 ((19 * x0) + w1_3)))]) (sn_266 75) (fun _ _ => rfl) ?_
                exact c76 k11_0 (by omega)
              refine Jicmp_le (show mx_Sn _ _ 59 (mx_icmp_le 74 62) from sn_266 59) (by omega) (by omega) (fun q12 => ?_) (fun q12 => ?_)
              · skip
                refine mx_J.step (sn_266 74) (fun _ _ => rfl) ?_
                exact c75 w1_2 (by omega)
              · skip
                refine mx_J.step (sn_266 62) (fun _ _ => rfl) ?_
                refine JgetR (g := 33) (b := 74) hx (show mx_Sn _ _ 63 (mx_getf 12 33 66) from sn_266 63) a56 s56 rfl rfl (hG.prr 56 33 rfl) ?_
                refine mx_J.step (sn_266 66) (fun _ _ => rfl) ?_
                refine JialdI (z := Z 74 (Z 73 ((19 * x0) + w1_3))) hx (show mx_Sn _ _ 68 (mx_iald 69) from sn_266 68) a74 s74 (by omega) rfl ?_
                refine JcI (z := 1) (show mx_Sn _ _ 69 (mx_const (.int 1) 70) from sn_266 69) rfl ?_
                refine Jiadd (show mx_Sn _ _ 70 (mx_iadd 71) from sn_266 70) ?_
                refine mx_J.step (sn_266 71) (fun _ _ => rfl) ?_
                exact c75 ((Z 74 (Z 73 ((19 * x0) + w1_3))) + 1) (by omega)
            · skip
              refine JcI (z := 268435456) (show mx_Sn _ _ 45 (mx_const (.int 268435456) 48) from sn_266 45) rfl ?_
              exact mx_J.ret (sn_266 48) (fun _ _ => rfl) (hP 268435456 (by omega))
          · skip
            refine mx_J.step (sn_266 29) (fun _ _ => rfl) ?_
            exact c76 w1_2 (by omega)
    exact c4 (Int.toNat (19 - 0) + 1) 0 0 none (by omega) (by omega) (by omega)
theorem ct_266_56 {l : Launch} {D : va_G} {b0 : Nat} {ad : Nat → Nat} {Hb : Heap} {tau : Nat → Int64} {d n s : Nat} {S : Nat → xS} {Z : xZ} {h : mx_H} (hx : XH n s S Z h) (hG : GI n S Z)  {x0 : Int} (p0 : 0 ≤ x0 ∧ x0 ≤ 384) : ∃ z : Int, mx_Ca (tB l D b0 ad Hb tau) (d + 1) 266 [.ref 56, xI x0] h (some (xI z), h) ∧ (0 ≤ z ∧ z ≤ 268435456) := by
  obtain ⟨r, hca, z, e, hp⟩ := Jmt (B := tB l D b0 ad Hb tau) (M := mt_266) (mi := 266) (as := [.ref 56, xI x0]) (d := d + 0) (ls := [some (.ref 56), some (xI x0), none, none, none]) rfl rfl rfl rfl rfl rfl (cw_266_56 (l := l) (D := D) (b0 := b0) (ad := ad) (Hb := Hb) (tau := tau) (d := d) (Post := fun r => ∃ z : Int, r = (some (xI z), h) ∧ (0 ≤ z ∧ z ≤ 268435456)) hx hG p0 (fun z hz => ⟨z, rfl, hz⟩))
  subst e; exact ⟨z, hca, hp⟩
set_option maxRecDepth 100000 in
theorem cw_270_56 {l : Launch} {D : va_G} {b0 : Nat} {ad : Nat → Nat} {Hb : Heap} {tau : Nat → Int64} {d n s : Nat} {S : Nat → xS} {Z : xZ} {h : mx_H} {Post : mx_R → Prop} (hx : XH n s S Z h) (hG : GI n S Z)  {x0 : Int} (p0 : (-2147483648) ≤ x0 ∧ x0 ≤ 2147483647) (hP : ∀ (z : Int) (Z' : xZ) (h' : mx_H), XH n s S Z' h' → GI n S Z' → fr' [(56, 0)] Z Z' → (-2147483648) ≤ z ∧ z ≤ 2147483647 → Post (some (xI z), h')) : mx_J (tB l D b0 ad Hb tau) mt_270 (d + 1) 0 [some (.ref 56), some (xI x0), none, none, none] [] h Post := by
    have a56 : 56 < n := lt83 (GI_n hG) rfl
    have s56 : S 56 = .inl (12, [0, 2, 2, 2, 2, 0, 0, 0, 0, 0, 0, 0, 0, 0, 0, 2, 2, 2, 0, 2, 2, 2, 0, 0, 2, 2, 2, 2, 2, 2, 0, 0, 2, 2, 2, 2, 2, 2, 2, 2, 2, 2]) := GI_s hG 56 rfl
    have a57 : 57 < n := lt83 (GI_n hG) rfl
    have s57 : S 57 = .inr (.int, 2886, 0) := GI_s hG 57 rfl
    refine mx_J.step (sn_270 0) (fun _ _ => rfl) ?_
    refine JcI (z := 0) (show mx_Sn _ _ 1 (mx_const (.int 0) 2) from sn_270 1) rfl ?_
    refine JputI (g := 0) hx (show mx_Sn _ _ 2 (mx_putf 1 12 0 (.int) 5) from sn_270 2) a56 s56 rfl rfl rfl rfl (fun Z1 h1 hx1 hE1 => ?_)
    have hG1 := GI_up hG hE1 (show (-2147483648) ≤ 0 ∧ 0 ≤ 2147483647 by omega) trivial rfl
    refine mx_J.step (sn_270 5) (fun _ _ => rfl) ?_
    refine Ji2l (show mx_Sn _ _ 6 (mx_i2l 7) from sn_270 6) (by omega) ?_
    refine JcL (z := 0) (show mx_Sn _ _ 7 (mx_const (.long 0) 8) from sn_270 7) rfl ?_
    refine JcL (z := 1) (show mx_Sn _ _ 8 (mx_const (.long 1) 9) from sn_270 8) rfl ?_
    obtain ⟨z2, hc2, b2⟩ := ct_154_ (d := d + 0) (l := l) (D := D) (b0 := b0) (ad := ad) (Hb := Hb) (tau := tau) hx1 hG1 (show (-9223372036854775808) ≤ x0 ∧ x0 ≤ 9223372036854775807 by omega) (show (-9223372036854775808) ≤ 0 ∧ 0 ≤ 9223372036854775807 by omega) (show (-9223372036854775808) ≤ 1 ∧ 1 ≤ 9223372036854775807 by omega)
    refine Jcs (show mx_Sn _ _ 9 (mx_calls 154 3 12) from sn_270 9) hc2 rfl rfl rfl ?_
    refine Jif_ne (show mx_Sn _ _ 12 (mx_if_ne 18 15) from sn_270 12) (by omega) (fun q3 => ?_) (fun q3 => ?_)
    · skip
      refine mx_J.step (sn_270 18) (fun _ _ => rfl) ?_
      refine JgetR (g := 1) (b := 57) hx1 (show mx_Sn _ _ 19 (mx_getf 12 1 22) from sn_270 19) a56 s56 rfl rfl (hG1.prr 56 1 rfl) ?_
      refine JcI (z := 27) (show mx_Sn _ _ 22 (mx_const (.int 27) 24) from sn_270 22) rfl ?_
      have b5 := GI_st hG 27
      have b6 : 0 ≤ Z 56 18 ∧ Z 56 18 ≤ 385 := hG.pr 56 18
      have b7 : 0 ≤ Z 57 27 ∧ Z 57 27 ≤ 384 := by have hq := GI_ex hG 57 27; replace hq : f57 (27 % 962) (Z 57 27) := hq; unfold f57 at hq; omega
      have b8 : (-2147483648) ≤ Z 57 27 ∧ Z 57 27 ≤ 2147483647 := hG.pr 57 27
      refine JialdI (z := Z 57 27) hx1 (show mx_Sn _ _ 24 (mx_iald 25) from sn_270 24) a57 s57 (by omega) (up_nk hE1 rfl) ?_
      refine mx_J.step (ls2 := [some (.ref 56), some (xI x0), some (xI (Z 57 27)), none, none]) (sn_270 25) (fun _ _ => rfl) ?_
      refine JcI (z := 0) (show mx_Sn _ _ 26 (mx_const (.int 0) 27) from sn_270 26) rfl ?_
      refine mx_J.step (ls2 := [some (.ref 56), some (xI x0), some (xI (Z 57 27)), some (xI 0), none]) (sn_270 27) (fun _ _ => rfl) ?_
      refine JcI (z := 0) (show mx_Sn _ _ 28 (mx_const (.int 0) 29) from sn_270 28) rfl ?_
      refine mx_J.step (ls2 := [some (.ref 56), some (xI x0), some (xI (Z 57 27)), some (xI 0), some (xI 0)]) (sn_270 29) (fun _ _ => rfl) ?_
      have c31 : ∀ (m9 : Nat) (w9_3 : Int) (w9_4 : Int), 18 - w9_4 < (m9 : Int) → (-2147483648) ≤ w9_3 ∧ w9_3 ≤ 2147483647 → 0 ≤ w9_4 ∧ w9_4 ≤ 18 → mx_J (tB l D b0 ad Hb tau) mt_270 (d + 1) 31 [some (.ref 56), some (xI x0), some (xI (Z 57 27)), some (xI w9_3), some (xI w9_4)] [] h1 Post := by
        intro m9
        induction m9 with
        | zero => intro w9_3 w9_4 q9 f9_0 f9_1; exact absurd q9 (by omega)
        | succ m9 ih9 =>
          intro w9_3 w9_4 q9 f9_0 f9_1
          refine mx_J.step (sn_270 31) (fun _ _ => rfl) ?_
          refine JcI (z := 18) (show mx_Sn _ _ 33 (mx_const (.int 18) 35) from sn_270 33) rfl ?_
          refine Jicmp_ge (show mx_Sn _ _ 35 (mx_icmp_ge 54 38) from sn_270 35) (by omega) (by omega) (fun q10 => ?_) (fun q10 => ?_)
          · skip
            refine JcI (z := 0) (show mx_Sn _ _ 54 (mx_const (.int 0) 55) from sn_270 54) rfl ?_
            refine mx_J.step (ls2 := [some (.ref 56), some (xI x0), some (xI (Z 57 27)), some (xI w9_3), some (xI 0)]) (sn_270 55) (fun _ _ => rfl) ?_
            have c57 : ∀ (m11 : Nat) (w11_4 : Int), 18 - w11_4 < (m11 : Int) → 0 ≤ w11_4 ∧ w11_4 ≤ 18 → mx_J (tB l D b0 ad Hb tau) mt_270 (d + 1) 57 [some (.ref 56), some (xI x0), some (xI (Z 57 27)), some (xI w9_3), some (xI w11_4)] [] h1 Post := by
              intro m11
              induction m11 with
              | zero => intro w11_4 q11 f11_0; exact absurd q11 (by omega)
              | succ m11 ih11 =>
                intro w11_4 q11 f11_0
                refine mx_J.step (sn_270 57) (fun _ _ => rfl) ?_
                refine JcI (z := 18) (show mx_Sn _ _ 59 (mx_const (.int 18) 61) from sn_270 59) rfl ?_
                have c120 : mx_J (tB l D b0 ad Hb tau) mt_270 (d + 1) 120 [some (.ref 56), some (xI x0), some (xI (Z 57 27)), some (xI w9_3), some (xI w11_4)] [] h1 Post := by
                  refine JcI (z := (-1)) (show mx_Sn _ _ 120 (mx_const (.int (-1)) 121) from sn_270 120) rfl ?_
                  exact mx_J.ret (sn_270 121) (fun _ _ => rfl) (hP (-1) Z1 h1 hx1 hG1 (fr_tr (M := [(56, 0)]) fr_rf (fr_up hE1) (M1 := []) rfl rfl) (by omega))
                refine Jicmp_ge (show mx_Sn _ _ 61 (mx_icmp_ge 120 64) from sn_270 61) (by omega) (by omega) (fun q13 => ?_) (fun q13 => ?_)
                · skip
                  exact c120 
                · skip
                  refine mx_J.step (sn_270 64) (fun _ _ => rfl) ?_
                  refine Jif_eq (show mx_Sn _ _ 65 (mx_if_eq 120 68) from sn_270 65) (by omega) (fun q14 => ?_) (fun q14 => ?_)
                  · skip
                    exact c120 
                  · skip
                    refine mx_J.step (sn_270 68) (fun _ _ => rfl) ?_
                    refine mx_J.step (sn_270 69) (fun _ _ => rfl) ?_
                    refine mx_J.step (sn_270 70) (fun _ _ => rfl) ?_
                    have eq16 : Z1 61 (18 * (Z 57 27) + w11_4) = Z 61 (18 * (Z 57 27) + w11_4) := (up_nk hE1 rfl)
                    have b17 : 0 ≤ Z 61 (18 * (Z 57 27) + w11_4) ∧ Z 61 (18 * (Z 57 27) + w11_4) ≤ 18 := hG.pr 61 (18 * (Z 57 27) + w11_4)
                    obtain ⟨z15, hc15, b15⟩ := ct_190_56 (d := d + 0) (l := l) (D := D) (b0 := b0) (ad := ad) (Hb := Hb) (tau := tau) hx1 hG1 (show 0 ≤ Z 57 27 ∧ Z 57 27 ≤ 384 by omega) (show 0 ≤ w11_4 ∧ w11_4 ≤ 17 by omega)
                    try rw [eq16] at b15
                    refine Jcv hx1 (show mx_Sn _ _ 72 (mx_callv 190 3 12 75) from sn_270 72) a56 s56 hc15 rfl rfl rfl ?_
                    refine mx_J.step (sn_270 75) (fun _ _ => rfl) ?_
                    refine JixorX (show mx_Sn _ _ 76 (mx_ixor 77) from sn_270 76) (fun y18 hy18 => ?_)
                    refine mx_J.step (sn_270 77) (fun _ _ => rfl) ?_
                    refine mx_J.step (sn_270 78) (fun _ _ => rfl) ?_
                    refine mx_J.step (sn_270 79) (fun _ _ => rfl) ?_
                    have eq20 : Z1 61 (18 * (Z 57 27) + w11_4) = Z 61 (18 * (Z 57 27) + w11_4) := (up_nk hE1 rfl)
                    obtain ⟨z19, hc19, b19⟩ := ct_190_56 (d := d + 0) (l := l) (D := D) (b0 := b0) (ad := ad) (Hb := Hb) (tau := tau) hx1 hG1 (show 0 ≤ Z 57 27 ∧ Z 57 27 ≤ 384 by omega) (show 0 ≤ w11_4 ∧ w11_4 ≤ 17 by omega)
                    try rw [eq20] at b19
                    refine Jcv hx1 (show mx_Sn _ _ 81 (mx_callv 190 3 12 84) from sn_270 81) a56 s56 hc19 rfl rfl rfl ?_
                    refine Jicmp_ge (show mx_Sn _ _ 84 (mx_icmp_ge 114 87) from sn_270 84) (by omega) (by omega) (fun q21 => ?_) (fun q21 => ?_)
                    · skip
                      refine Jiinc (z := w11_4) (cz := 1) (ls2 := [some (.ref 56), some (xI x0), some (xI (Z 57 27)), some (xI w9_3), some (xI (w11_4 + 1))]) (show mx_Sn _ _ 114 (mx_iinc 4 1 117) from sn_270 114) rfl rfl rfl rfl ?_
                      refine mx_J.step (sn_270 117) (fun _ _ => rfl) ?_
                      exact ih11 (w11_4 + 1) (by omega) (by omega)
                    · skip
                      refine mx_J.step (sn_270 87) (fun _ _ => rfl) ?_
                      have c113 : ∀ (k22_0 : Int), (-2147483648) ≤ k22_0 ∧ k22_0 ≤ 2147483647 → mx_J (tB l D b0 ad Hb tau) mt_270 (d + 1) 113 [some (.ref 56), some (xI x0), some (xI (Z 57 27)), some (xI w9_3), some (xI w11_4)] [xI k22_0] h1 Post := by
                        intro k22_0 f22_0
                        exact mx_J.ret (sn_270 113) (fun _ _ => rfl) (hP k22_0 Z1 h1 hx1 hG1 (fr_tr (M := [(56, 0)]) fr_rf (fr_up hE1) (M1 := []) rfl rfl) (by omega))
                      refine Jif_ne (show mx_Sn _ _ 88 (mx_if_ne 96 91) from sn_270 88) (by omega) (fun q23 => ?_) (fun q23 => ?_)
                      · skip
                        refine mx_J.step (sn_270 96) (fun _ _ => rfl) ?_
                        refine mx_J.step (sn_270 97) (fun _ _ => rfl) ?_
                        refine mx_J.step (sn_270 98) (fun _ _ => rfl) ?_
                        have eq25 : Z1 61 (18 * (Z 57 27) + w11_4) = Z 61 (18 * (Z 57 27) + w11_4) := (up_nk hE1 rfl)
                        obtain ⟨z24, hc24, b24⟩ := ct_190_56 (d := d + 0) (l := l) (D := D) (b0 := b0) (ad := ad) (Hb := Hb) (tau := tau) hx1 hG1 (show 0 ≤ Z 57 27 ∧ Z 57 27 ≤ 384 by omega) (show 0 ≤ w11_4 ∧ w11_4 ≤ 17 by omega)
                        try rw [eq25] at b24
                        refine Jcv hx1 (show mx_Sn _ _ 100 (mx_callv 190 3 12 103) from sn_270 100) a56 s56 hc24 rfl rfl rfl ?_
                        refine mx_J.step (sn_270 103) (fun _ _ => rfl) ?_
                        refine mx_J.step (sn_270 104) (fun _ _ => rfl) ?_
                        refine mx_J.step (sn_270 105) (fun _ _ => rfl) ?_
                        have eq27 : Z1 61 (18 * (Z 57 27) + w11_4) = Z 61 (18 * (Z 57 27) + w11_4) := (up_nk hE1 rfl)
                        obtain ⟨z26, hc26, b26⟩ := ct_190_56 (d := d + 0) (l := l) (D := D) (b0 := b0) (ad := ad) (Hb := Hb) (tau := tau) hx1 hG1 (show 0 ≤ Z 57 27 ∧ Z 57 27 ≤ 384 by omega) (show 0 ≤ w11_4 ∧ w11_4 ≤ 17 by omega)
                        try rw [eq27] at b26
                        refine Jcv hx1 (show mx_Sn _ _ 107 (mx_callv 190 3 12 110) from sn_270 107) a56 s56 hc26 rfl rfl rfl ?_
                        refine mx_J.step (sn_270 110) (fun _ _ => rfl) ?_
                        refine JixorX (show mx_Sn _ _ 111 (mx_ixor 112) from sn_270 111) (fun y28 hy28 => ?_)
                        refine JisubN (show mx_Sn _ _ 112 (mx_isub 113) from sn_270 112) (fun y29 hy29 hq29 => ?_)
                        exact c113 y29 (by omega)
                      · skip
                        refine mx_J.step (sn_270 91) (fun _ _ => rfl) ?_
                        refine mx_J.step (sn_270 93) (fun _ _ => rfl) ?_
                        exact c113 w11_4 (by omega)
            exact c57 (Int.toNat (18 - 0) + 1) 0 (by omega) (by omega)
          · skip
            refine mx_J.step (sn_270 38) (fun _ _ => rfl) ?_
            refine mx_J.step (sn_270 39) (fun _ _ => rfl) ?_
            refine mx_J.step (sn_270 40) (fun _ _ => rfl) ?_
            refine mx_J.step (sn_270 41) (fun _ _ => rfl) ?_
            have eq31 : Z1 61 (18 * (Z 57 27) + w9_4) = Z 61 (18 * (Z 57 27) + w9_4) := (up_nk hE1 rfl)
            have b32 : 0 ≤ Z 61 (18 * (Z 57 27) + w9_4) ∧ Z 61 (18 * (Z 57 27) + w9_4) ≤ 18 := hG.pr 61 (18 * (Z 57 27) + w9_4)
            obtain ⟨z30, hc30, b30⟩ := ct_190_56 (d := d + 0) (l := l) (D := D) (b0 := b0) (ad := ad) (Hb := Hb) (tau := tau) hx1 hG1 (show 0 ≤ Z 57 27 ∧ Z 57 27 ≤ 384 by omega) (show 0 ≤ w9_4 ∧ w9_4 ≤ 17 by omega)
            try rw [eq31] at b30
            refine Jcv hx1 (show mx_Sn _ _ 43 (mx_callv 190 3 12 46) from sn_270 43) a56 s56 hc30 rfl rfl rfl ?_
            refine JixorX (show mx_Sn _ _ 46 (mx_ixor 47) from sn_270 46) (fun y33 hy33 => ?_)
            refine mx_J.step (ls2 := [some (.ref 56), some (xI x0), some (xI (Z 57 27)), some (xI y33), some (xI w9_4)]) (sn_270 47) (fun _ _ => rfl) ?_
            refine Jiinc (z := w9_4) (cz := 1) (ls2 := [some (.ref 56), some (xI x0), some (xI (Z 57 27)), some (xI y33), some (xI (w9_4 + 1))]) (show mx_Sn _ _ 48 (mx_iinc 4 1 51) from sn_270 48) rfl rfl rfl rfl ?_
            refine mx_J.step (sn_270 51) (fun _ _ => rfl) ?_
            exact ih9 y33 (w9_4 + 1) (by omega) (by omega) (by omega)
      exact c31 (Int.toNat (18 - 0) + 1) 0 0 (by omega) (by omega) (by omega)
    · skip
      refine JcI (z := (-2)) (show mx_Sn _ _ 15 (mx_const (.int (-2)) 17) from sn_270 15) rfl ?_
      exact mx_J.ret (sn_270 17) (fun _ _ => rfl) (hP (-2) Z1 h1 hx1 hG1 (fr_tr (M := [(56, 0)]) fr_rf (fr_up hE1) (M1 := []) rfl rfl) (by omega))
theorem ct_270_56 {l : Launch} {D : va_G} {b0 : Nat} {ad : Nat → Nat} {Hb : Heap} {tau : Nat → Int64} {d n s : Nat} {S : Nat → xS} {Z : xZ} {h : mx_H} (hx : XH n s S Z h) (hG : GI n S Z)  {x0 : Int} (p0 : (-2147483648) ≤ x0 ∧ x0 ≤ 2147483647) : ∃ (z : Int) (Z' : xZ) (h' : mx_H), mx_Ca (tB l D b0 ad Hb tau) (d + 2) 270 [.ref 56, xI x0] h (some (xI z), h') ∧ XH n s S Z' h' ∧ GI n S Z' ∧ fr' [(56, 0)] Z Z' ∧ ((-2147483648) ≤ z ∧ z ≤ 2147483647) := by
  obtain ⟨r, hca, z, Z', h', e, q⟩ := Jmt (B := tB l D b0 ad Hb tau) (M := mt_270) (mi := 270) (as := [.ref 56, xI x0]) (d := d + 1) (ls := [some (.ref 56), some (xI x0), none, none, none]) rfl rfl rfl rfl rfl rfl (cw_270_56 (l := l) (D := D) (b0 := b0) (ad := ad) (Hb := Hb) (tau := tau) (d := d) (Post := fun r => ∃ (z : Int) (Z' : xZ) (h' : mx_H), r = (some (xI z), h') ∧ XH n s S Z' h' ∧ GI n S Z' ∧ fr' [(56, 0)] Z Z' ∧ ((-2147483648) ≤ z ∧ z ≤ 2147483647)) hx hG p0 (fun z Z' h' q1 q2 q3 q4 => ⟨z, Z', h', rfl, q1, q2, q3, q4⟩))
  subst e; exact ⟨z, Z', h', hca, q⟩
set_option maxRecDepth 100000 in
theorem cw_277_ {l : Launch} {D : va_G} {b0 : Nat} {ad : Nat → Nat} {Hb : Heap} {tau : Nat → Int64} {d n s : Nat} {S : Nat → xS} {Z : xZ} {h : mx_H} {Post : mx_R → Prop} (hx : XH n s S Z h) (hG : GI n S Z)  {x0 x1 : Int} (p0 : (-9223372036854775808) ≤ x0 ∧ x0 ≤ 9223372036854775807) (p1 : (-2147483648) ≤ x1 ∧ x1 ≤ 2147483647) (hP : ∀ z : Int, (-9223372036854775808) ≤ z ∧ z ≤ 9223372036854775807 ∧ ((x1 = 0 → -128 ≤ z ∧ z ≤ 127 ∧ (z - x0) % 256 = 0) ∧ (x1 = 1 → -32768 ≤ z ∧ z ≤ 32767 ∧ (z - x0) % 65536 = 0) ∧ (x1 = 2 → -2147483648 ≤ z ∧ z ≤ 2147483647 ∧ (z - x0) % 4294967296 = 0) ∧ (¬ x1 = 0 → ¬ x1 = 1 → ¬ x1 = 2 → z = x0)) → Post (some (xL z), h)) : mx_J (tB l D b0 ad Hb tau) mt_277 (d + 0) 0 [some (xL x0), none, some (xI x1)] [] h Post := by
    refine mx_J.step (sn_277 0) (fun _ _ => rfl) ?_
    have c35 : ∀ (k1_0 : Int), (-9223372036854775808) ≤ k1_0 ∧ k1_0 ≤ 9223372036854775807 → ((x1 = 0 → -128 ≤ k1_0 ∧ k1_0 ≤ 127 ∧ (k1_0 - x0) % 256 = 0) ∧ (x1 = 1 → -32768 ≤ k1_0 ∧ k1_0 ≤ 32767 ∧ (k1_0 - x0) % 65536 = 0) ∧ (x1 = 2 → -2147483648 ≤ k1_0 ∧ k1_0 ≤ 2147483647 ∧ (k1_0 - x0) % 4294967296 = 0) ∧ (¬ x1 = 0 → ¬ x1 = 1 → ¬ x1 = 2 → k1_0 = x0)) → mx_J (tB l D b0 ad Hb tau) mt_277 (d + 0) 35 [some (xL x0), none, some (xI x1)] [xL k1_0] h Post := by
      intro k1_0 f1_0 f1_1
      exact mx_J.ret (sn_277 35) (fun _ _ => rfl) (hP k1_0 (by omega))
    refine Jif_ne (show mx_Sn _ _ 1 (mx_if_ne 11 4) from sn_277 1) (by omega) (fun q2 => ?_) (fun q2 => ?_)
    · skip
      refine mx_J.step (sn_277 11) (fun _ _ => rfl) ?_
      refine JcI (z := 1) (show mx_Sn _ _ 12 (mx_const (.int 1) 13) from sn_277 12) rfl ?_
      refine Jicmp_ne (show mx_Sn _ _ 13 (mx_icmp_ne 23 16) from sn_277 13) (by omega) (by omega) (fun q3 => ?_) (fun q3 => ?_)
      · skip
        refine mx_J.step (sn_277 23) (fun _ _ => rfl) ?_
        refine JcI (z := 2) (show mx_Sn _ _ 24 (mx_const (.int 2) 25) from sn_277 24) rfl ?_
        refine Jicmp_ne (show mx_Sn _ _ 25 (mx_icmp_ne 34 28) from sn_277 25) (by omega) (by omega) (fun q4 => ?_) (fun q4 => ?_)
        · skip
          refine mx_J.step (sn_277 34) (fun _ _ => rfl) ?_
          exact c35 x0 (by omega) (by omega)
        · skip
          refine mx_J.step (sn_277 28) (fun _ _ => rfl) ?_
          refine Jl2iY (show mx_Sn _ _ 29 (mx_l2i 30) from sn_277 29) (fun y5 hy5 hq5 => ?_)
          refine Ji2l (show mx_Sn _ _ 30 (mx_i2l 31) from sn_277 30) (by omega) ?_
          refine mx_J.step (sn_277 31) (fun _ _ => rfl) ?_
          exact c35 y5 (by omega) (by omega)
      · skip
        refine mx_J.step (sn_277 16) (fun _ _ => rfl) ?_
        refine Jl2iY (show mx_Sn _ _ 17 (mx_l2i 18) from sn_277 17) (fun y6 hy6 hq6 => ?_)
        refine Ji2sY (show mx_Sn _ _ 18 (mx_i2s 19) from sn_277 18) (by omega) (fun y7 hy7 hq7 => ?_)
        refine Ji2l (show mx_Sn _ _ 19 (mx_i2l 20) from sn_277 19) (by omega) ?_
        refine mx_J.step (sn_277 20) (fun _ _ => rfl) ?_
        exact c35 y7 (by omega) (by omega)
    · skip
      refine mx_J.step (sn_277 4) (fun _ _ => rfl) ?_
      refine Jl2iY (show mx_Sn _ _ 5 (mx_l2i 6) from sn_277 5) (fun y8 hy8 hq8 => ?_)
      refine Ji2bY (show mx_Sn _ _ 6 (mx_i2b 7) from sn_277 6) (by omega) (fun y9 hy9 hq9 => ?_)
      refine Ji2l (show mx_Sn _ _ 7 (mx_i2l 8) from sn_277 7) (by omega) ?_
      refine mx_J.step (sn_277 8) (fun _ _ => rfl) ?_
      exact c35 y9 (by omega) (by omega)
theorem ct_277_ {l : Launch} {D : va_G} {b0 : Nat} {ad : Nat → Nat} {Hb : Heap} {tau : Nat → Int64} {d n s : Nat} {S : Nat → xS} {Z : xZ} {h : mx_H} (hx : XH n s S Z h) (hG : GI n S Z)  {x0 x1 : Int} (p0 : (-9223372036854775808) ≤ x0 ∧ x0 ≤ 9223372036854775807) (p1 : (-2147483648) ≤ x1 ∧ x1 ≤ 2147483647) : ∃ z : Int, mx_Ca (tB l D b0 ad Hb tau) (d + 1) 277 [xL x0, xI x1] h (some (xL z), h) ∧ ((-9223372036854775808) ≤ z ∧ z ≤ 9223372036854775807 ∧ ((x1 = 0 → -128 ≤ z ∧ z ≤ 127 ∧ (z - x0) % 256 = 0) ∧ (x1 = 1 → -32768 ≤ z ∧ z ≤ 32767 ∧ (z - x0) % 65536 = 0) ∧ (x1 = 2 → -2147483648 ≤ z ∧ z ≤ 2147483647 ∧ (z - x0) % 4294967296 = 0) ∧ (¬ x1 = 0 → ¬ x1 = 1 → ¬ x1 = 2 → z = x0))) := by
  obtain ⟨r, hca, z, e, hp⟩ := Jmt (B := tB l D b0 ad Hb tau) (M := mt_277) (mi := 277) (as := [xL x0, xI x1]) (d := d + 0) (ls := [some (xL x0), none, some (xI x1)]) rfl rfl rfl rfl rfl rfl (cw_277_ (l := l) (D := D) (b0 := b0) (ad := ad) (Hb := Hb) (tau := tau) (d := d) (Post := fun r => ∃ z : Int, r = (some (xL z), h) ∧ ((-9223372036854775808) ≤ z ∧ z ≤ 9223372036854775807 ∧ ((x1 = 0 → -128 ≤ z ∧ z ≤ 127 ∧ (z - x0) % 256 = 0) ∧ (x1 = 1 → -32768 ≤ z ∧ z ≤ 32767 ∧ (z - x0) % 65536 = 0) ∧ (x1 = 2 → -2147483648 ≤ z ∧ z ≤ 2147483647 ∧ (z - x0) % 4294967296 = 0) ∧ (¬ x1 = 0 → ¬ x1 = 1 → ¬ x1 = 2 → z = x0)))) hx hG p0 p1 (fun z hz => ⟨z, rfl, hz⟩))
  subst e; exact ⟨z, hca, hp⟩
set_option maxRecDepth 100000 in
theorem cw_278_56 {l : Launch} {D : va_G} {b0 : Nat} {ad : Nat → Nat} {Hb : Heap} {tau : Nat → Int64} {d n s : Nat} {S : Nat → xS} {Z : xZ} {h : mx_H} {Post : mx_R → Prop} (hx : XH n s S Z h) (hG : GI n S Z)  {x0 x1 x2 : Int} (p0 : (-2147483648) ≤ x0 ∧ x0 ≤ 2147483647) (p1 : (-2147483648) ≤ x1 ∧ x1 ≤ 2147483647) (p2 : (-2147483648) ≤ x2 ∧ x2 ≤ 2147483647) (hP : ∀ (z : Int) (Z' : xZ) (h' : mx_H), XH n s S Z' h' → GI n S Z' → fr' [(56, 0), (80, (-1)), (81, (-1)), (82, (-1))] Z Z' → (¬ (x0 < 0 ∨ 3 < x0 ∨ x1 < 0 ∨ 3 < x1) → ¬ (x2 < 0 ∨ 40 < x2) → ∀ i : Int, 0 ≤ i → i < x2 → Z' 82 (40 * x0 + i) = 0) ∧ (∀ i : Int, ((x0 < 0 ∨ 3 < x0 ∨ x1 < 0 ∨ 3 < x1) ∨ (x2 < 0 ∨ 40 < x2) ∨ i < 40 * x0 ∨ 40 * x0 + 40 ≤ i) → Z' 82 i = Z 82 i) ∧ (-3) ≤ z ∧ z ≤ 0 ∧ ((((x0 < 0 ∨ 3 < x0 ∨ x1 < 0 ∨ 3 < x1) → z = -2) ∧ (¬ (x0 < 0 ∨ 3 < x0 ∨ x1 < 0 ∨ 3 < x1) → (x2 < 0 ∨ 40 < x2) → z = -3) ∧ (¬ (x0 < 0 ∨ 3 < x0 ∨ x1 < 0 ∨ 3 < x1) → ¬ (x2 < 0 ∨ 40 < x2) → z = 0)) ∧ ((((x0 < 0 ∨ 3 < x0 ∨ x1 < 0 ∨ 3 < x1) ∨ (x2 < 0 ∨ 40 < x2) ∨ ¬ x0 = 0) → Z' 80 0 = Z 80 0 ∧ Z' 81 0 = Z 81 0) ∧ (¬ (x0 < 0 ∨ 3 < x0 ∨ x1 < 0 ∨ 3 < x1) → ¬ (x2 < 0 ∨ 40 < x2) → x0 = 0 → Z' 80 0 = x1 ∧ Z' 81 0 = x2) ∧ (((x0 < 0 ∨ 3 < x0 ∨ x1 < 0 ∨ 3 < x1) ∨ (x2 < 0 ∨ 40 < x2) ∨ ¬ x0 = 1) → Z' 80 1 = Z 80 1 ∧ Z' 81 1 = Z 81 1) ∧ (¬ (x0 < 0 ∨ 3 < x0 ∨ x1 < 0 ∨ 3 < x1) → ¬ (x2 < 0 ∨ 40 < x2) → x0 = 1 → Z' 80 1 = x1 ∧ Z' 81 1 = x2) ∧ (((x0 < 0 ∨ 3 < x0 ∨ x1 < 0 ∨ 3 < x1) ∨ (x2 < 0 ∨ 40 < x2) ∨ ¬ x0 = 2) → Z' 80 2 = Z 80 2 ∧ Z' 81 2 = Z 81 2) ∧ (¬ (x0 < 0 ∨ 3 < x0 ∨ x1 < 0 ∨ 3 < x1) → ¬ (x2 < 0 ∨ 40 < x2) → x0 = 2 → Z' 80 2 = x1 ∧ Z' 81 2 = x2) ∧ (((x0 < 0 ∨ 3 < x0 ∨ x1 < 0 ∨ 3 < x1) ∨ (x2 < 0 ∨ 40 < x2) ∨ ¬ x0 = 3) → Z' 80 3 = Z 80 3 ∧ Z' 81 3 = Z 81 3) ∧ (¬ (x0 < 0 ∨ 3 < x0 ∨ x1 < 0 ∨ 3 < x1) → ¬ (x2 < 0 ∨ 40 < x2) → x0 = 3 → Z' 80 3 = x1 ∧ Z' 81 3 = x2))) → Post (some (xI z), h')) : mx_J (tB l D b0 ad Hb tau) mt_278 (d + 1) 0 [some (.ref 56), some (xI x0), some (xI x1), some (xI x2), none] [] h Post := by
    have a56 : 56 < n := lt83 (GI_n hG) rfl
    have s56 : S 56 = .inl (12, [0, 2, 2, 2, 2, 0, 0, 0, 0, 0, 0, 0, 0, 0, 0, 2, 2, 2, 0, 2, 2, 2, 0, 0, 2, 2, 2, 2, 2, 2, 0, 0, 2, 2, 2, 2, 2, 2, 2, 2, 2, 2]) := GI_s hG 56 rfl
    have a80 : 80 < n := lt83 (GI_n hG) rfl
    have s80 : S 80 = .inr (.int, 4, 0) := GI_s hG 80 rfl
    have a81 : 81 < n := lt83 (GI_n hG) rfl
    have s81 : S 81 = .inr (.int, 4, 0) := GI_s hG 81 rfl
    have a82 : 82 < n := lt83 (GI_n hG) rfl
    have s82 : S 82 = .inr (.long, 160, 1) := GI_s hG 82 rfl
    refine mx_J.step (sn_278 0) (fun _ _ => rfl) ?_
    refine JcI (z := 0) (show mx_Sn _ _ 1 (mx_const (.int 0) 2) from sn_278 1) rfl ?_
    refine JputI (g := 0) hx (show mx_Sn _ _ 2 (mx_putf 1 12 0 (.int) 5) from sn_278 2) a56 s56 rfl rfl rfl rfl (fun Z1 h1 hx1 hE1 => ?_)
    have hG1 := GI_up hG hE1 (show (-2147483648) ≤ 0 ∧ 0 ≤ 2147483647 by omega) trivial rfl
    refine mx_J.step (sn_278 5) (fun _ _ => rfl) ?_
    refine Ji2l (show mx_Sn _ _ 6 (mx_i2l 7) from sn_278 6) (by omega) ?_
    refine JcL (z := 0) (show mx_Sn _ _ 7 (mx_const (.long 0) 8) from sn_278 7) rfl ?_
    refine JcL (z := 3) (show mx_Sn _ _ 8 (mx_const (.long 3) 11) from sn_278 8) rfl ?_
    obtain ⟨z2, hc2, b2⟩ := ct_154_ (d := d + 0) (l := l) (D := D) (b0 := b0) (ad := ad) (Hb := Hb) (tau := tau) hx1 hG1 (show (-9223372036854775808) ≤ x0 ∧ x0 ≤ 9223372036854775807 by omega) (show (-9223372036854775808) ≤ 0 ∧ 0 ≤ 9223372036854775807 by omega) (show (-9223372036854775808) ≤ 3 ∧ 3 ≤ 9223372036854775807 by omega)
    refine Jcs (show mx_Sn _ _ 11 (mx_calls 154 3 14) from sn_278 11) hc2 rfl rfl rfl ?_
    have c29 : (x0 < 0 ∨ 3 < x0 ∨ x1 < 0 ∨ 3 < x1) → mx_J (tB l D b0 ad Hb tau) mt_278 (d + 1) 29 [some (.ref 56), some (xI x0), some (xI x1), some (xI x2), none] [] h1 Post := by
      intro f3_0
      refine JcI (z := (-2)) (show mx_Sn _ _ 29 (mx_const (.int (-2)) 31) from sn_278 29) rfl ?_
      have r80 : ∀ t, Z1 80 t = Z 80 t := fun t => up_nk hE1 rfl
      have r81 : ∀ t, Z1 81 t = Z 81 t := fun t => up_nk hE1 rfl
      exact mx_J.ret (sn_278 31) (fun _ _ => rfl) (hP (-2) Z1 h1 hx1 hG1 (fr_tr (M := [(56, 0), (80, (-1)), (81, (-1)), (82, (-1))]) fr_rf (fr_up hE1) (M1 := []) rfl rfl) ⟨(fun a _ => absurd (by omega) a), (fun i _ => (show ∀ i, Z1 82 i = Z 82 i from (fun i => (up_nk hE1 rfl))) i), (and3 (by omega) (⟨by omega, by first | exact nm_ref (x0 := x0) (x1 := x1) (x2 := x2) (by omega) r80 r81 | exact nm_ok (x0 := x0) (x1 := x1) (x2 := x2) (by omega) (by omega) ((y80 _).trans ((w80 _).trans a80)) ((y81 _).trans a81) (fun t e => (y80 t).trans ((w80 t).trans (u80 t e))) (fun t e => (y81 t).trans (u81 t e))⟩))⟩)
    refine Jif_eq (show mx_Sn _ _ 14 (mx_if_eq 29 17) from sn_278 14) (by omega) (fun q4 => ?_) (fun q4 => ?_)
    · skip
      exact c29 (by omega)
    · skip
      refine mx_J.step (sn_278 17) (fun _ _ => rfl) ?_
      refine Ji2l (show mx_Sn _ _ 18 (mx_i2l 19) from sn_278 18) (by omega) ?_
      refine JcL (z := 0) (show mx_Sn _ _ 19 (mx_const (.long 0) 20) from sn_278 19) rfl ?_
      refine JcL (z := 3) (show mx_Sn _ _ 20 (mx_const (.long 3) 23) from sn_278 20) rfl ?_
      obtain ⟨z5, hc5, b5⟩ := ct_154_ (d := d + 0) (l := l) (D := D) (b0 := b0) (ad := ad) (Hb := Hb) (tau := tau) hx1 hG1 (show (-9223372036854775808) ≤ x1 ∧ x1 ≤ 9223372036854775807 by omega) (show (-9223372036854775808) ≤ 0 ∧ 0 ≤ 9223372036854775807 by omega) (show (-9223372036854775808) ≤ 3 ∧ 3 ≤ 9223372036854775807 by omega)
      refine Jcs (show mx_Sn _ _ 23 (mx_calls 154 3 26) from sn_278 23) hc5 rfl rfl rfl ?_
      refine Jif_ne (show mx_Sn _ _ 26 (mx_if_ne 32 29) from sn_278 26) (by omega) (fun q6 => ?_) (fun q6 => ?_)
      · skip
        refine mx_J.step (sn_278 32) (fun _ _ => rfl) ?_
        refine Ji2l (show mx_Sn _ _ 33 (mx_i2l 34) from sn_278 33) (by omega) ?_
        refine JcL (z := 0) (show mx_Sn _ _ 34 (mx_const (.long 0) 35) from sn_278 34) rfl ?_
        refine JcL (z := 40) (show mx_Sn _ _ 35 (mx_const (.long 40) 38) from sn_278 35) rfl ?_
        obtain ⟨z7, hc7, b7⟩ := ct_154_ (d := d + 0) (l := l) (D := D) (b0 := b0) (ad := ad) (Hb := Hb) (tau := tau) hx1 hG1 (show (-9223372036854775808) ≤ x2 ∧ x2 ≤ 9223372036854775807 by omega) (show (-9223372036854775808) ≤ 0 ∧ 0 ≤ 9223372036854775807 by omega) (show (-9223372036854775808) ≤ 40 ∧ 40 ≤ 9223372036854775807 by omega)
        refine Jcs (show mx_Sn _ _ 38 (mx_calls 154 3 41) from sn_278 38) hc7 rfl rfl rfl ?_
        refine Jif_ne (show mx_Sn _ _ 41 (mx_if_ne 47 44) from sn_278 41) (by omega) (fun q8 => ?_) (fun q8 => ?_)
        · skip
          refine mx_J.step (sn_278 47) (fun _ _ => rfl) ?_
          refine JgetR (g := 39) (b := 80) hx1 (show mx_Sn _ _ 48 (mx_getf 12 39 51) from sn_278 48) a56 s56 rfl rfl (hG1.prr 56 39 rfl) ?_
          refine mx_J.step (sn_278 51) (fun _ _ => rfl) ?_
          refine mx_J.step (sn_278 52) (fun _ _ => rfl) ?_
          refine JiastI hx1 (show mx_Sn _ _ 53 (mx_iast 1 54) from sn_278 53) a80 s80 rfl (by omega) (fun Z10 h10 hx10 hE10 => ?_)
          have hG10 := GI_up hG1 hE10 (show (-1) ≤ x1 ∧ x1 ≤ 3 by omega) trivial rfl
          have u80 : ∀ t, ¬ t = x0 → Z10 80 t = Z 80 t := fun t e => (up_ni hE10 e).trans (up_nk hE1 rfl)
          have a80 : Z10 80 x0 = x1 := up_at hE10
          refine mx_J.step (sn_278 54) (fun _ _ => rfl) ?_
          refine JgetR (g := 40) (b := 81) hx10 (show mx_Sn _ _ 55 (mx_getf 12 40 58) from sn_278 55) a56 s56 rfl rfl (hG10.prr 56 40 rfl) ?_
          refine mx_J.step (sn_278 58) (fun _ _ => rfl) ?_
          refine mx_J.step (sn_278 59) (fun _ _ => rfl) ?_
          refine JiastI hx10 (show mx_Sn _ _ 60 (mx_iast 1 61) from sn_278 60) a81 s81 rfl (by omega) (fun Z12 h12 hx12 hE12 => ?_)
          have hG12 := GI_up hG10 hE12 (show 0 ≤ x2 ∧ x2 ≤ 40 by omega) trivial rfl
          have u81 : ∀ t, ¬ t = x0 → Z12 81 t = Z 81 t := fun t e => (up_ni hE12 e).trans ((up_nk hE10 rfl).trans (up_nk hE1 rfl))
          have a81 : Z12 81 x0 = x2 := up_at hE12
          have w80 : ∀ t, Z12 80 t = Z10 80 t := fun t => up_nk hE12 rfl
          refine JcI (z := 0) (show mx_Sn _ _ 61 (mx_const (.int 0) 62) from sn_278 61) rfl ?_
          refine mx_J.step (ls2 := [some (.ref 56), some (xI x0), some (xI x1), some (xI x2), some (xI 0)]) (sn_278 62) (fun _ _ => rfl) ?_
          have c64 : ∀ (m13 : Nat) (w13_4 : Int) (Z14 : xZ) (h14 : mx_H), 40 - w13_4 < (m13 : Int) → 0 ≤ w13_4 ∧ w13_4 ≤ 40 → (∀ i : Int, 0 ≤ i → i < w13_4 → Z14 82 (40 * x0 + i) = 0) → (∀ i : Int, (i < 40 * x0 ∨ 40 * x0 + 40 ≤ i) → Z14 82 i = Z 82 i) → XH n s S Z14 h14 → GI n S Z14 → fr' [(82, (-1))] Z12 Z14 → mx_J (tB l D b0 ad Hb tau) mt_278 (d + 1) 64 [some (.ref 56), some (xI x0), some (xI x1), some (xI x2), some (xI w13_4)] [] h14 Post := by
            intro m13
            induction m13 with
            | zero => intro w13_4 Z14 h14 q13 f13_0 f13_1 f13_2 hx14 hG14 hf14; exact absurd q13 (by omega)
            | succ m13 ih13 =>
              intro w13_4 Z14 h14 q13 f13_0 f13_1 f13_2 hx14 hG14 hf14
              refine mx_J.step (sn_278 64) (fun _ _ => rfl) ?_
              refine mx_J.step (sn_278 66) (fun _ _ => rfl) ?_
              refine Jicmp_ge (show mx_Sn _ _ 67 (mx_icmp_ge 89 70) from sn_278 67) (by omega) (by omega) (fun q15 => ?_) (fun q15 => ?_)
              · skip
                refine JcI (z := 0) (show mx_Sn _ _ 89 (mx_const (.int 0) 90) from sn_278 89) rfl ?_
                have y80 : ∀ t, Z14 80 t = Z12 80 t := fun t => hf14 80 t rfl
                have y81 : ∀ t, Z14 81 t = Z12 81 t := fun t => hf14 81 t rfl
                exact mx_J.ret (sn_278 90) (fun _ _ => rfl) (hP 0 Z14 h14 hx14 hG14 (fr_tr (M := [(56, 0), (80, (-1)), (81, (-1)), (82, (-1))]) (fr_tr (M := [(56, 0), (80, (-1)), (81, (-1)), (82, (-1))]) (fr_tr (M := [(56, 0), (80, (-1)), (81, (-1)), (82, (-1))]) (fr_tr (M := [(56, 0), (80, (-1)), (81, (-1)), (82, (-1))]) fr_rf (fr_up hE1) (M1 := []) rfl rfl) (fr_ua hE10) rfl rfl) (fr_ua hE12) rfl rfl) (hf14) rfl rfl) ⟨(fun _ _ i a b => (by assumption : (∀ i : Int, 0 ≤ i → i < w13_4 → Z14 82 (40 * x0 + i) = 0)) i a (by omega)), (fun i q => (by assumption : (∀ i : Int, (i < 40 * x0 ∨ 40 * x0 + 40 ≤ i) → Z14 82 i = Z 82 i)) i (by omega)), (and3 (by omega) (⟨by omega, by first | exact nm_ref (x0 := x0) (x1 := x1) (x2 := x2) (by omega) r80 r81 | exact nm_ok (x0 := x0) (x1 := x1) (x2 := x2) (by omega) (by omega) ((y80 _).trans ((w80 _).trans a80)) ((y81 _).trans a81) (fun t e => (y80 t).trans ((w80 t).trans (u80 t e))) (fun t e => (y81 t).trans (u81 t e))⟩))⟩)
              · skip
                refine mx_J.step (sn_278 70) (fun _ _ => rfl) ?_
                refine JgetR (g := 41) (b := 82) hx14 (show mx_Sn _ _ 71 (mx_getf 12 41 74) from sn_278 71) a56 s56 rfl rfl (hG14.prr 56 41 rfl) ?_
                refine JcI (z := 40) (show mx_Sn _ _ 74 (mx_const (.int 40) 76) from sn_278 74) rfl ?_
                refine mx_J.step (sn_278 76) (fun _ _ => rfl) ?_
                refine Jimul (show mx_Sn _ _ 77 (mx_imul 78) from sn_278 77) ?_
                refine mx_J.step (sn_278 78) (fun _ _ => rfl) ?_
                refine Jiadd (show mx_Sn _ _ 80 (mx_iadd 81) from sn_278 80) ?_
                refine JcL (z := 0) (show mx_Sn _ _ 81 (mx_const (.long 0) 82) from sn_278 81) rfl ?_
                refine JlastL hx14 (show mx_Sn _ _ 82 (mx_last 1 83) from sn_278 82) a82 s82 rfl (by omega) (fun Z17 h17 hx17 hE17 => ?_)
                have hG17 := GI_up hG14 hE17 (show (-9223372036854775808) ≤ 0 ∧ 0 ≤ 9223372036854775807 by omega) trivial rfl
                have z1a : (∀ i : Int, 0 ≤ i → i < w13_4 + 1 → Z17 82 (40 * x0 + i) = 0) := fun i a b => if e : i = w13_4 then (by rw [e]; exact up_at hE17) else (up_ni hE17 (by omega)).trans ((by assumption : (∀ i : Int, 0 ≤ i → i < w13_4 → Z14 82 (40 * x0 + i) = 0)) i a (by omega))
                have z2a : (∀ i : Int, (i < 40 * x0 ∨ 40 * x0 + 40 ≤ i) → Z17 82 i = Z 82 i) := fun i q => (up_ni hE17 (by omega)).trans ((by assumption : (∀ i : Int, (i < 40 * x0 ∨ 40 * x0 + 40 ≤ i) → Z14 82 i = Z 82 i)) i q)
                refine Jiinc (z := w13_4) (cz := 1) (ls2 := [some (.ref 56), some (xI x0), some (xI x1), some (xI x2), some (xI (w13_4 + 1))]) (show mx_Sn _ _ 83 (mx_iinc 4 1 86) from sn_278 83) rfl rfl rfl rfl ?_
                refine mx_J.step (sn_278 86) (fun _ _ => rfl) ?_
                exact ih13 (w13_4 + 1) Z17 h17 (by omega) (by omega) (z1a) (z2a) hx17 hG17 (fr_tr (M := [(82, (-1))]) (fr_tr (M := [(82, (-1))]) fr_rf (hf14) (M1 := []) rfl rfl) (fr_ua hE17) rfl rfl)
          exact c64 (Int.toNat (40 - 0) + 1) 0 Z12 h12 (by omega) (by omega) (fun i a b => absurd b (by omega)) (fun i _ => (show ∀ i, Z12 82 i = Z 82 i from (fun i => ((up_nk hE12 rfl).trans ((up_nk hE10 rfl).trans (up_nk hE1 rfl))))) i) hx12 hG12 fr_rf
        · skip
          refine JcI (z := (-3)) (show mx_Sn _ _ 44 (mx_const (.int (-3)) 46) from sn_278 44) rfl ?_
          have r80 : ∀ t, Z1 80 t = Z 80 t := fun t => up_nk hE1 rfl
          have r81 : ∀ t, Z1 81 t = Z 81 t := fun t => up_nk hE1 rfl
          exact mx_J.ret (sn_278 46) (fun _ _ => rfl) (hP (-3) Z1 h1 hx1 hG1 (fr_tr (M := [(56, 0), (80, (-1)), (81, (-1)), (82, (-1))]) fr_rf (fr_up hE1) (M1 := []) rfl rfl) ⟨(fun _ b => absurd (by omega) b), (fun i _ => (show ∀ i, Z1 82 i = Z 82 i from (fun i => (up_nk hE1 rfl))) i), (and3 (by omega) (⟨by omega, by first | exact nm_ref (x0 := x0) (x1 := x1) (x2 := x2) (by omega) r80 r81 | exact nm_ok (x0 := x0) (x1 := x1) (x2 := x2) (by omega) (by omega) ((y80 _).trans ((w80 _).trans a80)) ((y81 _).trans a81) (fun t e => (y80 t).trans ((w80 t).trans (u80 t e))) (fun t e => (y81 t).trans (u81 t e))⟩))⟩)
      · skip
        exact c29 (by omega)
theorem ct_278_56 {l : Launch} {D : va_G} {b0 : Nat} {ad : Nat → Nat} {Hb : Heap} {tau : Nat → Int64} {d n s : Nat} {S : Nat → xS} {Z : xZ} {h : mx_H} (hx : XH n s S Z h) (hG : GI n S Z)  {x0 x1 x2 : Int} (p0 : (-2147483648) ≤ x0 ∧ x0 ≤ 2147483647) (p1 : (-2147483648) ≤ x1 ∧ x1 ≤ 2147483647) (p2 : (-2147483648) ≤ x2 ∧ x2 ≤ 2147483647) : ∃ (z : Int) (Z' : xZ) (h' : mx_H), mx_Ca (tB l D b0 ad Hb tau) (d + 2) 278 [.ref 56, xI x0, xI x1, xI x2] h (some (xI z), h') ∧ XH n s S Z' h' ∧ GI n S Z' ∧ fr' [(56, 0), (80, (-1)), (81, (-1)), (82, (-1))] Z Z' ∧ ((¬ (x0 < 0 ∨ 3 < x0 ∨ x1 < 0 ∨ 3 < x1) → ¬ (x2 < 0 ∨ 40 < x2) → ∀ i : Int, 0 ≤ i → i < x2 → Z' 82 (40 * x0 + i) = 0) ∧ (∀ i : Int, ((x0 < 0 ∨ 3 < x0 ∨ x1 < 0 ∨ 3 < x1) ∨ (x2 < 0 ∨ 40 < x2) ∨ i < 40 * x0 ∨ 40 * x0 + 40 ≤ i) → Z' 82 i = Z 82 i) ∧ (-3) ≤ z ∧ z ≤ 0 ∧ ((((x0 < 0 ∨ 3 < x0 ∨ x1 < 0 ∨ 3 < x1) → z = -2) ∧ (¬ (x0 < 0 ∨ 3 < x0 ∨ x1 < 0 ∨ 3 < x1) → (x2 < 0 ∨ 40 < x2) → z = -3) ∧ (¬ (x0 < 0 ∨ 3 < x0 ∨ x1 < 0 ∨ 3 < x1) → ¬ (x2 < 0 ∨ 40 < x2) → z = 0)) ∧ ((((x0 < 0 ∨ 3 < x0 ∨ x1 < 0 ∨ 3 < x1) ∨ (x2 < 0 ∨ 40 < x2) ∨ ¬ x0 = 0) → Z' 80 0 = Z 80 0 ∧ Z' 81 0 = Z 81 0) ∧ (¬ (x0 < 0 ∨ 3 < x0 ∨ x1 < 0 ∨ 3 < x1) → ¬ (x2 < 0 ∨ 40 < x2) → x0 = 0 → Z' 80 0 = x1 ∧ Z' 81 0 = x2) ∧ (((x0 < 0 ∨ 3 < x0 ∨ x1 < 0 ∨ 3 < x1) ∨ (x2 < 0 ∨ 40 < x2) ∨ ¬ x0 = 1) → Z' 80 1 = Z 80 1 ∧ Z' 81 1 = Z 81 1) ∧ (¬ (x0 < 0 ∨ 3 < x0 ∨ x1 < 0 ∨ 3 < x1) → ¬ (x2 < 0 ∨ 40 < x2) → x0 = 1 → Z' 80 1 = x1 ∧ Z' 81 1 = x2) ∧ (((x0 < 0 ∨ 3 < x0 ∨ x1 < 0 ∨ 3 < x1) ∨ (x2 < 0 ∨ 40 < x2) ∨ ¬ x0 = 2) → Z' 80 2 = Z 80 2 ∧ Z' 81 2 = Z 81 2) ∧ (¬ (x0 < 0 ∨ 3 < x0 ∨ x1 < 0 ∨ 3 < x1) → ¬ (x2 < 0 ∨ 40 < x2) → x0 = 2 → Z' 80 2 = x1 ∧ Z' 81 2 = x2) ∧ (((x0 < 0 ∨ 3 < x0 ∨ x1 < 0 ∨ 3 < x1) ∨ (x2 < 0 ∨ 40 < x2) ∨ ¬ x0 = 3) → Z' 80 3 = Z 80 3 ∧ Z' 81 3 = Z 81 3) ∧ (¬ (x0 < 0 ∨ 3 < x0 ∨ x1 < 0 ∨ 3 < x1) → ¬ (x2 < 0 ∨ 40 < x2) → x0 = 3 → Z' 80 3 = x1 ∧ Z' 81 3 = x2)))) := by
  obtain ⟨r, hca, z, Z', h', e, q⟩ := Jmt (B := tB l D b0 ad Hb tau) (M := mt_278) (mi := 278) (as := [.ref 56, xI x0, xI x1, xI x2]) (d := d + 1) (ls := [some (.ref 56), some (xI x0), some (xI x1), some (xI x2), none]) rfl rfl rfl rfl rfl rfl (cw_278_56 (l := l) (D := D) (b0 := b0) (ad := ad) (Hb := Hb) (tau := tau) (d := d) (Post := fun r => ∃ (z : Int) (Z' : xZ) (h' : mx_H), r = (some (xI z), h') ∧ XH n s S Z' h' ∧ GI n S Z' ∧ fr' [(56, 0), (80, (-1)), (81, (-1)), (82, (-1))] Z Z' ∧ ((¬ (x0 < 0 ∨ 3 < x0 ∨ x1 < 0 ∨ 3 < x1) → ¬ (x2 < 0 ∨ 40 < x2) → ∀ i : Int, 0 ≤ i → i < x2 → Z' 82 (40 * x0 + i) = 0) ∧ (∀ i : Int, ((x0 < 0 ∨ 3 < x0 ∨ x1 < 0 ∨ 3 < x1) ∨ (x2 < 0 ∨ 40 < x2) ∨ i < 40 * x0 ∨ 40 * x0 + 40 ≤ i) → Z' 82 i = Z 82 i) ∧ (-3) ≤ z ∧ z ≤ 0 ∧ ((((x0 < 0 ∨ 3 < x0 ∨ x1 < 0 ∨ 3 < x1) → z = -2) ∧ (¬ (x0 < 0 ∨ 3 < x0 ∨ x1 < 0 ∨ 3 < x1) → (x2 < 0 ∨ 40 < x2) → z = -3) ∧ (¬ (x0 < 0 ∨ 3 < x0 ∨ x1 < 0 ∨ 3 < x1) → ¬ (x2 < 0 ∨ 40 < x2) → z = 0)) ∧ ((((x0 < 0 ∨ 3 < x0 ∨ x1 < 0 ∨ 3 < x1) ∨ (x2 < 0 ∨ 40 < x2) ∨ ¬ x0 = 0) → Z' 80 0 = Z 80 0 ∧ Z' 81 0 = Z 81 0) ∧ (¬ (x0 < 0 ∨ 3 < x0 ∨ x1 < 0 ∨ 3 < x1) → ¬ (x2 < 0 ∨ 40 < x2) → x0 = 0 → Z' 80 0 = x1 ∧ Z' 81 0 = x2) ∧ (((x0 < 0 ∨ 3 < x0 ∨ x1 < 0 ∨ 3 < x1) ∨ (x2 < 0 ∨ 40 < x2) ∨ ¬ x0 = 1) → Z' 80 1 = Z 80 1 ∧ Z' 81 1 = Z 81 1) ∧ (¬ (x0 < 0 ∨ 3 < x0 ∨ x1 < 0 ∨ 3 < x1) → ¬ (x2 < 0 ∨ 40 < x2) → x0 = 1 → Z' 80 1 = x1 ∧ Z' 81 1 = x2) ∧ (((x0 < 0 ∨ 3 < x0 ∨ x1 < 0 ∨ 3 < x1) ∨ (x2 < 0 ∨ 40 < x2) ∨ ¬ x0 = 2) → Z' 80 2 = Z 80 2 ∧ Z' 81 2 = Z 81 2) ∧ (¬ (x0 < 0 ∨ 3 < x0 ∨ x1 < 0 ∨ 3 < x1) → ¬ (x2 < 0 ∨ 40 < x2) → x0 = 2 → Z' 80 2 = x1 ∧ Z' 81 2 = x2) ∧ (((x0 < 0 ∨ 3 < x0 ∨ x1 < 0 ∨ 3 < x1) ∨ (x2 < 0 ∨ 40 < x2) ∨ ¬ x0 = 3) → Z' 80 3 = Z 80 3 ∧ Z' 81 3 = Z 81 3) ∧ (¬ (x0 < 0 ∨ 3 < x0 ∨ x1 < 0 ∨ 3 < x1) → ¬ (x2 < 0 ∨ 40 < x2) → x0 = 3 → Z' 80 3 = x1 ∧ Z' 81 3 = x2))))) hx hG p0 p1 p2 (fun z Z' h' q1 q2 q3 q4 => ⟨z, Z', h', rfl, q1, q2, q3, q4⟩))
  subst e; exact ⟨z, Z', h', hca, q⟩
set_option maxRecDepth 100000 in
theorem cw_279_56 {l : Launch} {D : va_G} {b0 : Nat} {ad : Nat → Nat} {Hb : Heap} {tau : Nat → Int64} {d n s : Nat} {S : Nat → xS} {Z : xZ} {h : mx_H} {Post : mx_R → Prop} (hx : XH n s S Z h) (hG : GI n S Z)  {x0 x1 x2 : Int} (p0 : (-2147483648) ≤ x0 ∧ x0 ≤ 2147483647) (p1 : (-2147483648) ≤ x1 ∧ x1 ≤ 2147483647) (p2 : (-9223372036854775808) ≤ x2 ∧ x2 ≤ 9223372036854775807) (hP : ∀ (z : Int) (Z' : xZ) (h' : mx_H), XH n s S Z' h' → GI n S Z' → fr' [(56, 0), (82, (-1))] Z Z' → ((0 ≤ x0 ∧ x0 ≤ 3 ∧ ¬ Z 80 x0 = -1 ∧ 0 ≤ x1 ∧ x1 < Z 81 x0) → Z' 82 (40 * x0 + x1) = z) ∧ (∀ i : Int, (¬ (0 ≤ x0 ∧ x0 ≤ 3 ∧ ¬ Z 80 x0 = -1 ∧ 0 ≤ x1 ∧ x1 < Z 81 x0) ∨ ¬ i = 40 * x0 + x1) → Z' 82 i = Z 82 i) ∧ (-9223372036854775808) ≤ z ∧ z ≤ 9223372036854775807 ∧ (((x0 < 0 ∨ 3 < x0) → z = -2) ∧ (0 ≤ x0 → x0 ≤ 3 → (Z 80 x0 = -1 → z = -6) ∧ (¬ Z 80 x0 = -1 → ((x1 < 0 ∨ Z 81 x0 ≤ x1) → z = -7) ∧ (¬ (x1 < 0 ∨ Z 81 x0 ≤ x1) → ((Z 80 x0 = 0 → -128 ≤ z ∧ z ≤ 127 ∧ (z - x2) % 256 = 0) ∧ (Z 80 x0 = 1 → -32768 ≤ z ∧ z ≤ 32767 ∧ (z - x2) % 65536 = 0) ∧ (Z 80 x0 = 2 → -2147483648 ≤ z ∧ z ≤ 2147483647 ∧ (z - x2) % 4294967296 = 0) ∧ (¬ Z 80 x0 = 0 → ¬ Z 80 x0 = 1 → ¬ Z 80 x0 = 2 → z = x2)))))) → Post (some (xL z), h')) : mx_J (tB l D b0 ad Hb tau) mt_279 (d + 2) 0 [some (.ref 56), some (xI x0), some (xI x1), some (xL x2), none, none] [] h Post := by
    have a56 : 56 < n := lt83 (GI_n hG) rfl
    have s56 : S 56 = .inl (12, [0, 2, 2, 2, 2, 0, 0, 0, 0, 0, 0, 0, 0, 0, 0, 2, 2, 2, 0, 2, 2, 2, 0, 0, 2, 2, 2, 2, 2, 2, 0, 0, 2, 2, 2, 2, 2, 2, 2, 2, 2, 2]) := GI_s hG 56 rfl
    have a80 : 80 < n := lt83 (GI_n hG) rfl
    have s80 : S 80 = .inr (.int, 4, 0) := GI_s hG 80 rfl
    have a81 : 81 < n := lt83 (GI_n hG) rfl
    have s81 : S 81 = .inr (.int, 4, 0) := GI_s hG 81 rfl
    have a82 : 82 < n := lt83 (GI_n hG) rfl
    have s82 : S 82 = .inr (.long, 160, 1) := GI_s hG 82 rfl
    refine mx_J.step (sn_279 0) (fun _ _ => rfl) ?_
    refine JcI (z := 0) (show mx_Sn _ _ 1 (mx_const (.int 0) 2) from sn_279 1) rfl ?_
    refine JputI (g := 0) hx (show mx_Sn _ _ 2 (mx_putf 1 12 0 (.int) 5) from sn_279 2) a56 s56 rfl rfl rfl rfl (fun Z1 h1 hx1 hE1 => ?_)
    have hG1 := GI_up hG hE1 (show (-2147483648) ≤ 0 ∧ 0 ≤ 2147483647 by omega) trivial rfl
    refine mx_J.step (sn_279 5) (fun _ _ => rfl) ?_
    refine mx_J.step (sn_279 6) (fun _ _ => rfl) ?_
    have eq3 : Z1 80 x0 = Z 80 x0 := (up_nk hE1 rfl)
    have b4 : (-1) ≤ Z 80 x0 ∧ Z 80 x0 ≤ 3 := hG.pr 80 x0
    obtain ⟨z2, hc2, b2⟩ := ct_220_56 (d := d + 0) (l := l) (D := D) (b0 := b0) (ad := ad) (Hb := Hb) (tau := tau) hx1 hG1 (show (-2147483648) ≤ x0 ∧ x0 ≤ 2147483647 by omega)
    try rw [eq3] at b2
    refine Jcv hx1 (show mx_Sn _ _ 7 (mx_callv 220 2 12 10) from sn_279 7) a56 s56 hc2 rfl rfl rfl ?_
    refine mx_J.step (ls2 := [some (.ref 56), some (xI x0), some (xI x1), some (xL x2), none, some (xI z2)]) (sn_279 10) (fun _ _ => rfl) ?_
    refine mx_J.step (sn_279 12) (fun _ _ => rfl) ?_
    refine Jif_eq (show mx_Sn _ _ 14 (mx_if_eq 21 17) from sn_279 14) (by omega) (fun q5 => ?_) (fun q5 => ?_)
    · skip
      refine mx_J.step (sn_279 21) (fun _ _ => rfl) ?_
      refine Ji2l (show mx_Sn _ _ 22 (mx_i2l 23) from sn_279 22) (by omega) ?_
      refine JcL (z := 0) (show mx_Sn _ _ 23 (mx_const (.long 0) 24) from sn_279 23) rfl ?_
      refine mx_J.step (sn_279 24) (fun _ _ => rfl) ?_
      refine JgetR (g := 40) (b := 81) hx1 (show mx_Sn _ _ 25 (mx_getf 12 40 28) from sn_279 25) a56 s56 rfl rfl (hG1.prr 56 40 rfl) ?_
      refine mx_J.step (sn_279 28) (fun _ _ => rfl) ?_
      have b7 : 0 ≤ Z 81 x0 ∧ Z 81 x0 ≤ 40 := hG.pr 81 x0
      refine JialdI (z := Z 81 x0) hx1 (show mx_Sn _ _ 29 (mx_iald 30) from sn_279 29) a81 s81 (by omega) (up_nk hE1 rfl) ?_
      refine JcI (z := 1) (show mx_Sn _ _ 30 (mx_const (.int 1) 31) from sn_279 30) rfl ?_
      refine Jisub (show mx_Sn _ _ 31 (mx_isub 32) from sn_279 31) ?_
      refine Ji2l (show mx_Sn _ _ 32 (mx_i2l 33) from sn_279 32) (by omega) ?_
      obtain ⟨z8, hc8, b8⟩ := ct_154_ (d := d + 1) (l := l) (D := D) (b0 := b0) (ad := ad) (Hb := Hb) (tau := tau) hx1 hG1 (show (-9223372036854775808) ≤ x1 ∧ x1 ≤ 9223372036854775807 by omega) (show (-9223372036854775808) ≤ 0 ∧ 0 ≤ 9223372036854775807 by omega) (show (-9223372036854775808) ≤ (Z 81 x0) - 1 ∧ (Z 81 x0) - 1 ≤ 9223372036854775807 by omega)
      refine Jcs (show mx_Sn _ _ 33 (mx_calls 154 3 36) from sn_279 33) hc8 rfl rfl rfl ?_
      refine Jif_ne (show mx_Sn _ _ 36 (mx_if_ne 43 39) from sn_279 36) (by omega) (fun q9 => ?_) (fun q9 => ?_)
      · skip
        refine mx_J.step (sn_279 43) (fun _ _ => rfl) ?_
        refine JgetR (g := 41) (b := 82) hx1 (show mx_Sn _ _ 44 (mx_getf 12 41 47) from sn_279 44) a56 s56 rfl rfl (hG1.prr 56 41 rfl) ?_
        refine JcI (z := 40) (show mx_Sn _ _ 47 (mx_const (.int 40) 49) from sn_279 47) rfl ?_
        refine mx_J.step (sn_279 49) (fun _ _ => rfl) ?_
        refine Jimul (show mx_Sn _ _ 50 (mx_imul 51) from sn_279 50) ?_
        refine mx_J.step (sn_279 51) (fun _ _ => rfl) ?_
        refine Jiadd (show mx_Sn _ _ 52 (mx_iadd 53) from sn_279 52) ?_
        refine mx_J.step (sn_279 53) (fun _ _ => rfl) ?_
        refine mx_J.step (sn_279 54) (fun _ _ => rfl) ?_
        refine JgetR (g := 39) (b := 80) hx1 (show mx_Sn _ _ 55 (mx_getf 12 39 58) from sn_279 55) a56 s56 rfl rfl (hG1.prr 56 39 rfl) ?_
        refine mx_J.step (sn_279 58) (fun _ _ => rfl) ?_
        refine JialdI (z := Z 80 x0) hx1 (show mx_Sn _ _ 59 (mx_iald 60) from sn_279 59) a80 s80 (by omega) (up_nk hE1 rfl) ?_
        obtain ⟨z12, hc12, b12⟩ := ct_277_ (d := d + 1) (l := l) (D := D) (b0 := b0) (ad := ad) (Hb := Hb) (tau := tau) hx1 hG1 (show (-9223372036854775808) ≤ x2 ∧ x2 ≤ 9223372036854775807 by omega) (show (-2147483648) ≤ Z 80 x0 ∧ Z 80 x0 ≤ 2147483647 by omega)
        refine Jcs (show mx_Sn _ _ 60 (mx_calls 277 2 63) from sn_279 60) hc12 rfl rfl rfl ?_
        refine JlastL hx1 (show mx_Sn _ _ 63 (mx_last 1 64) from sn_279 63) a82 s82 rfl (by omega) (fun Z13 h13 hx13 hE13 => ?_)
        have hG13 := GI_up hG1 hE13 (show (-9223372036854775808) ≤ z12 ∧ z12 ≤ 9223372036854775807 by omega) trivial rfl
        have i0 : Z13 82 (40 * x0 + x1) = z12 := up_at hE13
        have w82 : ∀ i, Z1 82 i = Z 82 i := fun i => up_nk hE1 rfl
        refine mx_J.step (sn_279 64) (fun _ _ => rfl) ?_
        refine JgetR (g := 41) (b := 82) hx13 (show mx_Sn _ _ 65 (mx_getf 12 41 68) from sn_279 65) a56 s56 rfl rfl (hG13.prr 56 41 rfl) ?_
        refine JcI (z := 40) (show mx_Sn _ _ 68 (mx_const (.int 40) 70) from sn_279 68) rfl ?_
        refine mx_J.step (sn_279 70) (fun _ _ => rfl) ?_
        refine Jimul (show mx_Sn _ _ 71 (mx_imul 72) from sn_279 71) ?_
        refine mx_J.step (sn_279 72) (fun _ _ => rfl) ?_
        refine Jiadd (show mx_Sn _ _ 73 (mx_iadd 74) from sn_279 73) ?_
        have b15 : (-9223372036854775808) ≤ Z13 82 ((40 * x0) + x1) ∧ Z13 82 ((40 * x0) + x1) ≤ 9223372036854775807 := hG13.pr 82 ((40 * x0) + x1)
        refine JlaldL (z := Z13 82 ((40 * x0) + x1)) hx13 (show mx_Sn _ _ 74 (mx_lald 75) from sn_279 74) a82 s82 (by omega) rfl ?_
        have eq16 : Z13 80 x0 = Z 80 x0 := ((up_nk hE13 rfl).trans (up_nk hE1 rfl))
        have eq17 : Z13 81 x0 = Z 81 x0 := ((up_nk hE13 rfl).trans (up_nk hE1 rfl))
        exact mx_J.ret (sn_279 75) (fun _ _ => rfl) (hP (Z13 82 ((40 * x0) + x1)) Z13 h13 hx13 hG13 (fr_tr (M := [(56, 0), (82, (-1))]) (fr_tr (M := [(56, 0), (82, (-1))]) fr_rf (fr_up hE1) (M1 := []) rfl rfl) (fr_ua hE13) rfl rfl) ⟨(fun _ => by omega), (fun i q => (up_ni hE13 (by omega)).trans (w82 i)), by omega⟩)
      · skip
        refine JcL (z := (-7)) (show mx_Sn _ _ 39 (mx_const (.long (-7)) 42) from sn_279 39) rfl ?_
        have eq18 : Z1 80 x0 = Z 80 x0 := (up_nk hE1 rfl)
        have eq19 : Z1 81 x0 = Z 81 x0 := (up_nk hE1 rfl)
        exact mx_J.ret (sn_279 42) (fun _ _ => rfl) (hP (-7) Z1 h1 hx1 hG1 (fr_tr (M := [(56, 0), (82, (-1))]) fr_rf (fr_up hE1) (M1 := []) rfl rfl) ⟨(fun q => False.elim (by omega)), (fun i _ => (show ∀ i, Z1 82 i = Z 82 i from (fun i => (up_nk hE1 rfl))) i), by omega⟩)
    · skip
      refine mx_J.step (sn_279 17) (fun _ _ => rfl) ?_
      refine Ji2l (show mx_Sn _ _ 19 (mx_i2l 20) from sn_279 19) (by omega) ?_
      have eq20 : Z1 80 x0 = Z 80 x0 := (up_nk hE1 rfl)
      have eq21 : Z1 81 x0 = Z 81 x0 := (up_nk hE1 rfl)
      have b22 : 0 ≤ Z 81 x0 ∧ Z 81 x0 ≤ 40 := hG.pr 81 x0
      exact mx_J.ret (sn_279 20) (fun _ _ => rfl) (hP z2 Z1 h1 hx1 hG1 (fr_tr (M := [(56, 0), (82, (-1))]) fr_rf (fr_up hE1) (M1 := []) rfl rfl) ⟨(fun q => False.elim (by omega)), (fun i _ => (show ∀ i, Z1 82 i = Z 82 i from (fun i => (up_nk hE1 rfl))) i), by omega⟩)
theorem ct_279_56 {l : Launch} {D : va_G} {b0 : Nat} {ad : Nat → Nat} {Hb : Heap} {tau : Nat → Int64} {d n s : Nat} {S : Nat → xS} {Z : xZ} {h : mx_H} (hx : XH n s S Z h) (hG : GI n S Z)  {x0 x1 x2 : Int} (p0 : (-2147483648) ≤ x0 ∧ x0 ≤ 2147483647) (p1 : (-2147483648) ≤ x1 ∧ x1 ≤ 2147483647) (p2 : (-9223372036854775808) ≤ x2 ∧ x2 ≤ 9223372036854775807) : ∃ (z : Int) (Z' : xZ) (h' : mx_H), mx_Ca (tB l D b0 ad Hb tau) (d + 3) 279 [.ref 56, xI x0, xI x1, xL x2] h (some (xL z), h') ∧ XH n s S Z' h' ∧ GI n S Z' ∧ fr' [(56, 0), (82, (-1))] Z Z' ∧ (((0 ≤ x0 ∧ x0 ≤ 3 ∧ ¬ Z 80 x0 = -1 ∧ 0 ≤ x1 ∧ x1 < Z 81 x0) → Z' 82 (40 * x0 + x1) = z) ∧ (∀ i : Int, (¬ (0 ≤ x0 ∧ x0 ≤ 3 ∧ ¬ Z 80 x0 = -1 ∧ 0 ≤ x1 ∧ x1 < Z 81 x0) ∨ ¬ i = 40 * x0 + x1) → Z' 82 i = Z 82 i) ∧ (-9223372036854775808) ≤ z ∧ z ≤ 9223372036854775807 ∧ (((x0 < 0 ∨ 3 < x0) → z = -2) ∧ (0 ≤ x0 → x0 ≤ 3 → (Z 80 x0 = -1 → z = -6) ∧ (¬ Z 80 x0 = -1 → ((x1 < 0 ∨ Z 81 x0 ≤ x1) → z = -7) ∧ (¬ (x1 < 0 ∨ Z 81 x0 ≤ x1) → ((Z 80 x0 = 0 → -128 ≤ z ∧ z ≤ 127 ∧ (z - x2) % 256 = 0) ∧ (Z 80 x0 = 1 → -32768 ≤ z ∧ z ≤ 32767 ∧ (z - x2) % 65536 = 0) ∧ (Z 80 x0 = 2 → -2147483648 ≤ z ∧ z ≤ 2147483647 ∧ (z - x2) % 4294967296 = 0) ∧ (¬ Z 80 x0 = 0 → ¬ Z 80 x0 = 1 → ¬ Z 80 x0 = 2 → z = x2))))))) := by
  obtain ⟨r, hca, z, Z', h', e, q⟩ := Jmt (B := tB l D b0 ad Hb tau) (M := mt_279) (mi := 279) (as := [.ref 56, xI x0, xI x1, xL x2]) (d := d + 2) (ls := [some (.ref 56), some (xI x0), some (xI x1), some (xL x2), none, none]) rfl rfl rfl rfl rfl rfl (cw_279_56 (l := l) (D := D) (b0 := b0) (ad := ad) (Hb := Hb) (tau := tau) (d := d) (Post := fun r => ∃ (z : Int) (Z' : xZ) (h' : mx_H), r = (some (xL z), h') ∧ XH n s S Z' h' ∧ GI n S Z' ∧ fr' [(56, 0), (82, (-1))] Z Z' ∧ (((0 ≤ x0 ∧ x0 ≤ 3 ∧ ¬ Z 80 x0 = -1 ∧ 0 ≤ x1 ∧ x1 < Z 81 x0) → Z' 82 (40 * x0 + x1) = z) ∧ (∀ i : Int, (¬ (0 ≤ x0 ∧ x0 ≤ 3 ∧ ¬ Z 80 x0 = -1 ∧ 0 ≤ x1 ∧ x1 < Z 81 x0) ∨ ¬ i = 40 * x0 + x1) → Z' 82 i = Z 82 i) ∧ (-9223372036854775808) ≤ z ∧ z ≤ 9223372036854775807 ∧ (((x0 < 0 ∨ 3 < x0) → z = -2) ∧ (0 ≤ x0 → x0 ≤ 3 → (Z 80 x0 = -1 → z = -6) ∧ (¬ Z 80 x0 = -1 → ((x1 < 0 ∨ Z 81 x0 ≤ x1) → z = -7) ∧ (¬ (x1 < 0 ∨ Z 81 x0 ≤ x1) → ((Z 80 x0 = 0 → -128 ≤ z ∧ z ≤ 127 ∧ (z - x2) % 256 = 0) ∧ (Z 80 x0 = 1 → -32768 ≤ z ∧ z ≤ 32767 ∧ (z - x2) % 65536 = 0) ∧ (Z 80 x0 = 2 → -2147483648 ≤ z ∧ z ≤ 2147483647 ∧ (z - x2) % 4294967296 = 0) ∧ (¬ Z 80 x0 = 0 → ¬ Z 80 x0 = 1 → ¬ Z 80 x0 = 2 → z = x2)))))))) hx hG p0 p1 p2 (fun z Z' h' q1 q2 q3 q4 => ⟨z, Z', h', rfl, q1, q2, q3, q4⟩))
  subst e; exact ⟨z, Z', h', hca, q⟩
set_option maxRecDepth 100000 in
theorem cw_280_56 {l : Launch} {D : va_G} {b0 : Nat} {ad : Nat → Nat} {Hb : Heap} {tau : Nat → Int64} {d n s : Nat} {S : Nat → xS} {Z : xZ} {h : mx_H} {Post : mx_R → Prop} (hx : XH n s S Z h) (hG : GI n S Z)  {x0 x1 : Int} (p0 : (-2147483648) ≤ x0 ∧ x0 ≤ 2147483647) (p1 : (-2147483648) ≤ x1 ∧ x1 ≤ 2147483647) (k0 : RTB Z (Z 57 1)) (k1 : 1 ≤ Z 57 1) (hP : ∀ (z : Int) (Z' : xZ) (h' : mx_H), XH n s S Z' h' → GI n S Z' → fr' [(56, 0), (82, (-1))] Z Z' → (0 ≤ x0 → x0 ≤ 3 → 0 ≤ z → LI (hpk (Z 57 1) x1) (fun j => Z 82 (40 * x0 + j)) (fun j => Z' 82 (40 * x0 + j)) z) ∧ (∀ i : Int, (z < 0 ∨ i < 40 * x0 ∨ 40 * x0 + 40 ≤ i) → Z' 82 i = Z 82 i) ∧ (-6) ≤ z ∧ z ≤ 18 ∧ (((x0 < 0 ∨ 3 < x0) → z = -2) ∧ (0 ≤ x0 → x0 ≤ 3 → (Z 80 x0 = -1 → z = -6) ∧ (¬ Z 80 x0 = -1 → ((x1 < 0 ∨ pN (Z 57 1) ≤ x1) → z = -3) ∧ (¬ (x1 < 0 ∨ pN (Z 57 1) ≤ x1) → (hln (Z 57 1) x1 ≤ Z 81 x0 → z = hln (Z 57 1) x1) ∧ (Z 81 x0 < hln (Z 57 1) x1 → z = Z 81 x0))))) → Post (some (xI z), h')) : mx_J (tB l D b0 ad Hb tau) mt_280 (d + 2) 0 [some (.ref 56), some (xI x0), some (xI x1), none, none, none] [] h Post := by
    have a56 : 56 < n := lt83 (GI_n hG) rfl
    have s56 : S 56 = .inl (12, [0, 2, 2, 2, 2, 0, 0, 0, 0, 0, 0, 0, 0, 0, 0, 2, 2, 2, 0, 2, 2, 2, 0, 0, 2, 2, 2, 2, 2, 2, 0, 0, 2, 2, 2, 2, 2, 2, 2, 2, 2, 2]) := GI_s hG 56 rfl
    have a81 : 81 < n := lt83 (GI_n hG) rfl
    have s81 : S 81 = .inr (.int, 4, 0) := GI_s hG 81 rfl
    have a82 : 82 < n := lt83 (GI_n hG) rfl
    have s82 : S 82 = .inr (.long, 160, 1) := GI_s hG 82 rfl
    have e18 : Z 56 18 = pN (Z 57 1) := (GI_stt hG).1
    have hN9 : 1 ≤ Z 57 1 ∧ Z 57 1 ≤ 18 := ⟨k1, by have hq := GB_ex (GI_gb hG) 57 1; replace hq : f57 (1 % 962) (Z 57 1) := hq; unfold f57 at hq; omega⟩
    refine mx_J.step (sn_280 0) (fun _ _ => rfl) ?_
    refine JcI (z := 0) (show mx_Sn _ _ 1 (mx_const (.int 0) 2) from sn_280 1) rfl ?_
    refine JputI (g := 0) hx (show mx_Sn _ _ 2 (mx_putf 1 12 0 (.int) 5) from sn_280 2) a56 s56 rfl rfl rfl rfl (fun Z1 h1 hx1 hE1 => ?_)
    have hG1 := GI_up hG hE1 (show (-2147483648) ≤ 0 ∧ 0 ≤ 2147483647 by omega) trivial rfl
    refine mx_J.step (sn_280 5) (fun _ _ => rfl) ?_
    refine mx_J.step (sn_280 6) (fun _ _ => rfl) ?_
    have eq3 : Z1 80 x0 = Z 80 x0 := (up_nk hE1 rfl)
    have b4 : (-1) ≤ Z 80 x0 ∧ Z 80 x0 ≤ 3 := hG.pr 80 x0
    obtain ⟨z2, hc2, b2⟩ := ct_220_56 (d := d + 0) (l := l) (D := D) (b0 := b0) (ad := ad) (Hb := Hb) (tau := tau) hx1 hG1 (show (-2147483648) ≤ x0 ∧ x0 ≤ 2147483647 by omega)
    try rw [eq3] at b2
    refine Jcv hx1 (show mx_Sn _ _ 7 (mx_callv 220 2 12 10) from sn_280 7) a56 s56 hc2 rfl rfl rfl ?_
    refine mx_J.step (ls2 := [some (.ref 56), some (xI x0), some (xI x1), some (xI z2), none, none]) (sn_280 10) (fun _ _ => rfl) ?_
    refine mx_J.step (sn_280 11) (fun _ _ => rfl) ?_
    refine Jif_eq (show mx_Sn _ _ 12 (mx_if_eq 17 15) from sn_280 12) (by omega) (fun q5 => ?_) (fun q5 => ?_)
    · skip
      refine mx_J.step (sn_280 17) (fun _ _ => rfl) ?_
      refine Ji2l (show mx_Sn _ _ 18 (mx_i2l 19) from sn_280 18) (by omega) ?_
      refine JcL (z := 0) (show mx_Sn _ _ 19 (mx_const (.long 0) 20) from sn_280 19) rfl ?_
      refine mx_J.step (sn_280 20) (fun _ _ => rfl) ?_
      have b7 : 0 ≤ Z 56 18 ∧ Z 56 18 ≤ 385 := hG.pr 56 18
      refine JgetI (g := 18) (z := Z 56 18) hx1 (show mx_Sn _ _ 21 (mx_getf 12 18 24) from sn_280 21) a56 s56 rfl rfl (up_ni hE1 (by decide)) ?_
      refine JcI (z := 1) (show mx_Sn _ _ 24 (mx_const (.int 1) 25) from sn_280 24) rfl ?_
      refine Jisub (show mx_Sn _ _ 25 (mx_isub 26) from sn_280 25) ?_
      refine Ji2l (show mx_Sn _ _ 26 (mx_i2l 27) from sn_280 26) (by omega) ?_
      obtain ⟨z8, hc8, b8⟩ := ct_154_ (d := d + 1) (l := l) (D := D) (b0 := b0) (ad := ad) (Hb := Hb) (tau := tau) hx1 hG1 (show (-9223372036854775808) ≤ x1 ∧ x1 ≤ 9223372036854775807 by omega) (show (-9223372036854775808) ≤ 0 ∧ 0 ≤ 9223372036854775807 by omega) (show (-9223372036854775808) ≤ (Z 56 18) - 1 ∧ (Z 56 18) - 1 ≤ 9223372036854775807 by omega)
      refine Jcs (show mx_Sn _ _ 27 (mx_calls 154 3 30) from sn_280 27) hc8 rfl rfl rfl ?_
      refine Jif_ne (show mx_Sn _ _ 30 (mx_if_ne 36 33) from sn_280 30) (by omega) (fun q9 => ?_) (fun q9 => ?_)
      · skip
        have mh := mn_h (Z := Z) k0 hN9 (s := x1) (by omega) (by omega)
        have hb9 := hln_b hN9 (s := x1) (by omega) (by omega)
        refine mx_J.step (sn_280 36) (fun _ _ => rfl) ?_
        refine mx_J.step (sn_280 37) (fun _ _ => rfl) ?_
        have eq11 : mn Z1 x1 = mn Z x1 := (mn_c (fun i => up_nk hE1 rfl))
        obtain ⟨z10, hc10, b10⟩ := ct_191_56 (d := d + 0) (l := l) (D := D) (b0 := b0) (ad := ad) (Hb := Hb) (tau := tau) hx1 hG1 (show 0 ≤ x1 ∧ x1 ≤ 384 by omega)
        refine Jcv hx1 (show mx_Sn _ _ 38 (mx_callv 191 2 12 41) from sn_280 38) a56 s56 hc10 rfl rfl rfl ?_
        refine mx_J.step (sn_280 41) (fun _ _ => rfl) ?_
        refine JgetR (g := 40) (b := 81) hx1 (show mx_Sn _ _ 42 (mx_getf 12 40 45) from sn_280 42) a56 s56 rfl rfl (hG1.prr 56 40 rfl) ?_
        refine mx_J.step (sn_280 45) (fun _ _ => rfl) ?_
        have b13 : 0 ≤ Z 81 x0 ∧ Z 81 x0 ≤ 40 := hG.pr 81 x0
        refine JialdI (z := Z 81 x0) hx1 (show mx_Sn _ _ 46 (mx_iald 47) from sn_280 46) a81 s81 (by omega) (up_nk hE1 rfl) ?_
        have c64 : ∀ (k14_0 : Int), 0 ≤ k14_0 ∧ k14_0 ≤ 18 → (k14_0 ≤ 18 ∧ 0 ≤ k14_0 ∧ (hln (Z 57 1) x1 ≤ Z 81 x0 → k14_0 = hln (Z 57 1) x1) ∧ (Z 81 x0 < hln (Z 57 1) x1 → k14_0 = Z 81 x0)) → mx_J (tB l D b0 ad Hb tau) mt_280 (d + 2) 64 [some (.ref 56), some (xI x0), some (xI x1), some (xI z2), none, none] [xI k14_0] h1 Post := by
          intro k14_0 f14_0 f14_1
          have eq15 : Z1 81 x0 = Z 81 x0 := (up_nk hE1 rfl)
          refine mx_J.step (ls2 := [some (.ref 56), some (xI x0), some (xI x1), some (xI z2), some (xI k14_0), none]) (sn_280 64) (fun _ _ => rfl) ?_
          refine JcI (z := 0) (show mx_Sn _ _ 66 (mx_const (.int 0) 67) from sn_280 66) rfl ?_
          refine mx_J.step (ls2 := [some (.ref 56), some (xI x0), some (xI x1), some (xI z2), some (xI k14_0), some (xI 0)]) (sn_280 67) (fun _ _ => rfl) ?_
          have c69 : ∀ (m16 : Nat) (w16_5 : Int) (Z17 : xZ) (h17 : mx_H), 18 - w16_5 < (m16 : Int) → 0 ≤ w16_5 ∧ w16_5 ≤ 18 → LI (hpk (Z 57 1) x1) (fun j => Z 82 (40 * x0 + j)) (fun j => Z17 82 (40 * x0 + j)) w16_5 → (∀ i : Int, (i < 40 * x0 ∨ 40 * x0 + 40 ≤ i) → Z17 82 i = Z 82 i) → w16_5 ≤ k14_0 → XH n s S Z17 h17 → GI n S Z17 → fr' [(82, (-1))] Z1 Z17 → mx_J (tB l D b0 ad Hb tau) mt_280 (d + 2) 69 [some (.ref 56), some (xI x0), some (xI x1), some (xI z2), some (xI k14_0), some (xI w16_5)] [] h17 Post := by
            intro m16
            induction m16 with
            | zero => intro w16_5 Z17 h17 q16 f16_0 f16_1 f16_2 f16_3 hx17 hG17 hf17; exact absurd q16 (by omega)
            | succ m16 ih16 =>
              intro w16_5 Z17 h17 q16 f16_0 f16_1 f16_2 f16_3 hx17 hG17 hf17
              refine mx_J.step (sn_280 69) (fun _ _ => rfl) ?_
              refine mx_J.step (sn_280 71) (fun _ _ => rfl) ?_
              refine Jicmp_ge (show mx_Sn _ _ 73 (mx_icmp_ge 102 76) from sn_280 73) (by omega) (by omega) (fun q18 => ?_) (fun q18 => ?_)
              · skip
                refine mx_J.step (sn_280 102) (fun _ _ => rfl) ?_
                have eq19 : Z17 80 x0 = Z 80 x0 := ((hf17 80 x0 rfl).trans (up_nk hE1 rfl))
                have eq20 : Z17 81 x0 = Z 81 x0 := ((hf17 81 x0 rfl).trans (up_nk hE1 rfl))
                have eq21 : Z17 56 18 = Z 56 18 := ((hf17 56 18 rfl).trans (up_ni hE1 (by decide)))
                exact mx_J.ret (sn_280 104) (fun _ _ => rfl) (hP k14_0 Z17 h17 hx17 hG17 (fr_tr (M := [(56, 0), (82, (-1))]) (fr_tr (M := [(56, 0), (82, (-1))]) fr_rf (fr_up hE1) (M1 := []) rfl rfl) (hf17) rfl rfl) ⟨(fun _ _ _ => (show w16_5 = k14_0 by omega) ▸ (by assumption : LI (hpk (Z 57 1) x1) (fun j => Z 82 (40 * x0 + j)) (fun j => Z17 82 (40 * x0 + j)) w16_5)), (fun i q => (by assumption : (∀ i : Int, (i < 40 * x0 ∨ 40 * x0 + 40 ≤ i) → Z17 82 i = Z 82 i)) i (by omega)), by omega⟩)
              · skip
                refine mx_J.step (sn_280 76) (fun _ _ => rfl) ?_
                refine JgetR (g := 41) (b := 82) hx17 (show mx_Sn _ _ 77 (mx_getf 12 41 80) from sn_280 77) a56 s56 rfl rfl (hG17.prr 56 41 rfl) ?_
                refine JcI (z := 40) (show mx_Sn _ _ 80 (mx_const (.int 40) 82) from sn_280 80) rfl ?_
                refine mx_J.step (sn_280 82) (fun _ _ => rfl) ?_
                refine Jimul (show mx_Sn _ _ 83 (mx_imul 84) from sn_280 83) ?_
                refine mx_J.step (sn_280 84) (fun _ _ => rfl) ?_
                refine Jiadd (show mx_Sn _ _ 86 (mx_iadd 87) from sn_280 86) ?_
                refine mx_J.step (sn_280 87) (fun _ _ => rfl) ?_
                refine mx_J.step (sn_280 88) (fun _ _ => rfl) ?_
                refine mx_J.step (sn_280 89) (fun _ _ => rfl) ?_
                have eq24 : Z17 61 (18 * x1 + w16_5) = Z 61 (18 * x1 + w16_5) := ((hf17 61 (18 * x1 + w16_5) rfl).trans (up_nk hE1 rfl))
                have b25 : 0 ≤ Z 61 (18 * x1 + w16_5) ∧ Z 61 (18 * x1 + w16_5) ≤ 18 := hG.pr 61 (18 * x1 + w16_5)
                obtain ⟨z23, hc23, b23⟩ := ct_190_56 (d := d + 1) (l := l) (D := D) (b0 := b0) (ad := ad) (Hb := Hb) (tau := tau) hx17 hG17 (show 0 ≤ x1 ∧ x1 ≤ 384 by omega) (show 0 ≤ w16_5 ∧ w16_5 ≤ 17 by omega)
                try rw [eq24] at b23
                refine Jcv hx17 (show mx_Sn _ _ 91 (mx_callv 190 3 12 94) from sn_280 91) a56 s56 hc23 rfl rfl rfl ?_
                refine Ji2l (show mx_Sn _ _ 94 (mx_i2l 95) from sn_280 94) (by omega) ?_
                refine JlastL hx17 (show mx_Sn _ _ 95 (mx_last 1 96) from sn_280 95) a82 s82 rfl (by omega) (fun Z26 h26 hx26 hE26 => ?_)
                have hG26 := GI_up hG17 hE26 (show (-9223372036854775808) ≤ z23 ∧ z23 ≤ 9223372036854775807 by omega) trivial rfl
                have li1 : LI (hpk (Z 57 1) x1) (fun j => Z 82 (40 * x0 + j)) (fun j => Z26 82 (40 * x0 + j)) (w16_5 + 1) := li_s (by assumption) ((up_at hE26).trans (by have r9 := k0 x1 w16_5 (by omega) (by omega) (by omega) (by omega); omega)) (fun i e => up_ni hE26 (by omega))
                have z2a : (∀ i : Int, (i < 40 * x0 ∨ 40 * x0 + 40 ≤ i) → Z26 82 i = Z 82 i) := fun i q => (up_ni hE26 (by omega)).trans ((by assumption : (∀ i : Int, (i < 40 * x0 ∨ 40 * x0 + 40 ≤ i) → Z17 82 i = Z 82 i)) i q)
                refine Jiinc (z := w16_5) (cz := 1) (ls2 := [some (.ref 56), some (xI x0), some (xI x1), some (xI z2), some (xI k14_0), some (xI (w16_5 + 1))]) (show mx_Sn _ _ 96 (mx_iinc 5 1 99) from sn_280 96) rfl rfl rfl rfl ?_
                refine mx_J.step (sn_280 99) (fun _ _ => rfl) ?_
                exact ih16 (w16_5 + 1) Z26 h26 (by omega) (by omega) (li1) (z2a) (by omega) hx26 hG26 (fr_tr (M := [(82, (-1))]) (fr_tr (M := [(82, (-1))]) fr_rf (hf17) (M1 := []) rfl rfl) (fr_ua hE26) rfl rfl)
          exact c69 (Int.toNat (18 - 0) + 1) 0 Z1 h1 (by omega) (by omega) (by rw [show (fun j => Z1 82 (40 * x0 + j)) = (fun j => Z 82 (40 * x0 + j)) from funext (fun j => (show ∀ i, Z1 82 i = Z 82 i from (fun i => (up_nk hE1 rfl))) _)]; exact li_0) (fun i _ => (show ∀ i, Z1 82 i = Z 82 i from (fun i => (up_nk hE1 rfl))) i) (by omega) hx1 hG1 fr_rf
        refine Jicmp_ge (show mx_Sn _ _ 47 (mx_icmp_ge 58 50) from sn_280 47) (by omega) (by omega) (fun q27 => ?_) (fun q27 => ?_)
        · skip
          refine mx_J.step (sn_280 58) (fun _ _ => rfl) ?_
          refine JgetR (g := 40) (b := 81) hx1 (show mx_Sn _ _ 59 (mx_getf 12 40 62) from sn_280 59) a56 s56 rfl rfl (hG1.prr 56 40 rfl) ?_
          refine mx_J.step (sn_280 62) (fun _ _ => rfl) ?_
          refine JialdI (z := Z 81 x0) hx1 (show mx_Sn _ _ 63 (mx_iald 64) from sn_280 63) a81 s81 (by omega) (up_nk hE1 rfl) ?_
          have eq29 : Z1 81 x0 = Z 81 x0 := (up_nk hE1 rfl)
          exact c64 (Z 81 x0) (by omega) (by omega)
        · skip
          refine mx_J.step (sn_280 50) (fun _ _ => rfl) ?_
          refine mx_J.step (sn_280 51) (fun _ _ => rfl) ?_
          have eq31 : mn Z1 x1 = mn Z x1 := (mn_c (fun i => up_nk hE1 rfl))
          obtain ⟨z30, hc30, b30⟩ := ct_191_56 (d := d + 0) (l := l) (D := D) (b0 := b0) (ad := ad) (Hb := Hb) (tau := tau) hx1 hG1 (show 0 ≤ x1 ∧ x1 ≤ 384 by omega)
          refine Jcv hx1 (show mx_Sn _ _ 52 (mx_callv 191 2 12 55) from sn_280 52) a56 s56 hc30 rfl rfl rfl ?_
          refine mx_J.step (sn_280 55) (fun _ _ => rfl) ?_
          have eq32 : Z1 81 x0 = Z 81 x0 := (up_nk hE1 rfl)
          exact c64 z30 (by omega) (by omega)
      · skip
        refine JcI (z := (-3)) (show mx_Sn _ _ 33 (mx_const (.int (-3)) 35) from sn_280 33) rfl ?_
        have eq33 : Z1 80 x0 = Z 80 x0 := (up_nk hE1 rfl)
        have eq34 : Z1 81 x0 = Z 81 x0 := (up_nk hE1 rfl)
        have b35 : 0 ≤ Z 81 x0 ∧ Z 81 x0 ≤ 40 := hG.pr 81 x0
        have eq36 : Z1 56 18 = Z 56 18 := (up_ni hE1 (by decide))
        exact mx_J.ret (sn_280 35) (fun _ _ => rfl) (hP (-3) Z1 h1 hx1 hG1 (fr_tr (M := [(56, 0), (82, (-1))]) fr_rf (fr_up hE1) (M1 := []) rfl rfl) ⟨(fun _ _ q => absurd q (by decide)), (fun i _ => (show ∀ i, Z1 82 i = Z 82 i from (fun i => (up_nk hE1 rfl))) i), by omega⟩)
    · skip
      refine mx_J.step (sn_280 15) (fun _ _ => rfl) ?_
      have eq37 : Z1 80 x0 = Z 80 x0 := (up_nk hE1 rfl)
      have eq38 : Z1 81 x0 = Z 81 x0 := (up_nk hE1 rfl)
      have b39 : 0 ≤ Z 81 x0 ∧ Z 81 x0 ≤ 40 := hG.pr 81 x0
      have eq40 : Z1 56 18 = Z 56 18 := (up_ni hE1 (by decide))
      have b41 : 0 ≤ Z 56 18 ∧ Z 56 18 ≤ 385 := hG.pr 56 18
      exact mx_J.ret (sn_280 16) (fun _ _ => rfl) (hP z2 Z1 h1 hx1 hG1 (fr_tr (M := [(56, 0), (82, (-1))]) fr_rf (fr_up hE1) (M1 := []) rfl rfl) ⟨(fun _ _ q => absurd q (by omega)), (fun i _ => (show ∀ i, Z1 82 i = Z 82 i from (fun i => (up_nk hE1 rfl))) i), by omega⟩)
theorem ct_280_56 {l : Launch} {D : va_G} {b0 : Nat} {ad : Nat → Nat} {Hb : Heap} {tau : Nat → Int64} {d n s : Nat} {S : Nat → xS} {Z : xZ} {h : mx_H} (hx : XH n s S Z h) (hG : GI n S Z)  {x0 x1 : Int} (p0 : (-2147483648) ≤ x0 ∧ x0 ≤ 2147483647) (p1 : (-2147483648) ≤ x1 ∧ x1 ≤ 2147483647) (k0 : RTB Z (Z 57 1)) (k1 : 1 ≤ Z 57 1) : ∃ (z : Int) (Z' : xZ) (h' : mx_H), mx_Ca (tB l D b0 ad Hb tau) (d + 3) 280 [.ref 56, xI x0, xI x1] h (some (xI z), h') ∧ XH n s S Z' h' ∧ GI n S Z' ∧ fr' [(56, 0), (82, (-1))] Z Z' ∧ ((0 ≤ x0 → x0 ≤ 3 → 0 ≤ z → LI (hpk (Z 57 1) x1) (fun j => Z 82 (40 * x0 + j)) (fun j => Z' 82 (40 * x0 + j)) z) ∧ (∀ i : Int, (z < 0 ∨ i < 40 * x0 ∨ 40 * x0 + 40 ≤ i) → Z' 82 i = Z 82 i) ∧ (-6) ≤ z ∧ z ≤ 18 ∧ (((x0 < 0 ∨ 3 < x0) → z = -2) ∧ (0 ≤ x0 → x0 ≤ 3 → (Z 80 x0 = -1 → z = -6) ∧ (¬ Z 80 x0 = -1 → ((x1 < 0 ∨ pN (Z 57 1) ≤ x1) → z = -3) ∧ (¬ (x1 < 0 ∨ pN (Z 57 1) ≤ x1) → (hln (Z 57 1) x1 ≤ Z 81 x0 → z = hln (Z 57 1) x1) ∧ (Z 81 x0 < hln (Z 57 1) x1 → z = Z 81 x0)))))) := by
  obtain ⟨r, hca, z, Z', h', e, q⟩ := Jmt (B := tB l D b0 ad Hb tau) (M := mt_280) (mi := 280) (as := [.ref 56, xI x0, xI x1]) (d := d + 2) (ls := [some (.ref 56), some (xI x0), some (xI x1), none, none, none]) rfl rfl rfl rfl rfl rfl (cw_280_56 (l := l) (D := D) (b0 := b0) (ad := ad) (Hb := Hb) (tau := tau) (d := d) (Post := fun r => ∃ (z : Int) (Z' : xZ) (h' : mx_H), r = (some (xI z), h') ∧ XH n s S Z' h' ∧ GI n S Z' ∧ fr' [(56, 0), (82, (-1))] Z Z' ∧ ((0 ≤ x0 → x0 ≤ 3 → 0 ≤ z → LI (hpk (Z 57 1) x1) (fun j => Z 82 (40 * x0 + j)) (fun j => Z' 82 (40 * x0 + j)) z) ∧ (∀ i : Int, (z < 0 ∨ i < 40 * x0 ∨ 40 * x0 + 40 ≤ i) → Z' 82 i = Z 82 i) ∧ (-6) ≤ z ∧ z ≤ 18 ∧ (((x0 < 0 ∨ 3 < x0) → z = -2) ∧ (0 ≤ x0 → x0 ≤ 3 → (Z 80 x0 = -1 → z = -6) ∧ (¬ Z 80 x0 = -1 → ((x1 < 0 ∨ pN (Z 57 1) ≤ x1) → z = -3) ∧ (¬ (x1 < 0 ∨ pN (Z 57 1) ≤ x1) → (hln (Z 57 1) x1 ≤ Z 81 x0 → z = hln (Z 57 1) x1) ∧ (Z 81 x0 < hln (Z 57 1) x1 → z = Z 81 x0))))))) hx hG p0 p1 k0 k1 (fun z Z' h' q1 q2 q3 q4 => ⟨z, Z', h', rfl, q1, q2, q3, q4⟩))
  subst e; exact ⟨z, Z', h', hca, q⟩
set_option maxRecDepth 100000 in
theorem cw_283_56 {l : Launch} {D : va_G} {b0 : Nat} {ad : Nat → Nat} {Hb : Heap} {tau : Nat → Int64} {d n s : Nat} {S : Nat → xS} {Z : xZ} {h : mx_H} {Post : mx_R → Prop} (hx : XH n s S Z h) (hG : GI n S Z)  {x0 : Int} (p0 : (-2147483648) ≤ x0 ∧ x0 ≤ 2147483647) (hP : ∀ (z : Int) (Z' : xZ) (h' : mx_H), XH n s S Z' h' → GI n S Z' → fr' [(56, 0)] Z Z' → (-2147483648) ≤ z ∧ z ≤ 2147483647 → Post (some (xI z), h')) : mx_J (tB l D b0 ad Hb tau) mt_283 (d + 2) 0 [some (.ref 56), some (xI x0)] [] h Post := by
    have a56 : 56 < n := lt83 (GI_n hG) rfl
    have s56 : S 56 = .inl (12, [0, 2, 2, 2, 2, 0, 0, 0, 0, 0, 0, 0, 0, 0, 0, 2, 2, 2, 0, 2, 2, 2, 0, 0, 2, 2, 2, 2, 2, 2, 0, 0, 2, 2, 2, 2, 2, 2, 2, 2, 2, 2]) := GI_s hG 56 rfl
    have a57 : 57 < n := lt83 (GI_n hG) rfl
    have s57 : S 57 = .inr (.int, 2886, 0) := GI_s hG 57 rfl
    refine mx_J.step (sn_283 0) (fun _ _ => rfl) ?_
    refine JcI (z := 0) (show mx_Sn _ _ 1 (mx_const (.int 0) 2) from sn_283 1) rfl ?_
    refine JputI (g := 0) hx (show mx_Sn _ _ 2 (mx_putf 1 12 0 (.int) 5) from sn_283 2) a56 s56 rfl rfl rfl rfl (fun Z1 h1 hx1 hE1 => ?_)
    have hG1 := GI_up hG hE1 (show (-2147483648) ≤ 0 ∧ 0 ≤ 2147483647 by omega) trivial rfl
    refine mx_J.step (sn_283 5) (fun _ _ => rfl) ?_
    refine Jtsw (z := x0) (show mx_Sn _ _ 6 (mx_tsw 0 7 [52, 59, 71, 79, 87, 95, 103, 108] 115) from sn_283 6) (by omega) (fun q2 => ?_) (fun q2 => ?_)
    · skip
      refine JcI (z := (-1)) (show mx_Sn _ _ 115 (mx_const (.int (-1)) 116) from sn_283 115) rfl ?_
      exact mx_J.ret (sn_283 116) (fun _ _ => rfl) (hP (-1) Z1 h1 hx1 hG1 (fr_tr (M := [(56, 0)]) fr_rf (fr_up hE1) (M1 := []) rfl rfl) (by omega))
    · skip
      have e2 : x0 = 0 ∨ x0 = 1 ∨ x0 = 2 ∨ x0 = 3 ∨ x0 = 4 ∨ x0 = 5 ∨ x0 = 6 ∨ x0 = 7 := by omega
      rcases e2 with e2 | e2 | e2 | e2 | e2 | e2 | e2 | e2
      · refine ⟨52, by rw [e2]; rfl, ?_⟩
        refine mx_J.step (sn_283 52) (fun _ _ => rfl) ?_
        refine JgetR (g := 1) (b := 57) hx1 (show mx_Sn _ _ 53 (mx_getf 12 1 56) from sn_283 53) a56 s56 rfl rfl (hG1.prr 56 1 rfl) ?_
        refine JcI (z := 1) (show mx_Sn _ _ 56 (mx_const (.int 1) 57) from sn_283 56) rfl ?_
        have b4 : 0 ≤ Z 57 1 ∧ Z 57 1 ≤ 18 := by have hq := GI_ex hG 57 1; replace hq : f57 (1 % 962) (Z 57 1) := hq; unfold f57 at hq; omega
        have b5 : (-2147483648) ≤ Z 57 1 ∧ Z 57 1 ≤ 2147483647 := hG.pr 57 1
        refine JialdI (z := Z 57 1) hx1 (show mx_Sn _ _ 57 (mx_iald 58) from sn_283 57) a57 s57 (by omega) (up_nk hE1 rfl) ?_
        exact mx_J.ret (sn_283 58) (fun _ _ => rfl) (hP (Z 57 1) Z1 h1 hx1 hG1 (fr_tr (M := [(56, 0)]) fr_rf (fr_up hE1) (M1 := []) rfl rfl) (by omega))
      · refine ⟨59, by rw [e2]; rfl, ?_⟩
        refine mx_J.step (sn_283 59) (fun _ _ => rfl) ?_
        refine mx_J.step (sn_283 60) (fun _ _ => rfl) ?_
        refine JgetR (g := 1) (b := 57) hx1 (show mx_Sn _ _ 61 (mx_getf 12 1 64) from sn_283 61) a56 s56 rfl rfl (hG1.prr 56 1 rfl) ?_
        refine JcI (z := 27) (show mx_Sn _ _ 64 (mx_const (.int 27) 66) from sn_283 64) rfl ?_
        have b7 := GI_st hG 27
        have b8 : 0 ≤ Z 56 18 ∧ Z 56 18 ≤ 385 := hG.pr 56 18
        have b9 : 0 ≤ Z 57 27 ∧ Z 57 27 ≤ 384 := by have hq := GI_ex hG 57 27; replace hq : f57 (27 % 962) (Z 57 27) := hq; unfold f57 at hq; omega
        have b10 : (-2147483648) ≤ Z 57 27 ∧ Z 57 27 ≤ 2147483647 := hG.pr 57 27
        refine JialdI (z := Z 57 27) hx1 (show mx_Sn _ _ 66 (mx_iald 67) from sn_283 66) a57 s57 (by omega) (up_nk hE1 rfl) ?_
        have eq12 : mn Z1 (Z 57 27) = mn Z (Z 57 27) := (mn_c (fun i => up_nk hE1 rfl))
        obtain ⟨z11, hc11, b11⟩ := ct_191_56 (d := d + 0) (l := l) (D := D) (b0 := b0) (ad := ad) (Hb := Hb) (tau := tau) hx1 hG1 (show 0 ≤ Z 57 27 ∧ Z 57 27 ≤ 384 by omega)
        refine Jcv hx1 (show mx_Sn _ _ 67 (mx_callv 191 2 12 70) from sn_283 67) a56 s56 hc11 rfl rfl rfl ?_
        exact mx_J.ret (sn_283 70) (fun _ _ => rfl) (hP z11 Z1 h1 hx1 hG1 (fr_tr (M := [(56, 0)]) fr_rf (fr_up hE1) (M1 := []) rfl rfl) (by omega))
      · refine ⟨71, by rw [e2]; rfl, ?_⟩
        refine mx_J.step (sn_283 71) (fun _ _ => rfl) ?_
        refine JgetR (g := 1) (b := 57) hx1 (show mx_Sn _ _ 72 (mx_getf 12 1 75) from sn_283 72) a56 s56 rfl rfl (hG1.prr 56 1 rfl) ?_
        refine JcI (z := 27) (show mx_Sn _ _ 75 (mx_const (.int 27) 77) from sn_283 75) rfl ?_
        have b14 := GI_st hG 27
        have b15 : 0 ≤ Z 56 18 ∧ Z 56 18 ≤ 385 := hG.pr 56 18
        have b16 : 0 ≤ Z 57 27 ∧ Z 57 27 ≤ 384 := by have hq := GI_ex hG 57 27; replace hq : f57 (27 % 962) (Z 57 27) := hq; unfold f57 at hq; omega
        have b17 : (-2147483648) ≤ Z 57 27 ∧ Z 57 27 ≤ 2147483647 := hG.pr 57 27
        refine JialdI (z := Z 57 27) hx1 (show mx_Sn _ _ 77 (mx_iald 78) from sn_283 77) a57 s57 (by omega) (up_nk hE1 rfl) ?_
        exact mx_J.ret (sn_283 78) (fun _ _ => rfl) (hP (Z 57 27) Z1 h1 hx1 hG1 (fr_tr (M := [(56, 0)]) fr_rf (fr_up hE1) (M1 := []) rfl rfl) (by omega))
      · refine ⟨79, by rw [e2]; rfl, ?_⟩
        refine mx_J.step (sn_283 79) (fun _ _ => rfl) ?_
        refine JgetR (g := 1) (b := 57) hx1 (show mx_Sn _ _ 80 (mx_getf 12 1 83) from sn_283 80) a56 s56 rfl rfl (hG1.prr 56 1 rfl) ?_
        refine JcI (z := 28) (show mx_Sn _ _ 83 (mx_const (.int 28) 85) from sn_283 83) rfl ?_
        have b19 : 0 ≤ Z 57 28 ∧ Z 57 28 ≤ 9 := by have hq := GI_ex hG 57 28; replace hq : f57 (28 % 962) (Z 57 28) := hq; unfold f57 at hq; omega
        have b20 : (-2147483648) ≤ Z 57 28 ∧ Z 57 28 ≤ 2147483647 := hG.pr 57 28
        refine JialdI (z := Z 57 28) hx1 (show mx_Sn _ _ 85 (mx_iald 86) from sn_283 85) a57 s57 (by omega) (up_nk hE1 rfl) ?_
        exact mx_J.ret (sn_283 86) (fun _ _ => rfl) (hP (Z 57 28) Z1 h1 hx1 hG1 (fr_tr (M := [(56, 0)]) fr_rf (fr_up hE1) (M1 := []) rfl rfl) (by omega))
      · refine ⟨87, by rw [e2]; rfl, ?_⟩
        refine mx_J.step (sn_283 87) (fun _ _ => rfl) ?_
        refine JgetR (g := 1) (b := 57) hx1 (show mx_Sn _ _ 88 (mx_getf 12 1 91) from sn_283 88) a56 s56 rfl rfl (hG1.prr 56 1 rfl) ?_
        refine JcI (z := 29) (show mx_Sn _ _ 91 (mx_const (.int 29) 93) from sn_283 91) rfl ?_
        have b22 : (-2147483648) ≤ Z 57 29 ∧ Z 57 29 ≤ 2147483647 := hG.pr 57 29
        refine JialdI (z := Z 57 29) hx1 (show mx_Sn _ _ 93 (mx_iald 94) from sn_283 93) a57 s57 (by omega) (up_nk hE1 rfl) ?_
        exact mx_J.ret (sn_283 94) (fun _ _ => rfl) (hP (Z 57 29) Z1 h1 hx1 hG1 (fr_tr (M := [(56, 0)]) fr_rf (fr_up hE1) (M1 := []) rfl rfl) (by omega))
      · refine ⟨95, by rw [e2]; rfl, ?_⟩
        refine mx_J.step (sn_283 95) (fun _ _ => rfl) ?_
        refine JgetR (g := 1) (b := 57) hx1 (show mx_Sn _ _ 96 (mx_getf 12 1 99) from sn_283 96) a56 s56 rfl rfl (hG1.prr 56 1 rfl) ?_
        refine JcI (z := 30) (show mx_Sn _ _ 99 (mx_const (.int 30) 101) from sn_283 99) rfl ?_
        have b24 : 0 ≤ Z 57 30 ∧ Z 57 30 ≤ 10 := by have hq := GI_ex hG 57 30; replace hq : f57 (30 % 962) (Z 57 30) := hq; unfold f57 at hq; omega
        have b25 : (-2147483648) ≤ Z 57 30 ∧ Z 57 30 ≤ 2147483647 := hG.pr 57 30
        refine JialdI (z := Z 57 30) hx1 (show mx_Sn _ _ 101 (mx_iald 102) from sn_283 101) a57 s57 (by omega) (up_nk hE1 rfl) ?_
        exact mx_J.ret (sn_283 102) (fun _ _ => rfl) (hP (Z 57 30) Z1 h1 hx1 hG1 (fr_tr (M := [(56, 0)]) fr_rf (fr_up hE1) (M1 := []) rfl rfl) (by omega))
      · refine ⟨103, by rw [e2]; rfl, ?_⟩
        refine mx_J.step (sn_283 103) (fun _ _ => rfl) ?_
        have b27 : 0 ≤ Z 56 5 ∧ Z 56 5 ≤ 900 := hG.pr 56 5
        refine JgetI (g := 5) (z := Z 56 5) hx1 (show mx_Sn _ _ 104 (mx_getf 12 5 107) from sn_283 104) a56 s56 rfl rfl (up_ni hE1 (by decide)) ?_
        exact mx_J.ret (sn_283 107) (fun _ _ => rfl) (hP (Z 56 5) Z1 h1 hx1 hG1 (fr_tr (M := [(56, 0)]) fr_rf (fr_up hE1) (M1 := []) rfl rfl) (by omega))
      · refine ⟨108, by rw [e2]; rfl, ?_⟩
        refine mx_J.step (sn_283 108) (fun _ _ => rfl) ?_
        refine JgetR (g := 1) (b := 57) hx1 (show mx_Sn _ _ 109 (mx_getf 12 1 112) from sn_283 109) a56 s56 rfl rfl (hG1.prr 56 1 rfl) ?_
        refine JcI (z := 0) (show mx_Sn _ _ 112 (mx_const (.int 0) 113) from sn_283 112) rfl ?_
        have b29 : (-2147483648) ≤ Z 57 0 ∧ Z 57 0 ≤ 2147483647 := hG.pr 57 0
        refine JialdI (z := Z 57 0) hx1 (show mx_Sn _ _ 113 (mx_iald 114) from sn_283 113) a57 s57 (by omega) (up_nk hE1 rfl) ?_
        exact mx_J.ret (sn_283 114) (fun _ _ => rfl) (hP (Z 57 0) Z1 h1 hx1 hG1 (fr_tr (M := [(56, 0)]) fr_rf (fr_up hE1) (M1 := []) rfl rfl) (by omega))
theorem ct_283_56 {l : Launch} {D : va_G} {b0 : Nat} {ad : Nat → Nat} {Hb : Heap} {tau : Nat → Int64} {d n s : Nat} {S : Nat → xS} {Z : xZ} {h : mx_H} (hx : XH n s S Z h) (hG : GI n S Z)  {x0 : Int} (p0 : (-2147483648) ≤ x0 ∧ x0 ≤ 2147483647) : ∃ (z : Int) (Z' : xZ) (h' : mx_H), mx_Ca (tB l D b0 ad Hb tau) (d + 3) 283 [.ref 56, xI x0] h (some (xI z), h') ∧ XH n s S Z' h' ∧ GI n S Z' ∧ fr' [(56, 0)] Z Z' ∧ ((-2147483648) ≤ z ∧ z ≤ 2147483647) := by
  obtain ⟨r, hca, z, Z', h', e, q⟩ := Jmt (B := tB l D b0 ad Hb tau) (M := mt_283) (mi := 283) (as := [.ref 56, xI x0]) (d := d + 2) (ls := [some (.ref 56), some (xI x0)]) rfl rfl rfl rfl rfl rfl (cw_283_56 (l := l) (D := D) (b0 := b0) (ad := ad) (Hb := Hb) (tau := tau) (d := d) (Post := fun r => ∃ (z : Int) (Z' : xZ) (h' : mx_H), r = (some (xI z), h') ∧ XH n s S Z' h' ∧ GI n S Z' ∧ fr' [(56, 0)] Z Z' ∧ ((-2147483648) ≤ z ∧ z ≤ 2147483647)) hx hG p0 (fun z Z' h' q1 q2 q3 q4 => ⟨z, Z', h', rfl, q1, q2, q3, q4⟩))
  subst e; exact ⟨z, Z', h', hca, q⟩
set_option maxRecDepth 100000 in
theorem cw_223_56_i6 {l : Launch} {D : va_G} {b0 : Nat} {ad : Nat → Nat} {Hb : Heap} {tau : Nat → Int64} {d n s : Nat} {S : Nat → xS} {Z : xZ} {h : mx_H} {Post : mx_R → Prop} (hx : XH n s S Z h) (hG : GI n S Z)   (hP : ∀ (z : Int) (Z' : xZ) (h' : mx_H), XH n s S Z' h' → GI n S Z' → fr' [(56, 23)] Z Z' → 0 ≤ z ∧ z ≤ 5 → Post (some (xI z), h')) : mx_J (tB l D b0 ad Hb tau) mt_223 (d + 0) 0 [some (.ref 56), some (xI 6)] [] h Post := by
    have a56 : 56 < n := lt83 (GI_n hG) rfl
    have s56 : S 56 = .inl (12, [0, 2, 2, 2, 2, 0, 0, 0, 0, 0, 0, 0, 0, 0, 0, 2, 2, 2, 0, 2, 2, 2, 0, 0, 2, 2, 2, 2, 2, 2, 0, 0, 2, 2, 2, 2, 2, 2, 2, 2, 2, 2]) := GI_s hG 56 rfl
    refine mx_J.step (sn_223 0) (fun _ _ => rfl) ?_
    refine JcI (z := 1103515245) (show mx_Sn _ _ 1 (mx_const (.int 1103515245) 4) from sn_223 1) rfl ?_
    refine mx_J.step (sn_223 4) (fun _ _ => rfl) ?_
    have b2 : (-2147483648) ≤ Z 56 23 ∧ Z 56 23 ≤ 2147483647 := hG.pr 56 23
    refine JgetI (g := 23) (z := Z 56 23) hx (show mx_Sn _ _ 5 (mx_getf 12 23 8) from sn_223 5) a56 s56 rfl rfl rfl ?_
    refine JimulN (show mx_Sn _ _ 8 (mx_imul 9) from sn_223 8) (fun y3 hy3 hq3 => ?_)
    refine JcI (z := 12345) (show mx_Sn _ _ 9 (mx_const (.int 12345) 12) from sn_223 9) rfl ?_
    refine JiaddN (show mx_Sn _ _ 12 (mx_iadd 13) from sn_223 12) (fun y4 hy4 hq4 => ?_)
    refine JputI (g := 23) hx (show mx_Sn _ _ 13 (mx_putf 1 12 23 (.int) 16) from sn_223 13) a56 s56 rfl rfl rfl rfl (fun Z5 h5 hx5 hE5 => ?_)
    have hG5 := GI_up hG hE5 (show (-2147483648) ≤ y4 ∧ y4 ≤ 2147483647 by omega) trivial rfl
    refine mx_J.step (sn_223 16) (fun _ _ => rfl) ?_
    refine JgetI (g := 23) (z := y4) hx5 (show mx_Sn _ _ 17 (mx_getf 12 23 20) from sn_223 17) a56 s56 rfl rfl (up_at hE5) ?_
    refine JcI (z := 16) (show mx_Sn _ _ 20 (mx_const (.int 16) 22) from sn_223 20) rfl ?_
    refine Jiushr16 (show mx_Sn _ _ 22 (mx_iushr 23) from sn_223 22) (fun y7 hy7 => ?_)
    refine mx_J.step (sn_223 23) (fun _ _ => rfl) ?_
    refine Jirem (show mx_Sn _ _ 24 (mx_irem 25) from sn_223 24) (by omega) (by omega) ?_
    exact mx_J.ret (sn_223 25) (fun _ _ => rfl) (hP (y7 % 6) Z5 h5 hx5 hG5 (fr_tr (M := [(56, 23)]) fr_rf (fr_up hE5) (M1 := []) rfl rfl) (by omega))
theorem ct_223_56_i6 {l : Launch} {D : va_G} {b0 : Nat} {ad : Nat → Nat} {Hb : Heap} {tau : Nat → Int64} {d n s : Nat} {S : Nat → xS} {Z : xZ} {h : mx_H} (hx : XH n s S Z h) (hG : GI n S Z)   : ∃ (z : Int) (Z' : xZ) (h' : mx_H), mx_Ca (tB l D b0 ad Hb tau) (d + 1) 223 [.ref 56, xI 6] h (some (xI z), h') ∧ XH n s S Z' h' ∧ GI n S Z' ∧ fr' [(56, 23)] Z Z' ∧ (0 ≤ z ∧ z ≤ 5) := by
  obtain ⟨r, hca, z, Z', h', e, q⟩ := Jmt (B := tB l D b0 ad Hb tau) (M := mt_223) (mi := 223) (as := [.ref 56, xI 6]) (d := d + 0) (ls := [some (.ref 56), some (xI 6)]) rfl rfl rfl rfl rfl rfl (cw_223_56_i6 (l := l) (D := D) (b0 := b0) (ad := ad) (Hb := Hb) (tau := tau) (d := d) (Post := fun r => ∃ (z : Int) (Z' : xZ) (h' : mx_H), r = (some (xI z), h') ∧ XH n s S Z' h' ∧ GI n S Z' ∧ fr' [(56, 23)] Z Z' ∧ (0 ≤ z ∧ z ≤ 5)) hx hG  (fun z Z' h' q1 q2 q3 q4 => ⟨z, Z', h', rfl, q1, q2, q3, q4⟩))
  subst e; exact ⟨z, Z', h', hca, q⟩
set_option maxRecDepth 100000 in
theorem cw_223_56_i8 {l : Launch} {D : va_G} {b0 : Nat} {ad : Nat → Nat} {Hb : Heap} {tau : Nat → Int64} {d n s : Nat} {S : Nat → xS} {Z : xZ} {h : mx_H} {Post : mx_R → Prop} (hx : XH n s S Z h) (hG : GI n S Z)   (hP : ∀ (z : Int) (Z' : xZ) (h' : mx_H), XH n s S Z' h' → GI n S Z' → fr' [(56, 23)] Z Z' → 0 ≤ z ∧ z ≤ 7 → Post (some (xI z), h')) : mx_J (tB l D b0 ad Hb tau) mt_223 (d + 0) 0 [some (.ref 56), some (xI 8)] [] h Post := by
    have a56 : 56 < n := lt83 (GI_n hG) rfl
    have s56 : S 56 = .inl (12, [0, 2, 2, 2, 2, 0, 0, 0, 0, 0, 0, 0, 0, 0, 0, 2, 2, 2, 0, 2, 2, 2, 0, 0, 2, 2, 2, 2, 2, 2, 0, 0, 2, 2, 2, 2, 2, 2, 2, 2, 2, 2]) := GI_s hG 56 rfl
    refine mx_J.step (sn_223 0) (fun _ _ => rfl) ?_
    refine JcI (z := 1103515245) (show mx_Sn _ _ 1 (mx_const (.int 1103515245) 4) from sn_223 1) rfl ?_
    refine mx_J.step (sn_223 4) (fun _ _ => rfl) ?_
    have b2 : (-2147483648) ≤ Z 56 23 ∧ Z 56 23 ≤ 2147483647 := hG.pr 56 23
    refine JgetI (g := 23) (z := Z 56 23) hx (show mx_Sn _ _ 5 (mx_getf 12 23 8) from sn_223 5) a56 s56 rfl rfl rfl ?_
    refine JimulN (show mx_Sn _ _ 8 (mx_imul 9) from sn_223 8) (fun y3 hy3 hq3 => ?_)
    refine JcI (z := 12345) (show mx_Sn _ _ 9 (mx_const (.int 12345) 12) from sn_223 9) rfl ?_
    refine JiaddN (show mx_Sn _ _ 12 (mx_iadd 13) from sn_223 12) (fun y4 hy4 hq4 => ?_)
    refine JputI (g := 23) hx (show mx_Sn _ _ 13 (mx_putf 1 12 23 (.int) 16) from sn_223 13) a56 s56 rfl rfl rfl rfl (fun Z5 h5 hx5 hE5 => ?_)
    have hG5 := GI_up hG hE5 (show (-2147483648) ≤ y4 ∧ y4 ≤ 2147483647 by omega) trivial rfl
    refine mx_J.step (sn_223 16) (fun _ _ => rfl) ?_
    refine JgetI (g := 23) (z := y4) hx5 (show mx_Sn _ _ 17 (mx_getf 12 23 20) from sn_223 17) a56 s56 rfl rfl (up_at hE5) ?_
    refine JcI (z := 16) (show mx_Sn _ _ 20 (mx_const (.int 16) 22) from sn_223 20) rfl ?_
    refine Jiushr16 (show mx_Sn _ _ 22 (mx_iushr 23) from sn_223 22) (fun y7 hy7 => ?_)
    refine mx_J.step (sn_223 23) (fun _ _ => rfl) ?_
    refine Jirem (show mx_Sn _ _ 24 (mx_irem 25) from sn_223 24) (by omega) (by omega) ?_
    exact mx_J.ret (sn_223 25) (fun _ _ => rfl) (hP (y7 % 8) Z5 h5 hx5 hG5 (fr_tr (M := [(56, 23)]) fr_rf (fr_up hE5) (M1 := []) rfl rfl) (by omega))
theorem ct_223_56_i8 {l : Launch} {D : va_G} {b0 : Nat} {ad : Nat → Nat} {Hb : Heap} {tau : Nat → Int64} {d n s : Nat} {S : Nat → xS} {Z : xZ} {h : mx_H} (hx : XH n s S Z h) (hG : GI n S Z)   : ∃ (z : Int) (Z' : xZ) (h' : mx_H), mx_Ca (tB l D b0 ad Hb tau) (d + 1) 223 [.ref 56, xI 8] h (some (xI z), h') ∧ XH n s S Z' h' ∧ GI n S Z' ∧ fr' [(56, 23)] Z Z' ∧ (0 ≤ z ∧ z ≤ 7) := by
  obtain ⟨r, hca, z, Z', h', e, q⟩ := Jmt (B := tB l D b0 ad Hb tau) (M := mt_223) (mi := 223) (as := [.ref 56, xI 8]) (d := d + 0) (ls := [some (.ref 56), some (xI 8)]) rfl rfl rfl rfl rfl rfl (cw_223_56_i8 (l := l) (D := D) (b0 := b0) (ad := ad) (Hb := Hb) (tau := tau) (d := d) (Post := fun r => ∃ (z : Int) (Z' : xZ) (h' : mx_H), r = (some (xI z), h') ∧ XH n s S Z' h' ∧ GI n S Z' ∧ fr' [(56, 23)] Z Z' ∧ (0 ≤ z ∧ z ≤ 7)) hx hG  (fun z Z' h' q1 q2 q3 q4 => ⟨z, Z', h', rfl, q1, q2, q3, q4⟩))
  subst e; exact ⟨z, Z', h', hca, q⟩
set_option maxRecDepth 100000 in
theorem cw_223_56_i10 {l : Launch} {D : va_G} {b0 : Nat} {ad : Nat → Nat} {Hb : Heap} {tau : Nat → Int64} {d n s : Nat} {S : Nat → xS} {Z : xZ} {h : mx_H} {Post : mx_R → Prop} (hx : XH n s S Z h) (hG : GI n S Z)   (hP : ∀ (z : Int) (Z' : xZ) (h' : mx_H), XH n s S Z' h' → GI n S Z' → fr' [(56, 23)] Z Z' → 0 ≤ z ∧ z ≤ 9 → Post (some (xI z), h')) : mx_J (tB l D b0 ad Hb tau) mt_223 (d + 0) 0 [some (.ref 56), some (xI 10)] [] h Post := by
    have a56 : 56 < n := lt83 (GI_n hG) rfl
    have s56 : S 56 = .inl (12, [0, 2, 2, 2, 2, 0, 0, 0, 0, 0, 0, 0, 0, 0, 0, 2, 2, 2, 0, 2, 2, 2, 0, 0, 2, 2, 2, 2, 2, 2, 0, 0, 2, 2, 2, 2, 2, 2, 2, 2, 2, 2]) := GI_s hG 56 rfl
    refine mx_J.step (sn_223 0) (fun _ _ => rfl) ?_
    refine JcI (z := 1103515245) (show mx_Sn _ _ 1 (mx_const (.int 1103515245) 4) from sn_223 1) rfl ?_
    refine mx_J.step (sn_223 4) (fun _ _ => rfl) ?_
    have b2 : (-2147483648) ≤ Z 56 23 ∧ Z 56 23 ≤ 2147483647 := hG.pr 56 23
    refine JgetI (g := 23) (z := Z 56 23) hx (show mx_Sn _ _ 5 (mx_getf 12 23 8) from sn_223 5) a56 s56 rfl rfl rfl ?_
    refine JimulN (show mx_Sn _ _ 8 (mx_imul 9) from sn_223 8) (fun y3 hy3 hq3 => ?_)
    refine JcI (z := 12345) (show mx_Sn _ _ 9 (mx_const (.int 12345) 12) from sn_223 9) rfl ?_
    refine JiaddN (show mx_Sn _ _ 12 (mx_iadd 13) from sn_223 12) (fun y4 hy4 hq4 => ?_)
    refine JputI (g := 23) hx (show mx_Sn _ _ 13 (mx_putf 1 12 23 (.int) 16) from sn_223 13) a56 s56 rfl rfl rfl rfl (fun Z5 h5 hx5 hE5 => ?_)
    have hG5 := GI_up hG hE5 (show (-2147483648) ≤ y4 ∧ y4 ≤ 2147483647 by omega) trivial rfl
    refine mx_J.step (sn_223 16) (fun _ _ => rfl) ?_
    refine JgetI (g := 23) (z := y4) hx5 (show mx_Sn _ _ 17 (mx_getf 12 23 20) from sn_223 17) a56 s56 rfl rfl (up_at hE5) ?_
    refine JcI (z := 16) (show mx_Sn _ _ 20 (mx_const (.int 16) 22) from sn_223 20) rfl ?_
    refine Jiushr16 (show mx_Sn _ _ 22 (mx_iushr 23) from sn_223 22) (fun y7 hy7 => ?_)
    refine mx_J.step (sn_223 23) (fun _ _ => rfl) ?_
    refine Jirem (show mx_Sn _ _ 24 (mx_irem 25) from sn_223 24) (by omega) (by omega) ?_
    exact mx_J.ret (sn_223 25) (fun _ _ => rfl) (hP (y7 % 10) Z5 h5 hx5 hG5 (fr_tr (M := [(56, 23)]) fr_rf (fr_up hE5) (M1 := []) rfl rfl) (by omega))
theorem ct_223_56_i10 {l : Launch} {D : va_G} {b0 : Nat} {ad : Nat → Nat} {Hb : Heap} {tau : Nat → Int64} {d n s : Nat} {S : Nat → xS} {Z : xZ} {h : mx_H} (hx : XH n s S Z h) (hG : GI n S Z)   : ∃ (z : Int) (Z' : xZ) (h' : mx_H), mx_Ca (tB l D b0 ad Hb tau) (d + 1) 223 [.ref 56, xI 10] h (some (xI z), h') ∧ XH n s S Z' h' ∧ GI n S Z' ∧ fr' [(56, 23)] Z Z' ∧ (0 ≤ z ∧ z ≤ 9) := by
  obtain ⟨r, hca, z, Z', h', e, q⟩ := Jmt (B := tB l D b0 ad Hb tau) (M := mt_223) (mi := 223) (as := [.ref 56, xI 10]) (d := d + 0) (ls := [some (.ref 56), some (xI 10)]) rfl rfl rfl rfl rfl rfl (cw_223_56_i10 (l := l) (D := D) (b0 := b0) (ad := ad) (Hb := Hb) (tau := tau) (d := d) (Post := fun r => ∃ (z : Int) (Z' : xZ) (h' : mx_H), r = (some (xI z), h') ∧ XH n s S Z' h' ∧ GI n S Z' ∧ fr' [(56, 23)] Z Z' ∧ (0 ≤ z ∧ z ≤ 9)) hx hG  (fun z Z' h' q1 q2 q3 q4 => ⟨z, Z', h', rfl, q1, q2, q3, q4⟩))
  subst e; exact ⟨z, Z', h', hca, q⟩
set_option maxRecDepth 100000 in
theorem cw_224_56 {l : Launch} {D : va_G} {b0 : Nat} {ad : Nat → Nat} {Hb : Heap} {tau : Nat → Int64} {d n s : Nat} {S : Nat → xS} {Z : xZ} {h : mx_H} {Post : mx_R → Prop} (hx : XH n s S Z h) (hG : GI n S Z)   (hP : ∀ (z : Int) (Z' : xZ) (h' : mx_H), XH n s S Z' h' → GI n S Z' → fr' [(56, 23)] Z Z' → 0 ≤ z ∧ z ≤ 3505 → Post (some (xI z), h')) : mx_J (tB l D b0 ad Hb tau) mt_224 (d + 1) 0 [some (.ref 56), none, none] [] h Post := by
    have a56 : 56 < n := lt83 (GI_n hG) rfl
    have s56 : S 56 = .inl (12, [0, 2, 2, 2, 2, 0, 0, 0, 0, 0, 0, 0, 0, 0, 0, 2, 2, 2, 0, 2, 2, 2, 0, 0, 2, 2, 2, 2, 2, 2, 0, 0, 2, 2, 2, 2, 2, 2, 2, 2, 2, 2]) := GI_s hG 56 rfl
    refine mx_J.step (sn_224 0) (fun _ _ => rfl) ?_
    refine JcI (z := 6) (show mx_Sn _ _ 1 (mx_const (.int 6) 3) from sn_224 1) rfl ?_
    obtain ⟨z1, Z1, h1, hc1, hx1, hG1, hf1, b1⟩ := ct_223_56_i6 (d := d + 0) (l := l) (D := D) (b0 := b0) (ad := ad) (Hb := Hb) (tau := tau) hx hG 
    refine Jcv hx (show mx_Sn _ _ 3 (mx_callv 223 2 12 6) from sn_224 3) a56 s56 hc1 rfl rfl rfl ?_
    refine mx_J.step (ls2 := [some (.ref 56), some (xI z1), none]) (sn_224 6) (fun _ _ => rfl) ?_
    refine mx_J.step (sn_224 7) (fun _ _ => rfl) ?_
    refine JcI (z := 5) (show mx_Sn _ _ 8 (mx_const (.int 5) 9) from sn_224 8) rfl ?_
    refine Jicmp_ge (show mx_Sn _ _ 9 (mx_icmp_ge 45 12) from sn_224 9) (by omega) (by omega) (fun q2 => ?_) (fun q2 => ?_)
    · skip
      refine mx_J.step (sn_224 45) (fun _ _ => rfl) ?_
      refine JcI (z := 6) (show mx_Sn _ _ 46 (mx_const (.int 6) 48) from sn_224 46) rfl ?_
      obtain ⟨z3, Z3, h3, hc3, hx3, hG3, hf3, b3⟩ := ct_223_56_i6 (d := d + 0) (l := l) (D := D) (b0 := b0) (ad := ad) (Hb := Hb) (tau := tau) hx1 hG1 
      refine Jcv hx1 (show mx_Sn _ _ 48 (mx_callv 223 2 12 51) from sn_224 48) a56 s56 hc3 rfl rfl rfl ?_
      refine mx_J.step (ls2 := [some (.ref 56), some (xI z1), some (xI z3)]) (sn_224 51) (fun _ _ => rfl) ?_
      refine JcI (z := 3000) (show mx_Sn _ _ 52 (mx_const (.int 3000) 55) from sn_224 52) rfl ?_
      refine JcI (z := 100) (show mx_Sn _ _ 55 (mx_const (.int 100) 57) from sn_224 55) rfl ?_
      refine mx_J.step (sn_224 57) (fun _ _ => rfl) ?_
      refine Jimul (show mx_Sn _ _ 58 (mx_imul 59) from sn_224 58) ?_
      refine Jiadd (show mx_Sn _ _ 59 (mx_iadd 60) from sn_224 59) ?_
      refine mx_J.step (sn_224 60) (fun _ _ => rfl) ?_
      refine JcI (z := 6) (show mx_Sn _ _ 61 (mx_const (.int 6) 63) from sn_224 61) rfl ?_
      obtain ⟨z4, Z4, h4, hc4, hx4, hG4, hf4, b4⟩ := ct_223_56_i6 (d := d + 0) (l := l) (D := D) (b0 := b0) (ad := ad) (Hb := Hb) (tau := tau) hx3 hG3 
      refine Jcv hx3 (show mx_Sn _ _ 63 (mx_callv 223 2 12 66) from sn_224 63) a56 s56 hc4 rfl rfl rfl ?_
      refine Jiadd (show mx_Sn _ _ 66 (mx_iadd 67) from sn_224 66) ?_
      exact mx_J.ret (sn_224 67) (fun _ _ => rfl) (hP ((3000 + (100 * z3)) + z4) Z4 h4 hx4 hG4 (fr_tr (M := [(56, 23)]) (fr_tr (M := [(56, 23)]) (fr_tr (M := [(56, 23)]) fr_rf (hf1) (M1 := []) rfl rfl) (hf3) rfl rfl) (hf4) rfl rfl) (by omega))
    · skip
      refine mx_J.step (sn_224 12) (fun _ _ => rfl) ?_
      refine JcI (z := 3) (show mx_Sn _ _ 13 (mx_const (.int 3) 14) from sn_224 13) rfl ?_
      have c44 : ∀ (k5_0 : Int) (Z6 : xZ) (h6 : mx_H), 0 ≤ k5_0 ∧ k5_0 ≤ 29 → XH n s S Z6 h6 → GI n S Z6 → fr' [(56, 23)] Z1 Z6 → mx_J (tB l D b0 ad Hb tau) mt_224 (d + 1) 44 [some (.ref 56), some (xI z1), none] [xI k5_0] h6 Post := by
        intro k5_0 Z6 h6 f5_0 hx6 hG6 hf6
        exact mx_J.ret (sn_224 44) (fun _ _ => rfl) (hP k5_0 Z6 h6 hx6 hG6 (fr_tr (M := [(56, 23)]) (fr_tr (M := [(56, 23)]) fr_rf (hf1) (M1 := []) rfl rfl) (hf6) rfl rfl) (by omega))
      refine Jicmp_ge (show mx_Sn _ _ 14 (mx_icmp_ge 21 17) from sn_224 14) (by omega) (by omega) (fun q7 => ?_) (fun q7 => ?_)
      · skip
        refine mx_J.step (sn_224 21) (fun _ _ => rfl) ?_
        refine JcI (z := 3) (show mx_Sn _ _ 22 (mx_const (.int 3) 23) from sn_224 22) rfl ?_
        refine Jicmp_ne (show mx_Sn _ _ 23 (mx_icmp_ne 35 26) from sn_224 23) (by omega) (by omega) (fun q8 => ?_) (fun q8 => ?_)
        · skip
          refine JcI (z := 20) (show mx_Sn _ _ 35 (mx_const (.int 20) 37) from sn_224 35) rfl ?_
          refine mx_J.step (sn_224 37) (fun _ _ => rfl) ?_
          refine JcI (z := 10) (show mx_Sn _ _ 38 (mx_const (.int 10) 40) from sn_224 38) rfl ?_
          obtain ⟨z9, Z9, h9, hc9, hx9, hG9, hf9, b9⟩ := ct_223_56_i10 (d := d + 0) (l := l) (D := D) (b0 := b0) (ad := ad) (Hb := Hb) (tau := tau) hx1 hG1 
          refine Jcv hx1 (show mx_Sn _ _ 40 (mx_callv 223 2 12 43) from sn_224 40) a56 s56 hc9 rfl rfl rfl ?_
          refine Jiadd (show mx_Sn _ _ 43 (mx_iadd 44) from sn_224 43) ?_
          exact c44 (20 + z9) Z9 h9 (by omega) hx9 hG9 (fr_tr (M := [(56, 23)]) fr_rf (hf9) (M1 := []) rfl rfl)
        · skip
          refine mx_J.step (sn_224 26) (fun _ _ => rfl) ?_
          refine JcI (z := 8) (show mx_Sn _ _ 27 (mx_const (.int 8) 29) from sn_224 27) rfl ?_
          obtain ⟨z10, Z10, h10, hc10, hx10, hG10, hf10, b10⟩ := ct_223_56_i8 (d := d + 0) (l := l) (D := D) (b0 := b0) (ad := ad) (Hb := Hb) (tau := tau) hx1 hG1 
          refine Jcv hx1 (show mx_Sn _ _ 29 (mx_callv 223 2 12 32) from sn_224 29) a56 s56 hc10 rfl rfl rfl ?_
          refine mx_J.step (sn_224 32) (fun _ _ => rfl) ?_
          exact c44 z10 Z10 h10 (by omega) hx10 hG10 (fr_tr (M := [(56, 23)]) fr_rf (hf10) (M1 := []) rfl rfl)
      · skip
        refine JcI (z := 0) (show mx_Sn _ _ 17 (mx_const (.int 0) 18) from sn_224 17) rfl ?_
        refine mx_J.step (sn_224 18) (fun _ _ => rfl) ?_
        exact c44 0 Z1 h1 (by omega) hx1 hG1 fr_rf
theorem ct_224_56 {l : Launch} {D : va_G} {b0 : Nat} {ad : Nat → Nat} {Hb : Heap} {tau : Nat → Int64} {d n s : Nat} {S : Nat → xS} {Z : xZ} {h : mx_H} (hx : XH n s S Z h) (hG : GI n S Z)   : ∃ (z : Int) (Z' : xZ) (h' : mx_H), mx_Ca (tB l D b0 ad Hb tau) (d + 2) 224 [.ref 56] h (some (xI z), h') ∧ XH n s S Z' h' ∧ GI n S Z' ∧ fr' [(56, 23)] Z Z' ∧ (0 ≤ z ∧ z ≤ 3505) := by
  obtain ⟨r, hca, z, Z', h', e, q⟩ := Jmt (B := tB l D b0 ad Hb tau) (M := mt_224) (mi := 224) (as := [.ref 56]) (d := d + 1) (ls := [some (.ref 56), none, none]) rfl rfl rfl rfl rfl rfl (cw_224_56 (l := l) (D := D) (b0 := b0) (ad := ad) (Hb := Hb) (tau := tau) (d := d) (Post := fun r => ∃ (z : Int) (Z' : xZ) (h' : mx_H), r = (some (xI z), h') ∧ XH n s S Z' h' ∧ GI n S Z' ∧ fr' [(56, 23)] Z Z' ∧ (0 ≤ z ∧ z ≤ 3505)) hx hG  (fun z Z' h' q1 q2 q3 q4 => ⟨z, Z', h', rfl, q1, q2, q3, q4⟩))
  subst e; exact ⟨z, Z', h', hca, q⟩
set_option maxRecDepth 100000 in
theorem cw_193_ {l : Launch} {D : va_G} {b0 : Nat} {ad : Nat → Nat} {Hb : Heap} {tau : Nat → Int64} {d n s : Nat} {S : Nat → xS} {Z : xZ} {h : mx_H} {Post : mx_R → Prop} (hx : XH n s S Z h) (hG : GI n S Z)  {x0 x1 x2 : Int} (p0 : (-2147483648) ≤ x0 ∧ x0 ≤ 2147483647) (p1 : (-2147483648) ≤ x1 ∧ x1 ≤ 2147483647) (p2 : (-2147483648) ≤ x2 ∧ x2 ≤ 2147483647) (hP : ∀ z : Int, (-2147483648) ≤ z ∧ z ≤ 2147483647 → Post (some (xI z), h)) : mx_J (tB l D b0 ad Hb tau) mt_193 (d + 0) 0 [some (xI x0), some (xI x1), some (xI x2), none, none] [] h Post := by
    refine mx_J.step (sn_193 0) (fun _ _ => rfl) ?_
    refine Jtsw (z := x0) (show mx_Sn _ _ 1 (mx_tsw 3003 3008 [40, 51, 62, 81, 73, 77] 81) from sn_193 1) (by omega) (fun q1 => ?_) (fun q1 => ?_)
    · skip
      refine mx_J.step (sn_193 81) (fun _ _ => rfl) ?_
      refine JcI (z := 3000) (show mx_Sn _ _ 82 (mx_const (.int 3000) 85) from sn_193 82) rfl ?_
      have c116 : ∀ (k2_0 : Int), (-9223372036854775808) ≤ k2_0 ∧ k2_0 ≤ 9223372036854775807 → mx_J (tB l D b0 ad Hb tau) mt_193 (d + 0) 116 [some (xI x0), some (xI x1), some (xI x2), none, none] [xL k2_0] h Post := by
        intro k2_0 f2_0
        refine mx_J.step (ls2 := [some (xI x0), some (xI x1), some (xI x2), some (xL k2_0), none]) (sn_193 116) (fun _ _ => rfl) ?_
        refine mx_J.step (sn_193 117) (fun _ _ => rfl) ?_
        refine JcL (z := 1000000) (show mx_Sn _ _ 118 (mx_const (.long 1000000) 121) from sn_193 118) rfl ?_
        have c146 : ∀ (k3_0 : Int), (-1000000) ≤ k3_0 ∧ k3_0 ≤ 1000000 → mx_J (tB l D b0 ad Hb tau) mt_193 (d + 0) 146 [some (xI x0), some (xI x1), some (xI x2), some (xL k2_0), none] [xL k3_0] h Post := by
          intro k3_0 f3_0
          refine Jl2i (show mx_Sn _ _ 146 (mx_l2i 147) from sn_193 146) ?_
          exact mx_J.ret (sn_193 147) (fun _ _ => rfl) (hP k3_0 (by omega))
        refine Jlif_le (show mx_Sn _ _ 121 (mx_lif_le 131 125) from sn_193 121) (by omega) (by omega) (fun q4 => ?_) (fun q4 => ?_)
        · skip
          refine mx_J.step (sn_193 131) (fun _ _ => rfl) ?_
          refine JcL (z := (-1000000)) (show mx_Sn _ _ 132 (mx_const (.long (-1000000)) 135) from sn_193 132) rfl ?_
          refine Jlif_ge (show mx_Sn _ _ 135 (mx_lif_ge 145 139) from sn_193 135) (by omega) (by omega) (fun q5 => ?_) (fun q5 => ?_)
          · skip
            refine mx_J.step (sn_193 145) (fun _ _ => rfl) ?_
            exact c146 k2_0 (by omega)
          · skip
            refine JcL (z := (-1000000)) (show mx_Sn _ _ 139 (mx_const (.long (-1000000)) 142) from sn_193 139) rfl ?_
            refine mx_J.step (sn_193 142) (fun _ _ => rfl) ?_
            exact c146 (-1000000) (by omega)
        · skip
          refine JcL (z := 1000000) (show mx_Sn _ _ 125 (mx_const (.long 1000000) 128) from sn_193 125) rfl ?_
          refine mx_J.step (sn_193 128) (fun _ _ => rfl) ?_
          exact c146 1000000 (by omega)
      refine Jicmp_ne (show mx_Sn _ _ 85 (mx_icmp_ne 96 88) from sn_193 85) (by omega) (by omega) (fun q6 => ?_) (fun q6 => ?_)
      · skip
        refine mx_J.step (sn_193 96) (fun _ _ => rfl) ?_
        refine JcI (z := 3001) (show mx_Sn _ _ 97 (mx_const (.int 3001) 100) from sn_193 97) rfl ?_
        refine Jicmp_ne (show mx_Sn _ _ 100 (mx_icmp_ne 111 103) from sn_193 100) (by omega) (by omega) (fun q7 => ?_) (fun q7 => ?_)
        · skip
          refine mx_J.step (sn_193 111) (fun _ _ => rfl) ?_
          refine Ji2l (show mx_Sn _ _ 112 (mx_i2l 113) from sn_193 112) (by omega) ?_
          refine mx_J.step (sn_193 113) (fun _ _ => rfl) ?_
          refine Ji2l (show mx_Sn _ _ 114 (mx_i2l 115) from sn_193 114) (by omega) ?_
          refine JlmulN (show mx_Sn _ _ 115 (mx_lmul 116) from sn_193 115) (fun y8 hy8 hq8 => ?_)
          exact c116 y8 (by omega)
        · skip
          refine mx_J.step (sn_193 103) (fun _ _ => rfl) ?_
          refine Ji2l (show mx_Sn _ _ 104 (mx_i2l 105) from sn_193 104) (by omega) ?_
          refine mx_J.step (sn_193 105) (fun _ _ => rfl) ?_
          refine Ji2l (show mx_Sn _ _ 106 (mx_i2l 107) from sn_193 106) (by omega) ?_
          refine Jlsub (show mx_Sn _ _ 107 (mx_lsub 108) from sn_193 107) ?_
          refine mx_J.step (sn_193 108) (fun _ _ => rfl) ?_
          exact c116 (x1 - x2) (by omega)
      · skip
        refine mx_J.step (sn_193 88) (fun _ _ => rfl) ?_
        refine Ji2l (show mx_Sn _ _ 89 (mx_i2l 90) from sn_193 89) (by omega) ?_
        refine mx_J.step (sn_193 90) (fun _ _ => rfl) ?_
        refine Ji2l (show mx_Sn _ _ 91 (mx_i2l 92) from sn_193 91) (by omega) ?_
        refine Jladd (show mx_Sn _ _ 92 (mx_ladd 93) from sn_193 92) ?_
        refine mx_J.step (sn_193 93) (fun _ _ => rfl) ?_
        exact c116 (x1 + x2) (by omega)
    · skip
      have e1 : x0 = 3003 ∨ x0 = 3004 ∨ x0 = 3005 ∨ x0 = 3006 ∨ x0 = 3007 ∨ x0 = 3008 := by omega
      rcases e1 with e1 | e1 | e1 | e1 | e1 | e1
      · refine ⟨40, by rw [e1]; rfl, ?_⟩
        refine mx_J.step (sn_193 40) (fun _ _ => rfl) ?_
        refine mx_J.step (sn_193 41) (fun _ _ => rfl) ?_
        have c50 : ∀ (k9_0 : Int), 0 ≤ k9_0 ∧ k9_0 ≤ 1 → mx_J (tB l D b0 ad Hb tau) mt_193 (d + 0) 50 [some (xI x0), some (xI x1), some (xI x2), none, none] [xI k9_0] h Post := by
          intro k9_0 f9_0
          exact mx_J.ret (sn_193 50) (fun _ _ => rfl) (hP k9_0 (by omega))
        refine Jicmp_ne (show mx_Sn _ _ 42 (mx_icmp_ne 49 45) from sn_193 42) (by omega) (by omega) (fun q10 => ?_) (fun q10 => ?_)
        · skip
          refine JcI (z := 0) (show mx_Sn _ _ 49 (mx_const (.int 0) 50) from sn_193 49) rfl ?_
          exact c50 0 (by omega)
        · skip
          refine JcI (z := 1) (show mx_Sn _ _ 45 (mx_const (.int 1) 46) from sn_193 45) rfl ?_
          refine mx_J.step (sn_193 46) (fun _ _ => rfl) ?_
          exact c50 1 (by omega)
      · refine ⟨51, by rw [e1]; rfl, ?_⟩
        refine mx_J.step (sn_193 51) (fun _ _ => rfl) ?_
        refine mx_J.step (sn_193 52) (fun _ _ => rfl) ?_
        have c61 : ∀ (k11_0 : Int), 0 ≤ k11_0 ∧ k11_0 ≤ 1 → mx_J (tB l D b0 ad Hb tau) mt_193 (d + 0) 61 [some (xI x0), some (xI x1), some (xI x2), none, none] [xI k11_0] h Post := by
          intro k11_0 f11_0
          exact mx_J.ret (sn_193 61) (fun _ _ => rfl) (hP k11_0 (by omega))
        refine Jicmp_ge (show mx_Sn _ _ 53 (mx_icmp_ge 60 56) from sn_193 53) (by omega) (by omega) (fun q12 => ?_) (fun q12 => ?_)
        · skip
          refine JcI (z := 0) (show mx_Sn _ _ 60 (mx_const (.int 0) 61) from sn_193 60) rfl ?_
          exact c61 0 (by omega)
        · skip
          refine JcI (z := 1) (show mx_Sn _ _ 56 (mx_const (.int 1) 57) from sn_193 56) rfl ?_
          refine mx_J.step (sn_193 57) (fun _ _ => rfl) ?_
          exact c61 1 (by omega)
      · refine ⟨62, by rw [e1]; rfl, ?_⟩
        refine mx_J.step (sn_193 62) (fun _ _ => rfl) ?_
        refine mx_J.step (sn_193 63) (fun _ _ => rfl) ?_
        have c72 : ∀ (k13_0 : Int), 0 ≤ k13_0 ∧ k13_0 ≤ 1 → mx_J (tB l D b0 ad Hb tau) mt_193 (d + 0) 72 [some (xI x0), some (xI x1), some (xI x2), none, none] [xI k13_0] h Post := by
          intro k13_0 f13_0
          exact mx_J.ret (sn_193 72) (fun _ _ => rfl) (hP k13_0 (by omega))
        refine Jicmp_le (show mx_Sn _ _ 64 (mx_icmp_le 71 67) from sn_193 64) (by omega) (by omega) (fun q14 => ?_) (fun q14 => ?_)
        · skip
          refine JcI (z := 0) (show mx_Sn _ _ 71 (mx_const (.int 0) 72) from sn_193 71) rfl ?_
          exact c72 0 (by omega)
        · skip
          refine JcI (z := 1) (show mx_Sn _ _ 67 (mx_const (.int 1) 68) from sn_193 67) rfl ?_
          refine mx_J.step (sn_193 68) (fun _ _ => rfl) ?_
          exact c72 1 (by omega)
      · refine ⟨81, by rw [e1]; rfl, ?_⟩
        refine mx_J.step (sn_193 81) (fun _ _ => rfl) ?_
        refine JcI (z := 3000) (show mx_Sn _ _ 82 (mx_const (.int 3000) 85) from sn_193 82) rfl ?_
        have c116 : ∀ (k15_0 : Int), (-9223372036854775808) ≤ k15_0 ∧ k15_0 ≤ 9223372036854775807 → mx_J (tB l D b0 ad Hb tau) mt_193 (d + 0) 116 [some (xI x0), some (xI x1), some (xI x2), none, none] [xL k15_0] h Post := by
          intro k15_0 f15_0
          refine mx_J.step (ls2 := [some (xI x0), some (xI x1), some (xI x2), some (xL k15_0), none]) (sn_193 116) (fun _ _ => rfl) ?_
          refine mx_J.step (sn_193 117) (fun _ _ => rfl) ?_
          refine JcL (z := 1000000) (show mx_Sn _ _ 118 (mx_const (.long 1000000) 121) from sn_193 118) rfl ?_
          have c146 : ∀ (k16_0 : Int), (-1000000) ≤ k16_0 ∧ k16_0 ≤ 1000000 → mx_J (tB l D b0 ad Hb tau) mt_193 (d + 0) 146 [some (xI x0), some (xI x1), some (xI x2), some (xL k15_0), none] [xL k16_0] h Post := by
            intro k16_0 f16_0
            refine Jl2i (show mx_Sn _ _ 146 (mx_l2i 147) from sn_193 146) ?_
            exact mx_J.ret (sn_193 147) (fun _ _ => rfl) (hP k16_0 (by omega))
          refine Jlif_le (show mx_Sn _ _ 121 (mx_lif_le 131 125) from sn_193 121) (by omega) (by omega) (fun q17 => ?_) (fun q17 => ?_)
          · skip
            refine mx_J.step (sn_193 131) (fun _ _ => rfl) ?_
            refine JcL (z := (-1000000)) (show mx_Sn _ _ 132 (mx_const (.long (-1000000)) 135) from sn_193 132) rfl ?_
            refine Jlif_ge (show mx_Sn _ _ 135 (mx_lif_ge 145 139) from sn_193 135) (by omega) (by omega) (fun q18 => ?_) (fun q18 => ?_)
            · skip
              refine mx_J.step (sn_193 145) (fun _ _ => rfl) ?_
              exact c146 k15_0 (by omega)
            · skip
              refine JcL (z := (-1000000)) (show mx_Sn _ _ 139 (mx_const (.long (-1000000)) 142) from sn_193 139) rfl ?_
              refine mx_J.step (sn_193 142) (fun _ _ => rfl) ?_
              exact c146 (-1000000) (by omega)
          · skip
            refine JcL (z := 1000000) (show mx_Sn _ _ 125 (mx_const (.long 1000000) 128) from sn_193 125) rfl ?_
            refine mx_J.step (sn_193 128) (fun _ _ => rfl) ?_
            exact c146 1000000 (by omega)
        refine Jicmp_ne (show mx_Sn _ _ 85 (mx_icmp_ne 96 88) from sn_193 85) (by omega) (by omega) (fun q19 => ?_) (fun q19 => ?_)
        · skip
          refine mx_J.step (sn_193 96) (fun _ _ => rfl) ?_
          refine JcI (z := 3001) (show mx_Sn _ _ 97 (mx_const (.int 3001) 100) from sn_193 97) rfl ?_
          refine Jicmp_ne (show mx_Sn _ _ 100 (mx_icmp_ne 111 103) from sn_193 100) (by omega) (by omega) (fun q20 => ?_) (fun q20 => ?_)
          · skip
            refine mx_J.step (sn_193 111) (fun _ _ => rfl) ?_
            refine Ji2l (show mx_Sn _ _ 112 (mx_i2l 113) from sn_193 112) (by omega) ?_
            refine mx_J.step (sn_193 113) (fun _ _ => rfl) ?_
            refine Ji2l (show mx_Sn _ _ 114 (mx_i2l 115) from sn_193 114) (by omega) ?_
            refine JlmulN (show mx_Sn _ _ 115 (mx_lmul 116) from sn_193 115) (fun y21 hy21 hq21 => ?_)
            exact c116 y21 (by omega)
          · skip
            refine mx_J.step (sn_193 103) (fun _ _ => rfl) ?_
            refine Ji2l (show mx_Sn _ _ 104 (mx_i2l 105) from sn_193 104) (by omega) ?_
            refine mx_J.step (sn_193 105) (fun _ _ => rfl) ?_
            refine Ji2l (show mx_Sn _ _ 106 (mx_i2l 107) from sn_193 106) (by omega) ?_
            refine Jlsub (show mx_Sn _ _ 107 (mx_lsub 108) from sn_193 107) ?_
            refine mx_J.step (sn_193 108) (fun _ _ => rfl) ?_
            exact c116 (x1 - x2) (by omega)
        · skip
          refine mx_J.step (sn_193 88) (fun _ _ => rfl) ?_
          refine Ji2l (show mx_Sn _ _ 89 (mx_i2l 90) from sn_193 89) (by omega) ?_
          refine mx_J.step (sn_193 90) (fun _ _ => rfl) ?_
          refine Ji2l (show mx_Sn _ _ 91 (mx_i2l 92) from sn_193 91) (by omega) ?_
          refine Jladd (show mx_Sn _ _ 92 (mx_ladd 93) from sn_193 92) ?_
          refine mx_J.step (sn_193 93) (fun _ _ => rfl) ?_
          exact c116 (x1 + x2) (by omega)
      · refine ⟨73, by rw [e1]; rfl, ?_⟩
        refine mx_J.step (sn_193 73) (fun _ _ => rfl) ?_
        refine mx_J.step (sn_193 74) (fun _ _ => rfl) ?_
        refine JiandX (show mx_Sn _ _ 75 (mx_iand 76) from sn_193 75) (fun y22 hy22 => ?_)
        exact mx_J.ret (sn_193 76) (fun _ _ => rfl) (hP y22 (by omega))
      · refine ⟨77, by rw [e1]; rfl, ?_⟩
        refine mx_J.step (sn_193 77) (fun _ _ => rfl) ?_
        refine mx_J.step (sn_193 78) (fun _ _ => rfl) ?_
        refine JiorX (show mx_Sn _ _ 79 (mx_ior 80) from sn_193 79) (fun y23 hy23 => ?_)
        exact mx_J.ret (sn_193 80) (fun _ _ => rfl) (hP y23 (by omega))
theorem ct_193_ {l : Launch} {D : va_G} {b0 : Nat} {ad : Nat → Nat} {Hb : Heap} {tau : Nat → Int64} {d n s : Nat} {S : Nat → xS} {Z : xZ} {h : mx_H} (hx : XH n s S Z h) (hG : GI n S Z)  {x0 x1 x2 : Int} (p0 : (-2147483648) ≤ x0 ∧ x0 ≤ 2147483647) (p1 : (-2147483648) ≤ x1 ∧ x1 ≤ 2147483647) (p2 : (-2147483648) ≤ x2 ∧ x2 ≤ 2147483647) : ∃ z : Int, mx_Ca (tB l D b0 ad Hb tau) (d + 1) 193 [xI x0, xI x1, xI x2] h (some (xI z), h) ∧ ((-2147483648) ≤ z ∧ z ≤ 2147483647) := by
  obtain ⟨r, hca, z, e, hp⟩ := Jmt (B := tB l D b0 ad Hb tau) (M := mt_193) (mi := 193) (as := [xI x0, xI x1, xI x2]) (d := d + 0) (ls := [some (xI x0), some (xI x1), some (xI x2), none, none]) rfl rfl rfl rfl rfl rfl (cw_193_ (l := l) (D := D) (b0 := b0) (ad := ad) (Hb := Hb) (tau := tau) (d := d) (Post := fun r => ∃ z : Int, r = (some (xI z), h) ∧ ((-2147483648) ≤ z ∧ z ≤ 2147483647)) hx hG p0 p1 p2 (fun z hz => ⟨z, rfl, hz⟩))
  subst e; exact ⟨z, hca, hp⟩
set_option maxRecDepth 100000 in
theorem cw_194_56_i0 {l : Launch} {D : va_G} {b0 : Nat} {ad : Nat → Nat} {Hb : Heap} {tau : Nat → Int64} {d n s : Nat} {S : Nat → xS} {Z : xZ} {h : mx_H} {Post : mx_R → Prop} (hx : XH n s S Z h) (hG : GI n S Z)   (k0 : Z 57 21 = 1) (hP : ∀ (z : Int) (Z' : xZ) (h' : mx_H), XH n s S Z' h' → GI n S Z' → fr' [(64, (-1))] Z Z' → (-2147483648) ≤ z ∧ z ≤ 2147483647 → Post (some (xI z), h')) : mx_J (tB l D b0 ad Hb tau) mt_194 (d + 1) 0 [some (.ref 56), some (xI 0), none, none, none] [] h Post := by
    have a56 : 56 < n := lt83 (GI_n hG) rfl
    have s56 : S 56 = .inl (12, [0, 2, 2, 2, 2, 0, 0, 0, 0, 0, 0, 0, 0, 0, 0, 2, 2, 2, 0, 2, 2, 2, 0, 0, 2, 2, 2, 2, 2, 2, 0, 0, 2, 2, 2, 2, 2, 2, 2, 2, 2, 2]) := GI_s hG 56 rfl
    have a57 : 57 < n := lt83 (GI_n hG) rfl
    have s57 : S 57 = .inr (.int, 2886, 0) := GI_s hG 57 rfl
    have a64 : 64 < n := lt83 (GI_n hG) rfl
    have s64 : S 64 = .inr (.int, 900, 0) := GI_s hG 64 rfl
    have a65 : 65 < n := lt83 (GI_n hG) rfl
    have s65 : S 65 = .inr (.int, 5, 0) := GI_s hG 65 rfl
    refine JcI (z := 0) (show mx_Sn _ _ 0 (mx_const (.int 0) 1) from sn_194 0) rfl ?_
    refine mx_J.step (ls2 := [some (.ref 56), some (xI 0), some (xI 0), none, none]) (sn_194 1) (fun _ _ => rfl) ?_
    refine JcI (z := 0) (show mx_Sn _ _ 2 (mx_const (.int 0) 3) from sn_194 2) rfl ?_
    refine mx_J.step (ls2 := [some (.ref 56), some (xI 0), some (xI 0), some (xI 0), none]) (sn_194 3) (fun _ _ => rfl) ?_
    have c4 : ∀ (m1 : Nat) (w1_2 : Int) (w1_3 : Int) (u1_4 : Option Value) (Z2 : xZ) (h2 : mx_H), 900 - w1_3 < (m1 : Int) → 0 ≤ w1_2 ∧ w1_2 ≤ 900 → 0 ≤ w1_3 ∧ w1_3 ≤ 900 → (w1_2 = dp Z 0 w1_3 ∧ 0 ≤ w1_2 ∧ w1_2 ≤ w1_3 ∧ 0 ≤ w1_3) → XH n s S Z2 h2 → GI n S Z2 → fr' [(64, (-1))] Z Z2 → mx_J (tB l D b0 ad Hb tau) mt_194 (d + 1) 4 [some (.ref 56), some (xI 0), some (xI w1_2), some (xI w1_3), u1_4] [] h2 Post := by
      intro m1
      induction m1 with
      | zero => intro w1_2 w1_3 u1_4 Z2 h2 q1 f1_0 f1_1 f1_2 hx2 hG2 hf2; exact absurd q1 (by omega)
      | succ m1 ih1 =>
        intro w1_2 w1_3 u1_4 Z2 h2 q1 f1_0 f1_1 f1_2 hx2 hG2 hf2
        have wm := WF_m0 (GI_wf hG) k0
        refine mx_J.step (sn_194 4) (fun _ _ => rfl) ?_
        refine mx_J.step (sn_194 5) (fun _ _ => rfl) ?_
        refine JgetR (g := 1) (b := 57) hx2 (show mx_Sn _ _ 6 (mx_getf 12 1 9) from sn_194 6) a56 s56 rfl rfl (hG2.prr 56 1 rfl) ?_
        refine JcI (z := 25) (show mx_Sn _ _ 9 (mx_const (.int 25) 11) from sn_194 9) rfl ?_
        refine mx_J.step (sn_194 11) (fun _ _ => rfl) ?_
        refine JiaddE (r := 25) (show mx_Sn _ _ 12 (mx_iadd 13) from sn_194 12) (by decide) ?_
        have b4 : 0 ≤ Z 57 25 ∧ Z 57 25 ≤ 900 := by have hq := GI_ex hG 57 25; replace hq : f57 (25 % 962) (Z 57 25) := hq; unfold f57 at hq; omega
        have b5 : (-2147483648) ≤ Z 57 25 ∧ Z 57 25 ≤ 2147483647 := hG.pr 57 25
        refine JialdI (z := Z 57 25) hx2 (show mx_Sn _ _ 13 (mx_iald 14) from sn_194 13) a57 s57 (by omega) (hf2 57 25 rfl) ?_
        refine Jicmp_ge (show mx_Sn _ _ 14 (mx_icmp_ge 198 17) from sn_194 14) (by omega) (by omega) (fun q6 => ?_) (fun q6 => ?_)
        · skip
          refine mx_J.step (sn_194 198) (fun _ _ => rfl) ?_
          refine JgetR (g := 19) (b := 64) hx2 (show mx_Sn _ _ 199 (mx_getf 12 19 202) from sn_194 199) a56 s56 rfl rfl (hG2.prr 56 19 rfl) ?_
          refine JcI (z := 0) (show mx_Sn _ _ 202 (mx_const (.int 0) 203) from sn_194 202) rfl ?_
          have b8 : (-2147483648) ≤ Z2 64 0 ∧ Z2 64 0 ≤ 2147483647 := hG2.pr 64 0
          refine JialdI (z := Z2 64 0) hx2 (show mx_Sn _ _ 203 (mx_iald 204) from sn_194 203) a64 s64 (by omega) rfl ?_
          have eq9 : Z2 57 21 = Z 57 21 := (hf2 57 21 rfl)
          have b10 : 0 ≤ Z 57 21 ∧ Z 57 21 ≤ 1 := by have hq := GI_ex hG 57 21; replace hq : f57 (21 % 962) (Z 57 21) := hq; unfold f57 at hq; omega
          have b11 : (-2147483648) ≤ Z 57 21 ∧ Z 57 21 ≤ 2147483647 := hG.pr 57 21
          exact mx_J.ret (sn_194 204) (fun _ _ => rfl) (hP (Z2 64 0) Z2 h2 hx2 hG2 (fr_tr (M := [(64, (-1))]) fr_rf (hf2) (M1 := []) rfl rfl) (by omega))
        · skip
          refine mx_J.step (sn_194 17) (fun _ _ => rfl) ?_
          refine JgetR (g := 1) (b := 57) hx2 (show mx_Sn _ _ 18 (mx_getf 12 1 21) from sn_194 18) a56 s56 rfl rfl (hG2.prr 56 1 rfl) ?_
          refine JcI (z := 62) (show mx_Sn _ _ 21 (mx_const (.int 62) 23) from sn_194 21) rfl ?_
          refine mx_J.step (sn_194 23) (fun _ _ => rfl) ?_
          refine JgetR (g := 1) (b := 57) hx2 (show mx_Sn _ _ 24 (mx_getf 12 1 27) from sn_194 24) a56 s56 rfl rfl (hG2.prr 56 1 rfl) ?_
          refine JcI (z := 23) (show mx_Sn _ _ 27 (mx_const (.int 23) 29) from sn_194 27) rfl ?_
          refine mx_J.step (sn_194 29) (fun _ _ => rfl) ?_
          refine JiaddE (r := 23) (show mx_Sn _ _ 30 (mx_iadd 31) from sn_194 30) (by decide) ?_
          have b14 : 0 ≤ Z 57 23 ∧ Z 57 23 ≤ 900 := by have hq := GI_ex hG 57 23; replace hq : f57 (23 % 962) (Z 57 23) := hq; unfold f57 at hq; omega
          have b15 : (-2147483648) ≤ Z 57 23 ∧ Z 57 23 ≤ 2147483647 := hG.pr 57 23
          refine JialdI (z := Z 57 23) hx2 (show mx_Sn _ _ 31 (mx_iald 32) from sn_194 31) a57 s57 (by omega) (hf2 57 23 rfl) ?_
          refine Jiadd (show mx_Sn _ _ 32 (mx_iadd 33) from sn_194 32) ?_
          refine mx_J.step (sn_194 33) (fun _ _ => rfl) ?_
          refine Jiadd (show mx_Sn _ _ 34 (mx_iadd 35) from sn_194 34) ?_
          have b16 := GI_st hG ((62 + (Z 57 23)) + w1_3)
          have b17 : 0 ≤ Z 56 18 ∧ Z 56 18 ≤ 385 := hG.pr 56 18
          have b18 : f57 (((62 + (Z 57 23)) + w1_3) % 962) (Z 57 ((62 + (Z 57 23)) + w1_3)) := GI_ex hG 57 ((62 + (Z 57 23)) + w1_3)
          have b19 : (-2147483648) ≤ Z 57 ((62 + (Z 57 23)) + w1_3) ∧ Z 57 ((62 + (Z 57 23)) + w1_3) ≤ 2147483647 := hG.pr 57 ((62 + (Z 57 23)) + w1_3)
          refine JialdI (z := Z 57 ((62 + (Z 57 23)) + w1_3)) hx2 (show mx_Sn _ _ 35 (mx_iald 36) from sn_194 35) a57 s57 (by omega) (hf2 57 ((62 + (Z 57 23)) + w1_3) rfl) ?_
          refine mx_J.step (ls2 := [some (.ref 56), some (xI 0), some (xI w1_2), some (xI w1_3), some (xI (Z 57 ((62 + (Z 57 23)) + w1_3)))]) (sn_194 36) (fun _ _ => rfl) ?_
          have wl := WF_l0 (GI_wf hG) (k := w1_3) k0 (by omega)
          refine mx_J.step (sn_194 38) (fun _ _ => rfl) ?_
          refine JcI (z := 3000) (show mx_Sn _ _ 40 (mx_const (.int 3000) 43) from sn_194 40) rfl ?_
          have c192 : ∀ (w20_2 : Int) (Z21 : xZ) (h21 : mx_H), 0 ≤ w20_2 ∧ w20_2 ≤ 900 → (w20_2 = dp Z 0 (w1_3 + 1) ∧ 0 ≤ w20_2 ∧ w20_2 ≤ w1_3 + 1) → XH n s S Z21 h21 → GI n S Z21 → fr' [(64, (-1))] Z2 Z21 → mx_J (tB l D b0 ad Hb tau) mt_194 (d + 1) 192 [some (.ref 56), some (xI 0), some (xI w20_2), some (xI w1_3), some (xI (Z 57 ((62 + (Z 57 23)) + w1_3)))] [] h21 Post := by
            intro w20_2 Z21 h21 f20_0 f20_1 hx21 hG21 hf21
            refine Jiinc (z := w1_3) (cz := 1) (ls2 := [some (.ref 56), some (xI 0), some (xI w20_2), some (xI (w1_3 + 1)), some (xI (Z 57 ((62 + (Z 57 23)) + w1_3)))]) (show mx_Sn _ _ 192 (mx_iinc 3 1 195) from sn_194 192) rfl rfl rfl rfl ?_
            refine mx_J.step (sn_194 195) (fun _ _ => rfl) ?_
            exact ih1 w20_2 (w1_3 + 1) (some (xI (Z 57 ((62 + (Z 57 23)) + w1_3)))) Z21 h21 (by omega) (by omega) (by omega) (by first | exact ⟨dp_00.symm, by omega, by omega, by omega⟩ | omega) hx21 hG21 (fr_tr (M := [(64, (-1))]) (fr_tr (M := [(64, (-1))]) fr_rf (hf2) (M1 := []) rfl rfl) (hf21) rfl rfl)
          refine Jicmp_ge (show mx_Sn _ _ 43 (mx_icmp_ge 82 46) from sn_194 43) (by omega) (by omega) (fun q22 => ?_) (fun q22 => ?_)
          · skip
            refine mx_J.step (sn_194 82) (fun _ _ => rfl) ?_
            refine JcI (z := 3006) (show mx_Sn _ _ 84 (mx_const (.int 3006) 87) from sn_194 84) rfl ?_
            refine Jicmp_ne (show mx_Sn _ _ 87 (mx_icmp_ne 111 90) from sn_194 87) (by omega) (by omega) (fun q23 => ?_) (fun q23 => ?_)
            · skip
              refine mx_J.step (sn_194 111) (fun _ _ => rfl) ?_
              refine JcI (z := 3009) (show mx_Sn _ _ 113 (mx_const (.int 3009) 116) from sn_194 113) rfl ?_
              refine Jicmp_ne (show mx_Sn _ _ 116 (mx_icmp_ne 162 119) from sn_194 116) (by omega) (by omega) (fun q24 => ?_) (fun q24 => ?_)
              · skip
                refine Jiinc (z := w1_2) (cz := (-1)) (ls2 := [some (.ref 56), some (xI 0), some (xI (w1_2 + (-1))), some (xI w1_3), some (xI (Z 57 ((62 + (Z 57 23)) + w1_3)))]) (show mx_Sn _ _ 162 (mx_iinc 2 (-1) 165) from sn_194 162) rfl rfl rfl rfl ?_
                refine mx_J.step (sn_194 165) (fun _ _ => rfl) ?_
                refine JgetR (g := 19) (b := 64) hx2 (show mx_Sn _ _ 166 (mx_getf 12 19 169) from sn_194 166) a56 s56 rfl rfl (hG2.prr 56 19 rfl) ?_
                refine mx_J.step (sn_194 169) (fun _ _ => rfl) ?_
                refine JcI (z := 1) (show mx_Sn _ _ 170 (mx_const (.int 1) 171) from sn_194 170) rfl ?_
                refine Jisub (show mx_Sn _ _ 171 (mx_isub 172) from sn_194 171) ?_
                refine mx_J.step (sn_194 172) (fun _ _ => rfl) ?_
                refine mx_J.step (sn_194 174) (fun _ _ => rfl) ?_
                refine JgetR (g := 19) (b := 64) hx2 (show mx_Sn _ _ 175 (mx_getf 12 19 178) from sn_194 175) a56 s56 rfl rfl (hG2.prr 56 19 rfl) ?_
                refine mx_J.step (sn_194 178) (fun _ _ => rfl) ?_
                refine JcI (z := 1) (show mx_Sn _ _ 179 (mx_const (.int 1) 180) from sn_194 179) rfl ?_
                refine Jisub (show mx_Sn _ _ 180 (mx_isub 181) from sn_194 180) ?_
                have b27 : (-2147483648) ≤ Z2 64 ((w1_2 + (-1)) - 1) ∧ Z2 64 ((w1_2 + (-1)) - 1) ≤ 2147483647 := hG2.pr 64 ((w1_2 + (-1)) - 1)
                refine JialdI (z := Z2 64 ((w1_2 + (-1)) - 1)) hx2 (show mx_Sn _ _ 181 (mx_iald 182) from sn_194 181) a64 s64 (by omega) rfl ?_
                refine mx_J.step (sn_194 182) (fun _ _ => rfl) ?_
                refine JgetR (g := 19) (b := 64) hx2 (show mx_Sn _ _ 183 (mx_getf 12 19 186) from sn_194 183) a56 s56 rfl rfl (hG2.prr 56 19 rfl) ?_
                refine mx_J.step (sn_194 186) (fun _ _ => rfl) ?_
                have b29 : (-2147483648) ≤ Z2 64 (w1_2 + (-1)) ∧ Z2 64 (w1_2 + (-1)) ≤ 2147483647 := hG2.pr 64 (w1_2 + (-1))
                refine JialdI (z := Z2 64 (w1_2 + (-1))) hx2 (show mx_Sn _ _ 187 (mx_iald 188) from sn_194 187) a64 s64 (by omega) rfl ?_
                obtain ⟨z30, hc30, b30⟩ := ct_193_ (d := d + 0) (l := l) (D := D) (b0 := b0) (ad := ad) (Hb := Hb) (tau := tau) hx2 hG2 (show (-2147483648) ≤ Z 57 ((62 + (Z 57 23)) + w1_3) ∧ Z 57 ((62 + (Z 57 23)) + w1_3) ≤ 2147483647 by omega) (show (-2147483648) ≤ Z2 64 ((w1_2 + (-1)) - 1) ∧ Z2 64 ((w1_2 + (-1)) - 1) ≤ 2147483647 by omega) (show (-2147483648) ≤ Z2 64 (w1_2 + (-1)) ∧ Z2 64 (w1_2 + (-1)) ≤ 2147483647 by omega)
                refine Jcs (show mx_Sn _ _ 188 (mx_calls 193 3 191) from sn_194 188) hc30 rfl rfl rfl ?_
                refine JiastI hx2 (show mx_Sn _ _ 191 (mx_iast 1 192) from sn_194 191) a64 s64 rfl (by omega) (fun Z31 h31 hx31 hE31 => ?_)
                have hG31 := GI_up hG2 hE31 (show (-2147483648) ≤ z30 ∧ z30 ≤ 2147483647 by omega) trivial rfl
                exact c192 (w1_2 + (-1)) Z31 h31 (by omega) (by omega) hx31 hG31 (fr_tr (M := [(64, (-1))]) fr_rf (fr_ua hE31) (M1 := []) rfl rfl)
              · skip
                refine Jiinc (z := w1_2) (cz := (-2)) (ls2 := [some (.ref 56), some (xI 0), some (xI (w1_2 + (-2))), some (xI w1_3), some (xI (Z 57 ((62 + (Z 57 23)) + w1_3)))]) (show mx_Sn _ _ 119 (mx_iinc 2 (-2) 122) from sn_194 119) rfl rfl rfl rfl ?_
                refine mx_J.step (sn_194 122) (fun _ _ => rfl) ?_
                refine JgetR (g := 19) (b := 64) hx2 (show mx_Sn _ _ 123 (mx_getf 12 19 126) from sn_194 123) a56 s56 rfl rfl (hG2.prr 56 19 rfl) ?_
                refine mx_J.step (sn_194 126) (fun _ _ => rfl) ?_
                refine JcI (z := 1) (show mx_Sn _ _ 127 (mx_const (.int 1) 128) from sn_194 127) rfl ?_
                refine Jisub (show mx_Sn _ _ 128 (mx_isub 129) from sn_194 128) ?_
                refine mx_J.step (sn_194 129) (fun _ _ => rfl) ?_
                refine JgetR (g := 19) (b := 64) hx2 (show mx_Sn _ _ 130 (mx_getf 12 19 133) from sn_194 130) a56 s56 rfl rfl (hG2.prr 56 19 rfl) ?_
                refine mx_J.step (sn_194 133) (fun _ _ => rfl) ?_
                refine JcI (z := 1) (show mx_Sn _ _ 134 (mx_const (.int 1) 135) from sn_194 134) rfl ?_
                refine Jisub (show mx_Sn _ _ 135 (mx_isub 136) from sn_194 135) ?_
                have b34 : (-2147483648) ≤ Z2 64 ((w1_2 + (-2)) - 1) ∧ Z2 64 ((w1_2 + (-2)) - 1) ≤ 2147483647 := hG2.pr 64 ((w1_2 + (-2)) - 1)
                refine JialdI (z := Z2 64 ((w1_2 + (-2)) - 1)) hx2 (show mx_Sn _ _ 136 (mx_iald 137) from sn_194 136) a64 s64 (by omega) rfl ?_
                refine JcI (z := 1) (show mx_Sn _ _ 137 (mx_const (.int 1) 138) from sn_194 137) rfl ?_
                have c158 : ∀ (k35_2 : Int), (-2147483648) ≤ k35_2 ∧ k35_2 ≤ 2147483647 → mx_J (tB l D b0 ad Hb tau) mt_194 (d + 1) 158 [some (.ref 56), some (xI 0), some (xI (w1_2 + (-2))), some (xI w1_3), some (xI (Z 57 ((62 + (Z 57 23)) + w1_3)))] [xI k35_2, xI ((w1_2 + (-2)) - 1), .ref 64] h2 Post := by
                  intro k35_2 f35_0
                  refine JiastI hx2 (show mx_Sn _ _ 158 (mx_iast 1 159) from sn_194 158) a64 s64 rfl (by omega) (fun Z36 h36 hx36 hE36 => ?_)
                  have hG36 := GI_up hG2 hE36 (show (-2147483648) ≤ k35_2 ∧ k35_2 ≤ 2147483647 by omega) trivial rfl
                  refine mx_J.step (sn_194 159) (fun _ _ => rfl) ?_
                  exact c192 (w1_2 + (-2)) Z36 h36 (by omega) (by omega) hx36 hG36 (fr_tr (M := [(64, (-1))]) fr_rf (fr_ua hE36) (M1 := []) rfl rfl)
                refine Jicmp_ne (show mx_Sn _ _ 138 (mx_icmp_ne 150 141) from sn_194 138) (by omega) (by omega) (fun q37 => ?_) (fun q37 => ?_)
                · skip
                  refine mx_J.step (sn_194 150) (fun _ _ => rfl) ?_
                  refine JgetR (g := 19) (b := 64) hx2 (show mx_Sn _ _ 151 (mx_getf 12 19 154) from sn_194 151) a56 s56 rfl rfl (hG2.prr 56 19 rfl) ?_
                  refine mx_J.step (sn_194 154) (fun _ _ => rfl) ?_
                  refine JcI (z := 1) (show mx_Sn _ _ 155 (mx_const (.int 1) 156) from sn_194 155) rfl ?_
                  refine Jiadd (show mx_Sn _ _ 156 (mx_iadd 157) from sn_194 156) ?_
                  have b39 : (-2147483648) ≤ Z2 64 ((w1_2 + (-2)) + 1) ∧ Z2 64 ((w1_2 + (-2)) + 1) ≤ 2147483647 := hG2.pr 64 ((w1_2 + (-2)) + 1)
                  refine JialdI (z := Z2 64 ((w1_2 + (-2)) + 1)) hx2 (show mx_Sn _ _ 157 (mx_iald 158) from sn_194 157) a64 s64 (by omega) rfl ?_
                  exact c158 (Z2 64 ((w1_2 + (-2)) + 1)) (by omega)
                · skip
                  refine mx_J.step (sn_194 141) (fun _ _ => rfl) ?_
                  refine JgetR (g := 19) (b := 64) hx2 (show mx_Sn _ _ 142 (mx_getf 12 19 145) from sn_194 142) a56 s56 rfl rfl (hG2.prr 56 19 rfl) ?_
                  refine mx_J.step (sn_194 145) (fun _ _ => rfl) ?_
                  have b41 : (-2147483648) ≤ Z2 64 (w1_2 + (-2)) ∧ Z2 64 (w1_2 + (-2)) ≤ 2147483647 := hG2.pr 64 (w1_2 + (-2))
                  refine JialdI (z := Z2 64 (w1_2 + (-2))) hx2 (show mx_Sn _ _ 146 (mx_iald 147) from sn_194 146) a64 s64 (by omega) rfl ?_
                  refine mx_J.step (sn_194 147) (fun _ _ => rfl) ?_
                  exact c158 (Z2 64 (w1_2 + (-2))) (by omega)
            · skip
              refine mx_J.step (sn_194 90) (fun _ _ => rfl) ?_
              refine JgetR (g := 19) (b := 64) hx2 (show mx_Sn _ _ 91 (mx_getf 12 19 94) from sn_194 91) a56 s56 rfl rfl (hG2.prr 56 19 rfl) ?_
              refine mx_J.step (sn_194 94) (fun _ _ => rfl) ?_
              refine JcI (z := 1) (show mx_Sn _ _ 95 (mx_const (.int 1) 96) from sn_194 95) rfl ?_
              refine Jisub (show mx_Sn _ _ 96 (mx_isub 97) from sn_194 96) ?_
              refine JcI (z := 1) (show mx_Sn _ _ 97 (mx_const (.int 1) 98) from sn_194 97) rfl ?_
              refine mx_J.step (sn_194 98) (fun _ _ => rfl) ?_
              refine JgetR (g := 19) (b := 64) hx2 (show mx_Sn _ _ 99 (mx_getf 12 19 102) from sn_194 99) a56 s56 rfl rfl (hG2.prr 56 19 rfl) ?_
              refine mx_J.step (sn_194 102) (fun _ _ => rfl) ?_
              refine JcI (z := 1) (show mx_Sn _ _ 103 (mx_const (.int 1) 104) from sn_194 103) rfl ?_
              refine Jisub (show mx_Sn _ _ 104 (mx_isub 105) from sn_194 104) ?_
              have b44 : (-2147483648) ≤ Z2 64 (w1_2 - 1) ∧ Z2 64 (w1_2 - 1) ≤ 2147483647 := hG2.pr 64 (w1_2 - 1)
              refine JialdI (z := Z2 64 (w1_2 - 1)) hx2 (show mx_Sn _ _ 105 (mx_iald 106) from sn_194 105) a64 s64 (by omega) rfl ?_
              refine JisubN (show mx_Sn _ _ 106 (mx_isub 107) from sn_194 106) (fun y45 hy45 hq45 => ?_)
              refine JiastI hx2 (show mx_Sn _ _ 107 (mx_iast 1 108) from sn_194 107) a64 s64 rfl (by omega) (fun Z46 h46 hx46 hE46 => ?_)
              have hG46 := GI_up hG2 hE46 (show (-2147483648) ≤ y45 ∧ y45 ≤ 2147483647 by omega) trivial rfl
              refine mx_J.step (sn_194 108) (fun _ _ => rfl) ?_
              exact c192 w1_2 Z46 h46 (by omega) (by omega) hx46 hG46 (fr_tr (M := [(64, (-1))]) fr_rf (fr_ua hE46) (M1 := []) rfl rfl)
          · skip
            refine mx_J.step (sn_194 46) (fun _ _ => rfl) ?_
            refine JgetR (g := 19) (b := 64) hx2 (show mx_Sn _ _ 47 (mx_getf 12 19 50) from sn_194 47) a56 s56 rfl rfl (hG2.prr 56 19 rfl) ?_
            refine mx_J.step (sn_194 50) (fun _ _ => rfl) ?_
            refine mx_J.step (sn_194 51) (fun _ _ => rfl) ?_
            refine JcI (z := 1000) (show mx_Sn _ _ 53 (mx_const (.int 1000) 56) from sn_194 53) rfl ?_
            have c75 : ∀ (k48_2 : Int), (-2147483648) ≤ k48_2 ∧ k48_2 ≤ 2147483647 → mx_J (tB l D b0 ad Hb tau) mt_194 (d + 1) 75 [some (.ref 56), some (xI 0), some (xI w1_2), some (xI w1_3), some (xI (Z 57 ((62 + (Z 57 23)) + w1_3)))] [xI k48_2, xI w1_2, .ref 64] h2 Post := by
              intro k48_2 f48_0
              refine JiastI hx2 (show mx_Sn _ _ 75 (mx_iast 1 76) from sn_194 75) a64 s64 rfl (by omega) (fun Z49 h49 hx49 hE49 => ?_)
              have hG49 := GI_up hG2 hE49 (show (-2147483648) ≤ k48_2 ∧ k48_2 ≤ 2147483647 by omega) trivial rfl
              refine Jiinc (z := w1_2) (cz := 1) (ls2 := [some (.ref 56), some (xI 0), some (xI (w1_2 + 1)), some (xI w1_3), some (xI (Z 57 ((62 + (Z 57 23)) + w1_3)))]) (show mx_Sn _ _ 76 (mx_iinc 2 1 79) from sn_194 76) rfl rfl rfl rfl ?_
              refine mx_J.step (sn_194 79) (fun _ _ => rfl) ?_
              exact c192 (w1_2 + 1) Z49 h49 (by omega) (by omega) hx49 hG49 (fr_tr (M := [(64, (-1))]) fr_rf (fr_ua hE49) (M1 := []) rfl rfl)
            refine Jicmp_ge (show mx_Sn _ _ 56 (mx_icmp_ge 64 59) from sn_194 56) (by omega) (by omega) (fun q50 => ?_) (fun q50 => ?_)
            · skip
              refine mx_J.step (sn_194 64) (fun _ _ => rfl) ?_
              refine JgetR (g := 20) (b := 65) hx2 (show mx_Sn _ _ 65 (mx_getf 12 20 68) from sn_194 65) a56 s56 rfl rfl (hG2.prr 56 20 rfl) ?_
              refine mx_J.step (sn_194 68) (fun _ _ => rfl) ?_
              refine JcI (z := 1000) (show mx_Sn _ _ 70 (mx_const (.int 1000) 73) from sn_194 70) rfl ?_
              refine Jisub (show mx_Sn _ _ 73 (mx_isub 74) from sn_194 73) ?_
              have b52 : (-2147483648) ≤ Z 65 ((Z 57 ((62 + (Z 57 23)) + w1_3)) - 1000) ∧ Z 65 ((Z 57 ((62 + (Z 57 23)) + w1_3)) - 1000) ≤ 2147483647 := hG.pr 65 ((Z 57 ((62 + (Z 57 23)) + w1_3)) - 1000)
              refine JialdI (z := Z 65 ((Z 57 ((62 + (Z 57 23)) + w1_3)) - 1000)) hx2 (show mx_Sn _ _ 74 (mx_iald 75) from sn_194 74) a65 s65 (by omega) (hf2 65 ((Z 57 ((62 + (Z 57 23)) + w1_3)) - 1000) rfl) ?_
              exact c75 (Z 65 ((Z 57 ((62 + (Z 57 23)) + w1_3)) - 1000)) (by omega)
            · skip
              refine mx_J.step (sn_194 59) (fun _ _ => rfl) ?_
              refine mx_J.step (sn_194 61) (fun _ _ => rfl) ?_
              exact c75 (Z 57 ((62 + (Z 57 23)) + w1_3)) (by omega)
    exact c4 (Int.toNat (900 - 0) + 1) 0 0 none Z h (by omega) (by omega) (by omega) (by first | exact ⟨dp_00.symm, by omega, by omega, by omega⟩ | omega) hx hG fr_rf
theorem ct_194_56_i0 {l : Launch} {D : va_G} {b0 : Nat} {ad : Nat → Nat} {Hb : Heap} {tau : Nat → Int64} {d n s : Nat} {S : Nat → xS} {Z : xZ} {h : mx_H} (hx : XH n s S Z h) (hG : GI n S Z)   (k0 : Z 57 21 = 1) : ∃ (z : Int) (Z' : xZ) (h' : mx_H), mx_Ca (tB l D b0 ad Hb tau) (d + 2) 194 [.ref 56, xI 0] h (some (xI z), h') ∧ XH n s S Z' h' ∧ GI n S Z' ∧ fr' [(64, (-1))] Z Z' ∧ ((-2147483648) ≤ z ∧ z ≤ 2147483647) := by
  obtain ⟨r, hca, z, Z', h', e, q⟩ := Jmt (B := tB l D b0 ad Hb tau) (M := mt_194) (mi := 194) (as := [.ref 56, xI 0]) (d := d + 1) (ls := [some (.ref 56), some (xI 0), none, none, none]) rfl rfl rfl rfl rfl rfl (cw_194_56_i0 (l := l) (D := D) (b0 := b0) (ad := ad) (Hb := Hb) (tau := tau) (d := d) (Post := fun r => ∃ (z : Int) (Z' : xZ) (h' : mx_H), r = (some (xI z), h') ∧ XH n s S Z' h' ∧ GI n S Z' ∧ fr' [(64, (-1))] Z Z' ∧ ((-2147483648) ≤ z ∧ z ≤ 2147483647)) hx hG k0 (fun z Z' h' q1 q2 q3 q4 => ⟨z, Z', h', rfl, q1, q2, q3, q4⟩))
  subst e; exact ⟨z, Z', h', hca, q⟩
