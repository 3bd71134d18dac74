set_option maxRecDepth 100000 in
theorem cw_154_ {l : Launch} {D : va_G} {b0 : Nat} {ad : Nat → Nat} {Hb : Heap} {tau : Nat → Int64} {d n s : Nat} {S : Nat → xS} {Z : xZ} {h : mx_H} {Post : mx_R → Prop} (hx : XH n s S Z h) (hG : GI n S Z)  {x0 x1 x2 : Int} (p0 : (-9223372036854775808) ≤ x0 ∧ x0 ≤ 9223372036854775807) (p1 : (-9223372036854775808) ≤ x1 ∧ x1 ≤ 9223372036854775807) (p2 : (-9223372036854775808) ≤ x2 ∧ x2 ≤ 9223372036854775807) (hP : ∀ z : Int, 0 ≤ z ∧ z ≤ 1 ∧ ((z = 1 ∧ x1 ≤ x0 ∧ x0 ≤ x2) ∨ (z = 0 ∧ ¬ (x1 ≤ x0 ∧ x0 ≤ x2))) → Post (some (xI z), h)) : mx_J (tB l D b0 ad Hb tau) mt_154 (d + 0) 0 [some (xL x0), none, some (xL x1), none, some (xL x2), none] [] h Post := by
    refine mx_J.step (sn_154 0) (fun _ _ => rfl) ?_
    refine mx_J.step (sn_154 1) (fun _ _ => rfl) ?_
    have c18 : ∀ (k1_0 : Int), 0 ≤ k1_0 ∧ k1_0 ≤ 1 → ((k1_0 = 1 ∧ x1 ≤ x0 ∧ x0 ≤ x2) ∨ (k1_0 = 0 ∧ ¬ (x1 ≤ x0 ∧ x0 ≤ x2))) → mx_J (tB l D b0 ad Hb tau) mt_154 (d + 0) 18 [some (xL x0), none, some (xL x1), none, some (xL x2), none] [xI k1_0] h Post := by
      intro k1_0 f1_0 f1_1
      exact mx_J.ret (show mx_Sn _ _ 18 (mx_zret) from sn_154 18) (fun _ _ => zr_ok (by omega)) (hP k1_0 (by omega))
    have c17 : ¬ (x1 ≤ x0 ∧ x0 ≤ x2) → mx_J (tB l D b0 ad Hb tau) mt_154 (d + 0) 17 [some (xL x0), none, some (xL x1), none, some (xL x2), none] [] h Post := by
      intro f2_0
      refine JcI (z := 0) (show mx_Sn _ _ 17 (mx_const (.int 0) 18) from sn_154 17) rfl ?_
      exact c18 0 (by omega) (by omega)
    refine Jlif_lt (show mx_Sn _ _ 2 (mx_lif_lt 17 6) from sn_154 2) (by omega) (by omega) (fun q3 => ?_) (fun q3 => ?_)
    · skip
      exact c17 (by omega)
    · skip
      refine mx_J.step (sn_154 6) (fun _ _ => rfl) ?_
      refine mx_J.step (sn_154 7) (fun _ _ => rfl) ?_
      refine Jlif_gt (show mx_Sn _ _ 9 (mx_lif_gt 17 13) from sn_154 9) (by omega) (by omega) (fun q4 => ?_) (fun q4 => ?_)
      · skip
        exact c17 (by omega)
      · skip
        refine JcI (z := 1) (show mx_Sn _ _ 13 (mx_const (.int 1) 14) from sn_154 13) rfl ?_
        refine mx_J.step (sn_154 14) (fun _ _ => rfl) ?_
        exact c18 1 (by omega) (by omega)
theorem ct_154_ {l : Launch} {D : va_G} {b0 : Nat} {ad : Nat → Nat} {Hb : Heap} {tau : Nat → Int64} {d n s : Nat} {S : Nat → xS} {Z : xZ} {h : mx_H} (hx : XH n s S Z h) (hG : GI n S Z)  {x0 x1 x2 : Int} (p0 : (-9223372036854775808) ≤ x0 ∧ x0 ≤ 9223372036854775807) (p1 : (-9223372036854775808) ≤ x1 ∧ x1 ≤ 9223372036854775807) (p2 : (-9223372036854775808) ≤ x2 ∧ x2 ≤ 9223372036854775807) : ∃ z : Int, mx_Ca (tB l D b0 ad Hb tau) (d + 1) 154 [xL x0, xL x1, xL x2] h (some (xI z), h) ∧ (0 ≤ z ∧ z ≤ 1 ∧ ((z = 1 ∧ x1 ≤ x0 ∧ x0 ≤ x2) ∨ (z = 0 ∧ ¬ (x1 ≤ x0 ∧ x0 ≤ x2)))) := by
  obtain ⟨r, hca, z, e, hp⟩ := Jmt (B := tB l D b0 ad Hb tau) (M := mt_154) (mi := 154) (as := [xL x0, xL x1, xL x2]) (d := d + 0) (ls := [some (xL x0), none, some (xL x1), none, some (xL x2), none]) rfl rfl rfl rfl rfl rfl (cw_154_ (l := l) (D := D) (b0 := b0) (ad := ad) (Hb := Hb) (tau := tau) (d := d) (Post := fun r => ∃ z : Int, r = (some (xI z), h) ∧ (0 ≤ z ∧ z ≤ 1 ∧ ((z = 1 ∧ x1 ≤ x0 ∧ x0 ≤ x2) ∨ (z = 0 ∧ ¬ (x1 ≤ x0 ∧ x0 ≤ x2))))) hx hG p0 p1 p2 (fun z hz => ⟨z, rfl, hz⟩))
  subst e; exact ⟨z, hca, hp⟩
set_option maxRecDepth 100000 in
theorem cw_208_ {l : Launch} {D : va_G} {b0 : Nat} {ad : Nat → Nat} {Hb : Heap} {tau : Nat → Int64} {d n s : Nat} {S : Nat → xS} {Z : xZ} {h : mx_H} {Post : mx_R → Prop} (hx : XH n s S Z h) (hG : GI n S Z)  {x0 : Int} (p0 : (-9223372036854775808) ≤ x0 ∧ x0 ≤ 9223372036854775807) (hP : ∀ z : Int, 0 ≤ z ∧ z ≤ 1 ∧ ((z = 1 ∧ 1 ≤ x0 ∧ x0 ≤ 18) ∨ (z = 0 ∧ ¬ (1 ≤ x0 ∧ x0 ≤ 18))) → Post (some (xI z), h)) : mx_J (tB l D b0 ad Hb tau) mt_208 (d + 1) 0 [some (xL x0), none] [] h Post := by
    refine mx_J.step (sn_208 0) (fun _ _ => rfl) ?_
    refine JcL (z := 1) (show mx_Sn _ _ 1 (mx_const (.long 1) 2) from sn_208 1) rfl ?_
    refine JcL (z := 18) (show mx_Sn _ _ 2 (mx_const (.long 18) 5) from sn_208 2) rfl ?_
    obtain ⟨z1, hc1, b1⟩ := ct_154_ (d := d + 0) (l := l) (D := D) (b0 := b0) (ad := ad) (Hb := Hb) (tau := tau) hx hG (show (-9223372036854775808) ≤ x0 ∧ x0 ≤ 9223372036854775807 by omega) (show (-9223372036854775808) ≤ 1 ∧ 1 ≤ 9223372036854775807 by omega) (show (-9223372036854775808) ≤ 18 ∧ 18 ≤ 9223372036854775807 by omega)
    refine Jcs (show mx_Sn _ _ 5 (mx_calls 154 3 8) from sn_208 5) hc1 rfl rfl rfl ?_
    exact mx_J.ret (show mx_Sn _ _ 8 (mx_zret) from sn_208 8) (fun _ _ => zr_ok (by omega)) (hP z1 (by omega))
theorem ct_208_ {l : Launch} {D : va_G} {b0 : Nat} {ad : Nat → Nat} {Hb : Heap} {tau : Nat → Int64} {d n s : Nat} {S : Nat → xS} {Z : xZ} {h : mx_H} (hx : XH n s S Z h) (hG : GI n S Z)  {x0 : Int} (p0 : (-9223372036854775808) ≤ x0 ∧ x0 ≤ 9223372036854775807) : ∃ z : Int, mx_Ca (tB l D b0 ad Hb tau) (d + 2) 208 [xL x0] h (some (xI z), h) ∧ (0 ≤ z ∧ z ≤ 1 ∧ ((z = 1 ∧ 1 ≤ x0 ∧ x0 ≤ 18) ∨ (z = 0 ∧ ¬ (1 ≤ x0 ∧ x0 ≤ 18)))) := by
  obtain ⟨r, hca, z, e, hp⟩ := Jmt (B := tB l D b0 ad Hb tau) (M := mt_208) (mi := 208) (as := [xL x0]) (d := d + 1) (ls := [some (xL x0), none]) rfl rfl rfl rfl rfl rfl (cw_208_ (l := l) (D := D) (b0 := b0) (ad := ad) (Hb := Hb) (tau := tau) (d := d) (Post := fun r => ∃ z : Int, r = (some (xI z), h) ∧ (0 ≤ z ∧ z ≤ 1 ∧ ((z = 1 ∧ 1 ≤ x0 ∧ x0 ≤ 18) ∨ (z = 0 ∧ ¬ (1 ≤ x0 ∧ x0 ≤ 18))))) hx hG p0 (fun z hz => ⟨z, rfl, hz⟩))
  subst e; exact ⟨z, hca, hp⟩
set_option maxRecDepth 100000 in
theorem cw_190_56 {l : Launch} {D : va_G} {b0 : Nat} {ad : Nat → Nat} {Hb : Heap} {tau : Nat → Int64} {d n s : Nat} {S : Nat → xS} {Z : xZ} {h : mx_H} {Post : mx_R → Prop} (hx : XH n s S Z h) (hG : GI n S Z)  {x0 x1 : Int} (p0 : 0 ≤ x0 ∧ x0 ≤ 384) (p1 : 0 ≤ x1 ∧ x1 ≤ 17) (hP : ∀ z : Int, 0 ≤ z ∧ z ≤ 18 ∧ z = Z 61 (18 * x0 + x1) → Post (some (xI z), h)) : mx_J (tB l D b0 ad Hb tau) mt_190 (d + 0) 0 [some (.ref 56), some (xI x0), some (xI x1)] [] h Post := by
    have a56 : 56 < n := lt83 (GI_n hG) rfl
    have s56 : S 56 = .inl (12, [0, 2, 2, 2, 2, 0, 0, 0, 0, 0, 0, 0, 0, 0, 0, 2, 2, 2, 0, 2, 2, 2, 0, 0, 2, 2, 2, 2, 2, 2, 0, 0, 2, 2, 2, 2, 2, 2, 2, 2, 2, 2]) := GI_s hG 56 rfl
    have a61 : 61 < n := lt83 (GI_n hG) rfl
    have s61 : S 61 = .inr (.int, 6930, 0) := GI_s hG 61 rfl
    refine mx_J.step (sn_190 0) (fun _ _ => rfl) ?_
    refine JgetR (g := 15) (b := 61) hx (show mx_Sn _ _ 1 (mx_getf 12 15 4) from sn_190 1) a56 s56 rfl rfl (hG.prr 56 15 rfl) ?_
    refine JcI (z := 18) (show mx_Sn _ _ 4 (mx_const (.int 18) 6) from sn_190 4) rfl ?_
    refine mx_J.step (sn_190 6) (fun _ _ => rfl) ?_
    refine Jimul (show mx_Sn _ _ 7 (mx_imul 8) from sn_190 7) ?_
    refine mx_J.step (sn_190 8) (fun _ _ => rfl) ?_
    refine Jiadd (show mx_Sn _ _ 9 (mx_iadd 10) from sn_190 9) ?_
    have b2 : 0 ≤ Z 61 ((18 * x0) + x1) ∧ Z 61 ((18 * x0) + x1) ≤ 18 := hG.pr 61 ((18 * x0) + x1)
    refine JialdI (z := Z 61 ((18 * x0) + x1)) hx (show mx_Sn _ _ 10 (mx_iald 11) from sn_190 10) a61 s61 (by omega) rfl ?_
    have b3 : 0 ≤ Z 61 (18 * x0 + x1) ∧ Z 61 (18 * x0 + x1) ≤ 18 := hG.pr 61 (18 * x0 + x1)
    exact mx_J.ret (sn_190 11) (fun _ _ => rfl) (hP (Z 61 ((18 * x0) + x1)) (by omega))
theorem ct_190_56 {l : Launch} {D : va_G} {b0 : Nat} {ad : Nat → Nat} {Hb : Heap} {tau : Nat → Int64} {d n s : Nat} {S : Nat → xS} {Z : xZ} {h : mx_H} (hx : XH n s S Z h) (hG : GI n S Z)  {x0 x1 : Int} (p0 : 0 ≤ x0 ∧ x0 ≤ 384) (p1 : 0 ≤ x1 ∧ x1 ≤ 17) : ∃ z : Int, mx_Ca (tB l D b0 ad Hb tau) (d + 1) 190 [.ref 56, xI x0, xI x1] h (some (xI z), h) ∧ (0 ≤ z ∧ z ≤ 18 ∧ z = Z 61 (18 * x0 + x1)) := by
  obtain ⟨r, hca, z, e, hp⟩ := Jmt (B := tB l D b0 ad Hb tau) (M := mt_190) (mi := 190) (as := [.ref 56, xI x0, xI x1]) (d := d + 0) (ls := [some (.ref 56), some (xI x0), some (xI x1)]) rfl rfl rfl rfl rfl rfl (cw_190_56 (l := l) (D := D) (b0 := b0) (ad := ad) (Hb := Hb) (tau := tau) (d := d) (Post := fun r => ∃ z : Int, r = (some (xI z), h) ∧ (0 ≤ z ∧ z ≤ 18 ∧ z = Z 61 (18 * x0 + x1))) hx hG p0 p1 (fun z hz => ⟨z, rfl, hz⟩))
  subst e; exact ⟨z, hca, hp⟩
set_option maxRecDepth 100000 in
theorem cw_191_56 {l : Launch} {D : va_G} {b0 : Nat} {ad : Nat → Nat} {Hb : Heap} {tau : Nat → Int64} {d n s : Nat} {S : Nat → xS} {Z : xZ} {h : mx_H} {Post : mx_R → Prop} (hx : XH n s S Z h) (hG : GI n S Z)  {x0 : Int} (p0 : 0 ≤ x0 ∧ x0 ≤ 384) (hP : ∀ z : Int, 0 ≤ z ∧ z ≤ 18 ∧ z = mn Z x0 → Post (some (xI z), h)) : mx_J (tB l D b0 ad Hb tau) mt_191 (d + 1) 0 [some (.ref 56), some (xI x0), none] [] h Post := by
    have a56 : 56 < n := lt83 (GI_n hG) rfl
    have s56 : S 56 = .inl (12, [0, 2, 2, 2, 2, 0, 0, 0, 0, 0, 0, 0, 0, 0, 0, 2, 2, 2, 0, 2, 2, 2, 0, 0, 2, 2, 2, 2, 2, 2, 0, 0, 2, 2, 2, 2, 2, 2, 2, 2, 2, 2]) := GI_s hG 56 rfl
    refine JcI (z := 0) (show mx_Sn _ _ 0 (mx_const (.int 0) 1) from sn_191 0) rfl ?_
    refine mx_J.step (ls2 := [some (.ref 56), some (xI x0), some (xI 0)]) (sn_191 1) (fun _ _ => rfl) ?_
    have c2 : ∀ (m1 : Nat) (w1_2 : Int), 18 - w1_2 < (m1 : Int) → 0 ≤ w1_2 ∧ w1_2 ≤ 18 → mn Z x0 = mnk Z x0 w1_2 → mx_J (tB l D b0 ad Hb tau) mt_191 (d + 1) 2 [some (.ref 56), some (xI x0), some (xI w1_2)] [] h Post := by
      intro m1
      induction m1 with
      | zero => intro w1_2 q1 f1_0 f1_1; exact absurd q1 (by omega)
      | succ m1 ih1 =>
        intro w1_2 q1 f1_0 f1_1
        refine mx_J.step (sn_191 2) (fun _ _ => rfl) ?_
        refine JcI (z := 18) (show mx_Sn _ _ 3 (mx_const (.int 18) 5) from sn_191 3) rfl ?_
        refine Jicmp_ge (show mx_Sn _ _ 5 (mx_icmp_ge 23 8) from sn_191 5) (by omega) (by omega) (fun q2 => ?_) (fun q2 => ?_)
        · skip
          refine mx_J.step (sn_191 23) (fun _ _ => rfl) ?_
          have mx := mn_x (Z := Z) (s := x0) (k := w1_2) (by omega) (by omega)
          exact mx_J.ret (sn_191 24) (fun _ _ => rfl) (hP w1_2 (by omega))
        · skip
          refine mx_J.step (sn_191 8) (fun _ _ => rfl) ?_
          refine mx_J.step (sn_191 9) (fun _ _ => rfl) ?_
          refine mx_J.step (sn_191 10) (fun _ _ => rfl) ?_
          have b4 : 0 ≤ Z 61 (18 * x0 + w1_2) ∧ Z 61 (18 * x0 + w1_2) ≤ 18 := hG.pr 61 (18 * x0 + w1_2)
          obtain ⟨z3, hc3, b3⟩ := ct_190_56 (d := d + 0) (l := l) (D := D) (b0 := b0) (ad := ad) (Hb := Hb) (tau := tau) hx hG (show 0 ≤ x0 ∧ x0 ≤ 384 by omega) (show 0 ≤ w1_2 ∧ w1_2 ≤ 17 by omega)
          refine Jcv hx (show mx_Sn _ _ 11 (mx_callv 190 3 12 14) from sn_191 11) a56 s56 hc3 rfl rfl rfl ?_
          refine Jif_le (show mx_Sn _ _ 14 (mx_if_le 23 17) from sn_191 14) (by omega) (fun q5 => ?_) (fun q5 => ?_)
          · skip
            refine mx_J.step (sn_191 23) (fun _ _ => rfl) ?_
            have mx := mn_x (Z := Z) (s := x0) (k := w1_2) (by omega) (by omega)
            exact mx_J.ret (sn_191 24) (fun _ _ => rfl) (hP w1_2 (by omega))
          · skip
            have ms := mn_s (Z := Z) (s := x0) (k := w1_2) (by omega) (by omega)
            refine Jiinc (z := w1_2) (cz := 1) (ls2 := [some (.ref 56), some (xI x0), some (xI (w1_2 + 1))]) (show mx_Sn _ _ 17 (mx_iinc 2 1 20) from sn_191 17) rfl rfl rfl rfl ?_
            refine mx_J.step (sn_191 20) (fun _ _ => rfl) ?_
            exact ih1 (w1_2 + 1) (by omega) (by omega) (by first | rfl | omega)
    exact c2 (Int.toNat (18 - 0) + 1) 0 (by omega) (by omega) (by first | rfl | omega)
theorem ct_191_56 {l : Launch} {D : va_G} {b0 : Nat} {ad : Nat → Nat} {Hb : Heap} {tau : Nat → Int64} {d n s : Nat} {S : Nat → xS} {Z : xZ} {h : mx_H} (hx : XH n s S Z h) (hG : GI n S Z)  {x0 : Int} (p0 : 0 ≤ x0 ∧ x0 ≤ 384) : ∃ z : Int, mx_Ca (tB l D b0 ad Hb tau) (d + 2) 191 [.ref 56, xI x0] h (some (xI z), h) ∧ (0 ≤ z ∧ z ≤ 18 ∧ z = mn Z x0) := by
  obtain ⟨r, hca, z, e, hp⟩ := Jmt (B := tB l D b0 ad Hb tau) (M := mt_191) (mi := 191) (as := [.ref 56, xI x0]) (d := d + 1) (ls := [some (.ref 56), some (xI x0), none]) rfl rfl rfl rfl rfl rfl (cw_191_56 (l := l) (D := D) (b0 := b0) (ad := ad) (Hb := Hb) (tau := tau) (d := d) (Post := fun r => ∃ z : Int, r = (some (xI z), h) ∧ (0 ≤ z ∧ z ≤ 18 ∧ z = mn Z x0)) hx hG p0 (fun z hz => ⟨z, rfl, hz⟩))
  subst e; exact ⟨z, hca, hp⟩
set_option maxRecDepth 100000 in
theorem cw_192_56 {l : Launch} {D : va_G} {b0 : Nat} {ad : Nat → Nat} {Hb : Heap} {tau : Nat → Int64} {d n s : Nat} {S : Nat → xS} {Z : xZ} {h : mx_H} {Post : mx_R → Prop} (hx : XH n s S Z h) (hG : GI n S Z)  {x0 x1 : Int} (p0 : 0 ≤ x0 ∧ x0 ≤ 384) (p1 : (-2147483648) ≤ x1 ∧ x1 ≤ 2147483647) (hP : ∀ z : Int, (-1) ≤ z ∧ z ≤ 17 ∧ ((z = -1 ∧ hv Z x0 x1 = 0) ∨ (0 ≤ z ∧ hv Z x0 x1 = 1)) → Post (some (xI z), h)) : mx_J (tB l D b0 ad Hb tau) mt_192 (d + 1) 0 [some (.ref 56), some (xI x0), some (xI x1), none] [] h Post := by
    have a56 : 56 < n := lt83 (GI_n hG) rfl
    have s56 : S 56 = .inl (12, [0, 2, 2, 2, 2, 0, 0, 0, 0, 0, 0, 0, 0, 0, 0, 2, 2, 2, 0, 2, 2, 2, 0, 0, 2, 2, 2, 2, 2, 2, 0, 0, 2, 2, 2, 2, 2, 2, 2, 2, 2, 2]) := GI_s hG 56 rfl
    refine JcI (z := 0) (show mx_Sn _ _ 0 (mx_const (.int 0) 1) from sn_192 0) rfl ?_
    refine mx_J.step (ls2 := [some (.ref 56), some (xI x0), some (xI x1), some (xI 0)]) (sn_192 1) (fun _ _ => rfl) ?_
    have c2 : ∀ (m1 : Nat) (w1_3 : Int), 18 - w1_3 < (m1 : Int) → 0 ≤ w1_3 ∧ w1_3 ≤ 18 → nm Z x0 x1 w1_3 → mx_J (tB l D b0 ad Hb tau) mt_192 (d + 1) 2 [some (.ref 56), some (xI x0), some (xI x1), some (xI w1_3)] [] h Post := by
      intro m1
      induction m1 with
      | zero => intro w1_3 q1 f1_0 f1_1; exact absurd q1 (by omega)
      | succ m1 ih1 =>
        intro w1_3 q1 f1_0 f1_1
        refine mx_J.step (sn_192 2) (fun _ _ => rfl) ?_
        refine JcI (z := 18) (show mx_Sn _ _ 3 (mx_const (.int 18) 5) from sn_192 3) rfl ?_
        refine Jicmp_ge (show mx_Sn _ _ 5 (mx_icmp_ge 30 8) from sn_192 5) (by omega) (by omega) (fun q2 => ?_) (fun q2 => ?_)
        · skip
          refine JcI (z := (-1)) (show mx_Sn _ _ 30 (mx_const (.int (-1)) 31) from sn_192 30) rfl ?_
          have hvn := hv_n (Z := Z) (s := x0) (t := x1) (k := w1_3) (by first | exact Or.inl (by omega) | exact Or.inr ⟨by omega, by assumption⟩)
          exact mx_J.ret (sn_192 31) (fun _ _ => rfl) (hP (-1) (by omega))
        · skip
          refine mx_J.step (sn_192 8) (fun _ _ => rfl) ?_
          refine Jif_le (show mx_Sn _ _ 9 (mx_if_le 30 12) from sn_192 9) (by omega) (fun q3 => ?_) (fun q3 => ?_)
          · skip
            refine JcI (z := (-1)) (show mx_Sn _ _ 30 (mx_const (.int (-1)) 31) from sn_192 30) rfl ?_
            have hvn := hv_n (Z := Z) (s := x0) (t := x1) (k := w1_3) (by first | exact Or.inl (by omega) | exact Or.inr ⟨by omega, by assumption⟩)
            exact mx_J.ret (sn_192 31) (fun _ _ => rfl) (hP (-1) (by omega))
          · skip
            refine mx_J.step (sn_192 12) (fun _ _ => rfl) ?_
            refine mx_J.step (sn_192 13) (fun _ _ => rfl) ?_
            refine mx_J.step (sn_192 14) (fun _ _ => rfl) ?_
            have b5 : 0 ≤ Z 61 (18 * x0 + w1_3) ∧ Z 61 (18 * x0 + w1_3) ≤ 18 := hG.pr 61 (18 * x0 + w1_3)
            obtain ⟨z4, hc4, b4⟩ := ct_190_56 (d := d + 0) (l := l) (D := D) (b0 := b0) (ad := ad) (Hb := Hb) (tau := tau) hx hG (show 0 ≤ x0 ∧ x0 ≤ 384 by omega) (show 0 ≤ w1_3 ∧ w1_3 ≤ 17 by omega)
            refine Jcv hx (show mx_Sn _ _ 15 (mx_callv 190 3 12 18) from sn_192 15) a56 s56 hc4 rfl rfl rfl ?_
            refine mx_J.step (sn_192 18) (fun _ _ => rfl) ?_
            refine Jicmp_ne (show mx_Sn _ _ 19 (mx_icmp_ne 24 22) from sn_192 19) (by omega) (by omega) (fun q6 => ?_) (fun q6 => ?_)
            · skip
              refine Jiinc (z := w1_3) (cz := 1) (ls2 := [some (.ref 56), some (xI x0), some (xI x1), some (xI (w1_3 + 1))]) (show mx_Sn _ _ 24 (mx_iinc 3 1 27) from sn_192 24) rfl rfl rfl rfl ?_
              refine mx_J.step (sn_192 27) (fun _ _ => rfl) ?_
              exact ih1 (w1_3 + 1) (by omega) (by omega) (by first | exact nm_0 (by omega) | exact nm_s (by assumption) (by omega))
            · skip
              refine mx_J.step (sn_192 22) (fun _ _ => rfl) ?_
              have hvy := hv_y (Z := Z) (s := x0) (t := x1) (j := w1_3) (by omega) (by omega) (by omega)
              exact mx_J.ret (sn_192 23) (fun _ _ => rfl) (hP w1_3 (by omega))
    exact c2 (Int.toNat (18 - 0) + 1) 0 (by omega) (by omega) (by first | exact nm_0 (by omega) | exact nm_s (by assumption) (by omega))
theorem ct_192_56 {l : Launch} {D : va_G} {b0 : Nat} {ad : Nat → Nat} {Hb : Heap} {tau : Nat → Int64} {d n s : Nat} {S : Nat → xS} {Z : xZ} {h : mx_H} (hx : XH n s S Z h) (hG : GI n S Z)  {x0 x1 : Int} (p0 : 0 ≤ x0 ∧ x0 ≤ 384) (p1 : (-2147483648) ≤ x1 ∧ x1 ≤ 2147483647) : ∃ z : Int, mx_Ca (tB l D b0 ad Hb tau) (d + 2) 192 [.ref 56, xI x0, xI x1] h (some (xI z), h) ∧ ((-1) ≤ z ∧ z ≤ 17 ∧ ((z = -1 ∧ hv Z x0 x1 = 0) ∨ (0 ≤ z ∧ hv Z x0 x1 = 1))) := by
  obtain ⟨r, hca, z, e, hp⟩ := Jmt (B := tB l D b0 ad Hb tau) (M := mt_192) (mi := 192) (as := [.ref 56, xI x0, xI x1]) (d := d + 1) (ls := [some (.ref 56), some (xI x0), some (xI x1), none]) rfl rfl rfl rfl rfl rfl (cw_192_56 (l := l) (D := D) (b0 := b0) (ad := ad) (Hb := Hb) (tau := tau) (d := d) (Post := fun r => ∃ z : Int, r = (some (xI z), h) ∧ ((-1) ≤ z ∧ z ≤ 17 ∧ ((z = -1 ∧ hv Z x0 x1 = 0) ∨ (0 ≤ z ∧ hv Z x0 x1 = 1)))) hx hG p0 p1 (fun z hz => ⟨z, rfl, hz⟩))
  subst e; exact ⟨z, hca, hp⟩
set_option maxRecDepth 100000 in
theorem cw_186_56 {l : Launch} {D : va_G} {b0 : Nat} {ad : Nat → Nat} {Hb : Heap} {tau : Nat → Int64} {d n s : Nat} {S : Nat → xS} {Z : xZ} {h : mx_H} {Post : mx_R → Prop} (hx : XH n s S Z h) (hG : GI n S Z)   (hP : ∀ (Z' : xZ) (h' : mx_H), XH n s S Z' h' → GI n S Z' → fr' [(62, (-1))] Z Z' → FLL Z' 62 20 0 → Post (none, h')) : mx_J (tB l D b0 ad Hb tau) mt_186 (d + 0) 0 [some (.ref 56), none] [] h Post := by
    have a56 : 56 < n := lt83 (GI_n hG) rfl
    have s56 : S 56 = .inl (12, [0, 2, 2, 2, 2, 0, 0, 0, 0, 0, 0, 0, 0, 0, 0, 2, 2, 2, 0, 2, 2, 2, 0, 0, 2, 2, 2, 2, 2, 2, 0, 0, 2, 2, 2, 2, 2, 2, 2, 2, 2, 2]) := GI_s hG 56 rfl
    have a62 : 62 < n := lt83 (GI_n hG) rfl
    have s62 : S 62 = .inr (.int, 20, 0) := GI_s hG 62 rfl
    refine JcI (z := 0) (show mx_Sn _ _ 0 (mx_const (.int 0) 1) from sn_186 0) rfl ?_
    refine mx_J.step (ls2 := [some (.ref 56), some (xI 0)]) (sn_186 1) (fun _ _ => rfl) ?_
    have c2 : ∀ (m1 : Nat) (w1_1 : Int) (Z2 : xZ) (h2 : mx_H), 20 - w1_1 < (m1 : Int) → 0 ≤ w1_1 ∧ w1_1 ≤ 20 → FLL Z2 62 w1_1 0 → XH n s S Z2 h2 → GI n S Z2 → fr' [(62, (-1))] Z Z2 → mx_J (tB l D b0 ad Hb tau) mt_186 (d + 0) 2 [some (.ref 56), some (xI w1_1)] [] h2 Post := by
      intro m1
      induction m1 with
      | zero => intro w1_1 Z2 h2 q1 f1_0 f1_1 hx2 hG2 hf2; exact absurd q1 (by omega)
      | succ m1 ih1 =>
        intro w1_1 Z2 h2 q1 f1_0 f1_1 hx2 hG2 hf2
        refine mx_J.step (sn_186 2) (fun _ _ => rfl) ?_
        refine JcI (z := 20) (show mx_Sn _ _ 3 (mx_const (.int 20) 5) from sn_186 3) rfl ?_
        refine Jicmp_ge (show mx_Sn _ _ 5 (mx_icmp_ge 21 8) from sn_186 5) (by omega) (by omega) (fun q3 => ?_) (fun q3 => ?_)
        · skip
          exact mx_J.ret (sn_186 21) (fun _ _ => rfl) (hP Z2 h2 hx2 hG2 (fr_tr (M := [(62, (-1))]) fr_rf (hf2) (M1 := []) rfl rfl) (fll_m (by assumption) (by omega)))
        · skip
          refine mx_J.step (sn_186 8) (fun _ _ => rfl) ?_
          refine JgetR (g := 16) (b := 62) hx2 (show mx_Sn _ _ 9 (mx_getf 12 16 12) from sn_186 9) a56 s56 rfl rfl (hG2.prr 56 16 rfl) ?_
          refine mx_J.step (sn_186 12) (fun _ _ => rfl) ?_
          refine JcI (z := 0) (show mx_Sn _ _ 13 (mx_const (.int 0) 14) from sn_186 13) rfl ?_
          refine JiastI hx2 (show mx_Sn _ _ 14 (mx_iast 1 15) from sn_186 14) a62 s62 rfl (by omega) (fun Z5 h5 hx5 hE5 => ?_)
          have hG5 := GI_up hG2 hE5 (show (-2147483648) ≤ 0 ∧ 0 ≤ 2147483647 by omega) trivial rfl
          have fl1 : FLL Z5 62 (w1_1 + 1) 0 := fll_s (Z := Z2) (by assumption) hE5
          refine Jiinc (z := w1_1) (cz := 1) (ls2 := [some (.ref 56), some (xI (w1_1 + 1))]) (show mx_Sn _ _ 15 (mx_iinc 1 1 18) from sn_186 15) rfl rfl rfl rfl ?_
          refine mx_J.step (sn_186 18) (fun _ _ => rfl) ?_
          exact ih1 (w1_1 + 1) Z5 h5 (by omega) (by omega) (by first | exact fll_0 | assumption) hx5 hG5 (fr_tr (M := [(62, (-1))]) (fr_tr (M := [(62, (-1))]) fr_rf (hf2) (M1 := []) rfl rfl) (fr_ua hE5) rfl rfl)
    exact c2 (Int.toNat (20 - 0) + 1) 0 Z h (by omega) (by omega) (by first | exact fll_0 | assumption) hx hG fr_rf
theorem ct_186_56 {l : Launch} {D : va_G} {b0 : Nat} {ad : Nat → Nat} {Hb : Heap} {tau : Nat → Int64} {d n s : Nat} {S : Nat → xS} {Z : xZ} {h : mx_H} (hx : XH n s S Z h) (hG : GI n S Z)   : ∃ (Z' : xZ) (h' : mx_H), mx_Ca (tB l D b0 ad Hb tau) (d + 1) 186 [.ref 56] h (none, h') ∧ XH n s S Z' h' ∧ GI n S Z' ∧ fr' [(62, (-1))] Z Z' ∧ (FLL Z' 62 20 0) := by
  obtain ⟨r, hca, Z', h', e, q⟩ := Jmt (B := tB l D b0 ad Hb tau) (M := mt_186) (mi := 186) (as := [.ref 56]) (d := d + 0) (ls := [some (.ref 56), none]) rfl rfl rfl rfl rfl rfl (cw_186_56 (l := l) (D := D) (b0 := b0) (ad := ad) (Hb := Hb) (tau := tau) (d := d) (Post := fun r => ∃ (Z' : xZ) (h' : mx_H), r = (none, h') ∧ XH n s S Z' h' ∧ GI n S Z' ∧ fr' [(62, (-1))] Z Z' ∧ (FLL Z' 62 20 0)) hx hG  (fun Z' h' q1 q2 q3 q4 => ⟨Z', h', rfl, q1, q2, q3, q4⟩))
  subst e; exact ⟨Z', h', hca, q⟩
set_option maxRecDepth 100000 in
theorem cw_187_56 {l : Launch} {D : va_G} {b0 : Nat} {ad : Nat → Nat} {Hb : Heap} {tau : Nat → Int64} {d n s : Nat} {S : Nat → xS} {Z : xZ} {h : mx_H} {Post : mx_R → Prop} (hx : XH n s S Z h) (hG : GI n S Z)  {x0 : Int} (p0 : 0 ≤ x0 ∧ x0 ≤ 384) (hP : ∀ (Z' : xZ) (h' : mx_H), XH n s S Z' h' → GI n S Z' → fr' [(62, (-1))] Z Z' → Post (none, h')) : mx_J (tB l D b0 ad Hb tau) mt_187 (d + 1) 0 [some (.ref 56), some (xI x0), none] [] h Post := by
    have a56 : 56 < n := lt83 (GI_n hG) rfl
    have s56 : S 56 = .inl (12, [0, 2, 2, 2, 2, 0, 0, 0, 0, 0, 0, 0, 0, 0, 0, 2, 2, 2, 0, 2, 2, 2, 0, 0, 2, 2, 2, 2, 2, 2, 0, 0, 2, 2, 2, 2, 2, 2, 2, 2, 2, 2]) := GI_s hG 56 rfl
    have a61 : 61 < n := lt83 (GI_n hG) rfl
    have s61 : S 61 = .inr (.int, 6930, 0) := GI_s hG 61 rfl
    have a62 : 62 < n := lt83 (GI_n hG) rfl
    have s62 : S 62 = .inr (.int, 20, 0) := GI_s hG 62 rfl
    refine mx_J.step (sn_187 0) (fun _ _ => rfl) ?_
    obtain ⟨Z1, h1, hc1, hx1, hG1, hf1, b1⟩ := ct_186_56 (d := d + 0) (l := l) (D := D) (b0 := b0) (ad := ad) (Hb := Hb) (tau := tau) hx hG 
    have bs1_0 := b1
    clear b1
    refine Jcv0 hx (show mx_Sn _ _ 1 (mx_callv 186 1 12 4) from sn_187 1) a56 s56 hc1 rfl rfl rfl ?_
    refine JcI (z := 0) (show mx_Sn _ _ 4 (mx_const (.int 0) 5) from sn_187 4) rfl ?_
    refine mx_J.step (ls2 := [some (.ref 56), some (xI x0), some (xI 0)]) (sn_187 5) (fun _ _ => rfl) ?_
    have c6 : ∀ (m2 : Nat) (w2_2 : Int) (Z3 : xZ) (h3 : mx_H), 18 - w2_2 < (m2 : Int) → 0 ≤ w2_2 ∧ w2_2 ≤ 18 → XH n s S Z3 h3 → GI n S Z3 → fr' [(62, (-1))] Z1 Z3 → mx_J (tB l D b0 ad Hb tau) mt_187 (d + 1) 6 [some (.ref 56), some (xI x0), some (xI w2_2)] [] h3 Post := by
      intro m2
      induction m2 with
      | zero => intro w2_2 Z3 h3 q2 f2_0 hx3 hG3 hf3; exact absurd q2 (by omega)
      | succ m2 ih2 =>
        intro w2_2 Z3 h3 q2 f2_0 hx3 hG3 hf3
        refine mx_J.step (sn_187 6) (fun _ _ => rfl) ?_
        refine JcI (z := 18) (show mx_Sn _ _ 7 (mx_const (.int 18) 9) from sn_187 7) rfl ?_
        refine Jicmp_ge (show mx_Sn _ _ 9 (mx_icmp_ge 35 12) from sn_187 9) (by omega) (by omega) (fun q4 => ?_) (fun q4 => ?_)
        · skip
          exact mx_J.ret (sn_187 35) (fun _ _ => rfl) (hP Z3 h3 hx3 hG3 (fr_tr (M := [(62, (-1))]) (fr_tr (M := [(62, (-1))]) fr_rf (hf1) (M1 := []) rfl rfl) (hf3) rfl rfl))
        · skip
          refine mx_J.step (sn_187 12) (fun _ _ => rfl) ?_
          refine JgetR (g := 16) (b := 62) hx3 (show mx_Sn _ _ 13 (mx_getf 12 16 16) from sn_187 13) a56 s56 rfl rfl (hG3.prr 56 16 rfl) ?_
          refine mx_J.step (sn_187 16) (fun _ _ => rfl) ?_
          refine mx_J.step (sn_187 17) (fun _ _ => rfl) ?_
          refine JgetR (g := 15) (b := 61) hx3 (show mx_Sn _ _ 18 (mx_getf 12 15 21) from sn_187 18) a56 s56 rfl rfl (hG3.prr 56 15 rfl) ?_
          refine JcI (z := 18) (show mx_Sn _ _ 21 (mx_const (.int 18) 23) from sn_187 21) rfl ?_
          refine mx_J.step (sn_187 23) (fun _ _ => rfl) ?_
          refine Jimul (show mx_Sn _ _ 24 (mx_imul 25) from sn_187 24) ?_
          refine mx_J.step (sn_187 25) (fun _ _ => rfl) ?_
          refine Jiadd (show mx_Sn _ _ 26 (mx_iadd 27) from sn_187 26) ?_
          have b7 : 0 ≤ Z 61 ((18 * x0) + w2_2) ∧ Z 61 ((18 * x0) + w2_2) ≤ 18 := hG.pr 61 ((18 * x0) + w2_2)
          refine JialdI (z := Z 61 ((18 * x0) + w2_2)) hx3 (show mx_Sn _ _ 27 (mx_iald 28) from sn_187 27) a61 s61 (by omega) ((hf3 61 ((18 * x0) + w2_2) rfl).trans (hf1 61 ((18 * x0) + w2_2) rfl)) ?_
          refine JiastI hx3 (show mx_Sn _ _ 28 (mx_iast 1 29) from sn_187 28) a62 s62 rfl (by omega) (fun Z8 h8 hx8 hE8 => ?_)
          have hG8 := GI_up hG3 hE8 (show (-2147483648) ≤ Z 61 ((18 * x0) + w2_2) ∧ Z 61 ((18 * x0) + w2_2) ≤ 2147483647 by omega) trivial rfl
          refine Jiinc (z := w2_2) (cz := 1) (ls2 := [some (.ref 56), some (xI x0), some (xI (w2_2 + 1))]) (show mx_Sn _ _ 29 (mx_iinc 2 1 32) from sn_187 29) rfl rfl rfl rfl ?_
          refine mx_J.step (sn_187 32) (fun _ _ => rfl) ?_
          exact ih2 (w2_2 + 1) Z8 h8 (by omega) (by omega) hx8 hG8 (fr_tr (M := [(62, (-1))]) (fr_tr (M := [(62, (-1))]) fr_rf (hf3) (M1 := []) rfl rfl) (fr_ua hE8) rfl rfl)
    exact c6 (Int.toNat (18 - 0) + 1) 0 Z1 h1 (by omega) (by omega) hx1 hG1 fr_rf
theorem ct_187_56 {l : Launch} {D : va_G} {b0 : Nat} {ad : Nat → Nat} {Hb : Heap} {tau : Nat → Int64} {d n s : Nat} {S : Nat → xS} {Z : xZ} {h : mx_H} (hx : XH n s S Z h) (hG : GI n S Z)  {x0 : Int} (p0 : 0 ≤ x0 ∧ x0 ≤ 384) : ∃ (Z' : xZ) (h' : mx_H), mx_Ca (tB l D b0 ad Hb tau) (d + 2) 187 [.ref 56, xI x0] h (none, h') ∧ XH n s S Z' h' ∧ GI n S Z' ∧ fr' [(62, (-1))] Z Z' := by
  obtain ⟨r, hca, Z', h', e, q⟩ := Jmt (B := tB l D b0 ad Hb tau) (M := mt_187) (mi := 187) (as := [.ref 56, xI x0]) (d := d + 1) (ls := [some (.ref 56), some (xI x0), none]) rfl rfl rfl rfl rfl rfl (cw_187_56 (l := l) (D := D) (b0 := b0) (ad := ad) (Hb := Hb) (tau := tau) (d := d) (Post := fun r => ∃ (Z' : xZ) (h' : mx_H), r = (none, h') ∧ XH n s S Z' h' ∧ GI n S Z' ∧ fr' [(62, (-1))] Z Z') hx hG p0 (fun Z' h' q1 q2 q3 => ⟨Z', h', rfl, q1, q2, q3⟩))
  subst e; exact ⟨Z', h', hca, q⟩
set_option maxRecDepth 100000 in
theorem cw_189_56 {l : Launch} {D : va_G} {b0 : Nat} {ad : Nat → Nat} {Hb : Heap} {tau : Nat → Int64} {d n s : Nat} {S : Nat → xS} {Z : xZ} {h : mx_H} {Post : mx_R → Prop} (hx : XH n s S Z h) (hG : GI n S Z)  {x0 : Int} (p0 : 0 ≤ x0 ∧ x0 ≤ 384) (hP : ∀ z : Int, (z = 1 ↔ lxb (Z 62) (fun k => Z 61 (18 * x0 + k))) ∧ 0 ≤ z ∧ z ≤ 1 → Post (some (xI z), h)) : mx_J (tB l D b0 ad Hb tau) mt_189 (d + 0) 0 [some (.ref 56), some (xI x0), none] [] h Post := by
    have a56 : 56 < n := lt83 (GI_n hG) rfl
    have s56 : S 56 = .inl (12, [0, 2, 2, 2, 2, 0, 0, 0, 0, 0, 0, 0, 0, 0, 0, 2, 2, 2, 0, 2, 2, 2, 0, 0, 2, 2, 2, 2, 2, 2, 0, 0, 2, 2, 2, 2, 2, 2, 2, 2, 2, 2]) := GI_s hG 56 rfl
    have a61 : 61 < n := lt83 (GI_n hG) rfl
    have s61 : S 61 = .inr (.int, 6930, 0) := GI_s hG 61 rfl
    have a62 : 62 < n := lt83 (GI_n hG) rfl
    have s62 : S 62 = .inr (.int, 20, 0) := GI_s hG 62 rfl
    refine JcI (z := 0) (show mx_Sn _ _ 0 (mx_const (.int 0) 1) from sn_189 0) rfl ?_
    refine mx_J.step (ls2 := [some (.ref 56), some (xI x0), some (xI 0)]) (sn_189 1) (fun _ _ => rfl) ?_
    have c2 : ∀ (m1 : Nat) (w1_2 : Int), 18 - w1_2 < (m1 : Int) → 0 ≤ w1_2 ∧ w1_2 ≤ 18 → EQK Z x0 w1_2 → mx_J (tB l D b0 ad Hb tau) mt_189 (d + 0) 2 [some (.ref 56), some (xI x0), some (xI w1_2)] [] h Post := by
      intro m1
      induction m1 with
      | zero => intro w1_2 q1 f1_0 f1_1; exact absurd q1 (by omega)
      | succ m1 ih1 =>
        intro w1_2 q1 f1_0 f1_1
        refine mx_J.step (sn_189 2) (fun _ _ => rfl) ?_
        refine JcI (z := 18) (show mx_Sn _ _ 3 (mx_const (.int 18) 5) from sn_189 3) rfl ?_
        refine Jicmp_ge (show mx_Sn _ _ 5 (mx_icmp_ge 60 8) from sn_189 5) (by omega) (by omega) (fun q2 => ?_) (fun q2 => ?_)
        · skip
          refine JcI (z := 0) (show mx_Sn _ _ 60 (mx_const (.int 0) 61) from sn_189 60) rfl ?_
          exact mx_J.ret (show mx_Sn _ _ 61 (mx_zret) from sn_189 61) (fun _ _ => zr_ok (by omega)) (hP 0 ⟨(lx_n (by assumption) (by omega) rfl), by omega⟩)
        · skip
          refine mx_J.step (sn_189 8) (fun _ _ => rfl) ?_
          refine JgetR (g := 16) (b := 62) hx (show mx_Sn _ _ 9 (mx_getf 12 16 12) from sn_189 9) a56 s56 rfl rfl (hG.prr 56 16 rfl) ?_
          refine mx_J.step (sn_189 12) (fun _ _ => rfl) ?_
          have b4 : (-2147483648) ≤ Z 62 w1_2 ∧ Z 62 w1_2 ≤ 2147483647 := hG.pr 62 w1_2
          refine JialdI (z := Z 62 w1_2) hx (show mx_Sn _ _ 13 (mx_iald 14) from sn_189 13) a62 s62 (by omega) rfl ?_
          refine mx_J.step (sn_189 14) (fun _ _ => rfl) ?_
          refine JgetR (g := 15) (b := 61) hx (show mx_Sn _ _ 15 (mx_getf 12 15 18) from sn_189 15) a56 s56 rfl rfl (hG.prr 56 15 rfl) ?_
          refine JcI (z := 18) (show mx_Sn _ _ 18 (mx_const (.int 18) 20) from sn_189 18) rfl ?_
          refine mx_J.step (sn_189 20) (fun _ _ => rfl) ?_
          refine Jimul (show mx_Sn _ _ 21 (mx_imul 22) from sn_189 21) ?_
          refine mx_J.step (sn_189 22) (fun _ _ => rfl) ?_
          refine Jiadd (show mx_Sn _ _ 23 (mx_iadd 24) from sn_189 23) ?_
          have b6 : 0 ≤ Z 61 ((18 * x0) + w1_2) ∧ Z 61 ((18 * x0) + w1_2) ≤ 18 := hG.pr 61 ((18 * x0) + w1_2)
          refine JialdI (z := Z 61 ((18 * x0) + w1_2)) hx (show mx_Sn _ _ 24 (mx_iald 25) from sn_189 24) a61 s61 (by omega) rfl ?_
          refine Jicmp_eq (show mx_Sn _ _ 25 (mx_icmp_eq 54 28) from sn_189 25) (by omega) (by omega) (fun q7 => ?_) (fun q7 => ?_)
          · skip
            refine Jiinc (z := w1_2) (cz := 1) (ls2 := [some (.ref 56), some (xI x0), some (xI (w1_2 + 1))]) (show mx_Sn _ _ 54 (mx_iinc 2 1 57) from sn_189 54) rfl rfl rfl rfl ?_
            refine mx_J.step (sn_189 57) (fun _ _ => rfl) ?_
            exact ih1 (w1_2 + 1) (by omega) (by omega) (eqk_s (by assumption) (by omega))
          · skip
            refine mx_J.step (sn_189 28) (fun _ _ => rfl) ?_
            refine JgetR (g := 16) (b := 62) hx (show mx_Sn _ _ 29 (mx_getf 12 16 32) from sn_189 29) a56 s56 rfl rfl (hG.prr 56 16 rfl) ?_
            refine mx_J.step (sn_189 32) (fun _ _ => rfl) ?_
            refine JialdI (z := Z 62 w1_2) hx (show mx_Sn _ _ 33 (mx_iald 34) from sn_189 33) a62 s62 (by omega) rfl ?_
            refine mx_J.step (sn_189 34) (fun _ _ => rfl) ?_
            refine JgetR (g := 15) (b := 61) hx (show mx_Sn _ _ 35 (mx_getf 12 15 38) from sn_189 35) a56 s56 rfl rfl (hG.prr 56 15 rfl) ?_
            refine JcI (z := 18) (show mx_Sn _ _ 38 (mx_const (.int 18) 40) from sn_189 38) rfl ?_
            refine mx_J.step (sn_189 40) (fun _ _ => rfl) ?_
            refine Jimul (show mx_Sn _ _ 41 (mx_imul 42) from sn_189 41) ?_
            refine mx_J.step (sn_189 42) (fun _ _ => rfl) ?_
            refine Jiadd (show mx_Sn _ _ 43 (mx_iadd 44) from sn_189 43) ?_
            refine JialdI (z := Z 61 ((18 * x0) + w1_2)) hx (show mx_Sn _ _ 44 (mx_iald 45) from sn_189 44) a61 s61 (by omega) rfl ?_
            have c53 : ∀ (k10_0 : Int), 0 ≤ k10_0 ∧ k10_0 ≤ 1 → (k10_0 = 1 ↔ lxb (Z 62) (fun k => Z 61 (18 * x0 + k))) → mx_J (tB l D b0 ad Hb tau) mt_189 (d + 0) 53 [some (.ref 56), some (xI x0), some (xI w1_2)] [xI k10_0] h Post := by
              intro k10_0 f10_0 f10_1
              exact mx_J.ret (show mx_Sn _ _ 53 (mx_zret) from sn_189 53) (fun _ _ => zr_ok (by omega)) (hP k10_0 ⟨(by assumption), by omega⟩)
            refine Jicmp_ge (show mx_Sn _ _ 45 (mx_icmp_ge 52 48) from sn_189 45) (by omega) (by omega) (fun q11 => ?_) (fun q11 => ?_)
            · skip
              refine JcI (z := 0) (show mx_Sn _ _ 52 (mx_const (.int 0) 53) from sn_189 52) rfl ?_
              exact c53 0 (by omega) (lx_y (by assumption) (by omega) (by omega) (by omega) ⟨fun q => absurd q (by omega), fun _ => rfl⟩)
            · skip
              refine JcI (z := 1) (show mx_Sn _ _ 48 (mx_const (.int 1) 49) from sn_189 48) rfl ?_
              refine mx_J.step (sn_189 49) (fun _ _ => rfl) ?_
              exact c53 1 (by omega) (lx_y (by assumption) (by omega) (by omega) (by omega) ⟨fun _ => rfl, fun q => absurd q (by omega)⟩)
    exact c2 (Int.toNat (18 - 0) + 1) 0 (by omega) (by omega) (eqk_0)
theorem ct_189_56 {l : Launch} {D : va_G} {b0 : Nat} {ad : Nat → Nat} {Hb : Heap} {tau : Nat → Int64} {d n s : Nat} {S : Nat → xS} {Z : xZ} {h : mx_H} (hx : XH n s S Z h) (hG : GI n S Z)  {x0 : Int} (p0 : 0 ≤ x0 ∧ x0 ≤ 384) : ∃ z : Int, mx_Ca (tB l D b0 ad Hb tau) (d + 1) 189 [.ref 56, xI x0] h (some (xI z), h) ∧ ((z = 1 ↔ lxb (Z 62) (fun k => Z 61 (18 * x0 + k))) ∧ 0 ≤ z ∧ z ≤ 1) := by
  obtain ⟨r, hca, z, e, hp⟩ := Jmt (B := tB l D b0 ad Hb tau) (M := mt_189) (mi := 189) (as := [.ref 56, xI x0]) (d := d + 0) (ls := [some (.ref 56), some (xI x0), none]) rfl rfl rfl rfl rfl rfl (cw_189_56 (l := l) (D := D) (b0 := b0) (ad := ad) (Hb := Hb) (tau := tau) (d := d) (Post := fun r => ∃ z : Int, r = (some (xI z), h) ∧ ((z = 1 ↔ lxb (Z 62) (fun k => Z 61 (18 * x0 + k))) ∧ 0 ≤ z ∧ z ≤ 1)) hx hG p0 (fun z hz => ⟨z, rfl, hz⟩))
  subst e; exact ⟨z, hca, hp⟩
set_option maxRecDepth 100000 in
theorem cw_188_56 {l : Launch} {D : va_G} {b0 : Nat} {ad : Nat → Nat} {Hb : Heap} {tau : Nat → Int64} {d n s : Nat} {S : Nat → xS} {Z : xZ} {h : mx_H} {Post : mx_R → Prop} (hx : XH n s S Z h) (hG : GI n S Z)   (hP : ∀ (z : Int) (Z' : xZ) (h' : mx_H), XH n s S Z' h' → GI n S Z' → fr' [(62, (-1))] Z Z' → 0 ≤ z ∧ z ≤ 384 ∧ (z < Z 56 18) → Post (some (xI z), h')) : mx_J (tB l D b0 ad Hb tau) mt_188 (d + 1) 0 [some (.ref 56), none, none, none] [] h Post := by
    have a56 : 56 < n := lt83 (GI_n hG) rfl
    have s56 : S 56 = .inl (12, [0, 2, 2, 2, 2, 0, 0, 0, 0, 0, 0, 0, 0, 0, 0, 2, 2, 2, 0, 2, 2, 2, 0, 0, 2, 2, 2, 2, 2, 2, 0, 0, 2, 2, 2, 2, 2, 2, 2, 2, 2, 2]) := GI_s hG 56 rfl
    have a62 : 62 < n := lt83 (GI_n hG) rfl
    have s62 : S 62 = .inr (.int, 20, 0) := GI_s hG 62 rfl
    refine JcI (z := 1) (show mx_Sn _ _ 0 (mx_const (.int 1) 1) from sn_188 0) rfl ?_
    refine mx_J.step (ls2 := [some (.ref 56), some (xI 1), none, none]) (sn_188 1) (fun _ _ => rfl) ?_
    have c2 : ∀ (m1 : Nat) (w1_1 : Int) (u1_2 : Option Value) (u1_3 : Option Value) (Z2 : xZ) (h2 : mx_H), 20 - w1_1 < (m1 : Int) → 1 ≤ w1_1 ∧ w1_1 ≤ 20 → XH n s S Z2 h2 → GI n S Z2 → fr' [(62, (-1))] Z Z2 → mx_J (tB l D b0 ad Hb tau) mt_188 (d + 1) 2 [some (.ref 56), some (xI w1_1), u1_2, u1_3] [] h2 Post := by
      intro m1
      induction m1 with
      | zero => intro w1_1 u1_2 u1_3 Z2 h2 q1 f1_0 hx2 hG2 hf2; exact absurd q1 (by omega)
      | succ m1 ih1 =>
        intro w1_1 u1_2 u1_3 Z2 h2 q1 f1_0 hx2 hG2 hf2
        refine mx_J.step (sn_188 2) (fun _ _ => rfl) ?_
        refine JcI (z := 20) (show mx_Sn _ _ 3 (mx_const (.int 20) 5) from sn_188 3) rfl ?_
        refine Jicmp_ge (show mx_Sn _ _ 5 (mx_icmp_ge 66 8) from sn_188 5) (by omega) (by omega) (fun q3 => ?_) (fun q3 => ?_)
        · skip
          refine JcI (z := 0) (show mx_Sn _ _ 66 (mx_const (.int 0) 67) from sn_188 66) rfl ?_
          refine mx_J.step (ls2 := [some (.ref 56), some (xI 0), u1_2, u1_3]) (sn_188 67) (fun _ _ => rfl) ?_
          refine mx_J.step (sn_188 68) (fun _ _ => rfl) ?_
          have b5 : 0 ≤ Z 56 18 ∧ Z 56 18 ≤ 385 := hG.pr 56 18
          refine JgetI (g := 18) (z := Z 56 18) hx2 (show mx_Sn _ _ 69 (mx_getf 12 18 72) from sn_188 69) a56 s56 rfl rfl (hf2 56 18 rfl) ?_
          refine JcI (z := 1) (show mx_Sn _ _ 72 (mx_const (.int 1) 73) from sn_188 72) rfl ?_
          refine Jisub (show mx_Sn _ _ 73 (mx_isub 74) from sn_188 73) ?_
          refine mx_J.step (ls2 := [some (.ref 56), some (xI 0), some (xI ((Z 56 18) - 1)), u1_3]) (sn_188 74) (fun _ _ => rfl) ?_
          have c75 : ∀ (m6 : Nat) (w6_1 : Int) (w6_2 : Int) (u6_3 : Option Value), (((w6_2 - w6_1).toNat : Nat) : Int) < (m6 : Int) → 0 ≤ w6_1 ∧ w6_1 ≤ 384 → (-1) ≤ w6_2 ∧ w6_2 ≤ 384 → (w6_2 ≤ Z 56 18 - 1 ∧ (w6_1 ≤ w6_2 ∨ Z 56 18 ≤ 0)) → mx_J (tB l D b0 ad Hb tau) mt_188 (d + 1) 75 [some (.ref 56), some (xI w6_1), some (xI w6_2), u6_3] [] h2 Post := by
            intro m6
            induction m6 with
            | zero => intro w6_1 w6_2 u6_3 q6 f6_0 f6_1 f6_2; exact absurd q6 (by omega)
            | succ m6 ih6 =>
              intro w6_1 w6_2 u6_3 q6 f6_0 f6_1 f6_2
              refine mx_J.step (sn_188 75) (fun _ _ => rfl) ?_
              refine mx_J.step (sn_188 76) (fun _ _ => rfl) ?_
              refine Jicmp_ge (show mx_Sn _ _ 77 (mx_icmp_ge 106 80) from sn_188 77) (by omega) (by omega) (fun q7 => ?_) (fun q7 => ?_)
              · skip
                refine mx_J.step (sn_188 106) (fun _ _ => rfl) ?_
                have gs := GI_s1 hG
                have eq8 : Z2 56 18 = Z 56 18 := (hf2 56 18 rfl)
                exact mx_J.ret (sn_188 107) (fun _ _ => rfl) (hP w6_1 Z2 h2 hx2 hG2 (fr_tr (M := [(62, (-1))]) fr_rf (hf2) (M1 := []) rfl rfl) (by omega))
              · skip
                refine mx_J.step (sn_188 80) (fun _ _ => rfl) ?_
                refine mx_J.step (sn_188 81) (fun _ _ => rfl) ?_
                refine Jiadd (show mx_Sn _ _ 82 (mx_iadd 83) from sn_188 82) ?_
                refine JcI (z := 2) (show mx_Sn _ _ 83 (mx_const (.int 2) 84) from sn_188 83) rfl ?_
                refine Jidiv (show mx_Sn _ _ 84 (mx_idiv 85) from sn_188 84) (by omega) (by omega) ?_
                refine mx_J.step (ls2 := [some (.ref 56), some (xI w6_1), some (xI w6_2), some (xI ((w6_1 + w6_2) / 2))]) (sn_188 85) (fun _ _ => rfl) ?_
                refine mx_J.step (sn_188 86) (fun _ _ => rfl) ?_
                refine mx_J.step (sn_188 87) (fun _ _ => rfl) ?_
                obtain ⟨z9, hc9, b9⟩ := ct_189_56 (d := d + 0) (l := l) (D := D) (b0 := b0) (ad := ad) (Hb := Hb) (tau := tau) hx2 hG2 (show 0 ≤ (w6_1 + w6_2) / 2 ∧ (w6_1 + w6_2) / 2 ≤ 384 by omega)
                obtain ⟨bs9_0, b9⟩ := b9
                refine Jcv hx2 (show mx_Sn _ _ 88 (mx_callv 189 2 12 91) from sn_188 88) a56 s56 hc9 rfl rfl rfl ?_
                refine Jif_eq (show mx_Sn _ _ 91 (mx_if_eq 101 94) from sn_188 91) (by omega) (fun q10 => ?_) (fun q10 => ?_)
                · skip
                  refine mx_J.step (sn_188 101) (fun _ _ => rfl) ?_
                  refine mx_J.step (ls2 := [some (.ref 56), some (xI w6_1), some (xI ((w6_1 + w6_2) / 2)), some (xI ((w6_1 + w6_2) / 2))]) (sn_188 102) (fun _ _ => rfl) ?_
                  refine mx_J.step (sn_188 103) (fun _ _ => rfl) ?_
                  exact ih6 w6_1 ((w6_1 + w6_2) / 2) (some (xI ((w6_1 + w6_2) / 2))) (by omega) (by omega) (by omega) (by omega)
                · skip
                  refine mx_J.step (sn_188 94) (fun _ _ => rfl) ?_
                  refine JcI (z := 1) (show mx_Sn _ _ 95 (mx_const (.int 1) 96) from sn_188 95) rfl ?_
                  refine Jiadd (show mx_Sn _ _ 96 (mx_iadd 97) from sn_188 96) ?_
                  refine mx_J.step (ls2 := [some (.ref 56), some (xI (((w6_1 + w6_2) / 2) + 1)), some (xI w6_2), some (xI ((w6_1 + w6_2) / 2))]) (sn_188 97) (fun _ _ => rfl) ?_
                  refine mx_J.step (sn_188 98) (fun _ _ => rfl) ?_
                  refine mx_J.step (sn_188 103) (fun _ _ => rfl) ?_
                  exact ih6 (((w6_1 + w6_2) / 2) + 1) w6_2 (some (xI ((w6_1 + w6_2) / 2))) (by omega) (by omega) (by omega) (by omega)
          exact c75 (Int.toNat ((((((Z 56 18) - 1) - 0).toNat : Nat) : Int)) + 1) 0 ((Z 56 18) - 1) u1_3 (by omega) (by omega) (by omega) (by omega)
        · skip
          refine mx_J.step (sn_188 8) (fun _ _ => rfl) ?_
          refine JgetR (g := 16) (b := 62) hx2 (show mx_Sn _ _ 9 (mx_getf 12 16 12) from sn_188 9) a56 s56 rfl rfl (hG2.prr 56 16 rfl) ?_
          refine mx_J.step (sn_188 12) (fun _ _ => rfl) ?_
          have b12 : (-2147483648) ≤ Z2 62 w1_1 ∧ Z2 62 w1_1 ≤ 2147483647 := hG2.pr 62 w1_1
          refine JialdI (z := Z2 62 w1_1) hx2 (show mx_Sn _ _ 13 (mx_iald 14) from sn_188 13) a62 s62 (by omega) rfl ?_
          refine mx_J.step (ls2 := [some (.ref 56), some (xI w1_1), some (xI (Z2 62 w1_1)), u1_3]) (sn_188 14) (fun _ _ => rfl) ?_
          refine mx_J.step (sn_188 15) (fun _ _ => rfl) ?_
          refine mx_J.step (ls2 := [some (.ref 56), some (xI w1_1), some (xI (Z2 62 w1_1)), some (xI w1_1)]) (sn_188 16) (fun _ _ => rfl) ?_
          have c17 : ∀ (m13 : Nat) (w13_3 : Int) (Z14 : xZ) (h14 : mx_H), w13_3 - 0 < (m13 : Int) → 0 ≤ w13_3 ∧ w13_3 ≤ 19 → XH n s S Z14 h14 → GI n S Z14 → fr' [(62, (-1))] Z2 Z14 → mx_J (tB l D b0 ad Hb tau) mt_188 (d + 1) 17 [some (.ref 56), some (xI w1_1), some (xI (Z2 62 w1_1)), some (xI w13_3)] [] h14 Post := by
            intro m13
            induction m13 with
            | zero => intro w13_3 Z14 h14 q13 f13_0 hx14 hG14 hf14; exact absurd q13 (by omega)
            | succ m13 ih13 =>
              intro w13_3 Z14 h14 q13 f13_0 hx14 hG14 hf14
              refine mx_J.step (sn_188 17) (fun _ _ => rfl) ?_
              have c53 : mx_J (tB l D b0 ad Hb tau) mt_188 (d + 1) 53 [some (.ref 56), some (xI w1_1), some (xI (Z2 62 w1_1)), some (xI w13_3)] [] h14 Post := by
                refine mx_J.step (sn_188 53) (fun _ _ => rfl) ?_
                refine JgetR (g := 16) (b := 62) hx14 (show mx_Sn _ _ 54 (mx_getf 12 16 57) from sn_188 54) a56 s56 rfl rfl (hG14.prr 56 16 rfl) ?_
                refine mx_J.step (sn_188 57) (fun _ _ => rfl) ?_
                refine mx_J.step (sn_188 58) (fun _ _ => rfl) ?_
                refine JiastI hx14 (show mx_Sn _ _ 59 (mx_iast 1 60) from sn_188 59) a62 s62 rfl (by omega) (fun Z17 h17 hx17 hE17 => ?_)
                have hG17 := GI_up hG14 hE17 (show (-2147483648) ≤ Z2 62 w1_1 ∧ Z2 62 w1_1 ≤ 2147483647 by omega) trivial rfl
                refine Jiinc (z := w1_1) (cz := 1) (ls2 := [some (.ref 56), some (xI (w1_1 + 1)), some (xI (Z2 62 w1_1)), some (xI w13_3)]) (show mx_Sn _ _ 60 (mx_iinc 1 1 63) from sn_188 60) rfl rfl rfl rfl ?_
                refine mx_J.step (sn_188 63) (fun _ _ => rfl) ?_
                exact ih1 (w1_1 + 1) (some (xI (Z2 62 w1_1))) (some (xI w13_3)) Z17 h17 (by omega) (by omega) hx17 hG17 (fr_tr (M := [(62, (-1))]) (fr_tr (M := [(62, (-1))]) (fr_tr (M := [(62, (-1))]) fr_rf (hf2) (M1 := []) rfl rfl) (hf14) rfl rfl) (fr_ua hE17) rfl rfl)
              refine Jif_le (show mx_Sn _ _ 18 (mx_if_le 53 21) from sn_188 18) (by omega) (fun q18 => ?_) (fun q18 => ?_)
              · skip
                exact c53 
              · skip
                refine mx_J.step (sn_188 21) (fun _ _ => rfl) ?_
                refine JgetR (g := 16) (b := 62) hx14 (show mx_Sn _ _ 22 (mx_getf 12 16 25) from sn_188 22) a56 s56 rfl rfl (hG14.prr 56 16 rfl) ?_
                refine mx_J.step (sn_188 25) (fun _ _ => rfl) ?_
                refine JcI (z := 1) (show mx_Sn _ _ 26 (mx_const (.int 1) 27) from sn_188 26) rfl ?_
                refine Jisub (show mx_Sn _ _ 27 (mx_isub 28) from sn_188 27) ?_
                have b20 : (-2147483648) ≤ Z14 62 (w13_3 - 1) ∧ Z14 62 (w13_3 - 1) ≤ 2147483647 := hG14.pr 62 (w13_3 - 1)
                refine JialdI (z := Z14 62 (w13_3 - 1)) hx14 (show mx_Sn _ _ 28 (mx_iald 29) from sn_188 28) a62 s62 (by omega) rfl ?_
                refine mx_J.step (sn_188 29) (fun _ _ => rfl) ?_
                refine Jicmp_ge (show mx_Sn _ _ 30 (mx_icmp_ge 53 33) from sn_188 30) (by omega) (by omega) (fun q21 => ?_) (fun q21 => ?_)
                · skip
                  exact c53 
                · skip
                  refine mx_J.step (sn_188 33) (fun _ _ => rfl) ?_
                  refine JgetR (g := 16) (b := 62) hx14 (show mx_Sn _ _ 34 (mx_getf 12 16 37) from sn_188 34) a56 s56 rfl rfl (hG14.prr 56 16 rfl) ?_
                  refine mx_J.step (sn_188 37) (fun _ _ => rfl) ?_
                  refine mx_J.step (sn_188 38) (fun _ _ => rfl) ?_
                  refine JgetR (g := 16) (b := 62) hx14 (show mx_Sn _ _ 39 (mx_getf 12 16 42) from sn_188 39) a56 s56 rfl rfl (hG14.prr 56 16 rfl) ?_
                  refine mx_J.step (sn_188 42) (fun _ _ => rfl) ?_
                  refine JcI (z := 1) (show mx_Sn _ _ 43 (mx_const (.int 1) 44) from sn_188 43) rfl ?_
                  refine Jisub (show mx_Sn _ _ 44 (mx_isub 45) from sn_188 44) ?_
                  refine JialdI (z := Z14 62 (w13_3 - 1)) hx14 (show mx_Sn _ _ 45 (mx_iald 46) from sn_188 45) a62 s62 (by omega) rfl ?_
                  refine JiastI hx14 (show mx_Sn _ _ 46 (mx_iast 1 47) from sn_188 46) a62 s62 rfl (by omega) (fun Z24 h24 hx24 hE24 => ?_)
                  have hG24 := GI_up hG14 hE24 (show (-2147483648) ≤ Z14 62 (w13_3 - 1) ∧ Z14 62 (w13_3 - 1) ≤ 2147483647 by omega) trivial rfl
                  refine Jiinc (z := w13_3) (cz := (-1)) (ls2 := [some (.ref 56), some (xI w1_1), some (xI (Z2 62 w1_1)), some (xI (w13_3 + (-1)))]) (show mx_Sn _ _ 47 (mx_iinc 3 (-1) 50) from sn_188 47) rfl rfl rfl rfl ?_
                  refine mx_J.step (sn_188 50) (fun _ _ => rfl) ?_
                  exact ih13 (w13_3 + (-1)) Z24 h24 (by omega) (by omega) hx24 hG24 (fr_tr (M := [(62, (-1))]) (fr_tr (M := [(62, (-1))]) fr_rf (hf14) (M1 := []) rfl rfl) (fr_ua hE24) rfl rfl)
          exact c17 (Int.toNat (w1_1 - 0) + 1) w1_1 Z2 h2 (by omega) (by omega) hx2 hG2 fr_rf
    exact c2 (Int.toNat (20 - 1) + 1) 1 none none Z h (by omega) (by omega) hx hG fr_rf
theorem ct_188_56 {l : Launch} {D : va_G} {b0 : Nat} {ad : Nat → Nat} {Hb : Heap} {tau : Nat → Int64} {d n s : Nat} {S : Nat → xS} {Z : xZ} {h : mx_H} (hx : XH n s S Z h) (hG : GI n S Z)   : ∃ (z : Int) (Z' : xZ) (h' : mx_H), mx_Ca (tB l D b0 ad Hb tau) (d + 2) 188 [.ref 56] h (some (xI z), h') ∧ XH n s S Z' h' ∧ GI n S Z' ∧ fr' [(62, (-1))] Z Z' ∧ (0 ≤ z ∧ z ≤ 384 ∧ (z < Z 56 18)) := by
  obtain ⟨r, hca, z, Z', h', e, q⟩ := Jmt (B := tB l D b0 ad Hb tau) (M := mt_188) (mi := 188) (as := [.ref 56]) (d := d + 1) (ls := [some (.ref 56), none, none, none]) rfl rfl rfl rfl rfl rfl (cw_188_56 (l := l) (D := D) (b0 := b0) (ad := ad) (Hb := Hb) (tau := tau) (d := d) (Post := fun r => ∃ (z : Int) (Z' : xZ) (h' : mx_H), r = (some (xI z), h') ∧ XH n s S Z' h' ∧ GI n S Z' ∧ fr' [(62, (-1))] Z Z' ∧ (0 ≤ z ∧ z ≤ 384 ∧ (z < Z 56 18))) hx hG  (fun z Z' h' q1 q2 q3 q4 => ⟨z, Z', h', rfl, q1, q2, q3, q4⟩))
  subst e; exact ⟨z, Z', h', hca, q⟩
set_option maxRecDepth 100000 in
theorem cw_188_56_n {l : Launch} {D : va_G} {b0 : Nat} {ad : Nat → Nat} {Hb : Heap} {tau : Nat → Int64} {d n s : Nat} {S : Nat → xS} {Z : xZ} {h : mx_H} {Post : mx_R → Prop} {g0 : Int} {g2 : Int} (hx : XH n s S Z h) (hG : GI n S Z)   (k0 : RTB Z g2) (k1 : NPR Z g2 g0) (k2 : Z 57 1 = g2) (hP : ∀ (z : Int) (Z' : xZ) (h' : mx_H), XH n s S Z' h' → GI n S Z' → fr' [(62, (-1))] Z Z' → z = g0 ∧ 0 ≤ z ∧ z ≤ 384 ∧ (z < Z 56 18) → Post (some (xI z), h')) : mx_J (tB l D b0 ad Hb tau) mt_188 (d + 1) 0 [some (.ref 56), none, none, none] [] h Post := by
    have a56 : 56 < n := lt83 (GI_n hG) rfl
    have s56 : S 56 = .inl (12, [0, 2, 2, 2, 2, 0, 0, 0, 0, 0, 0, 0, 0, 0, 0, 2, 2, 2, 0, 2, 2, 2, 0, 0, 2, 2, 2, 2, 2, 2, 0, 0, 2, 2, 2, 2, 2, 2, 2, 2, 2, 2]) := GI_s hG 56 rfl
    have a62 : 62 < n := lt83 (GI_n hG) rfl
    have s62 : S 62 = .inr (.int, 20, 0) := GI_s hG 62 rfl
    have e18 : Z 56 18 = pN g2 := by rw [← k2]; exact (GI_stt hG).1
    refine JcI (z := 1) (show mx_Sn _ _ 0 (mx_const (.int 1) 1) from sn_188 0) rfl ?_
    refine mx_J.step (ls2 := [some (.ref 56), some (xI 1), none, none]) (sn_188 1) (fun _ _ => rfl) ?_
    have c2 : ∀ (m1 : Nat) (w1_1 : Int) (u1_2 : Option Value) (u1_3 : Option Value) (Z2 : xZ) (h2 : mx_H), 20 - w1_1 < (m1 : Int) → 1 ≤ w1_1 ∧ w1_1 ≤ 20 → SOT Z2 w1_1 → ECG Z Z2 → XH n s S Z2 h2 → GI n S Z2 → fr' [(62, (-1))] Z Z2 → mx_J (tB l D b0 ad Hb tau) mt_188 (d + 1) 2 [some (.ref 56), some (xI w1_1), u1_2, u1_3] [] h2 Post := by
      intro m1
      induction m1 with
      | zero => intro w1_1 u1_2 u1_3 Z2 h2 q1 f1_0 f1_1 f1_2 hx2 hG2 hf2; exact absurd q1 (by omega)
      | succ m1 ih1 =>
        intro w1_1 u1_2 u1_3 Z2 h2 q1 f1_0 f1_1 f1_2 hx2 hG2 hf2
        refine mx_J.step (sn_188 2) (fun _ _ => rfl) ?_
        refine JcI (z := 20) (show mx_Sn _ _ 3 (mx_const (.int 20) 5) from sn_188 3) rfl ?_
        refine Jicmp_ge (show mx_Sn _ _ 5 (mx_icmp_ge 66 8) from sn_188 5) (by omega) (by omega) (fun q3 => ?_) (fun q3 => ?_)
        · skip
          have hs := npr_s (k := w1_1) k1 (by assumption) (by omega) (by assumption)
          have gb := k1.2.1
          refine JcI (z := 0) (show mx_Sn _ _ 66 (mx_const (.int 0) 67) from sn_188 66) rfl ?_
          refine mx_J.step (ls2 := [some (.ref 56), some (xI 0), u1_2, u1_3]) (sn_188 67) (fun _ _ => rfl) ?_
          refine mx_J.step (sn_188 68) (fun _ _ => rfl) ?_
          have b5 : 0 ≤ Z 56 18 ∧ Z 56 18 ≤ 385 := hG.pr 56 18
          refine JgetI (g := 18) (z := Z 56 18) hx2 (show mx_Sn _ _ 69 (mx_getf 12 18 72) from sn_188 69) a56 s56 rfl rfl (hf2 56 18 rfl) ?_
          refine JcI (z := 1) (show mx_Sn _ _ 72 (mx_const (.int 1) 73) from sn_188 72) rfl ?_
          refine Jisub (show mx_Sn _ _ 73 (mx_isub 74) from sn_188 73) ?_
          refine mx_J.step (ls2 := [some (.ref 56), some (xI 0), some (xI ((Z 56 18) - 1)), u1_3]) (sn_188 74) (fun _ _ => rfl) ?_
          have c75 : ∀ (m6 : Nat) (w6_1 : Int) (w6_2 : Int) (u6_3 : Option Value), (((w6_2 - w6_1).toNat : Nat) : Int) < (m6 : Int) → 0 ≤ w6_1 ∧ w6_1 ≤ 384 → (-1) ≤ w6_2 ∧ w6_2 ≤ 384 → (w6_2 ≤ Z 56 18 - 1 ∧ (w6_1 ≤ w6_2 ∨ Z 56 18 ≤ 0)) → (w6_1 ≤ g0 ∧ g0 ≤ w6_2) → mx_J (tB l D b0 ad Hb tau) mt_188 (d + 1) 75 [some (.ref 56), some (xI w6_1), some (xI w6_2), u6_3] [] h2 Post := by
            intro m6
            induction m6 with
            | zero => intro w6_1 w6_2 u6_3 q6 f6_0 f6_1 f6_2 f6_3; exact absurd q6 (by omega)
            | succ m6 ih6 =>
              intro w6_1 w6_2 u6_3 q6 f6_0 f6_1 f6_2 f6_3
              refine mx_J.step (sn_188 75) (fun _ _ => rfl) ?_
              refine mx_J.step (sn_188 76) (fun _ _ => rfl) ?_
              refine Jicmp_ge (show mx_Sn _ _ 77 (mx_icmp_ge 106 80) from sn_188 77) (by omega) (by omega) (fun q7 => ?_) (fun q7 => ?_)
              · skip
                refine mx_J.step (sn_188 106) (fun _ _ => rfl) ?_
                have gs := GI_s1 hG
                have eq8 : Z2 56 18 = Z 56 18 := (hf2 56 18 rfl)
                exact mx_J.ret (sn_188 107) (fun _ _ => rfl) (hP w6_1 Z2 h2 hx2 hG2 (fr_tr (M := [(62, (-1))]) fr_rf (hf2) (M1 := []) rfl rfl) ⟨(by omega), by omega⟩)
              · skip
                refine mx_J.step (sn_188 80) (fun _ _ => rfl) ?_
                refine mx_J.step (sn_188 81) (fun _ _ => rfl) ?_
                refine Jiadd (show mx_Sn _ _ 82 (mx_iadd 83) from sn_188 82) ?_
                refine JcI (z := 2) (show mx_Sn _ _ 83 (mx_const (.int 2) 84) from sn_188 83) rfl ?_
                refine Jidiv (show mx_Sn _ _ 84 (mx_idiv 85) from sn_188 84) (by omega) (by omega) ?_
                refine mx_J.step (ls2 := [some (.ref 56), some (xI w6_1), some (xI w6_2), some (xI ((w6_1 + w6_2) / 2))]) (sn_188 85) (fun _ _ => rfl) ?_
                refine mx_J.step (sn_188 86) (fun _ _ => rfl) ?_
                refine mx_J.step (sn_188 87) (fun _ _ => rfl) ?_
                obtain ⟨z9, hc9, b9⟩ := ct_189_56 (d := d + 0) (l := l) (D := D) (b0 := b0) (ad := ad) (Hb := Hb) (tau := tau) hx2 hG2 (show 0 ≤ (w6_1 + w6_2) / 2 ∧ (w6_1 + w6_2) / 2 ≤ 384 by omega)
                obtain ⟨bs9_0, b9⟩ := b9
                refine Jcv hx2 (show mx_Sn _ _ 88 (mx_callv 189 2 12 91) from sn_188 88) a56 s56 hc9 rfl rfl rfl ?_
                have mm := so_m (RTB_c k0 (fun i => (hf2 61 i rfl))) hs k1.1 gb.1 gb.2 (m := ((w6_1 + w6_2) / 2)) (by omega) (by omega) bs9_0
                refine Jif_eq (show mx_Sn _ _ 91 (mx_if_eq 101 94) from sn_188 91) (by omega) (fun q10 => ?_) (fun q10 => ?_)
                · skip
                  refine mx_J.step (sn_188 101) (fun _ _ => rfl) ?_
                  refine mx_J.step (ls2 := [some (.ref 56), some (xI w6_1), some (xI ((w6_1 + w6_2) / 2)), some (xI ((w6_1 + w6_2) / 2))]) (sn_188 102) (fun _ _ => rfl) ?_
                  refine mx_J.step (sn_188 103) (fun _ _ => rfl) ?_
                  exact ih6 w6_1 ((w6_1 + w6_2) / 2) (some (xI ((w6_1 + w6_2) / 2))) (by omega) (by omega) (by omega) (by omega) (by omega)
                · skip
                  refine mx_J.step (sn_188 94) (fun _ _ => rfl) ?_
                  refine JcI (z := 1) (show mx_Sn _ _ 95 (mx_const (.int 1) 96) from sn_188 95) rfl ?_
                  refine Jiadd (show mx_Sn _ _ 96 (mx_iadd 97) from sn_188 96) ?_
                  refine mx_J.step (ls2 := [some (.ref 56), some (xI (((w6_1 + w6_2) / 2) + 1)), some (xI w6_2), some (xI ((w6_1 + w6_2) / 2))]) (sn_188 97) (fun _ _ => rfl) ?_
                  refine mx_J.step (sn_188 98) (fun _ _ => rfl) ?_
                  refine mx_J.step (sn_188 103) (fun _ _ => rfl) ?_
                  exact ih6 (((w6_1 + w6_2) / 2) + 1) w6_2 (some (xI ((w6_1 + w6_2) / 2))) (by omega) (by omega) (by omega) (by omega) (by omega)
          exact c75 (Int.toNat ((((((Z 56 18) - 1) - 0).toNat : Nat) : Int)) + 1) 0 ((Z 56 18) - 1) u1_3 (by omega) (by omega) (by omega) (by omega) (by omega)
        · skip
          refine mx_J.step (sn_188 8) (fun _ _ => rfl) ?_
          refine JgetR (g := 16) (b := 62) hx2 (show mx_Sn _ _ 9 (mx_getf 12 16 12) from sn_188 9) a56 s56 rfl rfl (hG2.prr 56 16 rfl) ?_
          refine mx_J.step (sn_188 12) (fun _ _ => rfl) ?_
          have b12 : (-2147483648) ≤ Z2 62 w1_1 ∧ Z2 62 w1_1 ≤ 2147483647 := hG2.pr 62 w1_1
          refine JialdI (z := Z2 62 w1_1) hx2 (show mx_Sn _ _ 13 (mx_iald 14) from sn_188 13) a62 s62 (by omega) rfl ?_
          refine mx_J.step (ls2 := [some (.ref 56), some (xI w1_1), some (xI (Z2 62 w1_1)), u1_3]) (sn_188 14) (fun _ _ => rfl) ?_
          refine mx_J.step (sn_188 15) (fun _ _ => rfl) ?_
          refine mx_J.step (ls2 := [some (.ref 56), some (xI w1_1), some (xI (Z2 62 w1_1)), some (xI w1_1)]) (sn_188 16) (fun _ _ => rfl) ?_
          have c17 : ∀ (m13 : Nat) (w13_3 : Int) (Z14 : xZ) (h14 : mx_H), w13_3 - 0 < (m13 : Int) → 0 ≤ w13_3 ∧ w13_3 ≤ 19 → HOL Z14 w1_1 w13_3 (Z2 62 w1_1) → HCG Z Z14 w13_3 (Z2 62 w1_1) → (0 ≤ w13_3 ∧ w13_3 ≤ w1_1) → XH n s S Z14 h14 → GI n S Z14 → fr' [(62, (-1))] Z2 Z14 → mx_J (tB l D b0 ad Hb tau) mt_188 (d + 1) 17 [some (.ref 56), some (xI w1_1), some (xI (Z2 62 w1_1)), some (xI w13_3)] [] h14 Post := by
            intro m13
            induction m13 with
            | zero => intro w13_3 Z14 h14 q13 f13_0 f13_1 f13_2 f13_3 hx14 hG14 hf14; exact absurd q13 (by omega)
            | succ m13 ih13 =>
              intro w13_3 Z14 h14 q13 f13_0 f13_1 f13_2 f13_3 hx14 hG14 hf14
              refine mx_J.step (sn_188 17) (fun _ _ => rfl) ?_
              have c53 : (w13_3 ≤ 0 ∨ (Z2 62 w1_1) ≤ Z14 62 (w13_3 - 1)) → mx_J (tB l D b0 ad Hb tau) mt_188 (d + 1) 53 [some (.ref 56), some (xI w1_1), some (xI (Z2 62 w1_1)), some (xI w13_3)] [] h14 Post := by
                intro f15_0
                refine mx_J.step (sn_188 53) (fun _ _ => rfl) ?_
                refine JgetR (g := 16) (b := 62) hx14 (show mx_Sn _ _ 54 (mx_getf 12 16 57) from sn_188 54) a56 s56 rfl rfl (hG14.prr 56 16 rfl) ?_
                refine mx_J.step (sn_188 57) (fun _ _ => rfl) ?_
                refine mx_J.step (sn_188 58) (fun _ _ => rfl) ?_
                refine JiastI hx14 (show mx_Sn _ _ 59 (mx_iast 1 60) from sn_188 59) a62 s62 rfl (by omega) (fun Z17 h17 hx17 hE17 => ?_)
                have hG17 := GI_up hG14 hE17 (show (-2147483648) ≤ Z2 62 w1_1 ∧ Z2 62 w1_1 ≤ 2147483647 by omega) trivial rfl
                have so1 := ho_e (k := w1_1) (i := w13_3) (by assumption) (by omega) (by omega) (by omega) hE17
                have ec1 := hc_e (Z0 := Z) (i := w13_3) (by assumption) hE17
                refine Jiinc (z := w1_1) (cz := 1) (ls2 := [some (.ref 56), some (xI (w1_1 + 1)), some (xI (Z2 62 w1_1)), some (xI w13_3)]) (show mx_Sn _ _ 60 (mx_iinc 1 1 63) from sn_188 60) rfl rfl rfl rfl ?_
                refine mx_J.step (sn_188 63) (fun _ _ => rfl) ?_
                exact ih1 (w1_1 + 1) (some (xI (Z2 62 w1_1))) (some (xI w13_3)) Z17 h17 (by omega) (by omega) (so1) (ec1) hx17 hG17 (fr_tr (M := [(62, (-1))]) (fr_tr (M := [(62, (-1))]) (fr_tr (M := [(62, (-1))]) fr_rf (hf2) (M1 := []) rfl rfl) (hf14) rfl rfl) (fr_ua hE17) rfl rfl)
              refine Jif_le (show mx_Sn _ _ 18 (mx_if_le 53 21) from sn_188 18) (by omega) (fun q18 => ?_) (fun q18 => ?_)
              · skip
                exact c53 (by omega)
              · skip
                refine mx_J.step (sn_188 21) (fun _ _ => rfl) ?_
                refine JgetR (g := 16) (b := 62) hx14 (show mx_Sn _ _ 22 (mx_getf 12 16 25) from sn_188 22) a56 s56 rfl rfl (hG14.prr 56 16 rfl) ?_
                refine mx_J.step (sn_188 25) (fun _ _ => rfl) ?_
                refine JcI (z := 1) (show mx_Sn _ _ 26 (mx_const (.int 1) 27) from sn_188 26) rfl ?_
                refine Jisub (show mx_Sn _ _ 27 (mx_isub 28) from sn_188 27) ?_
                have b20 : (-2147483648) ≤ Z14 62 (w13_3 - 1) ∧ Z14 62 (w13_3 - 1) ≤ 2147483647 := hG14.pr 62 (w13_3 - 1)
                refine JialdI (z := Z14 62 (w13_3 - 1)) hx14 (show mx_Sn _ _ 28 (mx_iald 29) from sn_188 28) a62 s62 (by omega) rfl ?_
                refine mx_J.step (sn_188 29) (fun _ _ => rfl) ?_
                refine Jicmp_ge (show mx_Sn _ _ 30 (mx_icmp_ge 53 33) from sn_188 30) (by omega) (by omega) (fun q21 => ?_) (fun q21 => ?_)
                · skip
                  exact c53 (by omega)
                · skip
                  refine mx_J.step (sn_188 33) (fun _ _ => rfl) ?_
                  refine JgetR (g := 16) (b := 62) hx14 (show mx_Sn _ _ 34 (mx_getf 12 16 37) from sn_188 34) a56 s56 rfl rfl (hG14.prr 56 16 rfl) ?_
                  refine mx_J.step (sn_188 37) (fun _ _ => rfl) ?_
                  refine mx_J.step (sn_188 38) (fun _ _ => rfl) ?_
                  refine JgetR (g := 16) (b := 62) hx14 (show mx_Sn _ _ 39 (mx_getf 12 16 42) from sn_188 39) a56 s56 rfl rfl (hG14.prr 56 16 rfl) ?_
                  refine mx_J.step (sn_188 42) (fun _ _ => rfl) ?_
                  refine JcI (z := 1) (show mx_Sn _ _ 43 (mx_const (.int 1) 44) from sn_188 43) rfl ?_
                  refine Jisub (show mx_Sn _ _ 44 (mx_isub 45) from sn_188 44) ?_
                  refine JialdI (z := Z14 62 (w13_3 - 1)) hx14 (show mx_Sn _ _ 45 (mx_iald 46) from sn_188 45) a62 s62 (by omega) rfl ?_
                  refine JiastI hx14 (show mx_Sn _ _ 46 (mx_iast 1 47) from sn_188 46) a62 s62 rfl (by omega) (fun Z24 h24 hx24 hE24 => ?_)
                  have hG24 := GI_up hG14 hE24 (show (-2147483648) ≤ Z14 62 (w13_3 - 1) ∧ Z14 62 (w13_3 - 1) ≤ 2147483647 by omega) trivial rfl
                  have ho1 := ho_s (k := w1_1) (i := w13_3) (by assumption) (by omega) (by omega) (by omega) hE24 rfl
                  have hc1 := hc_s (Z0 := Z) (i := w13_3) (by assumption) (by omega) (by omega) hE24 rfl
                  refine Jiinc (z := w13_3) (cz := (-1)) (ls2 := [some (.ref 56), some (xI w1_1), some (xI (Z2 62 w1_1)), some (xI (w13_3 + (-1)))]) (show mx_Sn _ _ 47 (mx_iinc 3 (-1) 50) from sn_188 47) rfl rfl rfl rfl ?_
                  refine mx_J.step (sn_188 50) (fun _ _ => rfl) ?_
                  exact ih13 (w13_3 + (-1)) Z24 h24 (by omega) (by omega) (ho1) (hc1) (by omega) hx24 hG24 (fr_tr (M := [(62, (-1))]) (fr_tr (M := [(62, (-1))]) fr_rf (hf14) (M1 := []) rfl rfl) (fr_ua hE24) rfl rfl)
          exact c17 (Int.toNat (w1_1 - 0) + 1) w1_1 Z2 h2 (by omega) (by omega) (ho_0 (by assumption)) (hc_0 (by assumption)) (by omega) hx2 hG2 fr_rf
    exact c2 (Int.toNat (20 - 1) + 1) 1 none none Z h (by omega) (by omega) (so_0) (ecg_0) hx hG fr_rf
theorem ct_188_56_n {l : Launch} {D : va_G} {b0 : Nat} {ad : Nat → Nat} {Hb : Heap} {tau : Nat → Int64} {d n s : Nat} {S : Nat → xS} {Z : xZ} {h : mx_H} {g0 : Int} {g2 : Int} (hx : XH n s S Z h) (hG : GI n S Z)   (k0 : RTB Z g2) (k1 : NPR Z g2 g0) (k2 : Z 57 1 = g2) : ∃ (z : Int) (Z' : xZ) (h' : mx_H), mx_Ca (tB l D b0 ad Hb tau) (d + 2) 188 [.ref 56] h (some (xI z), h') ∧ XH n s S Z' h' ∧ GI n S Z' ∧ fr' [(62, (-1))] Z Z' ∧ (z = g0 ∧ 0 ≤ z ∧ z ≤ 384 ∧ (z < Z 56 18)) := by
  obtain ⟨r, hca, z, Z', h', e, q⟩ := Jmt (B := tB l D b0 ad Hb tau) (M := mt_188) (mi := 188) (as := [.ref 56]) (d := d + 1) (ls := [some (.ref 56), none, none, none]) rfl rfl rfl rfl rfl rfl (cw_188_56_n (l := l) (D := D) (b0 := b0) (ad := ad) (Hb := Hb) (tau := tau) (d := d) (Post := fun r => ∃ (z : Int) (Z' : xZ) (h' : mx_H), r = (some (xI z), h') ∧ XH n s S Z' h' ∧ GI n S Z' ∧ fr' [(62, (-1))] Z Z' ∧ (z = g0 ∧ 0 ≤ z ∧ z ≤ 384 ∧ (z < Z 56 18))) hx hG k0 k1 k2 (fun z Z' h' q1 q2 q3 q4 => ⟨z, Z', h', rfl, q1, q2, q3, q4⟩))
  subst e; exact ⟨z, Z', h', hca, q⟩
set_option maxRecDepth 100000 in
theorem cw_183_56 {l : Launch} {D : va_G} {b0 : Nat} {ad : Nat → Nat} {Hb : Heap} {tau : Nat → Int64} {d n s : Nat} {S : Nat → xS} {Z : xZ} {h : mx_H} {Post : mx_R → Prop} (hx : XH n s S Z h) (hG : GI n S Z)  {x0 : Int} (p0 : (-2147483648) ≤ x0 ∧ x0 ≤ 2147483647) (hP : ∀ (z : Int) (Z' : xZ) (h' : mx_H), XH n s S Z' h' → GI n S Z' → fr' [(56, 0)] Z Z' → (-1) ≤ z ∧ z ≤ 900 ∧ ((x0 = 0 → z = Z 56 13) ∧ (x0 = 1 → z = Z 56 14) ∧ (¬ x0 = 0 → ¬ x0 = 1 → z = -1)) → Post (some (xI z), h')) : mx_J (tB l D b0 ad Hb tau) mt_183 (d + 0) 0 [some (.ref 56), some (xI x0)] [] h Post := by
    have a56 : 56 < n := lt83 (GI_n hG) rfl
    have s56 : S 56 = .inl (12, [0, 2, 2, 2, 2, 0, 0, 0, 0, 0, 0, 0, 0, 0, 0, 2, 2, 2, 0, 2, 2, 2, 0, 0, 2, 2, 2, 2, 2, 2, 0, 0, 2, 2, 2, 2, 2, 2, 2, 2, 2, 2]) := GI_s hG 56 rfl
    refine mx_J.step (sn_183 0) (fun _ _ => rfl) ?_
    refine JcI (z := 0) (show mx_Sn _ _ 1 (mx_const (.int 0) 2) from sn_183 1) rfl ?_
    refine JputI (g := 0) hx (show mx_Sn _ _ 2 (mx_putf 1 12 0 (.int) 5) from sn_183 2) a56 s56 rfl rfl rfl rfl (fun Z1 h1 hx1 hE1 => ?_)
    have hG1 := GI_up hG hE1 (show (-2147483648) ≤ 0 ∧ 0 ≤ 2147483647 by omega) trivial rfl
    refine mx_J.step (sn_183 5) (fun _ _ => rfl) ?_
    have c29 : ∀ (k2_0 : Int), (-1) ≤ k2_0 ∧ k2_0 ≤ 900 → ((x0 = 0 → k2_0 = Z 56 13) ∧ (x0 = 1 → k2_0 = Z 56 14) ∧ (¬ x0 = 0 → ¬ x0 = 1 → k2_0 = -1)) → mx_J (tB l D b0 ad Hb tau) mt_183 (d + 0) 29 [some (.ref 56), some (xI x0)] [xI k2_0] h1 Post := by
      intro k2_0 f2_0 f2_1
      have eq3 : Z1 56 13 = Z 56 13 := (up_ni hE1 (by decide))
      have b4 : 0 ≤ Z 56 13 ∧ Z 56 13 ≤ 4 := hG.pr 56 13
      have eq5 : Z1 56 14 = Z 56 14 := (up_ni hE1 (by decide))
      have b6 : (-1) ≤ Z 56 14 ∧ Z 56 14 ≤ 900 := hG.pr 56 14
      have eq7 : Z1 56 13 = Z 56 13 := (up_ni hE1 (by decide))
      have eq8 : Z1 56 14 = Z 56 14 := (up_ni hE1 (by decide))
      exact mx_J.ret (sn_183 29) (fun _ _ => rfl) (hP k2_0 Z1 h1 hx1 hG1 (fr_tr (M := [(56, 0)]) fr_rf (fr_up hE1) (M1 := []) rfl rfl) (by omega))
    refine Jif_ne (show mx_Sn _ _ 6 (mx_if_ne 16 9) from sn_183 6) (by omega) (fun q9 => ?_) (fun q9 => ?_)
    · skip
      refine mx_J.step (sn_183 16) (fun _ _ => rfl) ?_
      refine JcI (z := 1) (show mx_Sn _ _ 17 (mx_const (.int 1) 18) from sn_183 17) rfl ?_
      refine Jicmp_ne (show mx_Sn _ _ 18 (mx_icmp_ne 28 21) from sn_183 18) (by omega) (by omega) (fun q10 => ?_) (fun q10 => ?_)
      · skip
        refine JcI (z := (-1)) (show mx_Sn _ _ 28 (mx_const (.int (-1)) 29) from sn_183 28) rfl ?_
        exact c29 (-1) (by omega) (by omega)
      · skip
        refine mx_J.step (sn_183 21) (fun _ _ => rfl) ?_
        have b12 : (-1) ≤ Z 56 14 ∧ Z 56 14 ≤ 900 := hG.pr 56 14
        refine JgetI (g := 14) (z := Z 56 14) hx1 (show mx_Sn _ _ 22 (mx_getf 12 14 25) from sn_183 22) a56 s56 rfl rfl (up_ni hE1 (by decide)) ?_
        refine mx_J.step (sn_183 25) (fun _ _ => rfl) ?_
        exact c29 (Z 56 14) (by omega) (by omega)
    · skip
      refine mx_J.step (sn_183 9) (fun _ _ => rfl) ?_
      have b14 : 0 ≤ Z 56 13 ∧ Z 56 13 ≤ 4 := hG.pr 56 13
      refine JgetI (g := 13) (z := Z 56 13) hx1 (show mx_Sn _ _ 10 (mx_getf 12 13 13) from sn_183 10) a56 s56 rfl rfl (up_ni hE1 (by decide)) ?_
      refine mx_J.step (sn_183 13) (fun _ _ => rfl) ?_
      exact c29 (Z 56 13) (by omega) (by omega)
theorem ct_183_56 {l : Launch} {D : va_G} {b0 : Nat} {ad : Nat → Nat} {Hb : Heap} {tau : Nat → Int64} {d n s : Nat} {S : Nat → xS} {Z : xZ} {h : mx_H} (hx : XH n s S Z h) (hG : GI n S Z)  {x0 : Int} (p0 : (-2147483648) ≤ x0 ∧ x0 ≤ 2147483647) : ∃ (z : Int) (Z' : xZ) (h' : mx_H), mx_Ca (tB l D b0 ad Hb tau) (d + 1) 183 [.ref 56, xI x0] h (some (xI z), h') ∧ XH n s S Z' h' ∧ GI n S Z' ∧ fr' [(56, 0)] Z Z' ∧ ((-1) ≤ z ∧ z ≤ 900 ∧ ((x0 = 0 → z = Z 56 13) ∧ (x0 = 1 → z = Z 56 14) ∧ (¬ x0 = 0 → ¬ x0 = 1 → z = -1))) := by
  obtain ⟨r, hca, z, Z', h', e, q⟩ := Jmt (B := tB l D b0 ad Hb tau) (M := mt_183) (mi := 183) (as := [.ref 56, xI x0]) (d := d + 0) (ls := [some (.ref 56), some (xI x0)]) rfl rfl rfl rfl rfl rfl (cw_183_56 (l := l) (D := D) (b0 := b0) (ad := ad) (Hb := Hb) (tau := tau) (d := d) (Post := fun r => ∃ (z : Int) (Z' : xZ) (h' : mx_H), r = (some (xI z), h') ∧ XH n s S Z' h' ∧ GI n S Z' ∧ fr' [(56, 0)] Z Z' ∧ ((-1) ≤ z ∧ z ≤ 900 ∧ ((x0 = 0 → z = Z 56 13) ∧ (x0 = 1 → z = Z 56 14) ∧ (¬ x0 = 0 → ¬ x0 = 1 → z = -1)))) hx hG p0 (fun z Z' h' q1 q2 q3 q4 => ⟨z, Z', h', rfl, q1, q2, q3, q4⟩))
  subst e; exact ⟨z, Z', h', hca, q⟩
set_option maxRecDepth 100000 in
theorem cw_199_56 {l : Launch} {D : va_G} {b0 : Nat} {ad : Nat → Nat} {Hb : Heap} {tau : Nat → Int64} {d n s : Nat} {S : Nat → xS} {Z : xZ} {h : mx_H} {Post : mx_R → Prop} (hx : XH n s S Z h) (hG : GI n S Z)  {x0 : Int} (p0 : (-2147483648) ≤ x0 ∧ x0 ≤ 2147483647) (hP : ∀ (z : Int) (Z' : xZ) (h' : mx_H), XH n s S Z' h' → GI n S Z' → fr' [(56, 0)] Z Z' → (-3) ≤ z ∧ z ≤ 18 → Post (some (xI z), h')) : mx_J (tB l D b0 ad Hb tau) mt_199 (d + 2) 0 [some (.ref 56), some (xI x0)] [] h Post := by
    have a56 : 56 < n := lt83 (GI_n hG) rfl
    have s56 : S 56 = .inl (12, [0, 2, 2, 2, 2, 0, 0, 0, 0, 0, 0, 0, 0, 0, 0, 2, 2, 2, 0, 2, 2, 2, 0, 0, 2, 2, 2, 2, 2, 2, 0, 0, 2, 2, 2, 2, 2, 2, 2, 2, 2, 2]) := GI_s hG 56 rfl
    have a57 : 57 < n := lt83 (GI_n hG) rfl
    have s57 : S 57 = .inr (.int, 2886, 0) := GI_s hG 57 rfl
    refine mx_J.step (sn_199 0) (fun _ _ => rfl) ?_
    refine JcI (z := 0) (show mx_Sn _ _ 1 (mx_const (.int 0) 2) from sn_199 1) rfl ?_
    refine JputI (g := 0) hx (show mx_Sn _ _ 2 (mx_putf 1 12 0 (.int) 5) from sn_199 2) a56 s56 rfl rfl rfl rfl (fun Z1 h1 hx1 hE1 => ?_)
    have hG1 := GI_up hG hE1 (show (-2147483648) ≤ 0 ∧ 0 ≤ 2147483647 by omega) trivial rfl
    refine mx_J.step (sn_199 5) (fun _ _ => rfl) ?_
    refine Jif_ge (show mx_Sn _ _ 6 (mx_if_ge 12 9) from sn_199 6) (by omega) (fun q2 => ?_) (fun q2 => ?_)
    · skip
      refine mx_J.step (sn_199 12) (fun _ _ => rfl) ?_
      refine mx_J.step (sn_199 13) (fun _ _ => rfl) ?_
      refine mx_J.step (sn_199 14) (fun _ _ => rfl) ?_
      refine JgetR (g := 1) (b := 57) hx1 (show mx_Sn _ _ 15 (mx_getf 12 1 18) from sn_199 15) a56 s56 rfl rfl (hG1.prr 56 1 rfl) ?_
      refine JcI (z := 27) (show mx_Sn _ _ 18 (mx_const (.int 27) 20) from sn_199 18) rfl ?_
      have b4 := GI_st hG 27
      have b5 : 0 ≤ Z 56 18 ∧ Z 56 18 ≤ 385 := hG.pr 56 18
      have b6 : 0 ≤ Z 57 27 ∧ Z 57 27 ≤ 384 := by have hq := GI_ex hG 57 27; replace hq : f57 (27 % 962) (Z 57 27) := hq; unfold f57 at hq; omega
      have b7 : (-2147483648) ≤ Z 57 27 ∧ Z 57 27 ≤ 2147483647 := hG.pr 57 27
      refine JialdI (z := Z 57 27) hx1 (show mx_Sn _ _ 20 (mx_iald 21) from sn_199 20) a57 s57 (by omega) (up_nk hE1 rfl) ?_
      have eq9 : mn Z1 (Z 57 27) = mn Z (Z 57 27) := (mn_c (fun i => up_nk hE1 rfl))
      obtain ⟨z8, hc8, b8⟩ := ct_191_56 (d := d + 0) (l := l) (D := D) (b0 := b0) (ad := ad) (Hb := Hb) (tau := tau) hx1 hG1 (show 0 ≤ Z 57 27 ∧ Z 57 27 ≤ 384 by omega)
      refine Jcv hx1 (show mx_Sn _ _ 21 (mx_callv 191 2 12 24) from sn_199 21) a56 s56 hc8 rfl rfl rfl ?_
      have c43 : ∀ (k10_0 : Int), (-1) ≤ k10_0 ∧ k10_0 ≤ 18 → mx_J (tB l D b0 ad Hb tau) mt_199 (d + 2) 43 [some (.ref 56), some (xI x0)] [xI k10_0] h1 Post := by
        intro k10_0 f10_0
        exact mx_J.ret (sn_199 43) (fun _ _ => rfl) (hP k10_0 Z1 h1 hx1 hG1 (fr_tr (M := [(56, 0)]) fr_rf (fr_up hE1) (M1 := []) rfl rfl) (by omega))
      refine Jicmp_ge (show mx_Sn _ _ 24 (mx_icmp_ge 42 27) from sn_199 24) (by omega) (by omega) (fun q11 => ?_) (fun q11 => ?_)
      · skip
        refine JcI (z := (-1)) (show mx_Sn _ _ 42 (mx_const (.int (-1)) 43) from sn_199 42) rfl ?_
        exact c43 (-1) (by omega)
      · skip
        refine mx_J.step (sn_199 27) (fun _ _ => rfl) ?_
        refine mx_J.step (sn_199 28) (fun _ _ => rfl) ?_
        refine JgetR (g := 1) (b := 57) hx1 (show mx_Sn _ _ 29 (mx_getf 12 1 32) from sn_199 29) a56 s56 rfl rfl (hG1.prr 56 1 rfl) ?_
        refine JcI (z := 27) (show mx_Sn _ _ 32 (mx_const (.int 27) 34) from sn_199 32) rfl ?_
        refine JialdI (z := Z 57 27) hx1 (show mx_Sn _ _ 34 (mx_iald 35) from sn_199 34) a57 s57 (by omega) (up_nk hE1 rfl) ?_
        refine mx_J.step (sn_199 35) (fun _ _ => rfl) ?_
        have eq14 : Z1 61 (18 * (Z 57 27) + x0) = Z 61 (18 * (Z 57 27) + x0) := (up_nk hE1 rfl)
        have b15 : 0 ≤ Z 61 (18 * (Z 57 27) + x0) ∧ Z 61 (18 * (Z 57 27) + x0) ≤ 18 := hG.pr 61 (18 * (Z 57 27) + x0)
        obtain ⟨z13, hc13, b13⟩ := ct_190_56 (d := d + 1) (l := l) (D := D) (b0 := b0) (ad := ad) (Hb := Hb) (tau := tau) hx1 hG1 (show 0 ≤ Z 57 27 ∧ Z 57 27 ≤ 384 by omega) (show 0 ≤ x0 ∧ x0 ≤ 17 by omega)
        try rw [eq14] at b13
        refine Jcv hx1 (show mx_Sn _ _ 36 (mx_callv 190 3 12 39) from sn_199 36) a56 s56 hc13 rfl rfl rfl ?_
        refine mx_J.step (sn_199 39) (fun _ _ => rfl) ?_
        exact c43 z13 (by omega)
    · skip
      refine JcI (z := (-3)) (show mx_Sn _ _ 9 (mx_const (.int (-3)) 11) from sn_199 9) rfl ?_
      exact mx_J.ret (sn_199 11) (fun _ _ => rfl) (hP (-3) Z1 h1 hx1 hG1 (fr_tr (M := [(56, 0)]) fr_rf (fr_up hE1) (M1 := []) rfl rfl) (by omega))
theorem ct_199_56 {l : Launch} {D : va_G} {b0 : Nat} {ad : Nat → Nat} {Hb : Heap} {tau : Nat → Int64} {d n s : Nat} {S : Nat → xS} {Z : xZ} {h : mx_H} (hx : XH n s S Z h) (hG : GI n S Z)  {x0 : Int} (p0 : (-2147483648) ≤ x0 ∧ x0 ≤ 2147483647) : ∃ (z : Int) (Z' : xZ) (h' : mx_H), mx_Ca (tB l D b0 ad Hb tau) (d + 3) 199 [.ref 56, xI x0] h (some (xI z), h') ∧ XH n s S Z' h' ∧ GI n S Z' ∧ fr' [(56, 0)] Z Z' ∧ ((-3) ≤ z ∧ z ≤ 18) := by
  obtain ⟨r, hca, z, Z', h', e, q⟩ := Jmt (B := tB l D b0 ad Hb tau) (M := mt_199) (mi := 199) (as := [.ref 56, xI x0]) (d := d + 2) (ls := [some (.ref 56), some (xI x0)]) rfl rfl rfl rfl rfl rfl (cw_199_56 (l := l) (D := D) (b0 := b0) (ad := ad) (Hb := Hb) (tau := tau) (d := d) (Post := fun r => ∃ (z : Int) (Z' : xZ) (h' : mx_H), r = (some (xI z), h') ∧ XH n s S Z' h' ∧ GI n S Z' ∧ fr' [(56, 0)] Z Z' ∧ ((-3) ≤ z ∧ z ≤ 18)) hx hG p0 (fun z Z' h' q1 q2 q3 q4 => ⟨z, Z', h', rfl, q1, q2, q3, q4⟩))
  subst e; exact ⟨z, Z', h', hca, q⟩
set_option maxRecDepth 100000 in
theorem cw_197_56 {l : Launch} {D : va_G} {b0 : Nat} {ad : Nat → Nat} {Hb : Heap} {tau : Nat → Int64} {d n s : Nat} {S : Nat → xS} {Z : xZ} {h : mx_H} {Post : mx_R → Prop} (hx : XH n s S Z h) (hG : GI n S Z)  {x0 x1 : Int} (p0 : 0 ≤ x0 ∧ x0 ≤ 384) (p1 : (-2147483648) ≤ x1 ∧ x1 ≤ 2147483647) (hP : ∀ z : Int, 0 ≤ z ∧ z ≤ 1 ∧ (z = 1 → x1 = 0 ∨ (1 ≤ x1 ∧ x1 ≤ 18 ∧ hv Z x0 x1 = 1)) → Post (some (xI z), h)) : mx_J (tB l D b0 ad Hb tau) mt_197 (d + 2) 0 [some (.ref 56), some (xI x0), some (xI x1)] [] h Post := by
    have a56 : 56 < n := lt83 (GI_n hG) rfl
    have s56 : S 56 = .inl (12, [0, 2, 2, 2, 2, 0, 0, 0, 0, 0, 0, 0, 0, 0, 0, 2, 2, 2, 0, 2, 2, 2, 0, 0, 2, 2, 2, 2, 2, 2, 0, 0, 2, 2, 2, 2, 2, 2, 2, 2, 2, 2]) := GI_s hG 56 rfl
    refine mx_J.step (sn_197 0) (fun _ _ => rfl) ?_
    have c31 : ∀ (k1_0 : Int), 0 ≤ k1_0 ∧ k1_0 ≤ 1 → (k1_0 = 1 → x1 = 0 ∨ (1 ≤ x1 ∧ x1 ≤ 18 ∧ hv Z x0 x1 = 1)) → mx_J (tB l D b0 ad Hb tau) mt_197 (d + 2) 31 [some (.ref 56), some (xI x0), some (xI x1)] [xI k1_0] h Post := by
      intro k1_0 f1_0 f1_1
      exact mx_J.ret (show mx_Sn _ _ 31 (mx_zret) from sn_197 31) (fun _ _ => zr_ok (by omega)) (hP k1_0 (by omega))
    have c26 : (x1 = 0 ∨ (1 ≤ x1 ∧ x1 ≤ 18 ∧ hv Z x0 x1 = 1)) → mx_J (tB l D b0 ad Hb tau) mt_197 (d + 2) 26 [some (.ref 56), some (xI x0), some (xI x1)] [] h Post := by
      intro f2_0
      refine JcI (z := 1) (show mx_Sn _ _ 26 (mx_const (.int 1) 27) from sn_197 26) rfl ?_
      refine mx_J.step (sn_197 27) (fun _ _ => rfl) ?_
      exact c31 1 (by omega) (by omega)
    refine Jif_eq (show mx_Sn _ _ 1 (mx_if_eq 26 4) from sn_197 1) (by omega) (fun q3 => ?_) (fun q3 => ?_)
    · skip
      exact c26 (by omega)
    · skip
      refine mx_J.step (sn_197 4) (fun _ _ => rfl) ?_
      refine Ji2l (show mx_Sn _ _ 5 (mx_i2l 6) from sn_197 5) (by omega) ?_
      refine JcL (z := 1) (show mx_Sn _ _ 6 (mx_const (.long 1) 7) from sn_197 6) rfl ?_
      refine JcL (z := 18) (show mx_Sn _ _ 7 (mx_const (.long 18) 10) from sn_197 7) rfl ?_
      obtain ⟨z4, hc4, b4⟩ := ct_154_ (d := d + 1) (l := l) (D := D) (b0 := b0) (ad := ad) (Hb := Hb) (tau := tau) hx hG (show (-9223372036854775808) ≤ x1 ∧ x1 ≤ 9223372036854775807 by omega) (show (-9223372036854775808) ≤ 1 ∧ 1 ≤ 9223372036854775807 by omega) (show (-9223372036854775808) ≤ 18 ∧ 18 ≤ 9223372036854775807 by omega)
      refine Jcs (show mx_Sn _ _ 10 (mx_calls 154 3 13) from sn_197 10) hc4 rfl rfl rfl ?_
      have c30 : mx_J (tB l D b0 ad Hb tau) mt_197 (d + 2) 30 [some (.ref 56), some (xI x0), some (xI x1)] [] h Post := by
        refine JcI (z := 0) (show mx_Sn _ _ 30 (mx_const (.int 0) 31) from sn_197 30) rfl ?_
        exact c31 0 (by omega) (by omega)
      refine Jif_eq (show mx_Sn _ _ 13 (mx_if_eq 30 16) from sn_197 13) (by omega) (fun q6 => ?_) (fun q6 => ?_)
      · skip
        exact c30 
      · skip
        refine mx_J.step (sn_197 16) (fun _ _ => rfl) ?_
        refine mx_J.step (sn_197 17) (fun _ _ => rfl) ?_
        refine mx_J.step (sn_197 18) (fun _ _ => rfl) ?_
        obtain ⟨z7, hc7, b7⟩ := ct_192_56 (d := d + 0) (l := l) (D := D) (b0 := b0) (ad := ad) (Hb := Hb) (tau := tau) hx hG (show 0 ≤ x0 ∧ x0 ≤ 384 by omega) (show (-2147483648) ≤ x1 ∧ x1 ≤ 2147483647 by omega)
        refine Jcv hx (show mx_Sn _ _ 19 (mx_callv 192 3 12 22) from sn_197 19) a56 s56 hc7 rfl rfl rfl ?_
        refine JcI (z := (-1)) (show mx_Sn _ _ 22 (mx_const (.int (-1)) 23) from sn_197 22) rfl ?_
        refine Jicmp_eq (show mx_Sn _ _ 23 (mx_icmp_eq 30 26) from sn_197 23) (by omega) (by omega) (fun q8 => ?_) (fun q8 => ?_)
        · skip
          exact c30 
        · skip
          exact c26 (by omega)
theorem ct_197_56 {l : Launch} {D : va_G} {b0 : Nat} {ad : Nat → Nat} {Hb : Heap} {tau : Nat → Int64} {d n s : Nat} {S : Nat → xS} {Z : xZ} {h : mx_H} (hx : XH n s S Z h) (hG : GI n S Z)  {x0 x1 : Int} (p0 : 0 ≤ x0 ∧ x0 ≤ 384) (p1 : (-2147483648) ≤ x1 ∧ x1 ≤ 2147483647) : ∃ z : Int, mx_Ca (tB l D b0 ad Hb tau) (d + 3) 197 [.ref 56, xI x0, xI x1] h (some (xI z), h) ∧ (0 ≤ z ∧ z ≤ 1 ∧ (z = 1 → x1 = 0 ∨ (1 ≤ x1 ∧ x1 ≤ 18 ∧ hv Z x0 x1 = 1))) := by
  obtain ⟨r, hca, z, e, hp⟩ := Jmt (B := tB l D b0 ad Hb tau) (M := mt_197) (mi := 197) (as := [.ref 56, xI x0, xI x1]) (d := d + 2) (ls := [some (.ref 56), some (xI x0), some (xI x1)]) rfl rfl rfl rfl rfl rfl (cw_197_56 (l := l) (D := D) (b0 := b0) (ad := ad) (Hb := Hb) (tau := tau) (d := d) (Post := fun r => ∃ z : Int, r = (some (xI z), h) ∧ (0 ≤ z ∧ z ≤ 1 ∧ (z = 1 → x1 = 0 ∨ (1 ≤ x1 ∧ x1 ≤ 18 ∧ hv Z x0 x1 = 1)))) hx hG p0 p1 (fun z hz => ⟨z, rfl, hz⟩))
  subst e; exact ⟨z, hca, hp⟩
set_option maxRecDepth 100000 in
theorem cw_220_56 {l : Launch} {D : va_G} {b0 : Nat} {ad : Nat → Nat} {Hb : Heap} {tau : Nat → Int64} {d n s : Nat} {S : Nat → xS} {Z : xZ} {h : mx_H} {Post : mx_R → Prop} (hx : XH n s S Z h) (hG : GI n S Z)  {x0 : Int} (p0 : (-2147483648) ≤ x0 ∧ x0 ≤ 2147483647) (hP : ∀ z : Int, (-6) ≤ z ∧ z ≤ 0 ∧ ((((x0 < 0 ∨ 3 < x0) → z = -2) ∧ (0 ≤ x0 → x0 ≤ 3 → (Z 80 x0 = -1 → z = -6) ∧ (¬ Z 80 x0 = -1 → z = 0))) ∧ (z = 0 → 0 ≤ x0 ∧ x0 ≤ 3)) → Post (some (xI z), h)) : mx_J (tB l D b0 ad Hb tau) mt_220 (d + 1) 0 [some (.ref 56), some (xI x0)] [] h Post := by
    have a56 : 56 < n := lt83 (GI_n hG) rfl
    have s56 : S 56 = .inl (12, [0, 2, 2, 2, 2, 0, 0, 0, 0, 0, 0, 0, 0, 0, 0, 2, 2, 2, 0, 2, 2, 2, 0, 0, 2, 2, 2, 2, 2, 2, 0, 0, 2, 2, 2, 2, 2, 2, 2, 2, 2, 2]) := GI_s hG 56 rfl
    have a80 : 80 < n := lt83 (GI_n hG) rfl
    have s80 : S 80 = .inr (.int, 4, 0) := GI_s hG 80 rfl
    refine mx_J.step (sn_220 0) (fun _ _ => rfl) ?_
    refine Ji2l (show mx_Sn _ _ 1 (mx_i2l 2) from sn_220 1) (by omega) ?_
    refine JcL (z := 0) (show mx_Sn _ _ 2 (mx_const (.long 0) 3) from sn_220 2) rfl ?_
    refine JcL (z := 3) (show mx_Sn _ _ 3 (mx_const (.long 3) 6) from sn_220 3) rfl ?_
    obtain ⟨z1, hc1, b1⟩ := ct_154_ (d := d + 0) (l := l) (D := D) (b0 := b0) (ad := ad) (Hb := Hb) (tau := tau) hx hG (show (-9223372036854775808) ≤ x0 ∧ x0 ≤ 9223372036854775807 by omega) (show (-9223372036854775808) ≤ 0 ∧ 0 ≤ 9223372036854775807 by omega) (show (-9223372036854775808) ≤ 3 ∧ 3 ≤ 9223372036854775807 by omega)
    refine Jcs (show mx_Sn _ _ 6 (mx_calls 154 3 9) from sn_220 6) hc1 rfl rfl rfl ?_
    have c33 : ∀ (k2_0 : Int), (-6) ≤ k2_0 ∧ k2_0 ≤ 0 → ((((x0 < 0 ∨ 3 < x0) → k2_0 = -2) ∧ (0 ≤ x0 → x0 ≤ 3 → (Z 80 x0 = -1 → k2_0 = -6) ∧ (¬ Z 80 x0 = -1 → k2_0 = 0))) ∧ (k2_0 = 0 → 0 ≤ x0 ∧ x0 ≤ 3)) → mx_J (tB l D b0 ad Hb tau) mt_220 (d + 1) 33 [some (.ref 56), some (xI x0)] [xI k2_0] h Post := by
      intro k2_0 f2_0 f2_1
      have b3 : (-1) ≤ Z 80 x0 ∧ Z 80 x0 ≤ 3 := hG.pr 80 x0
      exact mx_J.ret (sn_220 33) (fun _ _ => rfl) (hP k2_0 (by omega))
    refine Jif_ne (show mx_Sn _ _ 9 (mx_if_ne 17 12) from sn_220 9) (by omega) (fun q4 => ?_) (fun q4 => ?_)
    · skip
      refine mx_J.step (sn_220 17) (fun _ _ => rfl) ?_
      refine JgetR (g := 39) (b := 80) hx (show mx_Sn _ _ 18 (mx_getf 12 39 21) from sn_220 18) a56 s56 rfl rfl (hG.prr 56 39 rfl) ?_
      refine mx_J.step (sn_220 21) (fun _ _ => rfl) ?_
      have b6 : (-1) ≤ Z 80 x0 ∧ Z 80 x0 ≤ 3 := hG.pr 80 x0
      refine JialdI (z := Z 80 x0) hx (show mx_Sn _ _ 22 (mx_iald 23) from sn_220 22) a80 s80 (by omega) rfl ?_
      refine JcI (z := (-1)) (show mx_Sn _ _ 23 (mx_const (.int (-1)) 24) from sn_220 23) rfl ?_
      refine Jicmp_ne (show mx_Sn _ _ 24 (mx_icmp_ne 32 27) from sn_220 24) (by omega) (by omega) (fun q7 => ?_) (fun q7 => ?_)
      · skip
        refine JcI (z := 0) (show mx_Sn _ _ 32 (mx_const (.int 0) 33) from sn_220 32) rfl ?_
        exact c33 0 (by omega) (by omega)
      · skip
        refine JcI (z := (-6)) (show mx_Sn _ _ 27 (mx_const (.int (-6)) 29) from sn_220 27) rfl ?_
        refine mx_J.step (sn_220 29) (fun _ _ => rfl) ?_
        exact c33 (-6) (by omega) (by omega)
    · skip
      refine JcI (z := (-2)) (show mx_Sn _ _ 12 (mx_const (.int (-2)) 14) from sn_220 12) rfl ?_
      refine mx_J.step (sn_220 14) (fun _ _ => rfl) ?_
      exact c33 (-2) (by omega) (by omega)
theorem ct_220_56 {l : Launch} {D : va_G} {b0 : Nat} {ad : Nat → Nat} {Hb : Heap} {tau : Nat → Int64} {d n s : Nat} {S : Nat → xS} {Z : xZ} {h : mx_H} (hx : XH n s S Z h) (hG : GI n S Z)  {x0 : Int} (p0 : (-2147483648) ≤ x0 ∧ x0 ≤ 2147483647) : ∃ z : Int, mx_Ca (tB l D b0 ad Hb tau) (d + 2) 220 [.ref 56, xI x0] h (some (xI z), h) ∧ ((-6) ≤ z ∧ z ≤ 0 ∧ ((((x0 < 0 ∨ 3 < x0) → z = -2) ∧ (0 ≤ x0 → x0 ≤ 3 → (Z 80 x0 = -1 → z = -6) ∧ (¬ Z 80 x0 = -1 → z = 0))) ∧ (z = 0 → 0 ≤ x0 ∧ x0 ≤ 3))) := by
  obtain ⟨r, hca, z, e, hp⟩ := Jmt (B := tB l D b0 ad Hb tau) (M := mt_220) (mi := 220) (as := [.ref 56, xI x0]) (d := d + 1) (ls := [some (.ref 56), some (xI x0)]) rfl rfl rfl rfl rfl rfl (cw_220_56 (l := l) (D := D) (b0 := b0) (ad := ad) (Hb := Hb) (tau := tau) (d := d) (Post := fun r => ∃ z : Int, r = (some (xI z), h) ∧ ((-6) ≤ z ∧ z ≤ 0 ∧ ((((x0 < 0 ∨ 3 < x0) → z = -2) ∧ (0 ≤ x0 → x0 ≤ 3 → (Z 80 x0 = -1 → z = -6) ∧ (¬ Z 80 x0 = -1 → z = 0))) ∧ (z = 0 → 0 ≤ x0 ∧ x0 ≤ 3)))) hx hG p0 (fun z hz => ⟨z, rfl, hz⟩))
  subst e; exact ⟨z, hca, hp⟩
set_option maxRecDepth 100000 in
theorem cw_236_56 {l : Launch} {D : va_G} {b0 : Nat} {ad : Nat → Nat} {Hb : Heap} {tau : Nat → Int64} {d n s : Nat} {S : Nat → xS} {Z : xZ} {h : mx_H} {Post : mx_R → Prop} (hx : XH n s S Z h) (hG : GI n S Z)  {x0 x1 : Int} (p0 : 0 ≤ x0 ∧ x0 ≤ 384) (p1 : 0 ≤ x1 ∧ x1 ≤ 18) (hP : ∀ z : Int, 1 ≤ z ∧ z ≤ 268435457 ∧ z = fb Z x0 x1 → Post (some (xI z), h)) : mx_J (tB l D b0 ad Hb tau) mt_236 (d + 0) 0 [some (.ref 56), some (xI x0), some (xI x1), none] [] h Post := by
    have a56 : 56 < n := lt83 (GI_n hG) rfl
    have s56 : S 56 = .inl (12, [0, 2, 2, 2, 2, 0, 0, 0, 0, 0, 0, 0, 0, 0, 0, 2, 2, 2, 0, 2, 2, 2, 0, 0, 2, 2, 2, 2, 2, 2, 0, 0, 2, 2, 2, 2, 2, 2, 2, 2, 2, 2]) := GI_s hG 56 rfl
    have a73 : 73 < n := lt83 (GI_n hG) rfl
    have s73 : S 73 = .inr (.int, 7315, 0) := GI_s hG 73 rfl
    have a74 : 74 < n := lt83 (GI_n hG) rfl
    have s74 : S 74 = .inr (.int, 385, 0) := GI_s hG 74 rfl
    have ff := fb_e Z x0 x1
    refine mx_J.step (sn_236 0) (fun _ _ => rfl) ?_
    refine JgetR (g := 32) (b := 73) hx (show mx_Sn _ _ 1 (mx_getf 12 32 4) from sn_236 1) a56 s56 rfl rfl (hG.prr 56 32 rfl) ?_
    refine JcI (z := 19) (show mx_Sn _ _ 4 (mx_const (.int 19) 6) from sn_236 4) rfl ?_
    refine mx_J.step (sn_236 6) (fun _ _ => rfl) ?_
    refine Jimul (show mx_Sn _ _ 7 (mx_imul 8) from sn_236 7) ?_
    refine mx_J.step (sn_236 8) (fun _ _ => rfl) ?_
    refine Jiadd (show mx_Sn _ _ 9 (mx_iadd 10) from sn_236 9) ?_
    have b2 : (-1) ≤ Z 73 ((19 * x0) + x1) ∧ Z 73 ((19 * x0) + x1) ≤ 384 := hG.pr 73 ((19 * x0) + x1)
    refine JialdI (z := Z 73 ((19 * x0) + x1)) hx (show mx_Sn _ _ 10 (mx_iald 11) from sn_236 10) a73 s73 (by omega) rfl ?_
    refine mx_J.step (ls2 := [some (.ref 56), some (xI x0), some (xI x1), some (xI (Z 73 ((19 * x0) + x1)))]) (sn_236 11) (fun _ _ => rfl) ?_
    refine mx_J.step (sn_236 12) (fun _ _ => rfl) ?_
    refine JcI (z := (-1)) (show mx_Sn _ _ 13 (mx_const (.int (-1)) 14) from sn_236 13) rfl ?_
    have c43 : ∀ (k3_0 : Int), 1 ≤ k3_0 ∧ k3_0 ≤ 268435457 → (k3_0 = fb Z x0 x1) → mx_J (tB l D b0 ad Hb tau) mt_236 (d + 0) 43 [some (.ref 56), some (xI x0), some (xI x1), some (xI (Z 73 ((19 * x0) + x1)))] [xI k3_0] h Post := by
      intro k3_0 f3_0 f3_1
      exact mx_J.ret (sn_236 43) (fun _ _ => rfl) (hP k3_0 (by omega))
    have c29 : (Z 73 (19 * x0 + x1) = -1 ∨ Z 74 (Z 73 (19 * x0 + x1)) = 268435456) → mx_J (tB l D b0 ad Hb tau) mt_236 (d + 0) 29 [some (.ref 56), some (xI x0), some (xI x1), some (xI (Z 73 ((19 * x0) + x1)))] [] h Post := by
      intro f4_0
      refine JcI (z := 268435456) (show mx_Sn _ _ 29 (mx_const (.int 268435456) 32) from sn_236 29) rfl ?_
      refine mx_J.step (sn_236 32) (fun _ _ => rfl) ?_
      exact c43 268435456 (by omega) (by omega)
    refine Jicmp_eq (show mx_Sn _ _ 14 (mx_icmp_eq 29 17) from sn_236 14) (by omega) (by omega) (fun q5 => ?_) (fun q5 => ?_)
    · skip
      exact c29 (by omega)
    · skip
      refine mx_J.step (sn_236 17) (fun _ _ => rfl) ?_
      refine JgetR (g := 33) (b := 74) hx (show mx_Sn _ _ 18 (mx_getf 12 33 21) from sn_236 18) a56 s56 rfl rfl (hG.prr 56 33 rfl) ?_
      refine mx_J.step (sn_236 21) (fun _ _ => rfl) ?_
      have b7 : 0 ≤ Z 74 (Z 73 ((19 * x0) + x1)) ∧ Z 74 (Z 73 ((19 * x0) + x1)) ≤ 268435456 := hG.pr 74 (Z 73 ((19 * x0) + x1))
      refine JialdI (z := Z 74 (Z 73 ((19 * x0) + x1))) hx (show mx_Sn _ _ 22 (mx_iald 23) from sn_236 22) a74 s74 (by omega) rfl ?_
      refine JcI (z := 268435456) (show mx_Sn _ _ 23 (mx_const (.int 268435456) 26) from sn_236 23) rfl ?_
      refine Jicmp_ne (show mx_Sn _ _ 26 (mx_icmp_ne 35 29) from sn_236 26) (by omega) (by omega) (fun q8 => ?_) (fun q8 => ?_)
      · skip
        refine mx_J.step (sn_236 35) (fun _ _ => rfl) ?_
        refine JgetR (g := 33) (b := 74) hx (show mx_Sn _ _ 36 (mx_getf 12 33 39) from sn_236 36) a56 s56 rfl rfl (hG.prr 56 33 rfl) ?_
        refine mx_J.step (sn_236 39) (fun _ _ => rfl) ?_
        refine JialdI (z := Z 74 (Z 73 ((19 * x0) + x1))) hx (show mx_Sn _ _ 40 (mx_iald 41) from sn_236 40) a74 s74 (by omega) rfl ?_
        refine JcI (z := 1) (show mx_Sn _ _ 41 (mx_const (.int 1) 42) from sn_236 41) rfl ?_
        refine Jiadd (show mx_Sn _ _ 42 (mx_iadd 43) from sn_236 42) ?_
        exact c43 ((Z 74 (Z 73 ((19 * x0) + x1))) + 1) (by omega) (by omega)
      · skip
        exact c29 (by omega)
theorem ct_236_56 {l : Launch} {D : va_G} {b0 : Nat} {ad : Nat → Nat} {Hb : Heap} {tau : Nat → Int64} {d n s : Nat} {S : Nat → xS} {Z : xZ} {h : mx_H} (hx : XH n s S Z h) (hG : GI n S Z)  {x0 x1 : Int} (p0 : 0 ≤ x0 ∧ x0 ≤ 384) (p1 : 0 ≤ x1 ∧ x1 ≤ 18) : ∃ z : Int, mx_Ca (tB l D b0 ad Hb tau) (d + 1) 236 [.ref 56, xI x0, xI x1] h (some (xI z), h) ∧ (1 ≤ z ∧ z ≤ 268435457 ∧ z = fb Z x0 x1) := by
  obtain ⟨r, hca, z, e, hp⟩ := Jmt (B := tB l D b0 ad Hb tau) (M := mt_236) (mi := 236) (as := [.ref 56, xI x0, xI x1]) (d := d + 0) (ls := [some (.ref 56), some (xI x0), some (xI x1), none]) rfl rfl rfl rfl rfl rfl (cw_236_56 (l := l) (D := D) (b0 := b0) (ad := ad) (Hb := Hb) (tau := tau) (d := d) (Post := fun r => ∃ z : Int, r = (some (xI z), h) ∧ (1 ≤ z ∧ z ≤ 268435457 ∧ z = fb Z x0 x1)) hx hG p0 p1 (fun z hz => ⟨z, rfl, hz⟩))
  subst e; exact ⟨z, hca, hp⟩
set_option maxRecDepth 100000 in
theorem cw_238_ {l : Launch} {D : va_G} {b0 : Nat} {ad : Nat → Nat} {Hb : Heap} {tau : Nat → Int64} {d n s : Nat} {S : Nat → xS} {Z : xZ} {h : mx_H} {Post : mx_R → Prop} (hx : XH n s S Z h) (hG : GI n S Z)  {x0 : Int} (p0 : 0 ≤ x0 ∧ x0 ≤ 268435456) (hP : ∀ z : Int, (-1) ≤ z ∧ z ≤ 268435455 → Post (some (xI z), h)) : mx_J (tB l D b0 ad Hb tau) mt_238 (d + 0) 0 [some (xI x0)] [] h Post := by
    refine mx_J.step (sn_238 0) (fun _ _ => rfl) ?_
    refine JcI (z := 268435456) (show mx_Sn _ _ 1 (mx_const (.int 268435456) 4) from sn_238 1) rfl ?_
    have c12 : ∀ (k1_0 : Int), (-1) ≤ k1_0 ∧ k1_0 ≤ 268435455 → mx_J (tB l D b0 ad Hb tau) mt_238 (d + 0) 12 [some (xI x0)] [xI k1_0] h Post := by
      intro k1_0 f1_0
      exact mx_J.ret (sn_238 12) (fun _ _ => rfl) (hP k1_0 (by omega))
    refine Jicmp_ne (show mx_Sn _ _ 4 (mx_icmp_ne 11 7) from sn_238 4) (by omega) (by omega) (fun q2 => ?_) (fun q2 => ?_)
    · skip
      refine mx_J.step (sn_238 11) (fun _ _ => rfl) ?_
      exact c12 x0 (by omega)
    · skip
      refine JcI (z := (-1)) (show mx_Sn _ _ 7 (mx_const (.int (-1)) 8) from sn_238 7) rfl ?_
      refine mx_J.step (sn_238 8) (fun _ _ => rfl) ?_
      exact c12 (-1) (by omega)
theorem ct_238_ {l : Launch} {D : va_G} {b0 : Nat} {ad : Nat → Nat} {Hb : Heap} {tau : Nat → Int64} {d n s : Nat} {S : Nat → xS} {Z : xZ} {h : mx_H} (hx : XH n s S Z h) (hG : GI n S Z)  {x0 : Int} (p0 : 0 ≤ x0 ∧ x0 ≤ 268435456) : ∃ z : Int, mx_Ca (tB l D b0 ad Hb tau) (d + 1) 238 [xI x0] h (some (xI z), h) ∧ ((-1) ≤ z ∧ z ≤ 268435455) := by
  obtain ⟨r, hca, z, e, hp⟩ := Jmt (B := tB l D b0 ad Hb tau) (M := mt_238) (mi := 238) (as := [xI x0]) (d := d + 0) (ls := [some (xI x0)]) rfl rfl rfl rfl rfl rfl (cw_238_ (l := l) (D := D) (b0 := b0) (ad := ad) (Hb := Hb) (tau := tau) (d := d) (Post := fun r => ∃ z : Int, r = (some (xI z), h) ∧ ((-1) ≤ z ∧ z ≤ 268435455)) hx hG p0 (fun z hz => ⟨z, rfl, hz⟩))
  subst e; exact ⟨z, hca, hp⟩
set_option maxRecDepth 100000 in
theorem cw_243_56 {l : Launch} {D : va_G} {b0 : Nat} {ad : Nat → Nat} {Hb : Heap} {tau : Nat → Int64} {d n s : Nat} {S : Nat → xS} {Z : xZ} {h : mx_H} {Post : mx_R → Prop} (hx : XH n s S Z h) (hG : GI n S Z)   (hP : ∀ (Z' : xZ) (h' : mx_H), XH n s S Z' h' → GI n S Z' → fr' [(76, (-1)), (77, (-1))] Z Z' → Post (none, h')) : mx_J (tB l D b0 ad Hb tau) mt_243 (d + 0) 0 [some (.ref 56), none] [] h Post := by
    have a56 : 56 < n := lt83 (GI_n hG) rfl
    have s56 : S 56 = .inl (12, [0, 2, 2, 2, 2, 0, 0, 0, 0, 0, 0, 0, 0, 0, 0, 2, 2, 2, 0, 2, 2, 2, 0, 0, 2, 2, 2, 2, 2, 2, 0, 0, 2, 2, 2, 2, 2, 2, 2, 2, 2, 2]) := GI_s hG 56 rfl
    have a57 : 57 < n := lt83 (GI_n hG) rfl
    have s57 : S 57 = .inr (.int, 2886, 0) := GI_s hG 57 rfl
    have a76 : 76 < n := lt83 (GI_n hG) rfl
    have s76 : S 76 = .inr (.long, 385, 1) := GI_s hG 76 rfl
    have a77 : 77 < n := lt83 (GI_n hG) rfl
    have s77 : S 77 = .inr (.long, 385, 1) := GI_s hG 77 rfl
    refine JcI (z := 0) (show mx_Sn _ _ 0 (mx_const (.int 0) 1) from sn_243 0) rfl ?_
    refine mx_J.step (ls2 := [some (.ref 56), some (xI 0)]) (sn_243 1) (fun _ _ => rfl) ?_
    have c2 : ∀ (m1 : Nat) (w1_1 : Int) (Z2 : xZ) (h2 : mx_H), 385 - w1_1 < (m1 : Int) → 0 ≤ w1_1 ∧ w1_1 ≤ 385 → XH n s S Z2 h2 → GI n S Z2 → fr' [(76, (-1)), (77, (-1))] Z Z2 → mx_J (tB l D b0 ad Hb tau) mt_243 (d + 0) 2 [some (.ref 56), some (xI w1_1)] [] h2 Post := by
      intro m1
      induction m1 with
      | zero => intro w1_1 Z2 h2 q1 f1_0 hx2 hG2 hf2; exact absurd q1 (by omega)
      | succ m1 ih1 =>
        intro w1_1 Z2 h2 q1 f1_0 hx2 hG2 hf2
        refine mx_J.step (sn_243 2) (fun _ _ => rfl) ?_
        refine JcI (z := 385) (show mx_Sn _ _ 3 (mx_const (.int 385) 6) from sn_243 3) rfl ?_
        refine Jicmp_ge (show mx_Sn _ _ 6 (mx_icmp_ge 44 9) from sn_243 6) (by omega) (by omega) (fun q3 => ?_) (fun q3 => ?_)
        · skip
          exact mx_J.ret (sn_243 44) (fun _ _ => rfl) (hP Z2 h2 hx2 hG2 (fr_tr (M := [(76, (-1)), (77, (-1))]) fr_rf (hf2) (M1 := []) rfl rfl))
        · skip
          refine mx_J.step (sn_243 9) (fun _ _ => rfl) ?_
          refine JgetR (g := 35) (b := 76) hx2 (show mx_Sn _ _ 10 (mx_getf 12 35 13) from sn_243 10) a56 s56 rfl rfl (hG2.prr 56 35 rfl) ?_
          refine mx_J.step (sn_243 13) (fun _ _ => rfl) ?_
          refine mx_J.step (sn_243 14) (fun _ _ => rfl) ?_
          refine mx_J.step (sn_243 15) (fun _ _ => rfl) ?_
          refine JgetR (g := 1) (b := 57) hx2 (show mx_Sn _ _ 16 (mx_getf 12 1 19) from sn_243 16) a56 s56 rfl rfl (hG2.prr 56 1 rfl) ?_
          refine JcI (z := 27) (show mx_Sn _ _ 19 (mx_const (.int 27) 21) from sn_243 19) rfl ?_
          have b6 := GI_st hG 27
          have b7 : 0 ≤ Z 56 18 ∧ Z 56 18 ≤ 385 := hG.pr 56 18
          have b8 : 0 ≤ Z 57 27 ∧ Z 57 27 ≤ 384 := by have hq := GI_ex hG 57 27; replace hq : f57 (27 % 962) (Z 57 27) := hq; unfold f57 at hq; omega
          have b9 : (-2147483648) ≤ Z 57 27 ∧ Z 57 27 ≤ 2147483647 := hG.pr 57 27
          refine JialdI (z := Z 57 27) hx2 (show mx_Sn _ _ 21 (mx_iald 22) from sn_243 21) a57 s57 (by omega) (hf2 57 27 rfl) ?_
          have c30 : ∀ (k10_2 : Int), 0 ≤ k10_2 ∧ k10_2 ≤ 1 → mx_J (tB l D b0 ad Hb tau) mt_243 (d + 0) 30 [some (.ref 56), some (xI w1_1)] [xL k10_2, xI w1_1, .ref 76] h2 Post := by
            intro k10_2 f10_0
            refine JlastL hx2 (show mx_Sn _ _ 30 (mx_last 1 31) from sn_243 30) a76 s76 rfl (by omega) (fun Z11 h11 hx11 hE11 => ?_)
            have hG11 := GI_up hG2 hE11 (show (-9223372036854775808) ≤ k10_2 ∧ k10_2 ≤ 9223372036854775807 by omega) trivial rfl
            refine mx_J.step (sn_243 31) (fun _ _ => rfl) ?_
            refine JgetR (g := 36) (b := 77) hx11 (show mx_Sn _ _ 32 (mx_getf 12 36 35) from sn_243 32) a56 s56 rfl rfl (hG11.prr 56 36 rfl) ?_
            refine mx_J.step (sn_243 35) (fun _ _ => rfl) ?_
            refine JcL (z := 0) (show mx_Sn _ _ 36 (mx_const (.long 0) 37) from sn_243 36) rfl ?_
            refine JlastL hx11 (show mx_Sn _ _ 37 (mx_last 1 38) from sn_243 37) a77 s77 rfl (by omega) (fun Z13 h13 hx13 hE13 => ?_)
            have hG13 := GI_up hG11 hE13 (show (-9223372036854775808) ≤ 0 ∧ 0 ≤ 9223372036854775807 by omega) trivial rfl
            refine Jiinc (z := w1_1) (cz := 1) (ls2 := [some (.ref 56), some (xI (w1_1 + 1))]) (show mx_Sn _ _ 38 (mx_iinc 1 1 41) from sn_243 38) rfl rfl rfl rfl ?_
            refine mx_J.step (sn_243 41) (fun _ _ => rfl) ?_
            exact ih1 (w1_1 + 1) Z13 h13 (by omega) (by omega) hx13 hG13 (fr_tr (M := [(76, (-1)), (77, (-1))]) (fr_tr (M := [(76, (-1)), (77, (-1))]) (fr_tr (M := [(76, (-1)), (77, (-1))]) fr_rf (hf2) (M1 := []) rfl rfl) (fr_ua hE11) rfl rfl) (fr_ua hE13) rfl rfl)
          refine Jicmp_ne (show mx_Sn _ _ 22 (mx_icmp_ne 29 25) from sn_243 22) (by omega) (by omega) (fun q14 => ?_) (fun q14 => ?_)
          · skip
            refine JcL (z := 0) (show mx_Sn _ _ 29 (mx_const (.long 0) 30) from sn_243 29) rfl ?_
            exact c30 0 (by omega)
          · skip
            refine JcL (z := 1) (show mx_Sn _ _ 25 (mx_const (.long 1) 26) from sn_243 25) rfl ?_
            refine mx_J.step (sn_243 26) (fun _ _ => rfl) ?_
            exact c30 1 (by omega)
    exact c2 (Int.toNat (385 - 0) + 1) 0 Z h (by omega) (by omega) hx hG fr_rf
theorem ct_243_56 {l : Launch} {D : va_G} {b0 : Nat} {ad : Nat → Nat} {Hb : Heap} {tau : Nat → Int64} {d n s : Nat} {S : Nat → xS} {Z : xZ} {h : mx_H} (hx : XH n s S Z h) (hG : GI n S Z)   : ∃ (Z' : xZ) (h' : mx_H), mx_Ca (tB l D b0 ad Hb tau) (d + 1) 243 [.ref 56] h (none, h') ∧ XH n s S Z' h' ∧ GI n S Z' ∧ fr' [(76, (-1)), (77, (-1))] Z Z' := by
  obtain ⟨r, hca, Z', h', e, q⟩ := Jmt (B := tB l D b0 ad Hb tau) (M := mt_243) (mi := 243) (as := [.ref 56]) (d := d + 0) (ls := [some (.ref 56), none]) rfl rfl rfl rfl rfl rfl (cw_243_56 (l := l) (D := D) (b0 := b0) (ad := ad) (Hb := Hb) (tau := tau) (d := d) (Post := fun r => ∃ (Z' : xZ) (h' : mx_H), r = (none, h') ∧ XH n s S Z' h' ∧ GI n S Z' ∧ fr' [(76, (-1)), (77, (-1))] Z Z') hx hG  (fun Z' h' q1 q2 q3 => ⟨Z', h', rfl, q1, q2, q3⟩))
  subst e; exact ⟨Z', h', hca, q⟩
