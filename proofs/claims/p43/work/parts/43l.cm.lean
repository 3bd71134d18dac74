set_option maxRecDepth 100000 in
theorem cw_273_B23 {l : Launch} {D : va_G} {b0 : Nat} {ad : Nat → Nat} {Hb : Heap} {tau : Nat → Int64} {d n s : Nat} {S : Nat → xS} {Z : xZ} {h : mx_H} {Post : mx_R → Prop} (hx : XH n s S Z h) (hG : GI n S Z)  {x0 x1 : Int} (p0 : (-8388607) ≤ x0 ∧ x0 ≤ 8388607) (p1 : (-8388607) ≤ x1 ∧ x1 ≤ 8388607) (k0 : ((x0 ≤ 0 → x1 < -x0 ∧ x0 < x1) ∧ (0 ≤ x0 → x1 < x0 ∧ -x0 < x1))) (hP : ∀ z : Int, (-9223372036854775808) ≤ z ∧ z ≤ 9223372036854775807 ∧ ¬ z = 0 → Post (some (xL z), h)) : mx_J (tB l D b0 ad Hb tau) mt_273 (d + 45) 0 [some (xL x0), none, some (xL x1), none] [] h Post := by
    refine mx_J.step (sn_273 0) (fun _ _ => rfl) ?_
    refine JcL (z := 0) (show mx_Sn _ _ 1 (mx_const (.long 0) 2) from sn_273 1) rfl ?_
    have c17 : ∀ (k1_0 : Int), (-9223372036854775808) ≤ k1_0 ∧ k1_0 ≤ 9223372036854775807 → ¬ k1_0 = 0 → mx_J (tB l D b0 ad Hb tau) mt_273 (d + 45) 17 [some (xL x0), none, some (xL x1), none] [xL k1_0] h Post := by
      intro k1_0 f1_0 f1_1
      exact mx_J.ret (sn_273 17) (fun _ _ => rfl) (hP k1_0 (by omega))
    refine Jlif_ne (show mx_Sn _ _ 2 (mx_lif_ne 10 6) from sn_273 2) (by omega) (by omega) (fun q2 => ?_) (fun q2 => ?_)
    · skip
      refine mx_J.step (sn_273 10) (fun _ _ => rfl) ?_
      refine mx_J.step (sn_273 11) (fun _ _ => rfl) ?_
      refine mx_J.step (sn_273 12) (fun _ _ => rfl) ?_
      refine JlremB (show mx_Sn _ _ 13 (mx_lrem 14) from sn_273 13) (by omega) (by omega) (by omega) k0 (fun y3 hy3 => ?_)
      obtain ⟨z4, hc4, b4⟩ := ct_273_A22 (d := d + 0) (l := l) (D := D) (b0 := b0) (ad := ad) (Hb := Hb) (tau := tau) hx hG (show (-9223372036854775808) ≤ x1 ∧ x1 ≤ 9223372036854775807 by omega) (show (-4194303) ≤ y3 ∧ y3 ≤ 4194303 by omega) (show ¬ (x1 = 0 ∧ y3 = 0) by omega)
      refine Jcs (show mx_Sn _ _ 14 (mx_calls 273 2 17) from sn_273 14) hc4 rfl rfl rfl ?_
      exact c17 z4 (by omega) (by omega)
    · skip
      refine mx_J.step (sn_273 6) (fun _ _ => rfl) ?_
      refine mx_J.step (sn_273 7) (fun _ _ => rfl) ?_
      exact c17 x0 (by omega) (by omega)
theorem ct_273_B23 {l : Launch} {D : va_G} {b0 : Nat} {ad : Nat → Nat} {Hb : Heap} {tau : Nat → Int64} {d n s : Nat} {S : Nat → xS} {Z : xZ} {h : mx_H} (hx : XH n s S Z h) (hG : GI n S Z)  {x0 x1 : Int} (p0 : (-8388607) ≤ x0 ∧ x0 ≤ 8388607) (p1 : (-8388607) ≤ x1 ∧ x1 ≤ 8388607) (k0 : ((x0 ≤ 0 → x1 < -x0 ∧ x0 < x1) ∧ (0 ≤ x0 → x1 < x0 ∧ -x0 < x1))) : ∃ z : Int, mx_Ca (tB l D b0 ad Hb tau) (d + 46) 273 [xL x0, xL x1] h (some (xL z), h) ∧ ((-9223372036854775808) ≤ z ∧ z ≤ 9223372036854775807 ∧ ¬ z = 0) := by
  obtain ⟨r, hca, z, e, hp⟩ := Jmt (B := tB l D b0 ad Hb tau) (M := mt_273) (mi := 273) (as := [xL x0, xL x1]) (d := d + 45) (ls := [some (xL x0), none, some (xL x1), none]) rfl rfl rfl rfl rfl rfl (cw_273_B23 (l := l) (D := D) (b0 := b0) (ad := ad) (Hb := Hb) (tau := tau) (d := d) (Post := fun r => ∃ z : Int, r = (some (xL z), h) ∧ ((-9223372036854775808) ≤ z ∧ z ≤ 9223372036854775807 ∧ ¬ z = 0)) hx hG p0 p1 k0 (fun z hz => ⟨z, rfl, hz⟩))
  subst e; exact ⟨z, hca, hp⟩
set_option maxRecDepth 100000 in
theorem cw_273_A23 {l : Launch} {D : va_G} {b0 : Nat} {ad : Nat → Nat} {Hb : Heap} {tau : Nat → Int64} {d n s : Nat} {S : Nat → xS} {Z : xZ} {h : mx_H} {Post : mx_R → Prop} (hx : XH n s S Z h) (hG : GI n S Z)  {x0 x1 : Int} (p0 : (-9223372036854775808) ≤ x0 ∧ x0 ≤ 9223372036854775807) (p1 : (-8388607) ≤ x1 ∧ x1 ≤ 8388607) (k0 : ¬ (x0 = 0 ∧ x1 = 0)) (hP : ∀ z : Int, (-9223372036854775808) ≤ z ∧ z ≤ 9223372036854775807 ∧ ¬ z = 0 → Post (some (xL z), h)) : mx_J (tB l D b0 ad Hb tau) mt_273 (d + 46) 0 [some (xL x0), none, some (xL x1), none] [] h Post := by
    refine mx_J.step (sn_273 0) (fun _ _ => rfl) ?_
    refine JcL (z := 0) (show mx_Sn _ _ 1 (mx_const (.long 0) 2) from sn_273 1) rfl ?_
    have c17 : ∀ (k1_0 : Int), (-9223372036854775808) ≤ k1_0 ∧ k1_0 ≤ 9223372036854775807 → ¬ k1_0 = 0 → mx_J (tB l D b0 ad Hb tau) mt_273 (d + 46) 17 [some (xL x0), none, some (xL x1), none] [xL k1_0] h Post := by
      intro k1_0 f1_0 f1_1
      exact mx_J.ret (sn_273 17) (fun _ _ => rfl) (hP k1_0 (by omega))
    refine Jlif_ne (show mx_Sn _ _ 2 (mx_lif_ne 10 6) from sn_273 2) (by omega) (by omega) (fun q2 => ?_) (fun q2 => ?_)
    · skip
      refine mx_J.step (sn_273 10) (fun _ _ => rfl) ?_
      refine mx_J.step (sn_273 11) (fun _ _ => rfl) ?_
      refine mx_J.step (sn_273 12) (fun _ _ => rfl) ?_
      refine JlremA (show mx_Sn _ _ 13 (mx_lrem 14) from sn_273 13) (by omega) (by omega) (by omega) (fun y3 hy3 => ?_)
      obtain ⟨z4, hc4, b4⟩ := ct_273_B23 (d := d + 0) (l := l) (D := D) (b0 := b0) (ad := ad) (Hb := Hb) (tau := tau) hx hG (show (-8388607) ≤ x1 ∧ x1 ≤ 8388607 by omega) (show (-8388607) ≤ y3 ∧ y3 ≤ 8388607 by omega) (show ((x1 ≤ 0 → y3 < -x1 ∧ x1 < y3) ∧ (0 ≤ x1 → y3 < x1 ∧ -x1 < y3)) by omega)
      refine Jcs (show mx_Sn _ _ 14 (mx_calls 273 2 17) from sn_273 14) hc4 rfl rfl rfl ?_
      exact c17 z4 (by omega) (by omega)
    · skip
      refine mx_J.step (sn_273 6) (fun _ _ => rfl) ?_
      refine mx_J.step (sn_273 7) (fun _ _ => rfl) ?_
      exact c17 x0 (by omega) (by omega)
theorem ct_273_A23 {l : Launch} {D : va_G} {b0 : Nat} {ad : Nat → Nat} {Hb : Heap} {tau : Nat → Int64} {d n s : Nat} {S : Nat → xS} {Z : xZ} {h : mx_H} (hx : XH n s S Z h) (hG : GI n S Z)  {x0 x1 : Int} (p0 : (-9223372036854775808) ≤ x0 ∧ x0 ≤ 9223372036854775807) (p1 : (-8388607) ≤ x1 ∧ x1 ≤ 8388607) (k0 : ¬ (x0 = 0 ∧ x1 = 0)) : ∃ z : Int, mx_Ca (tB l D b0 ad Hb tau) (d + 47) 273 [xL x0, xL x1] h (some (xL z), h) ∧ ((-9223372036854775808) ≤ z ∧ z ≤ 9223372036854775807 ∧ ¬ z = 0) := by
  obtain ⟨r, hca, z, e, hp⟩ := Jmt (B := tB l D b0 ad Hb tau) (M := mt_273) (mi := 273) (as := [xL x0, xL x1]) (d := d + 46) (ls := [some (xL x0), none, some (xL x1), none]) rfl rfl rfl rfl rfl rfl (cw_273_A23 (l := l) (D := D) (b0 := b0) (ad := ad) (Hb := Hb) (tau := tau) (d := d) (Post := fun r => ∃ z : Int, r = (some (xL z), h) ∧ ((-9223372036854775808) ≤ z ∧ z ≤ 9223372036854775807 ∧ ¬ z = 0)) hx hG p0 p1 k0 (fun z hz => ⟨z, rfl, hz⟩))
  subst e; exact ⟨z, hca, hp⟩
set_option maxRecDepth 100000 in
theorem cw_273_B24 {l : Launch} {D : va_G} {b0 : Nat} {ad : Nat → Nat} {Hb : Heap} {tau : Nat → Int64} {d n s : Nat} {S : Nat → xS} {Z : xZ} {h : mx_H} {Post : mx_R → Prop} (hx : XH n s S Z h) (hG : GI n S Z)  {x0 x1 : Int} (p0 : (-16777215) ≤ x0 ∧ x0 ≤ 16777215) (p1 : (-16777215) ≤ x1 ∧ x1 ≤ 16777215) (k0 : ((x0 ≤ 0 → x1 < -x0 ∧ x0 < x1) ∧ (0 ≤ x0 → x1 < x0 ∧ -x0 < x1))) (hP : ∀ z : Int, (-9223372036854775808) ≤ z ∧ z ≤ 9223372036854775807 ∧ ¬ z = 0 → Post (some (xL z), h)) : mx_J (tB l D b0 ad Hb tau) mt_273 (d + 47) 0 [some (xL x0), none, some (xL x1), none] [] h Post := by
    refine mx_J.step (sn_273 0) (fun _ _ => rfl) ?_
    refine JcL (z := 0) (show mx_Sn _ _ 1 (mx_const (.long 0) 2) from sn_273 1) rfl ?_
    have c17 : ∀ (k1_0 : Int), (-9223372036854775808) ≤ k1_0 ∧ k1_0 ≤ 9223372036854775807 → ¬ k1_0 = 0 → mx_J (tB l D b0 ad Hb tau) mt_273 (d + 47) 17 [some (xL x0), none, some (xL x1), none] [xL k1_0] h Post := by
      intro k1_0 f1_0 f1_1
      exact mx_J.ret (sn_273 17) (fun _ _ => rfl) (hP k1_0 (by omega))
    refine Jlif_ne (show mx_Sn _ _ 2 (mx_lif_ne 10 6) from sn_273 2) (by omega) (by omega) (fun q2 => ?_) (fun q2 => ?_)
    · skip
      refine mx_J.step (sn_273 10) (fun _ _ => rfl) ?_
      refine mx_J.step (sn_273 11) (fun _ _ => rfl) ?_
      refine mx_J.step (sn_273 12) (fun _ _ => rfl) ?_
      refine JlremB (show mx_Sn _ _ 13 (mx_lrem 14) from sn_273 13) (by omega) (by omega) (by omega) k0 (fun y3 hy3 => ?_)
      obtain ⟨z4, hc4, b4⟩ := ct_273_A23 (d := d + 0) (l := l) (D := D) (b0 := b0) (ad := ad) (Hb := Hb) (tau := tau) hx hG (show (-9223372036854775808) ≤ x1 ∧ x1 ≤ 9223372036854775807 by omega) (show (-8388607) ≤ y3 ∧ y3 ≤ 8388607 by omega) (show ¬ (x1 = 0 ∧ y3 = 0) by omega)
      refine Jcs (show mx_Sn _ _ 14 (mx_calls 273 2 17) from sn_273 14) hc4 rfl rfl rfl ?_
      exact c17 z4 (by omega) (by omega)
    · skip
      refine mx_J.step (sn_273 6) (fun _ _ => rfl) ?_
      refine mx_J.step (sn_273 7) (fun _ _ => rfl) ?_
      exact c17 x0 (by omega) (by omega)
theorem ct_273_B24 {l : Launch} {D : va_G} {b0 : Nat} {ad : Nat → Nat} {Hb : Heap} {tau : Nat → Int64} {d n s : Nat} {S : Nat → xS} {Z : xZ} {h : mx_H} (hx : XH n s S Z h) (hG : GI n S Z)  {x0 x1 : Int} (p0 : (-16777215) ≤ x0 ∧ x0 ≤ 16777215) (p1 : (-16777215) ≤ x1 ∧ x1 ≤ 16777215) (k0 : ((x0 ≤ 0 → x1 < -x0 ∧ x0 < x1) ∧ (0 ≤ x0 → x1 < x0 ∧ -x0 < x1))) : ∃ z : Int, mx_Ca (tB l D b0 ad Hb tau) (d + 48) 273 [xL x0, xL x1] h (some (xL z), h) ∧ ((-9223372036854775808) ≤ z ∧ z ≤ 9223372036854775807 ∧ ¬ z = 0) := by
  obtain ⟨r, hca, z, e, hp⟩ := Jmt (B := tB l D b0 ad Hb tau) (M := mt_273) (mi := 273) (as := [xL x0, xL x1]) (d := d + 47) (ls := [some (xL x0), none, some (xL x1), none]) rfl rfl rfl rfl rfl rfl (cw_273_B24 (l := l) (D := D) (b0 := b0) (ad := ad) (Hb := Hb) (tau := tau) (d := d) (Post := fun r => ∃ z : Int, r = (some (xL z), h) ∧ ((-9223372036854775808) ≤ z ∧ z ≤ 9223372036854775807 ∧ ¬ z = 0)) hx hG p0 p1 k0 (fun z hz => ⟨z, rfl, hz⟩))
  subst e; exact ⟨z, hca, hp⟩
set_option maxRecDepth 100000 in
theorem cw_273_A24 {l : Launch} {D : va_G} {b0 : Nat} {ad : Nat → Nat} {Hb : Heap} {tau : Nat → Int64} {d n s : Nat} {S : Nat → xS} {Z : xZ} {h : mx_H} {Post : mx_R → Prop} (hx : XH n s S Z h) (hG : GI n S Z)  {x0 x1 : Int} (p0 : (-9223372036854775808) ≤ x0 ∧ x0 ≤ 9223372036854775807) (p1 : (-16777215) ≤ x1 ∧ x1 ≤ 16777215) (k0 : ¬ (x0 = 0 ∧ x1 = 0)) (hP : ∀ z : Int, (-9223372036854775808) ≤ z ∧ z ≤ 9223372036854775807 ∧ ¬ z = 0 → Post (some (xL z), h)) : mx_J (tB l D b0 ad Hb tau) mt_273 (d + 48) 0 [some (xL x0), none, some (xL x1), none] [] h Post := by
    refine mx_J.step (sn_273 0) (fun _ _ => rfl) ?_
    refine JcL (z := 0) (show mx_Sn _ _ 1 (mx_const (.long 0) 2) from sn_273 1) rfl ?_
    have c17 : ∀ (k1_0 : Int), (-9223372036854775808) ≤ k1_0 ∧ k1_0 ≤ 9223372036854775807 → ¬ k1_0 = 0 → mx_J (tB l D b0 ad Hb tau) mt_273 (d + 48) 17 [some (xL x0), none, some (xL x1), none] [xL k1_0] h Post := by
      intro k1_0 f1_0 f1_1
      exact mx_J.ret (sn_273 17) (fun _ _ => rfl) (hP k1_0 (by omega))
    refine Jlif_ne (show mx_Sn _ _ 2 (mx_lif_ne 10 6) from sn_273 2) (by omega) (by omega) (fun q2 => ?_) (fun q2 => ?_)
    · skip
      refine mx_J.step (sn_273 10) (fun _ _ => rfl) ?_
      refine mx_J.step (sn_273 11) (fun _ _ => rfl) ?_
      refine mx_J.step (sn_273 12) (fun _ _ => rfl) ?_
      refine JlremA (show mx_Sn _ _ 13 (mx_lrem 14) from sn_273 13) (by omega) (by omega) (by omega) (fun y3 hy3 => ?_)
      obtain ⟨z4, hc4, b4⟩ := ct_273_B24 (d := d + 0) (l := l) (D := D) (b0 := b0) (ad := ad) (Hb := Hb) (tau := tau) hx hG (show (-16777215) ≤ x1 ∧ x1 ≤ 16777215 by omega) (show (-16777215) ≤ y3 ∧ y3 ≤ 16777215 by omega) (show ((x1 ≤ 0 → y3 < -x1 ∧ x1 < y3) ∧ (0 ≤ x1 → y3 < x1 ∧ -x1 < y3)) by omega)
      refine Jcs (show mx_Sn _ _ 14 (mx_calls 273 2 17) from sn_273 14) hc4 rfl rfl rfl ?_
      exact c17 z4 (by omega) (by omega)
    · skip
      refine mx_J.step (sn_273 6) (fun _ _ => rfl) ?_
      refine mx_J.step (sn_273 7) (fun _ _ => rfl) ?_
      exact c17 x0 (by omega) (by omega)
theorem ct_273_A24 {l : Launch} {D : va_G} {b0 : Nat} {ad : Nat → Nat} {Hb : Heap} {tau : Nat → Int64} {d n s : Nat} {S : Nat → xS} {Z : xZ} {h : mx_H} (hx : XH n s S Z h) (hG : GI n S Z)  {x0 x1 : Int} (p0 : (-9223372036854775808) ≤ x0 ∧ x0 ≤ 9223372036854775807) (p1 : (-16777215) ≤ x1 ∧ x1 ≤ 16777215) (k0 : ¬ (x0 = 0 ∧ x1 = 0)) : ∃ z : Int, mx_Ca (tB l D b0 ad Hb tau) (d + 49) 273 [xL x0, xL x1] h (some (xL z), h) ∧ ((-9223372036854775808) ≤ z ∧ z ≤ 9223372036854775807 ∧ ¬ z = 0) := by
  obtain ⟨r, hca, z, e, hp⟩ := Jmt (B := tB l D b0 ad Hb tau) (M := mt_273) (mi := 273) (as := [xL x0, xL x1]) (d := d + 48) (ls := [some (xL x0), none, some (xL x1), none]) rfl rfl rfl rfl rfl rfl (cw_273_A24 (l := l) (D := D) (b0 := b0) (ad := ad) (Hb := Hb) (tau := tau) (d := d) (Post := fun r => ∃ z : Int, r = (some (xL z), h) ∧ ((-9223372036854775808) ≤ z ∧ z ≤ 9223372036854775807 ∧ ¬ z = 0)) hx hG p0 p1 k0 (fun z hz => ⟨z, rfl, hz⟩))
  subst e; exact ⟨z, hca, hp⟩
set_option maxRecDepth 100000 in
theorem cw_274_ {l : Launch} {D : va_G} {b0 : Nat} {ad : Nat → Nat} {Hb : Heap} {tau : Nat → Int64} {d n s : Nat} {S : Nat → xS} {Z : xZ} {h : mx_H} {Post : mx_R → Prop} (hx : XH n s S Z h) (hG : GI n S Z)  {x0 x1 x2 : Int} (p0 : (-9223372036854775808) ≤ x0 ∧ x0 ≤ 9223372036854775807) (p1 : 1 ≤ x1 ∧ x1 ≤ 10000000) (p2 : 0 ≤ x2 ∧ x2 ≤ 1) (hP : ∀ z : Int, (-2147483648) ≤ z ∧ z ≤ 2147483647 → Post (some (xI z), h)) : mx_J (tB l D b0 ad Hb tau) mt_274 (d + 49) 0 [some (xL x0), none, some (xL x1), none, some (xI x2)] [] h Post := by
    refine mx_J.step (sn_274 0) (fun _ _ => rfl) ?_
    have c10 : ∀ (k1_0 : Int), (-9223372036854775808) ≤ k1_0 ∧ k1_0 ≤ 9223372036854775807 → mx_J (tB l D b0 ad Hb tau) mt_274 (d + 49) 10 [some (xL x0), none, some (xL x1), none, some (xI x2)] [xL k1_0] h Post := by
      intro k1_0 f1_0
      refine mx_J.step (sn_274 10) (fun _ _ => rfl) ?_
      refine mx_J.step (sn_274 11) (fun _ _ => rfl) ?_
      obtain ⟨z2, hc2, b2⟩ := ct_273_A24 (d := d + 0) (l := l) (D := D) (b0 := b0) (ad := ad) (Hb := Hb) (tau := tau) hx hG (show (-9223372036854775808) ≤ x0 ∧ x0 ≤ 9223372036854775807 by omega) (show (-16777215) ≤ x1 ∧ x1 ≤ 16777215 by omega) (show ¬ (x0 = 0 ∧ x1 = 0) by omega)
      refine Jcs (show mx_Sn _ _ 12 (mx_calls 273 2 15) from sn_274 12) hc2 rfl rfl rfl ?_
      refine JldivX (show mx_Sn _ _ 15 (mx_ldiv 16) from sn_274 15) (by omega) (by omega) (fun y3 hy3 => ?_)
      refine Jl2i (show mx_Sn _ _ 16 (mx_l2i 17) from sn_274 16) (Jnorm fun y4 hy4 hq4 => ?_)
      exact mx_J.ret (sn_274 17) (fun _ _ => rfl) (hP y4 (by omega))
    refine Jif_ne (show mx_Sn _ _ 2 (mx_if_ne 9 5) from sn_274 2) (by omega) (fun q5 => ?_) (fun q5 => ?_)
    · skip
      refine mx_J.step (sn_274 9) (fun _ _ => rfl) ?_
      exact c10 x1 (by omega)
    · skip
      refine mx_J.step (sn_274 5) (fun _ _ => rfl) ?_
      refine mx_J.step (sn_274 6) (fun _ _ => rfl) ?_
      exact c10 x0 (by omega)
theorem ct_274_ {l : Launch} {D : va_G} {b0 : Nat} {ad : Nat → Nat} {Hb : Heap} {tau : Nat → Int64} {d n s : Nat} {S : Nat → xS} {Z : xZ} {h : mx_H} (hx : XH n s S Z h) (hG : GI n S Z)  {x0 x1 x2 : Int} (p0 : (-9223372036854775808) ≤ x0 ∧ x0 ≤ 9223372036854775807) (p1 : 1 ≤ x1 ∧ x1 ≤ 10000000) (p2 : 0 ≤ x2 ∧ x2 ≤ 1) : ∃ z : Int, mx_Ca (tB l D b0 ad Hb tau) (d + 50) 274 [xL x0, xL x1, xI x2] h (some (xI z), h) ∧ ((-2147483648) ≤ z ∧ z ≤ 2147483647) := by
  obtain ⟨r, hca, z, e, hp⟩ := Jmt (B := tB l D b0 ad Hb tau) (M := mt_274) (mi := 274) (as := [xL x0, xL x1, xI x2]) (d := d + 49) (ls := [some (xL x0), none, some (xL x1), none, some (xI x2)]) rfl rfl rfl rfl rfl rfl (cw_274_ (l := l) (D := D) (b0 := b0) (ad := ad) (Hb := Hb) (tau := tau) (d := d) (Post := fun r => ∃ z : Int, r = (some (xI z), h) ∧ ((-2147483648) ≤ z ∧ z ≤ 2147483647)) hx hG p0 p1 p2 (fun z hz => ⟨z, rfl, hz⟩))
  subst e; exact ⟨z, hca, hp⟩
set_option maxRecDepth 100000 in
theorem cw_271_56 {l : Launch} {D : va_G} {b0 : Nat} {ad : Nat → Nat} {Hb : Heap} {tau : Nat → Int64} {d n s : Nat} {S : Nat → xS} {Z : xZ} {h : mx_H} {Post : mx_R → Prop} (hx : XH n s S Z h) (hG : GI n S Z)  {x0 : Int} (p0 : 0 ≤ x0 ∧ x0 ≤ 7) (hP : ∀ (Z' : xZ) (h' : mx_H), XH n s S Z' h' → GI n S Z' → fr' [(62, (-1)), (64, (-1)), (65, (-1)), (76, (-1)), (77, (-1))] Z Z' → Post (none, h')) : mx_J (tB l D b0 ad Hb tau) mt_271 (d + 4) 0 [some (.ref 56), some (xI x0), none, none, none] [] h Post := by
    have a56 : 56 < n := lt83 (GI_n hG) rfl
    have s56 : S 56 = .inl (12, [0, 2, 2, 2, 2, 0, 0, 0, 0, 0, 0, 0, 0, 0, 0, 2, 2, 2, 0, 2, 2, 2, 0, 0, 2, 2, 2, 2, 2, 2, 0, 0, 2, 2, 2, 2, 2, 2, 2, 2, 2, 2]) := GI_s hG 56 rfl
    have a57 : 57 < n := lt83 (GI_n hG) rfl
    have s57 : S 57 = .inr (.int, 2886, 0) := GI_s hG 57 rfl
    have a76 : 76 < n := lt83 (GI_n hG) rfl
    have s76 : S 76 = .inr (.long, 385, 1) := GI_s hG 76 rfl
    have a77 : 77 < n := lt83 (GI_n hG) rfl
    have s77 : S 77 = .inr (.long, 385, 1) := GI_s hG 77 rfl
    refine mx_J.step (sn_271 0) (fun _ _ => rfl) ?_
    obtain ⟨Z1, h1, hc1, hx1, hG1, hf1⟩ := ct_243_56 (d := d + 3) (l := l) (D := D) (b0 := b0) (ad := ad) (Hb := Hb) (tau := tau) hx hG 
    refine Jcv0 hx (show mx_Sn _ _ 1 (mx_callv 243 1 12 4) from sn_271 1) a56 s56 hc1 rfl rfl rfl ?_
    refine JcI (z := 0) (show mx_Sn _ _ 4 (mx_const (.int 0) 5) from sn_271 4) rfl ?_
    refine mx_J.step (ls2 := [some (.ref 56), some (xI x0), some (xI 0), none, none]) (sn_271 5) (fun _ _ => rfl) ?_
    have c6 : ∀ (m2 : Nat) (w2_2 : Int) (u2_3 : Option Value) (u2_4 : Option Value) (Z3 : xZ) (h3 : mx_H), 7 - w2_2 < (m2 : Int) → 0 ≤ w2_2 ∧ w2_2 ≤ 7 → XH n s S Z3 h3 → GI n S Z3 → fr' [(62, (-1)), (64, (-1)), (65, (-1)), (76, (-1)), (77, (-1))] Z1 Z3 → mx_J (tB l D b0 ad Hb tau) mt_271 (d + 4) 6 [some (.ref 56), some (xI x0), some (xI w2_2), u2_3, u2_4] [] h3 Post := by
      intro m2
      induction m2 with
      | zero => intro w2_2 u2_3 u2_4 Z3 h3 q2 f2_0 hx3 hG3 hf3; exact absurd q2 (by omega)
      | succ m2 ih2 =>
        intro w2_2 u2_3 u2_4 Z3 h3 q2 f2_0 hx3 hG3 hf3
        refine mx_J.step (sn_271 6) (fun _ _ => rfl) ?_
        refine mx_J.step (sn_271 7) (fun _ _ => rfl) ?_
        refine Jicmp_ge (show mx_Sn _ _ 8 (mx_icmp_ge 106 11) from sn_271 8) (by omega) (by omega) (fun q4 => ?_) (fun q4 => ?_)
        · skip
          exact mx_J.ret (sn_271 106) (fun _ _ => rfl) (hP Z3 h3 hx3 hG3 (fr_tr (M := [(62, (-1)), (64, (-1)), (65, (-1)), (76, (-1)), (77, (-1))]) (fr_tr (M := [(62, (-1)), (64, (-1)), (65, (-1)), (76, (-1)), (77, (-1))]) fr_rf (hf1) (M1 := []) rfl rfl) (hf3) rfl rfl))
        · skip
          refine JcI (z := 0) (show mx_Sn _ _ 11 (mx_const (.int 0) 12) from sn_271 11) rfl ?_
          refine mx_J.step (ls2 := [some (.ref 56), some (xI x0), some (xI w2_2), some (xI 0), u2_4]) (sn_271 12) (fun _ _ => rfl) ?_
          have c13 : ∀ (m5 : Nat) (w5_3 : Int) (u5_4 : Option Value) (Z6 : xZ) (h6 : mx_H), 385 - w5_3 < (m5 : Int) → 0 ≤ w5_3 ∧ w5_3 ≤ 385 → XH n s S Z6 h6 → GI n S Z6 → fr' [(62, (-1)), (64, (-1)), (65, (-1)), (77, (-1))] Z3 Z6 → mx_J (tB l D b0 ad Hb tau) mt_271 (d + 4) 13 [some (.ref 56), some (xI x0), some (xI w2_2), some (xI w5_3), u5_4] [] h6 Post := by
            intro m5
            induction m5 with
            | zero => intro w5_3 u5_4 Z6 h6 q5 f5_0 hx6 hG6 hf6; exact absurd q5 (by omega)
            | succ m5 ih5 =>
              intro w5_3 u5_4 Z6 h6 q5 f5_0 hx6 hG6 hf6
              refine mx_J.step (sn_271 13) (fun _ _ => rfl) ?_
              refine mx_J.step (sn_271 14) (fun _ _ => rfl) ?_
              have b8 : 0 ≤ Z 56 18 ∧ Z 56 18 ≤ 385 := hG.pr 56 18
              refine JgetI (g := 18) (z := Z 56 18) hx6 (show mx_Sn _ _ 15 (mx_getf 12 18 18) from sn_271 15) a56 s56 rfl rfl ((hf6 56 18 rfl).trans ((hf3 56 18 rfl).trans (hf1 56 18 rfl))) ?_
              refine Jicmp_ge (show mx_Sn _ _ 18 (mx_icmp_ge 96 21) from sn_271 18) (by omega) (by omega) (fun q9 => ?_) (fun q9 => ?_)
              · skip
                refine mx_J.step (sn_271 96) (fun _ _ => rfl) ?_
                obtain ⟨Z10, h10, hc10, hx10, hG10, hf10⟩ := ct_244_56 (d := d + 3) (l := l) (D := D) (b0 := b0) (ad := ad) (Hb := Hb) (tau := tau) hx6 hG6 
                refine Jcv0 hx6 (show mx_Sn _ _ 97 (mx_callv 244 1 12 100) from sn_271 97) a56 s56 hc10 rfl rfl rfl ?_
                refine Jiinc (z := w2_2) (cz := 1) (ls2 := [some (.ref 56), some (xI x0), some (xI (w2_2 + 1)), some (xI w5_3), u5_4]) (show mx_Sn _ _ 100 (mx_iinc 2 1 103) from sn_271 100) rfl rfl rfl rfl ?_
                refine mx_J.step (sn_271 103) (fun _ _ => rfl) ?_
                exact ih2 (w2_2 + 1) (some (xI w5_3)) u5_4 Z10 h10 (by omega) (by omega) hx10 hG10 (fr_tr (M := [(62, (-1)), (64, (-1)), (65, (-1)), (76, (-1)), (77, (-1))]) (fr_tr (M := [(62, (-1)), (64, (-1)), (65, (-1)), (76, (-1)), (77, (-1))]) (fr_tr (M := [(62, (-1)), (64, (-1)), (65, (-1)), (76, (-1)), (77, (-1))]) fr_rf (hf3) (M1 := []) rfl rfl) (hf6) rfl rfl) (hf10) rfl rfl)
              · skip
                refine JcI (z := 0) (show mx_Sn _ _ 21 (mx_const (.int 0) 22) from sn_271 21) rfl ?_
                refine mx_J.step (ls2 := [some (.ref 56), some (xI x0), some (xI w2_2), some (xI w5_3), some (xI 0)]) (sn_271 22) (fun _ _ => rfl) ?_
                have c24 : ∀ (m11 : Nat) (w11_4 : Int) (Z12 : xZ) (h12 : mx_H), 10 - w11_4 < (m11 : Int) → 0 ≤ w11_4 ∧ w11_4 ≤ 10 → XH n s S Z12 h12 → GI n S Z12 → fr' [(62, (-1)), (64, (-1)), (65, (-1)), (77, (-1))] Z6 Z12 → mx_J (tB l D b0 ad Hb tau) mt_271 (d + 4) 24 [some (.ref 56), some (xI x0), some (xI w2_2), some (xI w5_3), some (xI w11_4)] [] h12 Post := by
                  intro m11
                  induction m11 with
                  | zero => intro w11_4 Z12 h12 q11 f11_0 hx12 hG12 hf12; exact absurd q11 (by omega)
                  | succ m11 ih11 =>
                    intro w11_4 Z12 h12 q11 f11_0 hx12 hG12 hf12
                    refine mx_J.step (sn_271 24) (fun _ _ => rfl) ?_
                    refine JcI (z := 10) (show mx_Sn _ _ 26 (mx_const (.int 10) 28) from sn_271 26) rfl ?_
                    have c90 : mx_J (tB l D b0 ad Hb tau) mt_271 (d + 4) 90 [some (.ref 56), some (xI x0), some (xI w2_2), some (xI w5_3), some (xI w11_4)] [] h12 Post := by
                      refine Jiinc (z := w5_3) (cz := 1) (ls2 := [some (.ref 56), some (xI x0), some (xI w2_2), some (xI (w5_3 + 1)), some (xI w11_4)]) (show mx_Sn _ _ 90 (mx_iinc 3 1 93) from sn_271 90) rfl rfl rfl rfl ?_
                      refine mx_J.step (sn_271 93) (fun _ _ => rfl) ?_
                      exact ih5 (w5_3 + 1) (some (xI w11_4)) Z12 h12 (by omega) (by omega) hx12 hG12 (fr_tr (M := [(62, (-1)), (64, (-1)), (65, (-1)), (77, (-1))]) (fr_tr (M := [(62, (-1)), (64, (-1)), (65, (-1)), (77, (-1))]) fr_rf (hf6) (M1 := []) rfl rfl) (hf12) rfl rfl)
                    refine Jicmp_ge (show mx_Sn _ _ 28 (mx_icmp_ge 90 31) from sn_271 28) (by omega) (by omega) (fun q14 => ?_) (fun q14 => ?_)
                    · skip
                      exact c90 
                    · skip
                      refine mx_J.step (sn_271 31) (fun _ _ => rfl) ?_
                      refine JgetR (g := 35) (b := 76) hx12 (show mx_Sn _ _ 32 (mx_getf 12 35 35) from sn_271 32) a56 s56 rfl rfl (hG12.prr 56 35 rfl) ?_
                      refine mx_J.step (sn_271 35) (fun _ _ => rfl) ?_
                      have b16 : (-9223372036854775808) ≤ Z3 76 w5_3 ∧ Z3 76 w5_3 ≤ 9223372036854775807 := hG3.pr 76 w5_3
                      refine JlaldL (z := Z3 76 w5_3) hx12 (show mx_Sn _ _ 36 (mx_lald 37) from sn_271 36) a76 s76 (by omega) ((hf12 76 w5_3 rfl).trans (hf6 76 w5_3 rfl)) ?_
                      refine JcL (z := 0) (show mx_Sn _ _ 37 (mx_const (.long 0) 38) from sn_271 37) rfl ?_
                      refine Jlif_le (show mx_Sn _ _ 38 (mx_lif_le 90 42) from sn_271 38) (by omega) (by omega) (fun q17 => ?_) (fun q17 => ?_)
                      · skip
                        exact c90 
                      · skip
                        refine mx_J.step (sn_271 42) (fun _ _ => rfl) ?_
                        refine JgetR (g := 36) (b := 77) hx12 (show mx_Sn _ _ 43 (mx_getf 12 36 46) from sn_271 43) a56 s56 rfl rfl (hG12.prr 56 36 rfl) ?_
                        refine mx_J.step (sn_271 46) (fun _ _ => rfl) ?_
                        refine mx_J.step (sn_271 47) (fun _ _ => rfl) ?_
                        refine mx_J.step (sn_271 48) (fun _ _ => rfl) ?_
                        refine mx_J.step (sn_271 50) (fun _ _ => rfl) ?_
                        refine mx_J.step (sn_271 51) (fun _ _ => rfl) ?_
                        have eq20 : mn Z12 w5_3 = mn Z w5_3 := ((mn_c (fun i => hf12 61 i rfl)).trans ((mn_c (fun i => hf6 61 i rfl)).trans ((mn_c (fun i => hf3 61 i rfl)).trans (mn_c (fun i => hf1 61 i rfl)))))
                        obtain ⟨z19, hc19, b19⟩ := ct_191_56 (d := d + 2) (l := l) (D := D) (b0 := b0) (ad := ad) (Hb := Hb) (tau := tau) hx12 hG12 (show 0 ≤ w5_3 ∧ w5_3 ≤ 384 by omega)
                        refine Jcv hx12 (show mx_Sn _ _ 52 (mx_callv 191 2 12 55) from sn_271 52) a56 s56 hc19 rfl rfl rfl ?_
                        have c64 : ∀ (k21_3 : Int), (-1) ≤ k21_3 ∧ k21_3 ≤ 9 → mx_J (tB l D b0 ad Hb tau) mt_271 (d + 4) 64 [some (.ref 56), some (xI x0), some (xI w2_2), some (xI w5_3), some (xI w11_4)] [xI k21_3, xI w5_3, .ref 56, .ref 77] h12 Post := by
                          intro k21_3 f21_0
                          refine mx_J.step (sn_271 64) (fun _ _ => rfl) ?_
                          refine JgetR (g := 1) (b := 57) hx12 (show mx_Sn _ _ 65 (mx_getf 12 1 68) from sn_271 65) a56 s56 rfl rfl (hG12.prr 56 1 rfl) ?_
                          refine JcI (z := 28) (show mx_Sn _ _ 68 (mx_const (.int 28) 70) from sn_271 68) rfl ?_
                          have b23 : 0 ≤ Z 57 28 ∧ Z 57 28 ≤ 9 := by have hq := GI_ex hG 57 28; replace hq : f57 (28 % 962) (Z 57 28) := hq; unfold f57 at hq; omega
                          have b24 : (-2147483648) ≤ Z 57 28 ∧ Z 57 28 ≤ 2147483647 := hG.pr 57 28
                          refine JialdI (z := Z 57 28) hx12 (show mx_Sn _ _ 70 (mx_iald 71) from sn_271 70) a57 s57 (by omega) ((hf12 57 28 rfl).trans ((hf6 57 28 rfl).trans ((hf3 57 28 rfl).trans (hf1 57 28 rfl)))) ?_
                          have eq26 : Z12 56 18 = Z 56 18 := ((hf12 56 18 rfl).trans ((hf6 56 18 rfl).trans ((hf3 56 18 rfl).trans (hf1 56 18 rfl))))
                          obtain ⟨z25, Z25, h25, hc25, hx25, hG25, hf25, b25⟩ := ct_196_56 (d := d + 0) (l := l) (D := D) (b0 := b0) (ad := ad) (Hb := Hb) (tau := tau) hx12 hG12 (show 0 ≤ w5_3 ∧ w5_3 ≤ 384 by omega) (show (-2147483648) ≤ k21_3 ∧ k21_3 ≤ 2147483647 by omega) (show 0 ≤ Z 57 28 ∧ Z 57 28 ≤ 9 by omega)
                          try rw [eq26] at b25
                          refine Jcv hx12 (show mx_Sn _ _ 71 (mx_callv 196 4 12 74) from sn_271 71) a56 s56 hc25 rfl rfl rfl ?_
                          refine mx_J.step (sn_271 74) (fun _ _ => rfl) ?_
                          have b27 : (-9223372036854775808) ≤ Z12 77 z25 ∧ Z12 77 z25 ≤ 9223372036854775807 := hG12.pr 77 z25
                          refine JlaldL (z := Z12 77 z25) hx25 (show mx_Sn _ _ 75 (mx_lald 76) from sn_271 75) a77 s77 (by omega) (hf25 77 z25 rfl) ?_
                          refine mx_J.step (sn_271 76) (fun _ _ => rfl) ?_
                          refine JgetR (g := 35) (b := 76) hx25 (show mx_Sn _ _ 77 (mx_getf 12 35 80) from sn_271 77) a56 s56 rfl rfl (hG25.prr 56 35 rfl) ?_
                          refine mx_J.step (sn_271 80) (fun _ _ => rfl) ?_
                          refine JlaldL (z := Z3 76 w5_3) hx25 (show mx_Sn _ _ 81 (mx_lald 82) from sn_271 81) a76 s76 (by omega) ((hf25 76 w5_3 rfl).trans ((hf12 76 w5_3 rfl).trans (hf6 76 w5_3 rfl))) ?_
                          refine JladdN (show mx_Sn _ _ 82 (mx_ladd 83) from sn_271 82) (fun y29 hy29 hq29 => ?_)
                          refine JlastL hx25 (show mx_Sn _ _ 83 (mx_last 1 84) from sn_271 83) a77 s77 rfl (by omega) (fun Z30 h30 hx30 hE30 => ?_)
                          have hG30 := GI_up hG25 hE30 (show (-9223372036854775808) ≤ y29 ∧ y29 ≤ 9223372036854775807 by omega) trivial rfl
                          refine Jiinc (z := w11_4) (cz := 1) (ls2 := [some (.ref 56), some (xI x0), some (xI w2_2), some (xI w5_3), some (xI (w11_4 + 1))]) (show mx_Sn _ _ 84 (mx_iinc 4 1 87) from sn_271 84) rfl rfl rfl rfl ?_
                          refine mx_J.step (sn_271 87) (fun _ _ => rfl) ?_
                          exact ih11 (w11_4 + 1) Z30 h30 (by omega) (by omega) hx30 hG30 (fr_tr (M := [(62, (-1)), (64, (-1)), (65, (-1)), (77, (-1))]) (fr_tr (M := [(62, (-1)), (64, (-1)), (65, (-1)), (77, (-1))]) (fr_tr (M := [(62, (-1)), (64, (-1)), (65, (-1)), (77, (-1))]) fr_rf (hf12) (M1 := []) rfl rfl) (hf25) rfl rfl) (fr_ua hE30) rfl rfl)
                        refine Jicmp_ge (show mx_Sn _ _ 55 (mx_icmp_ge 63 58) from sn_271 55) (by omega) (by omega) (fun q31 => ?_) (fun q31 => ?_)
                        · skip
                          refine JcI (z := (-1)) (show mx_Sn _ _ 63 (mx_const (.int (-1)) 64) from sn_271 63) rfl ?_
                          exact c64 (-1) (by omega)
                        · skip
                          refine mx_J.step (sn_271 58) (fun _ _ => rfl) ?_
                          refine mx_J.step (sn_271 60) (fun _ _ => rfl) ?_
                          exact c64 w11_4 (by omega)
                exact c24 (Int.toNat (10 - 0) + 1) 0 Z6 h6 (by omega) (by omega) hx6 hG6 fr_rf
          exact c13 (Int.toNat (385 - 0) + 1) 0 u2_4 Z3 h3 (by omega) (by omega) hx3 hG3 fr_rf
    exact c6 (Int.toNat (7 - 0) + 1) 0 none none Z1 h1 (by omega) (by omega) hx1 hG1 fr_rf
theorem ct_271_56 {l : Launch} {D : va_G} {b0 : Nat} {ad : Nat → Nat} {Hb : Heap} {tau : Nat → Int64} {d n s : Nat} {S : Nat → xS} {Z : xZ} {h : mx_H} (hx : XH n s S Z h) (hG : GI n S Z)  {x0 : Int} (p0 : 0 ≤ x0 ∧ x0 ≤ 7) : ∃ (Z' : xZ) (h' : mx_H), mx_Ca (tB l D b0 ad Hb tau) (d + 5) 271 [.ref 56, xI x0] h (none, h') ∧ XH n s S Z' h' ∧ GI n S Z' ∧ fr' [(62, (-1)), (64, (-1)), (65, (-1)), (76, (-1)), (77, (-1))] Z Z' := by
  obtain ⟨r, hca, Z', h', e, q⟩ := Jmt (B := tB l D b0 ad Hb tau) (M := mt_271) (mi := 271) (as := [.ref 56, xI x0]) (d := d + 4) (ls := [some (.ref 56), some (xI x0), none, none, none]) rfl rfl rfl rfl rfl rfl (cw_271_56 (l := l) (D := D) (b0 := b0) (ad := ad) (Hb := Hb) (tau := tau) (d := d) (Post := fun r => ∃ (Z' : xZ) (h' : mx_H), r = (none, h') ∧ XH n s S Z' h' ∧ GI n S Z' ∧ fr' [(62, (-1)), (64, (-1)), (65, (-1)), (76, (-1)), (77, (-1))] Z Z') hx hG p0 (fun Z' h' q1 q2 q3 => ⟨Z', h', rfl, q1, q2, q3⟩))
  subst e; exact ⟨Z', h', hca, q⟩
set_option maxRecDepth 100000 in
theorem cw_275_56 {l : Launch} {D : va_G} {b0 : Nat} {ad : Nat → Nat} {Hb : Heap} {tau : Nat → Int64} {d n s : Nat} {S : Nat → xS} {Z : xZ} {h : mx_H} {Post : mx_R → Prop} (hx : XH n s S Z h) (hG : GI n S Z)  {x0 x1 x2 : Int} (p0 : (-2147483648) ≤ x0 ∧ x0 ≤ 2147483647) (p1 : (-2147483648) ≤ x1 ∧ x1 ≤ 2147483647) (p2 : (-2147483648) ≤ x2 ∧ x2 ≤ 2147483647) (hP : ∀ (z : Int) (Z' : xZ) (h' : mx_H), XH n s S Z' h' → GI n S Z' → fr' [(56, 0), (62, (-1)), (64, (-1)), (65, (-1)), (76, (-1)), (77, (-1))] Z Z' → (-2147483648) ≤ z ∧ z ≤ 2147483647 → Post (some (xI z), h')) : mx_J (tB l D b0 ad Hb tau) mt_275 (d + 50) 0 [some (.ref 56), some (xI x0), some (xI x1), some (xI x2), none, none, none] [] h Post := by
    have a56 : 56 < n := lt83 (GI_n hG) rfl
    have s56 : S 56 = .inl (12, [0, 2, 2, 2, 2, 0, 0, 0, 0, 0, 0, 0, 0, 0, 0, 2, 2, 2, 0, 2, 2, 2, 0, 0, 2, 2, 2, 2, 2, 2, 0, 0, 2, 2, 2, 2, 2, 2, 2, 2, 2, 2]) := GI_s hG 56 rfl
    have a76 : 76 < n := lt83 (GI_n hG) rfl
    have s76 : S 76 = .inr (.long, 385, 1) := GI_s hG 76 rfl
    refine mx_J.step (sn_275 0) (fun _ _ => rfl) ?_
    refine JcI (z := 0) (show mx_Sn _ _ 1 (mx_const (.int 0) 2) from sn_275 1) rfl ?_
    refine JputI (g := 0) hx (show mx_Sn _ _ 2 (mx_putf 1 12 0 (.int) 5) from sn_275 2) a56 s56 rfl rfl rfl rfl (fun Z1 h1 hx1 hE1 => ?_)
    have hG1 := GI_up hG hE1 (show (-2147483648) ≤ 0 ∧ 0 ≤ 2147483647 by omega) trivial rfl
    refine mx_J.step (sn_275 5) (fun _ _ => rfl) ?_
    refine Ji2l (show mx_Sn _ _ 6 (mx_i2l 7) from sn_275 6) (by omega) ?_
    refine JcL (z := 0) (show mx_Sn _ _ 7 (mx_const (.long 0) 8) from sn_275 7) rfl ?_
    refine JcL (z := 1) (show mx_Sn _ _ 8 (mx_const (.long 1) 9) from sn_275 8) rfl ?_
    obtain ⟨z2, hc2, b2⟩ := ct_154_ (d := d + 49) (l := l) (D := D) (b0 := b0) (ad := ad) (Hb := Hb) (tau := tau) hx1 hG1 (show (-9223372036854775808) ≤ x2 ∧ x2 ≤ 9223372036854775807 by omega) (show (-9223372036854775808) ≤ 0 ∧ 0 ≤ 9223372036854775807 by omega) (show (-9223372036854775808) ≤ 1 ∧ 1 ≤ 9223372036854775807 by omega)
    refine Jcs (show mx_Sn _ _ 9 (mx_calls 154 3 12) from sn_275 9) hc2 rfl rfl rfl ?_
    refine Jif_ne (show mx_Sn _ _ 12 (mx_if_ne 18 15) from sn_275 12) (by omega) (fun q3 => ?_) (fun q3 => ?_)
    · skip
      refine mx_J.step (sn_275 18) (fun _ _ => rfl) ?_
      refine Ji2l (show mx_Sn _ _ 19 (mx_i2l 20) from sn_275 19) (by omega) ?_
      obtain ⟨z4, hc4, b4⟩ := ct_208_ (d := d + 48) (l := l) (D := D) (b0 := b0) (ad := ad) (Hb := Hb) (tau := tau) hx1 hG1 (show (-9223372036854775808) ≤ x0 ∧ x0 ≤ 9223372036854775807 by omega)
      refine Jcs (show mx_Sn _ _ 20 (mx_calls 208 1 23) from sn_275 20) hc4 rfl rfl rfl ?_
      have c38 : mx_J (tB l D b0 ad Hb tau) mt_275 (d + 50) 38 [some (.ref 56), some (xI x0), some (xI x1), some (xI x2), none, none, none] [] h1 Post := by
        refine JcI (z := (-3)) (show mx_Sn _ _ 38 (mx_const (.int (-3)) 40) from sn_275 38) rfl ?_
        exact mx_J.ret (sn_275 40) (fun _ _ => rfl) (hP (-3) Z1 h1 hx1 hG1 (fr_tr (M := [(56, 0), (62, (-1)), (64, (-1)), (65, (-1)), (76, (-1)), (77, (-1))]) fr_rf (fr_up hE1) (M1 := []) rfl rfl) (by omega))
      refine Jif_eq (show mx_Sn _ _ 23 (mx_if_eq 38 26) from sn_275 23) (by omega) (fun q6 => ?_) (fun q6 => ?_)
      · skip
        exact c38 
      · skip
        refine mx_J.step (sn_275 26) (fun _ _ => rfl) ?_
        refine Ji2l (show mx_Sn _ _ 27 (mx_i2l 28) from sn_275 27) (by omega) ?_
        refine JcL (z := 0) (show mx_Sn _ _ 28 (mx_const (.long 0) 29) from sn_275 28) rfl ?_
        refine JcL (z := 7) (show mx_Sn _ _ 29 (mx_const (.long 7) 32) from sn_275 29) rfl ?_
        obtain ⟨z7, hc7, b7⟩ := ct_154_ (d := d + 49) (l := l) (D := D) (b0 := b0) (ad := ad) (Hb := Hb) (tau := tau) hx1 hG1 (show (-9223372036854775808) ≤ x1 ∧ x1 ≤ 9223372036854775807 by omega) (show (-9223372036854775808) ≤ 0 ∧ 0 ≤ 9223372036854775807 by omega) (show (-9223372036854775808) ≤ 7 ∧ 7 ≤ 9223372036854775807 by omega)
        refine Jcs (show mx_Sn _ _ 32 (mx_calls 154 3 35) from sn_275 32) hc7 rfl rfl rfl ?_
        refine Jif_ne (show mx_Sn _ _ 35 (mx_if_ne 41 38) from sn_275 35) (by omega) (fun q8 => ?_) (fun q8 => ?_)
        · skip
          refine mx_J.step (sn_275 41) (fun _ _ => rfl) ?_
          refine mx_J.step (sn_275 42) (fun _ _ => rfl) ?_
          obtain ⟨Z9, h9, hc9, hx9, hG9, hf9⟩ := ct_271_56 (d := d + 45) (l := l) (D := D) (b0 := b0) (ad := ad) (Hb := Hb) (tau := tau) hx1 hG1 (show 0 ≤ x1 ∧ x1 ≤ 7 by omega)
          refine Jcv0 hx1 (show mx_Sn _ _ 43 (mx_callv 271 2 12 46) from sn_275 43) a56 s56 hc9 rfl rfl rfl ?_
          refine JcL (z := 0) (show mx_Sn _ _ 46 (mx_const (.long 0) 47) from sn_275 46) rfl ?_
          refine mx_J.step (ls2 := [some (.ref 56), some (xI x0), some (xI x1), some (xI x2), some (xL 0), none, none]) (sn_275 47) (fun _ _ => rfl) ?_
          refine JcI (z := 0) (show mx_Sn _ _ 49 (mx_const (.int 0) 50) from sn_275 49) rfl ?_
          refine mx_J.step (ls2 := [some (.ref 56), some (xI x0), some (xI x1), some (xI x2), some (xL 0), none, some (xI 0)]) (sn_275 50) (fun _ _ => rfl) ?_
          have c52 : ∀ (m10 : Nat) (w10_4 : Int) (w10_6 : Int), 385 - w10_6 < (m10 : Int) → (-9223372036854775808) ≤ w10_4 ∧ w10_4 ≤ 9223372036854775807 → 0 ≤ w10_6 ∧ w10_6 ≤ 385 → mx_J (tB l D b0 ad Hb tau) mt_275 (d + 50) 52 [some (.ref 56), some (xI x0), some (xI x1), some (xI x2), some (xL w10_4), none, some (xI w10_6)] [] h9 Post := by
            intro m10
            induction m10 with
            | zero => intro w10_4 w10_6 q10 f10_0 f10_1; exact absurd q10 (by omega)
            | succ m10 ih10 =>
              intro w10_4 w10_6 q10 f10_0 f10_1
              refine mx_J.step (sn_275 52) (fun _ _ => rfl) ?_
              refine mx_J.step (sn_275 54) (fun _ _ => rfl) ?_
              have b12 : 0 ≤ Z 56 18 ∧ Z 56 18 ≤ 385 := hG.pr 56 18
              refine JgetI (g := 18) (z := Z 56 18) hx9 (show mx_Sn _ _ 55 (mx_getf 12 18 58) from sn_275 55) a56 s56 rfl rfl ((hf9 56 18 rfl).trans (up_ni hE1 (by decide))) ?_
              refine Jicmp_ge (show mx_Sn _ _ 58 (mx_icmp_ge 93 61) from sn_275 58) (by omega) (by omega) (fun q13 => ?_) (fun q13 => ?_)
              · skip
                refine mx_J.step (sn_275 93) (fun _ _ => rfl) ?_
                refine mx_J.step (sn_275 95) (fun _ _ => rfl) ?_
                obtain ⟨z14, hc14, b14⟩ := ct_272_ (d := d + 49) (l := l) (D := D) (b0 := b0) (ad := ad) (Hb := Hb) (tau := tau) hx9 hG9 (show 0 ≤ x1 ∧ x1 ≤ 7 by omega)
                refine Jcs (show mx_Sn _ _ 96 (mx_calls 272 1 99) from sn_275 96) hc14 rfl rfl rfl ?_
                refine mx_J.step (sn_275 99) (fun _ _ => rfl) ?_
                obtain ⟨z15, hc15, b15⟩ := ct_274_ (d := d + 0) (l := l) (D := D) (b0 := b0) (ad := ad) (Hb := Hb) (tau := tau) hx9 hG9 (show (-9223372036854775808) ≤ w10_4 ∧ w10_4 ≤ 9223372036854775807 by omega) (show 1 ≤ z14 ∧ z14 ≤ 10000000 by omega) (show 0 ≤ x2 ∧ x2 ≤ 1 by omega)
                refine Jcs (show mx_Sn _ _ 100 (mx_calls 274 3 103) from sn_275 100) hc15 rfl rfl rfl ?_
                exact mx_J.ret (sn_275 103) (fun _ _ => rfl) (hP z15 Z9 h9 hx9 hG9 (fr_tr (M := [(56, 0), (62, (-1)), (64, (-1)), (65, (-1)), (76, (-1)), (77, (-1))]) (fr_tr (M := [(56, 0), (62, (-1)), (64, (-1)), (65, (-1)), (76, (-1)), (77, (-1))]) fr_rf (fr_up hE1) (M1 := []) rfl rfl) (hf9) rfl rfl) (by omega))
              · skip
                refine mx_J.step (sn_275 61) (fun _ _ => rfl) ?_
                refine mx_J.step (sn_275 63) (fun _ _ => rfl) ?_
                refine mx_J.step (sn_275 64) (fun _ _ => rfl) ?_
                have eq17 : mn Z9 w10_6 = mn Z w10_6 := ((mn_c (fun i => hf9 61 i rfl)).trans (mn_c (fun i => up_nk hE1 rfl)))
                obtain ⟨z16, hc16, b16⟩ := ct_191_56 (d := d + 48) (l := l) (D := D) (b0 := b0) (ad := ad) (Hb := Hb) (tau := tau) hx9 hG9 (show 0 ≤ w10_6 ∧ w10_6 ≤ 384 by omega)
                refine Jcv hx9 (show mx_Sn _ _ 66 (mx_callv 191 2 12 69) from sn_275 66) a56 s56 hc16 rfl rfl rfl ?_
                refine mx_J.step (sn_275 69) (fun _ _ => rfl) ?_
                have c84 : ∀ (k18_1 : Int), (-9223372036854775808) ≤ k18_1 ∧ k18_1 ≤ 9223372036854775807 → mx_J (tB l D b0 ad Hb tau) mt_275 (d + 50) 84 [some (.ref 56), some (xI x0), some (xI x1), some (xI x2), some (xL w10_4), none, some (xI w10_6)] [xL k18_1, xL w10_4] h9 Post := by
                  intro k18_1 f18_0
                  refine JladdN (show mx_Sn _ _ 84 (mx_ladd 85) from sn_275 84) (fun y19 hy19 hq19 => ?_)
                  refine mx_J.step (ls2 := [some (.ref 56), some (xI x0), some (xI x1), some (xI x2), some (xL y19), none, some (xI w10_6)]) (sn_275 85) (fun _ _ => rfl) ?_
                  refine Jiinc (z := w10_6) (cz := 1) (ls2 := [some (.ref 56), some (xI x0), some (xI x1), some (xI x2), some (xL y19), none, some (xI (w10_6 + 1))]) (show mx_Sn _ _ 87 (mx_iinc 6 1 90) from sn_275 87) rfl rfl rfl rfl ?_
                  refine mx_J.step (sn_275 90) (fun _ _ => rfl) ?_
                  exact ih10 y19 (w10_6 + 1) (by omega) (by omega) (by omega)
                refine Jicmp_gt (show mx_Sn _ _ 70 (mx_icmp_gt 83 73) from sn_275 70) (by omega) (by omega) (fun q20 => ?_) (fun q20 => ?_)
                · skip
                  refine JcL (z := 0) (show mx_Sn _ _ 83 (mx_const (.long 0) 84) from sn_275 83) rfl ?_
                  exact c84 0 (by omega)
                · skip
                  refine mx_J.step (sn_275 73) (fun _ _ => rfl) ?_
                  refine JgetR (g := 35) (b := 76) hx9 (show mx_Sn _ _ 74 (mx_getf 12 35 77) from sn_275 74) a56 s56 rfl rfl (hG9.prr 56 35 rfl) ?_
                  refine mx_J.step (sn_275 77) (fun _ _ => rfl) ?_
                  have b22 : (-9223372036854775808) ≤ Z9 76 w10_6 ∧ Z9 76 w10_6 ≤ 9223372036854775807 := hG9.pr 76 w10_6
                  refine JlaldL (z := Z9 76 w10_6) hx9 (show mx_Sn _ _ 79 (mx_lald 80) from sn_275 79) a76 s76 (by omega) rfl ?_
                  refine mx_J.step (sn_275 80) (fun _ _ => rfl) ?_
                  exact c84 (Z9 76 w10_6) (by omega)
          exact c52 (Int.toNat (385 - 0) + 1) 0 0 (by omega) (by omega) (by omega)
        · skip
          exact c38 
    · skip
      refine JcI (z := (-2)) (show mx_Sn _ _ 15 (mx_const (.int (-2)) 17) from sn_275 15) rfl ?_
      exact mx_J.ret (sn_275 17) (fun _ _ => rfl) (hP (-2) Z1 h1 hx1 hG1 (fr_tr (M := [(56, 0), (62, (-1)), (64, (-1)), (65, (-1)), (76, (-1)), (77, (-1))]) fr_rf (fr_up hE1) (M1 := []) rfl rfl) (by omega))
theorem ct_275_56 {l : Launch} {D : va_G} {b0 : Nat} {ad : Nat → Nat} {Hb : Heap} {tau : Nat → Int64} {d n s : Nat} {S : Nat → xS} {Z : xZ} {h : mx_H} (hx : XH n s S Z h) (hG : GI n S Z)  {x0 x1 x2 : Int} (p0 : (-2147483648) ≤ x0 ∧ x0 ≤ 2147483647) (p1 : (-2147483648) ≤ x1 ∧ x1 ≤ 2147483647) (p2 : (-2147483648) ≤ x2 ∧ x2 ≤ 2147483647) : ∃ (z : Int) (Z' : xZ) (h' : mx_H), mx_Ca (tB l D b0 ad Hb tau) (d + 51) 275 [.ref 56, xI x0, xI x1, xI x2] h (some (xI z), h') ∧ XH n s S Z' h' ∧ GI n S Z' ∧ fr' [(56, 0), (62, (-1)), (64, (-1)), (65, (-1)), (76, (-1)), (77, (-1))] Z Z' ∧ ((-2147483648) ≤ z ∧ z ≤ 2147483647) := by
  obtain ⟨r, hca, z, Z', h', e, q⟩ := Jmt (B := tB l D b0 ad Hb tau) (M := mt_275) (mi := 275) (as := [.ref 56, xI x0, xI x1, xI x2]) (d := d + 50) (ls := [some (.ref 56), some (xI x0), some (xI x1), some (xI x2), none, none, none]) rfl rfl rfl rfl rfl rfl (cw_275_56 (l := l) (D := D) (b0 := b0) (ad := ad) (Hb := Hb) (tau := tau) (d := d) (Post := fun r => ∃ (z : Int) (Z' : xZ) (h' : mx_H), r = (some (xI z), h') ∧ XH n s S Z' h' ∧ GI n S Z' ∧ fr' [(56, 0), (62, (-1)), (64, (-1)), (65, (-1)), (76, (-1)), (77, (-1))] Z Z' ∧ ((-2147483648) ≤ z ∧ z ≤ 2147483647)) hx hG p0 p1 p2 (fun z Z' h' q1 q2 q3 q4 => ⟨z, Z', h', rfl, q1, q2, q3, q4⟩))
  subst e; exact ⟨z, Z', h', hca, q⟩
set_option maxRecDepth 100000 in
theorem cw_276_56 {l : Launch} {D : va_G} {b0 : Nat} {ad : Nat → Nat} {Hb : Heap} {tau : Nat → Int64} {d n s : Nat} {S : Nat → xS} {Z : xZ} {h : mx_H} {Post : mx_R → Prop} (hx : XH n s S Z h) (hG : GI n S Z)  {x0 x1 : Int} (p0 : (-2147483648) ≤ x0 ∧ x0 ≤ 2147483647) (p1 : (-2147483648) ≤ x1 ∧ x1 ≤ 2147483647) (hP : ∀ (z : Int) (Z' : xZ) (h' : mx_H), XH n s S Z' h' → GI n S Z' → fr' [(56, 0), (62, (-1)), (64, (-1)), (65, (-1)), (76, (-1)), (77, (-1))] Z Z' → (-2147483648) ≤ z ∧ z ≤ 2147483647 → Post (some (xI z), h')) : mx_J (tB l D b0 ad Hb tau) mt_276 (d + 50) 0 [some (.ref 56), some (xI x0), some (xI x1), none, none, none] [] h Post := by
    have a56 : 56 < n := lt83 (GI_n hG) rfl
    have s56 : S 56 = .inl (12, [0, 2, 2, 2, 2, 0, 0, 0, 0, 0, 0, 0, 0, 0, 0, 2, 2, 2, 0, 2, 2, 2, 0, 0, 2, 2, 2, 2, 2, 2, 0, 0, 2, 2, 2, 2, 2, 2, 2, 2, 2, 2]) := GI_s hG 56 rfl
    have a76 : 76 < n := lt83 (GI_n hG) rfl
    have s76 : S 76 = .inr (.long, 385, 1) := GI_s hG 76 rfl
    refine mx_J.step (sn_276 0) (fun _ _ => rfl) ?_
    refine JcI (z := 0) (show mx_Sn _ _ 1 (mx_const (.int 0) 2) from sn_276 1) rfl ?_
    refine JputI (g := 0) hx (show mx_Sn _ _ 2 (mx_putf 1 12 0 (.int) 5) from sn_276 2) a56 s56 rfl rfl rfl rfl (fun Z1 h1 hx1 hE1 => ?_)
    have hG1 := GI_up hG hE1 (show (-2147483648) ≤ 0 ∧ 0 ≤ 2147483647 by omega) trivial rfl
    refine mx_J.step (sn_276 5) (fun _ _ => rfl) ?_
    refine Ji2l (show mx_Sn _ _ 6 (mx_i2l 7) from sn_276 6) (by omega) ?_
    refine JcL (z := 0) (show mx_Sn _ _ 7 (mx_const (.long 0) 8) from sn_276 7) rfl ?_
    refine JcL (z := 1) (show mx_Sn _ _ 8 (mx_const (.long 1) 9) from sn_276 8) rfl ?_
    obtain ⟨z2, hc2, b2⟩ := ct_154_ (d := d + 49) (l := l) (D := D) (b0 := b0) (ad := ad) (Hb := Hb) (tau := tau) hx1 hG1 (show (-9223372036854775808) ≤ x1 ∧ x1 ≤ 9223372036854775807 by omega) (show (-9223372036854775808) ≤ 0 ∧ 0 ≤ 9223372036854775807 by omega) (show (-9223372036854775808) ≤ 1 ∧ 1 ≤ 9223372036854775807 by omega)
    refine Jcs (show mx_Sn _ _ 9 (mx_calls 154 3 12) from sn_276 9) hc2 rfl rfl rfl ?_
    refine Jif_ne (show mx_Sn _ _ 12 (mx_if_ne 18 15) from sn_276 12) (by omega) (fun q3 => ?_) (fun q3 => ?_)
    · skip
      refine mx_J.step (sn_276 18) (fun _ _ => rfl) ?_
      refine Ji2l (show mx_Sn _ _ 19 (mx_i2l 20) from sn_276 19) (by omega) ?_
      refine JcL (z := 0) (show mx_Sn _ _ 20 (mx_const (.long 0) 21) from sn_276 20) rfl ?_
      refine JcL (z := 7) (show mx_Sn _ _ 21 (mx_const (.long 7) 24) from sn_276 21) rfl ?_
      obtain ⟨z4, hc4, b4⟩ := ct_154_ (d := d + 49) (l := l) (D := D) (b0 := b0) (ad := ad) (Hb := Hb) (tau := tau) hx1 hG1 (show (-9223372036854775808) ≤ x0 ∧ x0 ≤ 9223372036854775807 by omega) (show (-9223372036854775808) ≤ 0 ∧ 0 ≤ 9223372036854775807 by omega) (show (-9223372036854775808) ≤ 7 ∧ 7 ≤ 9223372036854775807 by omega)
      refine Jcs (show mx_Sn _ _ 24 (mx_calls 154 3 27) from sn_276 24) hc4 rfl rfl rfl ?_
      refine Jif_ne (show mx_Sn _ _ 27 (mx_if_ne 33 30) from sn_276 27) (by omega) (fun q5 => ?_) (fun q5 => ?_)
      · skip
        refine mx_J.step (sn_276 33) (fun _ _ => rfl) ?_
        refine mx_J.step (sn_276 34) (fun _ _ => rfl) ?_
        obtain ⟨Z6, h6, hc6, hx6, hG6, hf6⟩ := ct_271_56 (d := d + 45) (l := l) (D := D) (b0 := b0) (ad := ad) (Hb := Hb) (tau := tau) hx1 hG1 (show 0 ≤ x0 ∧ x0 ≤ 7 by omega)
        refine Jcv0 hx1 (show mx_Sn _ _ 35 (mx_callv 271 2 12 38) from sn_276 35) a56 s56 hc6 rfl rfl rfl ?_
        refine JcL (z := 0) (show mx_Sn _ _ 38 (mx_const (.long 0) 39) from sn_276 38) rfl ?_
        refine mx_J.step (ls2 := [some (.ref 56), some (xI x0), some (xI x1), some (xL 0), none, none]) (sn_276 39) (fun _ _ => rfl) ?_
        refine JcI (z := 0) (show mx_Sn _ _ 40 (mx_const (.int 0) 41) from sn_276 40) rfl ?_
        refine mx_J.step (ls2 := [some (.ref 56), some (xI x0), some (xI x1), some (xL 0), none, some (xI 0)]) (sn_276 41) (fun _ _ => rfl) ?_
        have c43 : ∀ (m7 : Nat) (w7_3 : Int) (w7_5 : Int), 385 - w7_5 < (m7 : Int) → (-9223372036854775808) ≤ w7_3 ∧ w7_3 ≤ 9223372036854775807 → 0 ≤ w7_5 ∧ w7_5 ≤ 385 → mx_J (tB l D b0 ad Hb tau) mt_276 (d + 50) 43 [some (.ref 56), some (xI x0), some (xI x1), some (xL w7_3), none, some (xI w7_5)] [] h6 Post := by
          intro m7
          induction m7 with
          | zero => intro w7_3 w7_5 q7 f7_0 f7_1; exact absurd q7 (by omega)
          | succ m7 ih7 =>
            intro w7_3 w7_5 q7 f7_0 f7_1
            refine mx_J.step (sn_276 43) (fun _ _ => rfl) ?_
            refine mx_J.step (sn_276 45) (fun _ _ => rfl) ?_
            have b9 : 0 ≤ Z 56 18 ∧ Z 56 18 ≤ 385 := hG.pr 56 18
            refine JgetI (g := 18) (z := Z 56 18) hx6 (show mx_Sn _ _ 46 (mx_getf 12 18 49) from sn_276 46) a56 s56 rfl rfl ((hf6 56 18 rfl).trans (up_ni hE1 (by decide))) ?_
            refine Jicmp_ge (show mx_Sn _ _ 49 (mx_icmp_ge 77 52) from sn_276 49) (by omega) (by omega) (fun q10 => ?_) (fun q10 => ?_)
            · skip
              refine mx_J.step (sn_276 77) (fun _ _ => rfl) ?_
              refine mx_J.step (sn_276 78) (fun _ _ => rfl) ?_
              obtain ⟨z11, hc11, b11⟩ := ct_272_ (d := d + 49) (l := l) (D := D) (b0 := b0) (ad := ad) (Hb := Hb) (tau := tau) hx6 hG6 (show 0 ≤ x0 ∧ x0 ≤ 7 by omega)
              refine Jcs (show mx_Sn _ _ 79 (mx_calls 272 1 82) from sn_276 79) hc11 rfl rfl rfl ?_
              refine mx_J.step (sn_276 82) (fun _ _ => rfl) ?_
              obtain ⟨z12, hc12, b12⟩ := ct_274_ (d := d + 0) (l := l) (D := D) (b0 := b0) (ad := ad) (Hb := Hb) (tau := tau) hx6 hG6 (show (-9223372036854775808) ≤ w7_3 ∧ w7_3 ≤ 9223372036854775807 by omega) (show 1 ≤ z11 ∧ z11 ≤ 10000000 by omega) (show 0 ≤ x1 ∧ x1 ≤ 1 by omega)
              refine Jcs (show mx_Sn _ _ 83 (mx_calls 274 3 86) from sn_276 83) hc12 rfl rfl rfl ?_
              exact mx_J.ret (sn_276 86) (fun _ _ => rfl) (hP z12 Z6 h6 hx6 hG6 (fr_tr (M := [(56, 0), (62, (-1)), (64, (-1)), (65, (-1)), (76, (-1)), (77, (-1))]) (fr_tr (M := [(56, 0), (62, (-1)), (64, (-1)), (65, (-1)), (76, (-1)), (77, (-1))]) fr_rf (fr_up hE1) (M1 := []) rfl rfl) (hf6) rfl rfl) (by omega))
            · skip
              refine mx_J.step (sn_276 52) (fun _ _ => rfl) ?_
              refine mx_J.step (sn_276 53) (fun _ _ => rfl) ?_
              refine JgetR (g := 35) (b := 76) hx6 (show mx_Sn _ _ 54 (mx_getf 12 35 57) from sn_276 54) a56 s56 rfl rfl (hG6.prr 56 35 rfl) ?_
              refine mx_J.step (sn_276 57) (fun _ _ => rfl) ?_
              have b14 : (-9223372036854775808) ≤ Z6 76 w7_5 ∧ Z6 76 w7_5 ≤ 9223372036854775807 := hG6.pr 76 w7_5
              refine JlaldL (z := Z6 76 w7_5) hx6 (show mx_Sn _ _ 59 (mx_lald 60) from sn_276 59) a76 s76 (by omega) rfl ?_
              refine mx_J.step (sn_276 60) (fun _ _ => rfl) ?_
              refine mx_J.step (sn_276 61) (fun _ _ => rfl) ?_
              refine JcI (z := 0) (show mx_Sn _ _ 63 (mx_const (.int 0) 64) from sn_276 63) rfl ?_
              have eq16 : Z6 61 (18 * w7_5 + 0) = Z 61 (18 * w7_5 + 0) := ((hf6 61 (18 * w7_5 + 0) rfl).trans (up_nk hE1 rfl))
              have b17 : 0 ≤ Z 61 (18 * w7_5 + 0) ∧ Z 61 (18 * w7_5 + 0) ≤ 18 := hG.pr 61 (18 * w7_5 + 0)
              obtain ⟨z15, hc15, b15⟩ := ct_190_56 (d := d + 49) (l := l) (D := D) (b0 := b0) (ad := ad) (Hb := Hb) (tau := tau) hx6 hG6 (show 0 ≤ w7_5 ∧ w7_5 ≤ 384 by omega) (show 0 ≤ 0 ∧ 0 ≤ 17 by omega)
              try rw [eq16] at b15
              refine Jcv hx6 (show mx_Sn _ _ 64 (mx_callv 190 3 12 67) from sn_276 64) a56 s56 hc15 rfl rfl rfl ?_
              refine Ji2l (show mx_Sn _ _ 67 (mx_i2l 68) from sn_276 67) (by omega) ?_
              refine JlmulN (show mx_Sn _ _ 68 (mx_lmul 69) from sn_276 68) (fun y18 hy18 hq18 => ?_)
              refine JladdN (show mx_Sn _ _ 69 (mx_ladd 70) from sn_276 69) (fun y19 hy19 hq19 => ?_)
              refine mx_J.step (ls2 := [some (.ref 56), some (xI x0), some (xI x1), some (xL y19), none, some (xI w7_5)]) (sn_276 70) (fun _ _ => rfl) ?_
              refine Jiinc (z := w7_5) (cz := 1) (ls2 := [some (.ref 56), some (xI x0), some (xI x1), some (xL y19), none, some (xI (w7_5 + 1))]) (show mx_Sn _ _ 71 (mx_iinc 5 1 74) from sn_276 71) rfl rfl rfl rfl ?_
              refine mx_J.step (sn_276 74) (fun _ _ => rfl) ?_
              exact ih7 y19 (w7_5 + 1) (by omega) (by omega) (by omega)
        exact c43 (Int.toNat (385 - 0) + 1) 0 0 (by omega) (by omega) (by omega)
      · skip
        refine JcI (z := (-3)) (show mx_Sn _ _ 30 (mx_const (.int (-3)) 32) from sn_276 30) rfl ?_
        exact mx_J.ret (sn_276 32) (fun _ _ => rfl) (hP (-3) Z1 h1 hx1 hG1 (fr_tr (M := [(56, 0), (62, (-1)), (64, (-1)), (65, (-1)), (76, (-1)), (77, (-1))]) fr_rf (fr_up hE1) (M1 := []) rfl rfl) (by omega))
    · skip
      refine JcI (z := (-2)) (show mx_Sn _ _ 15 (mx_const (.int (-2)) 17) from sn_276 15) rfl ?_
      exact mx_J.ret (sn_276 17) (fun _ _ => rfl) (hP (-2) Z1 h1 hx1 hG1 (fr_tr (M := [(56, 0), (62, (-1)), (64, (-1)), (65, (-1)), (76, (-1)), (77, (-1))]) fr_rf (fr_up hE1) (M1 := []) rfl rfl) (by omega))
theorem ct_276_56 {l : Launch} {D : va_G} {b0 : Nat} {ad : Nat → Nat} {Hb : Heap} {tau : Nat → Int64} {d n s : Nat} {S : Nat → xS} {Z : xZ} {h : mx_H} (hx : XH n s S Z h) (hG : GI n S Z)  {x0 x1 : Int} (p0 : (-2147483648) ≤ x0 ∧ x0 ≤ 2147483647) (p1 : (-2147483648) ≤ x1 ∧ x1 ≤ 2147483647) : ∃ (z : Int) (Z' : xZ) (h' : mx_H), mx_Ca (tB l D b0 ad Hb tau) (d + 51) 276 [.ref 56, xI x0, xI x1] h (some (xI z), h') ∧ XH n s S Z' h' ∧ GI n S Z' ∧ fr' [(56, 0), (62, (-1)), (64, (-1)), (65, (-1)), (76, (-1)), (77, (-1))] Z Z' ∧ ((-2147483648) ≤ z ∧ z ≤ 2147483647) := by
  obtain ⟨r, hca, z, Z', h', e, q⟩ := Jmt (B := tB l D b0 ad Hb tau) (M := mt_276) (mi := 276) (as := [.ref 56, xI x0, xI x1]) (d := d + 50) (ls := [some (.ref 56), some (xI x0), some (xI x1), none, none, none]) rfl rfl rfl rfl rfl rfl (cw_276_56 (l := l) (D := D) (b0 := b0) (ad := ad) (Hb := Hb) (tau := tau) (d := d) (Post := fun r => ∃ (z : Int) (Z' : xZ) (h' : mx_H), r = (some (xI z), h') ∧ XH n s S Z' h' ∧ GI n S Z' ∧ fr' [(56, 0), (62, (-1)), (64, (-1)), (65, (-1)), (76, (-1)), (77, (-1))] Z Z' ∧ ((-2147483648) ≤ z ∧ z ≤ 2147483647)) hx hG p0 p1 (fun z Z' h' q1 q2 q3 q4 => ⟨z, Z', h', rfl, q1, q2, q3, q4⟩))
  subst e; exact ⟨z, Z', h', hca, q⟩
set_option maxRecDepth 100000 in
theorem cw_255_56 {l : Launch} {D : va_G} {b0 : Nat} {ad : Nat → Nat} {Hb : Heap} {tau : Nat → Int64} {d n s : Nat} {S : Nat → xS} {Z : xZ} {h : mx_H} {Post : mx_R → Prop} (hx : XH n s S Z h) (hG : GI n S Z)  {x0 x1 : Int} (p0 : (-2147483648) ≤ x0 ∧ x0 ≤ 2147483647) (p1 : 0 ≤ x1 ∧ x1 ≤ 1) (hP : ∀ z : Int, (-6) ≤ z ∧ z ≤ 0 ∧ (z = 0 → (0 ≤ x0 ∧ x0 ≤ 3 ∧ 1 ≤ Z 81 x0 ∧ Z 81 x0 ≤ 8)) → Post (some (xI z), h)) : mx_J (tB l D b0 ad Hb tau) mt_255 (d + 2) 0 [some (.ref 56), some (xI x0), some (xI x1), none, none, none, none] [] h Post := by
    have a56 : 56 < n := lt83 (GI_n hG) rfl
    have s56 : S 56 = .inl (12, [0, 2, 2, 2, 2, 0, 0, 0, 0, 0, 0, 0, 0, 0, 0, 2, 2, 2, 0, 2, 2, 2, 0, 0, 2, 2, 2, 2, 2, 2, 0, 0, 2, 2, 2, 2, 2, 2, 2, 2, 2, 2]) := GI_s hG 56 rfl
    have a81 : 81 < n := lt83 (GI_n hG) rfl
    have s81 : S 81 = .inr (.int, 4, 0) := GI_s hG 81 rfl
    have a82 : 82 < n := lt83 (GI_n hG) rfl
    have s82 : S 82 = .inr (.long, 160, 1) := GI_s hG 82 rfl
    refine mx_J.step (sn_255 0) (fun _ _ => rfl) ?_
    refine mx_J.step (sn_255 1) (fun _ _ => rfl) ?_
    have b2 : (-1) ≤ Z 80 x0 ∧ Z 80 x0 ≤ 3 := hG.pr 80 x0
    obtain ⟨z1, hc1, b1⟩ := ct_220_56 (d := d + 0) (l := l) (D := D) (b0 := b0) (ad := ad) (Hb := Hb) (tau := tau) hx hG (show (-2147483648) ≤ x0 ∧ x0 ≤ 2147483647 by omega)
    refine Jcv hx (show mx_Sn _ _ 2 (mx_callv 220 2 12 5) from sn_255 2) a56 s56 hc1 rfl rfl rfl ?_
    refine mx_J.step (ls2 := [some (.ref 56), some (xI x0), some (xI x1), some (xI z1), none, none, none]) (sn_255 5) (fun _ _ => rfl) ?_
    refine mx_J.step (sn_255 6) (fun _ _ => rfl) ?_
    refine Jif_eq (show mx_Sn _ _ 7 (mx_if_eq 12 10) from sn_255 7) (by omega) (fun q3 => ?_) (fun q3 => ?_)
    · skip
      refine mx_J.step (sn_255 12) (fun _ _ => rfl) ?_
      refine JgetR (g := 40) (b := 81) hx (show mx_Sn _ _ 13 (mx_getf 12 40 16) from sn_255 13) a56 s56 rfl rfl (hG.prr 56 40 rfl) ?_
      refine mx_J.step (sn_255 16) (fun _ _ => rfl) ?_
      have b5 : 0 ≤ Z 81 x0 ∧ Z 81 x0 ≤ 40 := hG.pr 81 x0
      refine JialdI (z := Z 81 x0) hx (show mx_Sn _ _ 17 (mx_iald 18) from sn_255 17) a81 s81 (by omega) rfl ?_
      refine Ji2l (show mx_Sn _ _ 18 (mx_i2l 19) from sn_255 18) (by omega) ?_
      refine JcL (z := 1) (show mx_Sn _ _ 19 (mx_const (.long 1) 20) from sn_255 19) rfl ?_
      refine JcL (z := 8) (show mx_Sn _ _ 20 (mx_const (.long 8) 23) from sn_255 20) rfl ?_
      obtain ⟨z6, hc6, b6⟩ := ct_154_ (d := d + 1) (l := l) (D := D) (b0 := b0) (ad := ad) (Hb := Hb) (tau := tau) hx hG (show (-9223372036854775808) ≤ Z 81 x0 ∧ Z 81 x0 ≤ 9223372036854775807 by omega) (show (-9223372036854775808) ≤ 1 ∧ 1 ≤ 9223372036854775807 by omega) (show (-9223372036854775808) ≤ 8 ∧ 8 ≤ 9223372036854775807 by omega)
      refine Jcs (show mx_Sn _ _ 23 (mx_calls 154 3 26) from sn_255 23) hc6 rfl rfl rfl ?_
      refine Jif_ne (show mx_Sn _ _ 26 (mx_if_ne 32 29) from sn_255 26) (by omega) (fun q7 => ?_) (fun q7 => ?_)
      · skip
        refine JcI (z := 0) (show mx_Sn _ _ 32 (mx_const (.int 0) 33) from sn_255 32) rfl ?_
        refine mx_J.step (ls2 := [some (.ref 56), some (xI x0), some (xI x1), some (xI z1), some (xI 0), none, none]) (sn_255 33) (fun _ _ => rfl) ?_
        have c35 : ∀ (m8 : Nat) (w8_4 : Int) (u8_5 : Option Value) (u8_6 : Option Value), 40 - w8_4 < (m8 : Int) → 0 ≤ w8_4 ∧ w8_4 ≤ 40 → mx_J (tB l D b0 ad Hb tau) mt_255 (d + 2) 35 [some (.ref 56), some (xI x0), some (xI x1), some (xI z1), some (xI w8_4), u8_5, u8_6] [] h Post := by
          intro m8
          induction m8 with
          | zero => intro w8_4 u8_5 u8_6 q8 f8_0; exact absurd q8 (by omega)
          | succ m8 ih8 =>
            intro w8_4 u8_5 u8_6 q8 f8_0
            refine mx_J.step (sn_255 35) (fun _ _ => rfl) ?_
            refine mx_J.step (sn_255 37) (fun _ _ => rfl) ?_
            refine JgetR (g := 40) (b := 81) hx (show mx_Sn _ _ 38 (mx_getf 12 40 41) from sn_255 38) a56 s56 rfl rfl (hG.prr 56 40 rfl) ?_
            refine mx_J.step (sn_255 41) (fun _ _ => rfl) ?_
            refine JialdI (z := Z 81 x0) hx (show mx_Sn _ _ 42 (mx_iald 43) from sn_255 42) a81 s81 (by omega) rfl ?_
            refine Jicmp_ge (show mx_Sn _ _ 43 (mx_icmp_ge 90 46) from sn_255 43) (by omega) (by omega) (fun q10 => ?_) (fun q10 => ?_)
            · skip
              refine JcI (z := 0) (show mx_Sn _ _ 90 (mx_const (.int 0) 91) from sn_255 90) rfl ?_
              exact mx_J.ret (sn_255 91) (fun _ _ => rfl) (hP 0 (by omega))
            · skip
              refine mx_J.step (sn_255 46) (fun _ _ => rfl) ?_
              refine JgetR (g := 41) (b := 82) hx (show mx_Sn _ _ 47 (mx_getf 12 41 50) from sn_255 47) a56 s56 rfl rfl (hG.prr 56 41 rfl) ?_
              refine JcI (z := 40) (show mx_Sn _ _ 50 (mx_const (.int 40) 52) from sn_255 50) rfl ?_
              refine mx_J.step (sn_255 52) (fun _ _ => rfl) ?_
              refine Jimul (show mx_Sn _ _ 53 (mx_imul 54) from sn_255 53) ?_
              refine mx_J.step (sn_255 54) (fun _ _ => rfl) ?_
              refine Jiadd (show mx_Sn _ _ 56 (mx_iadd 57) from sn_255 56) ?_
              have b12 : (-9223372036854775808) ≤ Z 82 ((40 * x0) + w8_4) ∧ Z 82 ((40 * x0) + w8_4) ≤ 9223372036854775807 := hG.pr 82 ((40 * x0) + w8_4)
              refine JlaldL (z := Z 82 ((40 * x0) + w8_4)) hx (show mx_Sn _ _ 57 (mx_lald 58) from sn_255 57) a82 s82 (by omega) rfl ?_
              refine mx_J.step (ls2 := [some (.ref 56), some (xI x0), some (xI x1), some (xI z1), some (xI w8_4), some (xL (Z 82 ((40 * x0) + w8_4))), none]) (sn_255 58) (fun _ _ => rfl) ?_
              refine mx_J.step (sn_255 60) (fun _ _ => rfl) ?_
              obtain ⟨z13, hc13, b13⟩ := ct_208_ (d := d + 0) (l := l) (D := D) (b0 := b0) (ad := ad) (Hb := Hb) (tau := tau) hx hG (show (-9223372036854775808) ≤ Z 82 ((40 * x0) + w8_4) ∧ Z 82 ((40 * x0) + w8_4) ≤ 9223372036854775807 by omega)
              refine Jcs (show mx_Sn _ _ 62 (mx_calls 208 1 65) from sn_255 62) hc13 rfl rfl rfl ?_
              have c84 : mx_J (tB l D b0 ad Hb tau) mt_255 (d + 2) 84 [some (.ref 56), some (xI x0), some (xI x1), some (xI z1), some (xI w8_4), some (xL (Z 82 ((40 * x0) + w8_4))), none] [] h Post := by
                refine Jiinc (z := w8_4) (cz := 1) (ls2 := [some (.ref 56), some (xI x0), some (xI x1), some (xI z1), some (xI (w8_4 + 1)), some (xL (Z 82 ((40 * x0) + w8_4))), none]) (show mx_Sn _ _ 84 (mx_iinc 4 1 87) from sn_255 84) rfl rfl rfl rfl ?_
                refine mx_J.step (sn_255 87) (fun _ _ => rfl) ?_
                exact ih8 (w8_4 + 1) (some (xL (Z 82 ((40 * x0) + w8_4)))) none (by omega) (by omega)
              refine Jif_ne (show mx_Sn _ _ 65 (mx_if_ne 84 68) from sn_255 65) (by omega) (fun q15 => ?_) (fun q15 => ?_)
              · skip
                exact c84 
              · skip
                refine mx_J.step (sn_255 68) (fun _ _ => rfl) ?_
                have c81 : mx_J (tB l D b0 ad Hb tau) mt_255 (d + 2) 81 [some (.ref 56), some (xI x0), some (xI x1), some (xI z1), some (xI w8_4), some (xL (Z 82 ((40 * x0) + w8_4))), none] [] h Post := by
                  refine JcI (z := (-3)) (show mx_Sn _ _ 81 (mx_const (.int (-3)) 83) from sn_255 81) rfl ?_
                  exact mx_J.ret (sn_255 83) (fun _ _ => rfl) (hP (-3) (by omega))
                refine Jif_eq (show mx_Sn _ _ 69 (mx_if_eq 81 72) from sn_255 69) (by omega) (fun q17 => ?_) (fun q17 => ?_)
                · skip
                  exact c81 
                · skip
                  refine mx_J.step (sn_255 72) (fun _ _ => rfl) ?_
                  refine JcL (z := (-1)) (show mx_Sn _ _ 74 (mx_const (.long (-1)) 77) from sn_255 74) rfl ?_
                  refine Jlif_eq (show mx_Sn _ _ 77 (mx_lif_eq 84 81) from sn_255 77) (by omega) (by omega) (fun q18 => ?_) (fun q18 => ?_)
                  · skip
                    exact c84 
                  · skip
                    exact c81 
        exact c35 (Int.toNat (40 - 0) + 1) 0 none none (by omega) (by omega)
      · skip
        refine JcI (z := (-4)) (show mx_Sn _ _ 29 (mx_const (.int (-4)) 31) from sn_255 29) rfl ?_
        exact mx_J.ret (sn_255 31) (fun _ _ => rfl) (hP (-4) (by omega))
    · skip
      refine mx_J.step (sn_255 10) (fun _ _ => rfl) ?_
      have b19 : 0 ≤ Z 81 x0 ∧ Z 81 x0 ≤ 40 := hG.pr 81 x0
      exact mx_J.ret (sn_255 11) (fun _ _ => rfl) (hP z1 (by omega))
theorem ct_255_56 {l : Launch} {D : va_G} {b0 : Nat} {ad : Nat → Nat} {Hb : Heap} {tau : Nat → Int64} {d n s : Nat} {S : Nat → xS} {Z : xZ} {h : mx_H} (hx : XH n s S Z h) (hG : GI n S Z)  {x0 x1 : Int} (p0 : (-2147483648) ≤ x0 ∧ x0 ≤ 2147483647) (p1 : 0 ≤ x1 ∧ x1 ≤ 1) : ∃ z : Int, mx_Ca (tB l D b0 ad Hb tau) (d + 3) 255 [.ref 56, xI x0, xI x1] h (some (xI z), h) ∧ ((-6) ≤ z ∧ z ≤ 0 ∧ (z = 0 → (0 ≤ x0 ∧ x0 ≤ 3 ∧ 1 ≤ Z 81 x0 ∧ Z 81 x0 ≤ 8))) := by
  obtain ⟨r, hca, z, e, hp⟩ := Jmt (B := tB l D b0 ad Hb tau) (M := mt_255) (mi := 255) (as := [.ref 56, xI x0, xI x1]) (d := d + 2) (ls := [some (.ref 56), some (xI x0), some (xI x1), none, none, none, none]) rfl rfl rfl rfl rfl rfl (cw_255_56 (l := l) (D := D) (b0 := b0) (ad := ad) (Hb := Hb) (tau := tau) (d := d) (Post := fun r => ∃ z : Int, r = (some (xI z), h) ∧ ((-6) ≤ z ∧ z ≤ 0 ∧ (z = 0 → (0 ≤ x0 ∧ x0 ≤ 3 ∧ 1 ≤ Z 81 x0 ∧ Z 81 x0 ≤ 8)))) hx hG p0 p1 (fun z hz => ⟨z, rfl, hz⟩))
  subst e; exact ⟨z, hca, hp⟩
set_option maxRecDepth 100000 in
theorem cw_256_56 {l : Launch} {D : va_G} {b0 : Nat} {ad : Nat → Nat} {Hb : Heap} {tau : Nat → Int64} {d n s : Nat} {S : Nat → xS} {Z : xZ} {h : mx_H} {Post : mx_R → Prop} (hx : XH n s S Z h) (hG : GI n S Z)  {x0 x1 x2 : Int} (p0 : 0 ≤ x0 ∧ x0 ≤ 3) (p1 : 0 ≤ x1 ∧ x1 ≤ 7) (p2 : (-1) ≤ x2 ∧ x2 ≤ 384) (hP : ∀ z : Int, 0 ≤ z ∧ z ≤ 1 ∧ z = io Z x0 x1 x2 → Post (some (xI z), h)) : mx_J (tB l D b0 ad Hb tau) mt_256 (d + 2) 0 [some (.ref 56), some (xI x0), some (xI x1), some (xI x2)] [] h Post := by
    have a56 : 56 < n := lt83 (GI_n hG) rfl
    have s56 : S 56 = .inl (12, [0, 2, 2, 2, 2, 0, 0, 0, 0, 0, 0, 0, 0, 0, 0, 2, 2, 2, 0, 2, 2, 2, 0, 0, 2, 2, 2, 2, 2, 2, 0, 0, 2, 2, 2, 2, 2, 2, 2, 2, 2, 2]) := GI_s hG 56 rfl
    have a82 : 82 < n := lt83 (GI_n hG) rfl
    have s82 : S 82 = .inr (.long, 160, 1) := GI_s hG 82 rfl
    refine mx_J.step (sn_256 0) (fun _ _ => rfl) ?_
    refine JcI (z := (-1)) (show mx_Sn _ _ 1 (mx_const (.int (-1)) 2) from sn_256 1) rfl ?_
    have c49 : ∀ (k1_0 : Int), 0 ≤ k1_0 ∧ k1_0 ≤ 1 → (k1_0 = io Z x0 x1 x2) → mx_J (tB l D b0 ad Hb tau) mt_256 (d + 2) 49 [some (.ref 56), some (xI x0), some (xI x1), some (xI x2)] [xI k1_0] h Post := by
      intro k1_0 f1_0 f1_1
      exact mx_J.ret (show mx_Sn _ _ 49 (mx_zret) from sn_256 49) (fun _ _ => zr_ok (by omega)) (hP k1_0 (by omega))
    have c48 : (x2 = -1 ∨ (¬ Z 82 (40 * x0 + x1) = -1 ∧ ¬ Z 82 (40 * x0 + x1) = mn Z x2)) → mx_J (tB l D b0 ad Hb tau) mt_256 (d + 2) 48 [some (.ref 56), some (xI x0), some (xI x1), some (xI x2)] [] h Post := by
      intro f2_0
      have ie := io_e Z x0 x1 x2
      refine JcI (z := 0) (show mx_Sn _ _ 48 (mx_const (.int 0) 49) from sn_256 48) rfl ?_
      exact c49 0 (by omega) (by omega)
    refine Jicmp_eq (show mx_Sn _ _ 2 (mx_icmp_eq 48 5) from sn_256 2) (by omega) (by omega) (fun q3 => ?_) (fun q3 => ?_)
    · skip
      exact c48 (by omega)
    · skip
      refine mx_J.step (sn_256 5) (fun _ _ => rfl) ?_
      refine JgetR (g := 41) (b := 82) hx (show mx_Sn _ _ 6 (mx_getf 12 41 9) from sn_256 6) a56 s56 rfl rfl (hG.prr 56 41 rfl) ?_
      refine JcI (z := 40) (show mx_Sn _ _ 9 (mx_const (.int 40) 11) from sn_256 9) rfl ?_
      refine mx_J.step (sn_256 11) (fun _ _ => rfl) ?_
      refine Jimul (show mx_Sn _ _ 12 (mx_imul 13) from sn_256 12) ?_
      refine mx_J.step (sn_256 13) (fun _ _ => rfl) ?_
      refine Jiadd (show mx_Sn _ _ 14 (mx_iadd 15) from sn_256 14) ?_
      have b5 : (-9223372036854775808) ≤ Z 82 ((40 * x0) + x1) ∧ Z 82 ((40 * x0) + x1) ≤ 9223372036854775807 := hG.pr 82 ((40 * x0) + x1)
      refine JlaldL (z := Z 82 ((40 * x0) + x1)) hx (show mx_Sn _ _ 15 (mx_lald 16) from sn_256 15) a82 s82 (by omega) rfl ?_
      refine JcL (z := (-1)) (show mx_Sn _ _ 16 (mx_const (.long (-1)) 19) from sn_256 16) rfl ?_
      have c44 : (¬ x2 = -1 ∧ (Z 82 (40 * x0 + x1) = -1 ∨ Z 82 (40 * x0 + x1) = mn Z x2)) → mx_J (tB l D b0 ad Hb tau) mt_256 (d + 2) 44 [some (.ref 56), some (xI x0), some (xI x1), some (xI x2)] [] h Post := by
        intro f6_0
        have ie := io_e Z x0 x1 x2
        refine JcI (z := 1) (show mx_Sn _ _ 44 (mx_const (.int 1) 45) from sn_256 44) rfl ?_
        refine mx_J.step (sn_256 45) (fun _ _ => rfl) ?_
        exact c49 1 (by omega) (by omega)
      refine Jlif_eq (show mx_Sn _ _ 19 (mx_lif_eq 44 23) from sn_256 19) (by omega) (by omega) (fun q7 => ?_) (fun q7 => ?_)
      · skip
        exact c44 (by omega)
      · skip
        refine mx_J.step (sn_256 23) (fun _ _ => rfl) ?_
        refine JgetR (g := 41) (b := 82) hx (show mx_Sn _ _ 24 (mx_getf 12 41 27) from sn_256 24) a56 s56 rfl rfl (hG.prr 56 41 rfl) ?_
        refine JcI (z := 40) (show mx_Sn _ _ 27 (mx_const (.int 40) 29) from sn_256 27) rfl ?_
        refine mx_J.step (sn_256 29) (fun _ _ => rfl) ?_
        refine Jimul (show mx_Sn _ _ 30 (mx_imul 31) from sn_256 30) ?_
        refine mx_J.step (sn_256 31) (fun _ _ => rfl) ?_
        refine Jiadd (show mx_Sn _ _ 32 (mx_iadd 33) from sn_256 32) ?_
        refine JlaldL (z := Z 82 ((40 * x0) + x1)) hx (show mx_Sn _ _ 33 (mx_lald 34) from sn_256 33) a82 s82 (by omega) rfl ?_
        refine mx_J.step (sn_256 34) (fun _ _ => rfl) ?_
        refine mx_J.step (sn_256 35) (fun _ _ => rfl) ?_
        obtain ⟨z9, hc9, b9⟩ := ct_191_56 (d := d + 0) (l := l) (D := D) (b0 := b0) (ad := ad) (Hb := Hb) (tau := tau) hx hG (show 0 ≤ x2 ∧ x2 ≤ 384 by omega)
        refine Jcv hx (show mx_Sn _ _ 36 (mx_callv 191 2 12 39) from sn_256 36) a56 s56 hc9 rfl rfl rfl ?_
        refine Ji2l (show mx_Sn _ _ 39 (mx_i2l 40) from sn_256 39) (by omega) ?_
        refine Jlif_ne (show mx_Sn _ _ 40 (mx_lif_ne 48 44) from sn_256 40) (by omega) (by omega) (fun q10 => ?_) (fun q10 => ?_)
        · skip
          exact c48 (by omega)
        · skip
          exact c44 (by omega)
theorem ct_256_56 {l : Launch} {D : va_G} {b0 : Nat} {ad : Nat → Nat} {Hb : Heap} {tau : Nat → Int64} {d n s : Nat} {S : Nat → xS} {Z : xZ} {h : mx_H} (hx : XH n s S Z h) (hG : GI n S Z)  {x0 x1 x2 : Int} (p0 : 0 ≤ x0 ∧ x0 ≤ 3) (p1 : 0 ≤ x1 ∧ x1 ≤ 7) (p2 : (-1) ≤ x2 ∧ x2 ≤ 384) : ∃ z : Int, mx_Ca (tB l D b0 ad Hb tau) (d + 3) 256 [.ref 56, xI x0, xI x1, xI x2] h (some (xI z), h) ∧ (0 ≤ z ∧ z ≤ 1 ∧ z = io Z x0 x1 x2) := by
  obtain ⟨r, hca, z, e, hp⟩ := Jmt (B := tB l D b0 ad Hb tau) (M := mt_256) (mi := 256) (as := [.ref 56, xI x0, xI x1, xI x2]) (d := d + 2) (ls := [some (.ref 56), some (xI x0), some (xI x1), some (xI x2)]) rfl rfl rfl rfl rfl rfl (cw_256_56 (l := l) (D := D) (b0 := b0) (ad := ad) (Hb := Hb) (tau := tau) (d := d) (Post := fun r => ∃ z : Int, r = (some (xI z), h) ∧ (0 ≤ z ∧ z ≤ 1 ∧ z = io Z x0 x1 x2)) hx hG p0 p1 p2 (fun z hz => ⟨z, rfl, hz⟩))
  subst e; exact ⟨z, hca, hp⟩
set_option maxRecDepth 100000 in
theorem cw_257_56 {l : Launch} {D : va_G} {b0 : Nat} {ad : Nat → Nat} {Hb : Heap} {tau : Nat → Int64} {d n s : Nat} {S : Nat → xS} {Z : xZ} {h : mx_H} {Post : mx_R → Prop} {g0 : Int} (hx : XH n s S Z h) (hG : GI n S Z)  {x0 : Int} (p0 : 0 ≤ x0 ∧ x0 ≤ 3) (k0 : 1 ≤ Z 81 x0) (k1 : Z 81 x0 ≤ 8) (k2 : g0 = Z 57 27) (hP : ∀ (z : Int) (Z' : xZ) (h' : mx_H), XH n s S Z' h' → GI n S Z' → fr' [(62, (-1)), (64, (-1)), (65, (-1)), (73, (-1)), (78, (-1))] Z Z' → (-9223372036854775808) ≤ z ∧ z ≤ 9223372036854775807 ∧ (oc Z' x0 (Z 56 18) (Z 81 x0) (-1) 0 = 1 ∧ z = Z' 78 g0 ∧ ai 73 Z' (19 * Z 56 18) (-1) (Z 56 18 - 1) = 1) → Post (some (xL z), h')) : mx_J (tB l D b0 ad Hb tau) mt_257 (d + 6) 0 [some (.ref 56), some (xI x0), none, none, none, none, none, none, none] [] h Post := by
    have a56 : 56 < n := lt83 (GI_n hG) rfl
    have s56 : S 56 = .inl (12, [0, 2, 2, 2, 2, 0, 0, 0, 0, 0, 0, 0, 0, 0, 0, 2, 2, 2, 0, 2, 2, 2, 0, 0, 2, 2, 2, 2, 2, 2, 0, 0, 2, 2, 2, 2, 2, 2, 2, 2, 2, 2]) := GI_s hG 56 rfl
    have a57 : 57 < n := lt83 (GI_n hG) rfl
    have s57 : S 57 = .inr (.int, 2886, 0) := GI_s hG 57 rfl
    have a73 : 73 < n := lt83 (GI_n hG) rfl
    have s73 : S 73 = .inr (.int, 7315, 0) := GI_s hG 73 rfl
    have a78 : 78 < n := lt83 (GI_n hG) rfl
    have s78 : S 78 = .inr (.long, 3465, 1) := GI_s hG 78 rfl
    have a81 : 81 < n := lt83 (GI_n hG) rfl
    have s81 : S 81 = .inr (.int, 4, 0) := GI_s hG 81 rfl
    refine mx_J.step (sn_257 0) (fun _ _ => rfl) ?_
    have b2 : 0 ≤ Z 56 18 ∧ Z 56 18 ≤ 385 := hG.pr 56 18
    obtain ⟨Z1, h1, hc1, hx1, hG1, hf1, b1⟩ := ct_235_56 (d := d + 0) (l := l) (D := D) (b0 := b0) (ad := ad) (Hb := Hb) (tau := tau) hx hG 
    refine Jcv0 hx (show mx_Sn _ _ 1 (mx_callv 235 1 12 4) from sn_257 1) a56 s56 hc1 rfl rfl rfl ?_
    refine mx_J.step (sn_257 4) (fun _ _ => rfl) ?_
    refine JgetR (g := 40) (b := 81) hx1 (show mx_Sn _ _ 5 (mx_getf 12 40 8) from sn_257 5) a56 s56 rfl rfl (hG1.prr 56 40 rfl) ?_
    refine mx_J.step (sn_257 8) (fun _ _ => rfl) ?_
    have b4 : 0 ≤ Z 81 x0 ∧ Z 81 x0 ≤ 40 := hG.pr 81 x0
    refine JialdI (z := Z 81 x0) hx1 (show mx_Sn _ _ 9 (mx_iald 10) from sn_257 9) a81 s81 (by omega) (hf1 81 x0 rfl) ?_
    refine mx_J.step (ls2 := [some (.ref 56), some (xI x0), some (xI (Z 81 x0)), none, none, none, none, none, none]) (sn_257 10) (fun _ _ => rfl) ?_
    refine JcI (z := 0) (show mx_Sn _ _ 11 (mx_const (.int 0) 12) from sn_257 11) rfl ?_
    refine mx_J.step (ls2 := [some (.ref 56), some (xI x0), some (xI (Z 81 x0)), some (xI 0), none, none, none, none, none]) (sn_257 12) (fun _ _ => rfl) ?_
    have c13 : ∀ (m5 : Nat) (w5_3 : Int) (Z6 : xZ) (h6 : mx_H), 385 - w5_3 < (m5 : Int) → 0 ≤ w5_3 ∧ w5_3 ≤ 385 → XH n s S Z6 h6 → GI n S Z6 → fr' [(78, (-1))] Z1 Z6 → mx_J (tB l D b0 ad Hb tau) mt_257 (d + 6) 13 [some (.ref 56), some (xI x0), some (xI (Z 81 x0)), some (xI w5_3), none, none, none, none, none] [] h6 Post := by
      intro m5
      induction m5 with
      | zero => intro w5_3 Z6 h6 q5 f5_0 hx6 hG6 hf6; exact absurd q5 (by omega)
      | succ m5 ih5 =>
        intro w5_3 Z6 h6 q5 f5_0 hx6 hG6 hf6
        refine mx_J.step (sn_257 13) (fun _ _ => rfl) ?_
        refine mx_J.step (sn_257 14) (fun _ _ => rfl) ?_
        refine JgetI (g := 18) (z := Z 56 18) hx6 (show mx_Sn _ _ 15 (mx_getf 12 18 18) from sn_257 15) a56 s56 rfl rfl ((hf6 56 18 rfl).trans (hf1 56 18 rfl)) ?_
        refine Jicmp_ge (show mx_Sn _ _ 18 (mx_icmp_ge 40 21) from sn_257 18) (by omega) (by omega) (fun q8 => ?_) (fun q8 => ?_)
        · skip
          refine mx_J.step (sn_257 40) (fun _ _ => rfl) ?_
          refine JcI (z := 1) (show mx_Sn _ _ 41 (mx_const (.int 1) 42) from sn_257 41) rfl ?_
          refine Jisub (show mx_Sn _ _ 42 (mx_isub 43) from sn_257 42) ?_
          refine mx_J.step (ls2 := [some (.ref 56), some (xI x0), some (xI (Z 81 x0)), some (xI ((Z 81 x0) - 1)), none, none, none, none, none]) (sn_257 43) (fun _ _ => rfl) ?_
          have c44 : ∀ (m9 : Nat) (w9_3 : Int) (u9_4 : Option Value) (u9_5 : Option Value) (u9_6 : Option Value) (u9_7 : Option Value) (u9_8 : Option Value) (Z10 : xZ) (h10 : mx_H), w9_3 - (-1) < (m9 : Int) → (-1) ≤ w9_3 ∧ w9_3 ≤ 7 → OC Z10 x0 (Z 56 18) (Z 81 x0) w9_3 0 → XH n s S Z10 h10 → GI n S Z10 → fr' [(78, (-1))] Z6 Z10 → mx_J (tB l D b0 ad Hb tau) mt_257 (d + 6) 44 [some (.ref 56), some (xI x0), some (xI (Z 81 x0)), some (xI w9_3), u9_4, u9_5, u9_6, u9_7, u9_8] [] h10 Post := by
            intro m9
            induction m9 with
            | zero => intro w9_3 u9_4 u9_5 u9_6 u9_7 u9_8 Z10 h10 q9 f9_0 f9_1 hx10 hG10 hf10; exact absurd q9 (by omega)
            | succ m9 ih9 =>
              intro w9_3 u9_4 u9_5 u9_6 u9_7 u9_8 Z10 h10 q9 f9_0 f9_1 hx10 hG10 hf10
              refine mx_J.step (sn_257 44) (fun _ _ => rfl) ?_
              refine Jif_lt (show mx_Sn _ _ 45 (mx_if_lt 152 48) from sn_257 45) (by omega) (fun q11 => ?_) (fun q11 => ?_)
              · skip
                refine mx_J.step (sn_257 152) (fun _ _ => rfl) ?_
                refine JgetR (g := 37) (b := 78) hx10 (show mx_Sn _ _ 153 (mx_getf 12 37 156) from sn_257 153) a56 s56 rfl rfl (hG10.prr 56 37 rfl) ?_
                refine mx_J.step (sn_257 156) (fun _ _ => rfl) ?_
                refine JgetR (g := 1) (b := 57) hx10 (show mx_Sn _ _ 157 (mx_getf 12 1 160) from sn_257 157) a56 s56 rfl rfl (hG10.prr 56 1 rfl) ?_
                refine JcI (z := 27) (show mx_Sn _ _ 160 (mx_const (.int 27) 162) from sn_257 160) rfl ?_
                have b14 := GI_st hG 27
                have b15 : 0 ≤ Z 57 27 ∧ Z 57 27 ≤ 384 := by have hq := GI_ex hG 57 27; replace hq : f57 (27 % 962) (Z 57 27) := hq; unfold f57 at hq; omega
                have b16 : (-2147483648) ≤ Z 57 27 ∧ Z 57 27 ≤ 2147483647 := hG.pr 57 27
                refine JialdI (z := Z 57 27) hx10 (show mx_Sn _ _ 162 (mx_iald 163) from sn_257 162) a57 s57 (by omega) ((hf10 57 27 rfl).trans ((hf6 57 27 rfl).trans (hf1 57 27 rfl))) ?_
                have b17 : (-9223372036854775808) ≤ Z10 78 (Z 57 27) ∧ Z10 78 (Z 57 27) ≤ 9223372036854775807 := hG10.pr 78 (Z 57 27)
                refine JlaldL (z := Z10 78 (Z 57 27)) hx10 (show mx_Sn _ _ 163 (mx_lald 164) from sn_257 163) a78 s78 (by omega) rfl ?_
                have oo : oc Z10 x0 (Z 56 18) (Z 81 x0) (-1) 0 = 1 := oc_y (by rw [show (-1 : Int) = w9_3 by omega]; assumption)
                have e7 : Z10 78 g0 = Z10 78 (Z 57 27) := by rw [k2]
                have eq18 : (ai 73) Z10 (19 * Z 56 18) (-1) (Z 56 18 - 1) = (ai 73) Z1 (19 * Z 56 18) (-1) (Z 56 18 - 1) := ((ai_c (fun i => hf10 73 i rfl)).trans (ai_c (fun i => hf6 73 i rfl)))
                have eq19 : Z10 56 18 = Z 56 18 := ((hf10 56 18 rfl).trans ((hf6 56 18 rfl).trans (hf1 56 18 rfl)))
                have eq20 : Z10 81 x0 = Z 81 x0 := ((hf10 81 x0 rfl).trans ((hf6 81 x0 rfl).trans (hf1 81 x0 rfl)))
                have eq21 : Z10 57 27 = Z 57 27 := ((hf10 57 27 rfl).trans ((hf6 57 27 rfl).trans (hf1 57 27 rfl)))
                exact mx_J.ret (sn_257 164) (fun _ _ => rfl) (hP (Z10 78 (Z 57 27)) Z10 h10 hx10 hG10 (fr_tr (M := [(62, (-1)), (64, (-1)), (65, (-1)), (73, (-1)), (78, (-1))]) (fr_tr (M := [(62, (-1)), (64, (-1)), (65, (-1)), (73, (-1)), (78, (-1))]) (fr_tr (M := [(62, (-1)), (64, (-1)), (65, (-1)), (73, (-1)), (78, (-1))]) fr_rf (hf1) (M1 := []) rfl rfl) (hf6) rfl rfl) (hf10) rfl rfl) (by omega))
              · skip
                refine JcI (z := 0) (show mx_Sn _ _ 48 (mx_const (.int 0) 49) from sn_257 48) rfl ?_
                refine mx_J.step (ls2 := [some (.ref 56), some (xI x0), some (xI (Z 81 x0)), some (xI w9_3), some (xI 0), u9_5, u9_6, u9_7, u9_8]) (sn_257 49) (fun _ _ => rfl) ?_
                have c51 : ∀ (m22 : Nat) (w22_4 : Int) (u22_5 : Option Value) (u22_6 : Option Value) (u22_7 : Option Value) (u22_8 : Option Value) (Z23 : xZ) (h23 : mx_H), 385 - w22_4 < (m22 : Int) → 0 ≤ w22_4 ∧ w22_4 ≤ 385 → OC Z23 x0 (Z 56 18) (Z 81 x0) w9_3 w22_4 → XH n s S Z23 h23 → GI n S Z23 → fr' [(78, (-1))] Z10 Z23 → mx_J (tB l D b0 ad Hb tau) mt_257 (d + 6) 51 [some (.ref 56), some (xI x0), some (xI (Z 81 x0)), some (xI w9_3), some (xI w22_4), u22_5, u22_6, u22_7, u22_8] [] h23 Post := by
                  intro m22
                  induction m22 with
                  | zero => intro w22_4 u22_5 u22_6 u22_7 u22_8 Z23 h23 q22 f22_0 f22_1 hx23 hG23 hf23; exact absurd q22 (by omega)
                  | succ m22 ih22 =>
                    intro w22_4 u22_5 u22_6 u22_7 u22_8 Z23 h23 q22 f22_0 f22_1 hx23 hG23 hf23
                    refine mx_J.step (sn_257 51) (fun _ _ => rfl) ?_
                    refine mx_J.step (sn_257 53) (fun _ _ => rfl) ?_
                    refine JgetI (g := 18) (z := Z 56 18) hx23 (show mx_Sn _ _ 54 (mx_getf 12 18 57) from sn_257 54) a56 s56 rfl rfl ((hf23 56 18 rfl).trans ((hf10 56 18 rfl).trans ((hf6 56 18 rfl).trans (hf1 56 18 rfl)))) ?_
                    refine Jicmp_ge (show mx_Sn _ _ 57 (mx_icmp_ge 146 60) from sn_257 57) (by omega) (by omega) (fun q25 => ?_) (fun q25 => ?_)
                    · skip
                      have ow : OC Z23 x0 (Z 56 18) (Z 81 x0) (w9_3 + (-1)) 0 := OC_n (by assumption) (by omega) (by omega)
                      refine Jiinc (z := w9_3) (cz := (-1)) (ls2 := [some (.ref 56), some (xI x0), some (xI (Z 81 x0)), some (xI (w9_3 + (-1))), some (xI w22_4), u22_5, u22_6, u22_7, u22_8]) (show mx_Sn _ _ 146 (mx_iinc 3 (-1) 149) from sn_257 146) rfl rfl rfl rfl ?_
                      refine mx_J.step (sn_257 149) (fun _ _ => rfl) ?_
                      exact ih9 (w9_3 + (-1)) (some (xI w22_4)) u22_5 u22_6 u22_7 u22_8 Z23 h23 (by omega) (by omega) (by first | exact OC_0 (by omega) | assumption) hx23 hG23 (fr_tr (M := [(78, (-1))]) (fr_tr (M := [(78, (-1))]) fr_rf (hf10) (M1 := []) rfl rfl) (hf23) rfl rfl)
                    · skip
                      refine JcL (z := 0) (show mx_Sn _ _ 60 (mx_const (.long 0) 61) from sn_257 60) rfl ?_
                      refine mx_J.step (ls2 := [some (.ref 56), some (xI x0), some (xI (Z 81 x0)), some (xI w9_3), some (xI w22_4), some (xL 0), none, u22_7, u22_8]) (sn_257 61) (fun _ _ => rfl) ?_
                      refine JcI (z := 0) (show mx_Sn _ _ 63 (mx_const (.int 0) 64) from sn_257 63) rfl ?_
                      refine mx_J.step (ls2 := [some (.ref 56), some (xI x0), some (xI (Z 81 x0)), some (xI w9_3), some (xI w22_4), some (xL 0), none, some (xI 0), u22_8]) (sn_257 64) (fun _ _ => rfl) ?_
                      have c66 : ∀ (m26 : Nat) (w26_5 : Int) (w26_7 : Int) (u26_8 : Option Value), 19 - w26_7 < (m26 : Int) → (-9223372036854775808) ≤ w26_5 ∧ w26_5 ≤ 9223372036854775807 → 0 ≤ w26_7 ∧ w26_7 ≤ 19 → SG Z23 x0 w9_3 w22_4 w26_7 w26_5 → mx_J (tB l D b0 ad Hb tau) mt_257 (d + 6) 66 [some (.ref 56), some (xI x0), some (xI (Z 81 x0)), some (xI w9_3), some (xI w22_4), some (xL w26_5), none, some (xI w26_7), u26_8] [] h23 Post := by
                        intro m26
                        induction m26 with
                        | zero => intro w26_5 w26_7 u26_8 q26 f26_0 f26_1 f26_2; exact absurd q26 (by omega)
                        | succ m26 ih26 =>
                          intro w26_5 w26_7 u26_8 q26 f26_0 f26_1 f26_2
                          refine mx_J.step (sn_257 66) (fun _ _ => rfl) ?_
                          refine JcI (z := 19) (show mx_Sn _ _ 68 (mx_const (.int 19) 70) from sn_257 68) rfl ?_
                          refine Jicmp_ge (show mx_Sn _ _ 70 (mx_icmp_ge 125 73) from sn_257 70) (by omega) (by omega) (fun q27 => ?_) (fun q27 => ?_)
                          · skip
                            refine mx_J.step (sn_257 125) (fun _ _ => rfl) ?_
                            refine JgetR (g := 37) (b := 78) hx23 (show mx_Sn _ _ 126 (mx_getf 12 37 129) from sn_257 126) a56 s56 rfl rfl (hG23.prr 56 37 rfl) ?_
                            refine JcI (z := 385) (show mx_Sn _ _ 129 (mx_const (.int 385) 132) from sn_257 129) rfl ?_
                            refine mx_J.step (sn_257 132) (fun _ _ => rfl) ?_
                            refine Jimul (show mx_Sn _ _ 133 (mx_imul 134) from sn_257 133) ?_
                            refine mx_J.step (sn_257 134) (fun _ _ => rfl) ?_
                            refine Jiadd (show mx_Sn _ _ 136 (mx_iadd 137) from sn_257 136) ?_
                            refine mx_J.step (sn_257 137) (fun _ _ => rfl) ?_
                            refine JlastL hx23 (show mx_Sn _ _ 139 (mx_last 1 140) from sn_257 139) a78 s78 rfl (by omega) (fun Z29 h29 hx29 hE29 => ?_)
                            have hG29 := GI_up hG23 hE29 (show (-9223372036854775808) ≤ w26_5 ∧ w26_5 ≤ 9223372036854775807 by omega) trivial rfl
                            have os : OC Z29 x0 (Z 56 18) (Z 81 x0) w9_3 (w22_4 + 1) := OC_s (Z := Z23) (s := w22_4) (by assumption) hE29 (by omega) (by omega) (by omega) (fun i => (hG23.pr 73 i).1) (by rw [show (19 : Int) = w26_7 by omega]; assumption) rfl
                            refine Jiinc (z := w22_4) (cz := 1) (ls2 := [some (.ref 56), some (xI x0), some (xI (Z 81 x0)), some (xI w9_3), some (xI (w22_4 + 1)), some (xL w26_5), none, some (xI w26_7), u26_8]) (show mx_Sn _ _ 140 (mx_iinc 4 1 143) from sn_257 140) rfl rfl rfl rfl ?_
                            refine mx_J.step (sn_257 143) (fun _ _ => rfl) ?_
                            exact ih22 (w22_4 + 1) (some (xL w26_5)) none (some (xI w26_7)) u26_8 Z29 h29 (by omega) (by omega) (by assumption) hx29 hG29 (fr_tr (M := [(78, (-1))]) (fr_tr (M := [(78, (-1))]) fr_rf (hf23) (M1 := []) rfl rfl) (fr_ua hE29) rfl rfl)
                          · skip
                            refine mx_J.step (sn_257 73) (fun _ _ => rfl) ?_
                            refine JgetR (g := 32) (b := 73) hx23 (show mx_Sn _ _ 74 (mx_getf 12 32 77) from sn_257 74) a56 s56 rfl rfl (hG23.prr 56 32 rfl) ?_
                            refine JcI (z := 19) (show mx_Sn _ _ 77 (mx_const (.int 19) 79) from sn_257 77) rfl ?_
                            refine mx_J.step (sn_257 79) (fun _ _ => rfl) ?_
                            refine Jimul (show mx_Sn _ _ 81 (mx_imul 82) from sn_257 81) ?_
                            refine mx_J.step (sn_257 82) (fun _ _ => rfl) ?_
                            refine Jiadd (show mx_Sn _ _ 84 (mx_iadd 85) from sn_257 84) ?_
                            have b31 : (-1) ≤ Z1 73 ((19 * w22_4) + w26_7) ∧ Z1 73 ((19 * w22_4) + w26_7) ≤ 384 := hG1.pr 73 ((19 * w22_4) + w26_7)
                            refine JialdI (z := Z1 73 ((19 * w22_4) + w26_7)) hx23 (show mx_Sn _ _ 85 (mx_iald 86) from sn_257 85) a73 s73 (by omega) ((hf23 73 ((19 * w22_4) + w26_7) rfl).trans ((hf10 73 ((19 * w22_4) + w26_7) rfl).trans (hf6 73 ((19 * w22_4) + w26_7) rfl))) ?_
                            refine mx_J.step (ls2 := [some (.ref 56), some (xI x0), some (xI (Z 81 x0)), some (xI w9_3), some (xI w22_4), some (xL w26_5), none, some (xI w26_7), some (xI (Z1 73 ((19 * w22_4) + w26_7)))]) (sn_257 86) (fun _ _ => rfl) ?_
                            refine mx_J.step (sn_257 88) (fun _ _ => rfl) ?_
                            refine mx_J.step (sn_257 89) (fun _ _ => rfl) ?_
                            refine mx_J.step (sn_257 90) (fun _ _ => rfl) ?_
                            refine mx_J.step (sn_257 91) (fun _ _ => rfl) ?_
                            have eq33 : io Z23 x0 w9_3 (Z1 73 ((19 * w22_4) + w26_7)) = io Z x0 w9_3 (Z1 73 ((19 * w22_4) + w26_7)) := ((io_c (fun i => hf23 61 i rfl) (fun i => hf23 82 i rfl)).trans ((io_c (fun i => hf10 61 i rfl) (fun i => hf10 82 i rfl)).trans ((io_c (fun i => hf6 61 i rfl) (fun i => hf6 82 i rfl)).trans (io_c (fun i => hf1 61 i rfl) (fun i => hf1 82 i rfl)))))
                            obtain ⟨z32, hc32, b32⟩ := ct_256_56 (d := d + 3) (l := l) (D := D) (b0 := b0) (ad := ad) (Hb := Hb) (tau := tau) hx23 hG23 (show 0 ≤ x0 ∧ x0 ≤ 3 by omega) (show 0 ≤ w9_3 ∧ w9_3 ≤ 7 by omega) (show (-1) ≤ Z1 73 ((19 * w22_4) + w26_7) ∧ Z1 73 ((19 * w22_4) + w26_7) ≤ 384 by omega)
                            refine Jcv hx23 (show mx_Sn _ _ 93 (mx_callv 256 4 12 96) from sn_257 93) a56 s56 hc32 rfl rfl rfl ?_
                            have c119 : ∀ (w34_5 : Int), (-9223372036854775808) ≤ w34_5 ∧ w34_5 ≤ 9223372036854775807 → SG Z23 x0 w9_3 w22_4 (w26_7 + 1) w34_5 → mx_J (tB l D b0 ad Hb tau) mt_257 (d + 6) 119 [some (.ref 56), some (xI x0), some (xI (Z 81 x0)), some (xI w9_3), some (xI w22_4), some (xL w34_5), none, some (xI w26_7), some (xI (Z1 73 ((19 * w22_4) + w26_7)))] [] h23 Post := by
                              intro w34_5 f34_0 f34_1
                              refine Jiinc (z := w26_7) (cz := 1) (ls2 := [some (.ref 56), some (xI x0), some (xI (Z 81 x0)), some (xI w9_3), some (xI w22_4), some (xL w34_5), none, some (xI (w26_7 + 1)), some (xI (Z1 73 ((19 * w22_4) + w26_7)))]) (show mx_Sn _ _ 119 (mx_iinc 7 1 122) from sn_257 119) rfl rfl rfl rfl ?_
                              refine mx_J.step (sn_257 122) (fun _ _ => rfl) ?_
                              exact ih26 w34_5 (w26_7 + 1) (some (xI (Z1 73 ((19 * w22_4) + w26_7)))) (by omega) (by omega) (by omega) (by first | exact sg_0 | assumption)
                            refine Jif_eq (show mx_Sn _ _ 96 (mx_if_eq 119 99) from sn_257 96) (by omega) (fun q35 => ?_) (fun q35 => ?_)
                            · skip
                              exact c119 w26_5 (by omega) (by first | assumption | exact sg_s (by assumption) (by omega) (fun q => Or.inl q))
                            · skip
                              have ie := io_e Z23 x0 w9_3 (Z1 73 ((19 * w22_4) + w26_7))
                              have eq36 : Z23 73 (19 * w22_4 + w26_7) = Z1 73 (19 * w22_4 + w26_7) := ((hf23 73 (19 * w22_4 + w26_7) rfl).trans ((hf10 73 (19 * w22_4 + w26_7) rfl).trans (hf6 73 (19 * w22_4 + w26_7) rfl)))
                              have b37 : (-1) ≤ Z1 73 (19 * w22_4 + w26_7) ∧ Z1 73 (19 * w22_4 + w26_7) ≤ 384 := hG1.pr 73 (19 * w22_4 + w26_7)
                              refine mx_J.step (sn_257 99) (fun _ _ => rfl) ?_
                              refine mx_J.step (sn_257 101) (fun _ _ => rfl) ?_
                              refine JgetR (g := 37) (b := 78) hx23 (show mx_Sn _ _ 102 (mx_getf 12 37 105) from sn_257 102) a56 s56 rfl rfl (hG23.prr 56 37 rfl) ?_
                              refine JcI (z := 385) (show mx_Sn _ _ 105 (mx_const (.int 385) 108) from sn_257 105) rfl ?_
                              refine mx_J.step (sn_257 108) (fun _ _ => rfl) ?_
                              refine JcI (z := 1) (show mx_Sn _ _ 109 (mx_const (.int 1) 110) from sn_257 109) rfl ?_
                              refine Jiadd (show mx_Sn _ _ 110 (mx_iadd 111) from sn_257 110) ?_
                              refine Jimul (show mx_Sn _ _ 111 (mx_imul 112) from sn_257 111) ?_
                              refine mx_J.step (sn_257 112) (fun _ _ => rfl) ?_
                              refine Jiadd (show mx_Sn _ _ 114 (mx_iadd 115) from sn_257 114) ?_
                              have b39 : (-9223372036854775808) ≤ Z23 78 ((385 * (w9_3 + 1)) + (Z1 73 ((19 * w22_4) + w26_7))) ∧ Z23 78 ((385 * (w9_3 + 1)) + (Z1 73 ((19 * w22_4) + w26_7))) ≤ 9223372036854775807 := hG23.pr 78 ((385 * (w9_3 + 1)) + (Z1 73 ((19 * w22_4) + w26_7)))
                              refine JlaldL (z := Z23 78 ((385 * (w9_3 + 1)) + (Z1 73 ((19 * w22_4) + w26_7)))) hx23 (show mx_Sn _ _ 115 (mx_lald 116) from sn_257 115) a78 s78 (by omega) rfl ?_
                              refine JladdN (show mx_Sn _ _ 116 (mx_ladd 117) from sn_257 116) (fun y40 hy40 hq40 => ?_)
                              have sb : SG Z23 x0 w9_3 w22_4 (w26_7 + 1) y40 := sg_s (v := w26_5) (by assumption) (by omega) (fun hv => if hl : w26_5 = 0 then Or.inr ⟨by rw [show Z23 73 (19 * w22_4 + w26_7) = (Z1 73 ((19 * w22_4) + w26_7)) by omega]; omega, fun hz => hv (by rw [show Z23 73 (19 * w22_4 + w26_7) = (Z1 73 ((19 * w22_4) + w26_7)) by omega] at hz; obtain ⟨qq, he⟩ := hq40; omega)⟩ else Or.inl hl)
                              refine mx_J.step (ls2 := [some (.ref 56), some (xI x0), some (xI (Z 81 x0)), some (xI w9_3), some (xI w22_4), some (xL y40), none, some (xI w26_7), some (xI (Z1 73 ((19 * w22_4) + w26_7)))]) (sn_257 117) (fun _ _ => rfl) ?_
                              exact c119 y40 (by omega) (by first | assumption | exact sg_s (by assumption) (by omega) (fun q => Or.inl q))
                      exact c66 (Int.toNat (19 - 0) + 1) 0 0 u22_8 (by omega) (by omega) (by omega) (by first | exact sg_0 | assumption)
                exact c51 (Int.toNat (385 - 0) + 1) 0 u9_5 u9_6 u9_7 u9_8 Z10 h10 (by omega) (by omega) (by assumption) hx10 hG10 fr_rf
          exact c44 (Int.toNat (((Z 81 x0) - 1) - (-1)) + 1) ((Z 81 x0) - 1) none none none none none Z6 h6 (by omega) (by omega) (by first | exact OC_0 (by omega) | assumption) hx6 hG6 fr_rf
        · skip
          refine mx_J.step (sn_257 21) (fun _ _ => rfl) ?_
          refine JgetR (g := 37) (b := 78) hx6 (show mx_Sn _ _ 22 (mx_getf 12 37 25) from sn_257 22) a56 s56 rfl rfl (hG6.prr 56 37 rfl) ?_
          refine JcI (z := 385) (show mx_Sn _ _ 25 (mx_const (.int 385) 28) from sn_257 25) rfl ?_
          refine mx_J.step (sn_257 28) (fun _ _ => rfl) ?_
          refine Jimul (show mx_Sn _ _ 29 (mx_imul 30) from sn_257 29) ?_
          refine mx_J.step (sn_257 30) (fun _ _ => rfl) ?_
          refine Jiadd (show mx_Sn _ _ 31 (mx_iadd 32) from sn_257 31) ?_
          refine JcL (z := 1) (show mx_Sn _ _ 32 (mx_const (.long 1) 33) from sn_257 32) rfl ?_
          refine JlastL hx6 (show mx_Sn _ _ 33 (mx_last 1 34) from sn_257 33) a78 s78 rfl (by omega) (fun Z42 h42 hx42 hE42 => ?_)
          have hG42 := GI_up hG6 hE42 (show (-9223372036854775808) ≤ 1 ∧ 1 ≤ 9223372036854775807 by omega) trivial rfl
          refine Jiinc (z := w5_3) (cz := 1) (ls2 := [some (.ref 56), some (xI x0), some (xI (Z 81 x0)), some (xI (w5_3 + 1)), none, none, none, none, none]) (show mx_Sn _ _ 34 (mx_iinc 3 1 37) from sn_257 34) rfl rfl rfl rfl ?_
          refine mx_J.step (sn_257 37) (fun _ _ => rfl) ?_
          exact ih5 (w5_3 + 1) Z42 h42 (by omega) (by omega) hx42 hG42 (fr_tr (M := [(78, (-1))]) (fr_tr (M := [(78, (-1))]) fr_rf (hf6) (M1 := []) rfl rfl) (fr_ua hE42) rfl rfl)
    exact c13 (Int.toNat (385 - 0) + 1) 0 Z1 h1 (by omega) (by omega) hx1 hG1 fr_rf
theorem ct_257_56 {l : Launch} {D : va_G} {b0 : Nat} {ad : Nat → Nat} {Hb : Heap} {tau : Nat → Int64} {d n s : Nat} {S : Nat → xS} {Z : xZ} {h : mx_H} {g0 : Int} (hx : XH n s S Z h) (hG : GI n S Z)  {x0 : Int} (p0 : 0 ≤ x0 ∧ x0 ≤ 3) (k0 : 1 ≤ Z 81 x0) (k1 : Z 81 x0 ≤ 8) (k2 : g0 = Z 57 27) : ∃ (z : Int) (Z' : xZ) (h' : mx_H), mx_Ca (tB l D b0 ad Hb tau) (d + 7) 257 [.ref 56, xI x0] h (some (xL z), h') ∧ XH n s S Z' h' ∧ GI n S Z' ∧ fr' [(62, (-1)), (64, (-1)), (65, (-1)), (73, (-1)), (78, (-1))] Z Z' ∧ ((-9223372036854775808) ≤ z ∧ z ≤ 9223372036854775807 ∧ (oc Z' x0 (Z 56 18) (Z 81 x0) (-1) 0 = 1 ∧ z = Z' 78 g0 ∧ ai 73 Z' (19 * Z 56 18) (-1) (Z 56 18 - 1) = 1)) := by
  obtain ⟨r, hca, z, Z', h', e, q⟩ := Jmt (B := tB l D b0 ad Hb tau) (M := mt_257) (mi := 257) (as := [.ref 56, xI x0]) (d := d + 6) (ls := [some (.ref 56), some (xI x0), none, none, none, none, none, none, none]) rfl rfl rfl rfl rfl rfl (cw_257_56 (l := l) (D := D) (b0 := b0) (ad := ad) (Hb := Hb) (tau := tau) (d := d) (Post := fun r => ∃ (z : Int) (Z' : xZ) (h' : mx_H), r = (some (xL z), h') ∧ XH n s S Z' h' ∧ GI n S Z' ∧ fr' [(62, (-1)), (64, (-1)), (65, (-1)), (73, (-1)), (78, (-1))] Z Z' ∧ ((-9223372036854775808) ≤ z ∧ z ≤ 9223372036854775807 ∧ (oc Z' x0 (Z 56 18) (Z 81 x0) (-1) 0 = 1 ∧ z = Z' 78 g0 ∧ ai 73 Z' (19 * Z 56 18) (-1) (Z 56 18 - 1) = 1))) hx hG p0 k0 k1 k2 (fun z Z' h' q1 q2 q3 q4 => ⟨z, Z', h', rfl, q1, q2, q3, q4⟩))
  subst e; exact ⟨z, Z', h', hca, q⟩
set_option maxRecDepth 100000 in
theorem cw_258_56 {l : Launch} {D : va_G} {b0 : Nat} {ad : Nat → Nat} {Hb : Heap} {tau : Nat → Int64} {d n s : Nat} {S : Nat → xS} {Z : xZ} {h : mx_H} {Post : mx_R → Prop} (hx : XH n s S Z h) (hG : GI n S Z)  {x0 : Int} (p0 : (-2147483648) ≤ x0 ∧ x0 ≤ 2147483647) (hP : ∀ (z : Int) (Z' : xZ) (h' : mx_H), XH n s S Z' h' → GI n S Z' → fr' [(56, 0), (62, (-1)), (64, (-1)), (65, (-1)), (73, (-1)), (78, (-1))] Z Z' → (-9223372036854775808) ≤ z ∧ z ≤ 9223372036854775807 → Post (some (xL z), h')) : mx_J (tB l D b0 ad Hb tau) mt_258 (d + 7) 0 [some (.ref 56), some (xI x0), none] [] h Post := by
    have a56 : 56 < n := lt83 (GI_n hG) rfl
    have s56 : S 56 = .inl (12, [0, 2, 2, 2, 2, 0, 0, 0, 0, 0, 0, 0, 0, 0, 0, 2, 2, 2, 0, 2, 2, 2, 0, 0, 2, 2, 2, 2, 2, 2, 0, 0, 2, 2, 2, 2, 2, 2, 2, 2, 2, 2]) := GI_s hG 56 rfl
    refine mx_J.step (sn_258 0) (fun _ _ => rfl) ?_
    refine JcI (z := 0) (show mx_Sn _ _ 1 (mx_const (.int 0) 2) from sn_258 1) rfl ?_
    refine JputI (g := 0) hx (show mx_Sn _ _ 2 (mx_putf 1 12 0 (.int) 5) from sn_258 2) a56 s56 rfl rfl rfl rfl (fun Z1 h1 hx1 hE1 => ?_)
    have hG1 := GI_up hG hE1 (show (-2147483648) ≤ 0 ∧ 0 ≤ 2147483647 by omega) trivial rfl
    refine mx_J.step (sn_258 5) (fun _ _ => rfl) ?_
    refine mx_J.step (sn_258 6) (fun _ _ => rfl) ?_
    refine JcI (z := 1) (show mx_Sn _ _ 7 (mx_const (.int 1) 8) from sn_258 7) rfl ?_
    have eq3 : Z1 81 x0 = Z 81 x0 := (up_nk hE1 rfl)
    have b4 : 0 ≤ Z 81 x0 ∧ Z 81 x0 ≤ 40 := hG.pr 81 x0
    obtain ⟨z2, hc2, b2⟩ := ct_255_56 (d := d + 4) (l := l) (D := D) (b0 := b0) (ad := ad) (Hb := Hb) (tau := tau) hx1 hG1 (show (-2147483648) ≤ x0 ∧ x0 ≤ 2147483647 by omega) (show 0 ≤ 1 ∧ 1 ≤ 1 by omega)
    try rw [eq3] at b2
    refine Jcv hx1 (show mx_Sn _ _ 8 (mx_callv 255 3 12 11) from sn_258 8) a56 s56 hc2 rfl rfl rfl ?_
    refine mx_J.step (ls2 := [some (.ref 56), some (xI x0), some (xI z2)]) (sn_258 11) (fun _ _ => rfl) ?_
    refine mx_J.step (sn_258 12) (fun _ _ => rfl) ?_
    have c26 : ∀ (k5_0 : Int) (Z6 : xZ) (h6 : mx_H), (-9223372036854775808) ≤ k5_0 ∧ k5_0 ≤ 9223372036854775807 → XH n s S Z6 h6 → GI n S Z6 → fr' [(62, (-1)), (64, (-1)), (65, (-1)), (73, (-1)), (78, (-1))] Z1 Z6 → mx_J (tB l D b0 ad Hb tau) mt_258 (d + 7) 26 [some (.ref 56), some (xI x0), some (xI z2)] [xL k5_0] h6 Post := by
      intro k5_0 Z6 h6 f5_0 hx6 hG6 hf6
      exact mx_J.ret (sn_258 26) (fun _ _ => rfl) (hP k5_0 Z6 h6 hx6 hG6 (fr_tr (M := [(56, 0), (62, (-1)), (64, (-1)), (65, (-1)), (73, (-1)), (78, (-1))]) (fr_tr (M := [(56, 0), (62, (-1)), (64, (-1)), (65, (-1)), (73, (-1)), (78, (-1))]) fr_rf (fr_up hE1) (M1 := []) rfl rfl) (hf6) rfl rfl) (by omega))
    refine Jif_eq (show mx_Sn _ _ 13 (mx_if_eq 21 16) from sn_258 13) (by omega) (fun q7 => ?_) (fun q7 => ?_)
    · skip
      refine mx_J.step (sn_258 21) (fun _ _ => rfl) ?_
      refine mx_J.step (sn_258 22) (fun _ _ => rfl) ?_
      have eq9 : Z1 56 18 = Z 56 18 := (up_ni hE1 (by decide))
      have b10 : 0 ≤ Z 56 18 ∧ Z 56 18 ≤ 385 := hG.pr 56 18
      have eq11 : Z1 81 x0 = Z 81 x0 := (up_nk hE1 rfl)
      have eq12 : Z1 57 27 = Z 57 27 := (up_nk hE1 rfl)
      have b13 := GI_st hG 27
      have b14 : 0 ≤ Z 57 27 ∧ Z 57 27 ≤ 384 := by have hq := GI_ex hG 57 27; replace hq : f57 (27 % 962) (Z 57 27) := hq; unfold f57 at hq; omega
      have b15 : (-2147483648) ≤ Z 57 27 ∧ Z 57 27 ≤ 2147483647 := hG.pr 57 27
      obtain ⟨z8, Z8, h8, hc8, hx8, hG8, hf8, b8⟩ := ct_257_56 (g0 := Z 57 27) (d := d + 0) (l := l) (D := D) (b0 := b0) (ad := ad) (Hb := Hb) (tau := tau) hx1 hG1 (show 0 ≤ x0 ∧ x0 ≤ 3 by omega) (show 1 ≤ Z1 81 x0 by first | omega | (simp only [eq9, eq11, eq12]; omega)) (show Z1 81 x0 ≤ 8 by first | omega | (simp only [eq9, eq11, eq12]; omega)) (show (Z 57 27) = Z1 57 27 by first | omega | (simp only [eq9, eq11, eq12]; omega))
      try rw [eq9] at b8
      try rw [eq11] at b8
      try rw [eq12] at b8
      refine Jcv hx1 (show mx_Sn _ _ 23 (mx_callv 257 2 12 26) from sn_258 23) a56 s56 hc8 rfl rfl rfl ?_
      exact c26 z8 Z8 h8 (by omega) hx8 hG8 (fr_tr (M := [(62, (-1)), (64, (-1)), (65, (-1)), (73, (-1)), (78, (-1))]) fr_rf (hf8) (M1 := []) rfl rfl)
    · skip
      refine mx_J.step (sn_258 16) (fun _ _ => rfl) ?_
      refine Ji2l (show mx_Sn _ _ 17 (mx_i2l 18) from sn_258 17) (by omega) ?_
      refine mx_J.step (sn_258 18) (fun _ _ => rfl) ?_
      exact c26 z2 Z1 h1 (by omega) hx1 hG1 fr_rf
theorem ct_258_56 {l : Launch} {D : va_G} {b0 : Nat} {ad : Nat → Nat} {Hb : Heap} {tau : Nat → Int64} {d n s : Nat} {S : Nat → xS} {Z : xZ} {h : mx_H} (hx : XH n s S Z h) (hG : GI n S Z)  {x0 : Int} (p0 : (-2147483648) ≤ x0 ∧ x0 ≤ 2147483647) : ∃ (z : Int) (Z' : xZ) (h' : mx_H), mx_Ca (tB l D b0 ad Hb tau) (d + 8) 258 [.ref 56, xI x0] h (some (xL z), h') ∧ XH n s S Z' h' ∧ GI n S Z' ∧ fr' [(56, 0), (62, (-1)), (64, (-1)), (65, (-1)), (73, (-1)), (78, (-1))] Z Z' ∧ ((-9223372036854775808) ≤ z ∧ z ≤ 9223372036854775807) := by
  obtain ⟨r, hca, z, Z', h', e, q⟩ := Jmt (B := tB l D b0 ad Hb tau) (M := mt_258) (mi := 258) (as := [.ref 56, xI x0]) (d := d + 7) (ls := [some (.ref 56), some (xI x0), none]) rfl rfl rfl rfl rfl rfl (cw_258_56 (l := l) (D := D) (b0 := b0) (ad := ad) (Hb := Hb) (tau := tau) (d := d) (Post := fun r => ∃ (z : Int) (Z' : xZ) (h' : mx_H), r = (some (xL z), h') ∧ XH n s S Z' h' ∧ GI n S Z' ∧ fr' [(56, 0), (62, (-1)), (64, (-1)), (65, (-1)), (73, (-1)), (78, (-1))] Z Z' ∧ ((-9223372036854775808) ≤ z ∧ z ≤ 9223372036854775807)) hx hG p0 (fun z Z' h' q1 q2 q3 q4 => ⟨z, Z', h', rfl, q1, q2, q3, q4⟩))
  subst e; exact ⟨z, Z', h', hca, q⟩
