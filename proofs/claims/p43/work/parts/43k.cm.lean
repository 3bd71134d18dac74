set_option maxRecDepth 100000 in
theorem cw_273_A3 {l : Launch} {D : va_G} {b0 : Nat} {ad : Nat → Nat} {Hb : Heap} {tau : Nat → Int64} {d n s : Nat} {S : Nat → xS} {Z : xZ} {h : mx_H} {Post : mx_R → Prop} (hx : XH n s S Z h) (hG : GI n S Z)  {x0 x1 : Int} (p0 : (-9223372036854775808) ≤ x0 ∧ x0 ≤ 9223372036854775807) (p1 : (-7) ≤ x1 ∧ x1 ≤ 7) (k0 : ¬ (x0 = 0 ∧ x1 = 0)) (hP : ∀ z : Int, (-9223372036854775808) ≤ z ∧ z ≤ 9223372036854775807 ∧ ¬ z = 0 → Post (some (xL z), h)) : mx_J (tB l D b0 ad Hb tau) mt_273 (d + 6) 0 [some (xL x0), none, some (xL x1), none] [] h Post := by
    refine mx_J.step (sn_273 0) (fun _ _ => rfl) ?_
    refine JcL (z := 0) (show mx_Sn _ _ 1 (mx_const (.long 0) 2) from sn_273 1) rfl ?_
    have c17 : ∀ (k1_0 : Int), (-9223372036854775808) ≤ k1_0 ∧ k1_0 ≤ 9223372036854775807 → ¬ k1_0 = 0 → mx_J (tB l D b0 ad Hb tau) mt_273 (d + 6) 17 [some (xL x0), none, some (xL x1), none] [xL k1_0] h Post := by
      intro k1_0 f1_0 f1_1
      exact mx_J.ret (sn_273 17) (fun _ _ => rfl) (hP k1_0 (by omega))
    refine Jlif_ne (show mx_Sn _ _ 2 (mx_lif_ne 10 6) from sn_273 2) (by omega) (by omega) (fun q2 => ?_) (fun q2 => ?_)
    · skip
      refine mx_J.step (sn_273 10) (fun _ _ => rfl) ?_
      refine mx_J.step (sn_273 11) (fun _ _ => rfl) ?_
      refine mx_J.step (sn_273 12) (fun _ _ => rfl) ?_
      refine JlremA (show mx_Sn _ _ 13 (mx_lrem 14) from sn_273 13) (by omega) (by omega) (by omega) (fun y3 hy3 => ?_)
      obtain ⟨z4, hc4, b4⟩ := ct_273_B3 (d := d + 0) (l := l) (D := D) (b0 := b0) (ad := ad) (Hb := Hb) (tau := tau) hx hG (show (-7) ≤ x1 ∧ x1 ≤ 7 by omega) (show (-7) ≤ y3 ∧ y3 ≤ 7 by omega) (show ((x1 ≤ 0 → y3 < -x1 ∧ x1 < y3) ∧ (0 ≤ x1 → y3 < x1 ∧ -x1 < y3)) by omega)
      refine Jcs (show mx_Sn _ _ 14 (mx_calls 273 2 17) from sn_273 14) hc4 rfl rfl rfl ?_
      exact c17 z4 (by omega) (by omega)
    · skip
      refine mx_J.step (sn_273 6) (fun _ _ => rfl) ?_
      refine mx_J.step (sn_273 7) (fun _ _ => rfl) ?_
      exact c17 x0 (by omega) (by omega)
theorem ct_273_A3 {l : Launch} {D : va_G} {b0 : Nat} {ad : Nat → Nat} {Hb : Heap} {tau : Nat → Int64} {d n s : Nat} {S : Nat → xS} {Z : xZ} {h : mx_H} (hx : XH n s S Z h) (hG : GI n S Z)  {x0 x1 : Int} (p0 : (-9223372036854775808) ≤ x0 ∧ x0 ≤ 9223372036854775807) (p1 : (-7) ≤ x1 ∧ x1 ≤ 7) (k0 : ¬ (x0 = 0 ∧ x1 = 0)) : ∃ z : Int, mx_Ca (tB l D b0 ad Hb tau) (d + 7) 273 [xL x0, xL x1] h (some (xL z), h) ∧ ((-9223372036854775808) ≤ z ∧ z ≤ 9223372036854775807 ∧ ¬ z = 0) := by
  obtain ⟨r, hca, z, e, hp⟩ := Jmt (B := tB l D b0 ad Hb tau) (M := mt_273) (mi := 273) (as := [xL x0, xL x1]) (d := d + 6) (ls := [some (xL x0), none, some (xL x1), none]) rfl rfl rfl rfl rfl rfl (cw_273_A3 (l := l) (D := D) (b0 := b0) (ad := ad) (Hb := Hb) (tau := tau) (d := d) (Post := fun r => ∃ z : Int, r = (some (xL z), h) ∧ ((-9223372036854775808) ≤ z ∧ z ≤ 9223372036854775807 ∧ ¬ z = 0)) hx hG p0 p1 k0 (fun z hz => ⟨z, rfl, hz⟩))
  subst e; exact ⟨z, hca, hp⟩
set_option maxRecDepth 100000 in
theorem cw_273_B4 {l : Launch} {D : va_G} {b0 : Nat} {ad : Nat → Nat} {Hb : Heap} {tau : Nat → Int64} {d n s : Nat} {S : Nat → xS} {Z : xZ} {h : mx_H} {Post : mx_R → Prop} (hx : XH n s S Z h) (hG : GI n S Z)  {x0 x1 : Int} (p0 : (-15) ≤ x0 ∧ x0 ≤ 15) (p1 : (-15) ≤ x1 ∧ x1 ≤ 15) (k0 : ((x0 ≤ 0 → x1 < -x0 ∧ x0 < x1) ∧ (0 ≤ x0 → x1 < x0 ∧ -x0 < x1))) (hP : ∀ z : Int, (-9223372036854775808) ≤ z ∧ z ≤ 9223372036854775807 ∧ ¬ z = 0 → Post (some (xL z), h)) : mx_J (tB l D b0 ad Hb tau) mt_273 (d + 7) 0 [some (xL x0), none, some (xL x1), none] [] h Post := by
    refine mx_J.step (sn_273 0) (fun _ _ => rfl) ?_
    refine JcL (z := 0) (show mx_Sn _ _ 1 (mx_const (.long 0) 2) from sn_273 1) rfl ?_
    have c17 : ∀ (k1_0 : Int), (-9223372036854775808) ≤ k1_0 ∧ k1_0 ≤ 9223372036854775807 → ¬ k1_0 = 0 → mx_J (tB l D b0 ad Hb tau) mt_273 (d + 7) 17 [some (xL x0), none, some (xL x1), none] [xL k1_0] h Post := by
      intro k1_0 f1_0 f1_1
      exact mx_J.ret (sn_273 17) (fun _ _ => rfl) (hP k1_0 (by omega))
    refine Jlif_ne (show mx_Sn _ _ 2 (mx_lif_ne 10 6) from sn_273 2) (by omega) (by omega) (fun q2 => ?_) (fun q2 => ?_)
    · skip
      refine mx_J.step (sn_273 10) (fun _ _ => rfl) ?_
      refine mx_J.step (sn_273 11) (fun _ _ => rfl) ?_
      refine mx_J.step (sn_273 12) (fun _ _ => rfl) ?_
      refine JlremB (show mx_Sn _ _ 13 (mx_lrem 14) from sn_273 13) (by omega) (by omega) (by omega) k0 (fun y3 hy3 => ?_)
      obtain ⟨z4, hc4, b4⟩ := ct_273_A3 (d := d + 0) (l := l) (D := D) (b0 := b0) (ad := ad) (Hb := Hb) (tau := tau) hx hG (show (-9223372036854775808) ≤ x1 ∧ x1 ≤ 9223372036854775807 by omega) (show (-7) ≤ y3 ∧ y3 ≤ 7 by omega) (show ¬ (x1 = 0 ∧ y3 = 0) by omega)
      refine Jcs (show mx_Sn _ _ 14 (mx_calls 273 2 17) from sn_273 14) hc4 rfl rfl rfl ?_
      exact c17 z4 (by omega) (by omega)
    · skip
      refine mx_J.step (sn_273 6) (fun _ _ => rfl) ?_
      refine mx_J.step (sn_273 7) (fun _ _ => rfl) ?_
      exact c17 x0 (by omega) (by omega)
theorem ct_273_B4 {l : Launch} {D : va_G} {b0 : Nat} {ad : Nat → Nat} {Hb : Heap} {tau : Nat → Int64} {d n s : Nat} {S : Nat → xS} {Z : xZ} {h : mx_H} (hx : XH n s S Z h) (hG : GI n S Z)  {x0 x1 : Int} (p0 : (-15) ≤ x0 ∧ x0 ≤ 15) (p1 : (-15) ≤ x1 ∧ x1 ≤ 15) (k0 : ((x0 ≤ 0 → x1 < -x0 ∧ x0 < x1) ∧ (0 ≤ x0 → x1 < x0 ∧ -x0 < x1))) : ∃ z : Int, mx_Ca (tB l D b0 ad Hb tau) (d + 8) 273 [xL x0, xL x1] h (some (xL z), h) ∧ ((-9223372036854775808) ≤ z ∧ z ≤ 9223372036854775807 ∧ ¬ z = 0) := by
  obtain ⟨r, hca, z, e, hp⟩ := Jmt (B := tB l D b0 ad Hb tau) (M := mt_273) (mi := 273) (as := [xL x0, xL x1]) (d := d + 7) (ls := [some (xL x0), none, some (xL x1), none]) rfl rfl rfl rfl rfl rfl (cw_273_B4 (l := l) (D := D) (b0 := b0) (ad := ad) (Hb := Hb) (tau := tau) (d := d) (Post := fun r => ∃ z : Int, r = (some (xL z), h) ∧ ((-9223372036854775808) ≤ z ∧ z ≤ 9223372036854775807 ∧ ¬ z = 0)) hx hG p0 p1 k0 (fun z hz => ⟨z, rfl, hz⟩))
  subst e; exact ⟨z, hca, hp⟩
set_option maxRecDepth 100000 in
theorem cw_273_A4 {l : Launch} {D : va_G} {b0 : Nat} {ad : Nat → Nat} {Hb : Heap} {tau : Nat → Int64} {d n s : Nat} {S : Nat → xS} {Z : xZ} {h : mx_H} {Post : mx_R → Prop} (hx : XH n s S Z h) (hG : GI n S Z)  {x0 x1 : Int} (p0 : (-9223372036854775808) ≤ x0 ∧ x0 ≤ 9223372036854775807) (p1 : (-15) ≤ x1 ∧ x1 ≤ 15) (k0 : ¬ (x0 = 0 ∧ x1 = 0)) (hP : ∀ z : Int, (-9223372036854775808) ≤ z ∧ z ≤ 9223372036854775807 ∧ ¬ z = 0 → Post (some (xL z), h)) : mx_J (tB l D b0 ad Hb tau) mt_273 (d + 8) 0 [some (xL x0), none, some (xL x1), none] [] h Post := by
    refine mx_J.step (sn_273 0) (fun _ _ => rfl) ?_
    refine JcL (z := 0) (show mx_Sn _ _ 1 (mx_const (.long 0) 2) from sn_273 1) rfl ?_
    have c17 : ∀ (k1_0 : Int), (-9223372036854775808) ≤ k1_0 ∧ k1_0 ≤ 9223372036854775807 → ¬ k1_0 = 0 → mx_J (tB l D b0 ad Hb tau) mt_273 (d + 8) 17 [some (xL x0), none, some (xL x1), none] [xL k1_0] h Post := by
      intro k1_0 f1_0 f1_1
      exact mx_J.ret (sn_273 17) (fun _ _ => rfl) (hP k1_0 (by omega))
    refine Jlif_ne (show mx_Sn _ _ 2 (mx_lif_ne 10 6) from sn_273 2) (by omega) (by omega) (fun q2 => ?_) (fun q2 => ?_)
    · skip
      refine mx_J.step (sn_273 10) (fun _ _ => rfl) ?_
      refine mx_J.step (sn_273 11) (fun _ _ => rfl) ?_
      refine mx_J.step (sn_273 12) (fun _ _ => rfl) ?_
      refine JlremA (show mx_Sn _ _ 13 (mx_lrem 14) from sn_273 13) (by omega) (by omega) (by omega) (fun y3 hy3 => ?_)
      obtain ⟨z4, hc4, b4⟩ := ct_273_B4 (d := d + 0) (l := l) (D := D) (b0 := b0) (ad := ad) (Hb := Hb) (tau := tau) hx hG (show (-15) ≤ x1 ∧ x1 ≤ 15 by omega) (show (-15) ≤ y3 ∧ y3 ≤ 15 by omega) (show ((x1 ≤ 0 → y3 < -x1 ∧ x1 < y3) ∧ (0 ≤ x1 → y3 < x1 ∧ -x1 < y3)) by omega)
      refine Jcs (show mx_Sn _ _ 14 (mx_calls 273 2 17) from sn_273 14) hc4 rfl rfl rfl ?_
      exact c17 z4 (by omega) (by omega)
    · skip
      refine mx_J.step (sn_273 6) (fun _ _ => rfl) ?_
      refine mx_J.step (sn_273 7) (fun _ _ => rfl) ?_
      exact c17 x0 (by omega) (by omega)
theorem ct_273_A4 {l : Launch} {D : va_G} {b0 : Nat} {ad : Nat → Nat} {Hb : Heap} {tau : Nat → Int64} {d n s : Nat} {S : Nat → xS} {Z : xZ} {h : mx_H} (hx : XH n s S Z h) (hG : GI n S Z)  {x0 x1 : Int} (p0 : (-9223372036854775808) ≤ x0 ∧ x0 ≤ 9223372036854775807) (p1 : (-15) ≤ x1 ∧ x1 ≤ 15) (k0 : ¬ (x0 = 0 ∧ x1 = 0)) : ∃ z : Int, mx_Ca (tB l D b0 ad Hb tau) (d + 9) 273 [xL x0, xL x1] h (some (xL z), h) ∧ ((-9223372036854775808) ≤ z ∧ z ≤ 9223372036854775807 ∧ ¬ z = 0) := by
  obtain ⟨r, hca, z, e, hp⟩ := Jmt (B := tB l D b0 ad Hb tau) (M := mt_273) (mi := 273) (as := [xL x0, xL x1]) (d := d + 8) (ls := [some (xL x0), none, some (xL x1), none]) rfl rfl rfl rfl rfl rfl (cw_273_A4 (l := l) (D := D) (b0 := b0) (ad := ad) (Hb := Hb) (tau := tau) (d := d) (Post := fun r => ∃ z : Int, r = (some (xL z), h) ∧ ((-9223372036854775808) ≤ z ∧ z ≤ 9223372036854775807 ∧ ¬ z = 0)) hx hG p0 p1 k0 (fun z hz => ⟨z, rfl, hz⟩))
  subst e; exact ⟨z, hca, hp⟩
set_option maxRecDepth 100000 in
theorem cw_273_B5 {l : Launch} {D : va_G} {b0 : Nat} {ad : Nat → Nat} {Hb : Heap} {tau : Nat → Int64} {d n s : Nat} {S : Nat → xS} {Z : xZ} {h : mx_H} {Post : mx_R → Prop} (hx : XH n s S Z h) (hG : GI n S Z)  {x0 x1 : Int} (p0 : (-31) ≤ x0 ∧ x0 ≤ 31) (p1 : (-31) ≤ x1 ∧ x1 ≤ 31) (k0 : ((x0 ≤ 0 → x1 < -x0 ∧ x0 < x1) ∧ (0 ≤ x0 → x1 < x0 ∧ -x0 < x1))) (hP : ∀ z : Int, (-9223372036854775808) ≤ z ∧ z ≤ 9223372036854775807 ∧ ¬ z = 0 → Post (some (xL z), h)) : mx_J (tB l D b0 ad Hb tau) mt_273 (d + 9) 0 [some (xL x0), none, some (xL x1), none] [] h Post := by
    refine mx_J.step (sn_273 0) (fun _ _ => rfl) ?_
    refine JcL (z := 0) (show mx_Sn _ _ 1 (mx_const (.long 0) 2) from sn_273 1) rfl ?_
    have c17 : ∀ (k1_0 : Int), (-9223372036854775808) ≤ k1_0 ∧ k1_0 ≤ 9223372036854775807 → ¬ k1_0 = 0 → mx_J (tB l D b0 ad Hb tau) mt_273 (d + 9) 17 [some (xL x0), none, some (xL x1), none] [xL k1_0] h Post := by
      intro k1_0 f1_0 f1_1
      exact mx_J.ret (sn_273 17) (fun _ _ => rfl) (hP k1_0 (by omega))
    refine Jlif_ne (show mx_Sn _ _ 2 (mx_lif_ne 10 6) from sn_273 2) (by omega) (by omega) (fun q2 => ?_) (fun q2 => ?_)
    · skip
      refine mx_J.step (sn_273 10) (fun _ _ => rfl) ?_
      refine mx_J.step (sn_273 11) (fun _ _ => rfl) ?_
      refine mx_J.step (sn_273 12) (fun _ _ => rfl) ?_
      refine JlremB (show mx_Sn _ _ 13 (mx_lrem 14) from sn_273 13) (by omega) (by omega) (by omega) k0 (fun y3 hy3 => ?_)
      obtain ⟨z4, hc4, b4⟩ := ct_273_A4 (d := d + 0) (l := l) (D := D) (b0 := b0) (ad := ad) (Hb := Hb) (tau := tau) hx hG (show (-9223372036854775808) ≤ x1 ∧ x1 ≤ 9223372036854775807 by omega) (show (-15) ≤ y3 ∧ y3 ≤ 15 by omega) (show ¬ (x1 = 0 ∧ y3 = 0) by omega)
      refine Jcs (show mx_Sn _ _ 14 (mx_calls 273 2 17) from sn_273 14) hc4 rfl rfl rfl ?_
      exact c17 z4 (by omega) (by omega)
    · skip
      refine mx_J.step (sn_273 6) (fun _ _ => rfl) ?_
      refine mx_J.step (sn_273 7) (fun _ _ => rfl) ?_
      exact c17 x0 (by omega) (by omega)
theorem ct_273_B5 {l : Launch} {D : va_G} {b0 : Nat} {ad : Nat → Nat} {Hb : Heap} {tau : Nat → Int64} {d n s : Nat} {S : Nat → xS} {Z : xZ} {h : mx_H} (hx : XH n s S Z h) (hG : GI n S Z)  {x0 x1 : Int} (p0 : (-31) ≤ x0 ∧ x0 ≤ 31) (p1 : (-31) ≤ x1 ∧ x1 ≤ 31) (k0 : ((x0 ≤ 0 → x1 < -x0 ∧ x0 < x1) ∧ (0 ≤ x0 → x1 < x0 ∧ -x0 < x1))) : ∃ z : Int, mx_Ca (tB l D b0 ad Hb tau) (d + 10) 273 [xL x0, xL x1] h (some (xL z), h) ∧ ((-9223372036854775808) ≤ z ∧ z ≤ 9223372036854775807 ∧ ¬ z = 0) := by
  obtain ⟨r, hca, z, e, hp⟩ := Jmt (B := tB l D b0 ad Hb tau) (M := mt_273) (mi := 273) (as := [xL x0, xL x1]) (d := d + 9) (ls := [some (xL x0), none, some (xL x1), none]) rfl rfl rfl rfl rfl rfl (cw_273_B5 (l := l) (D := D) (b0 := b0) (ad := ad) (Hb := Hb) (tau := tau) (d := d) (Post := fun r => ∃ z : Int, r = (some (xL z), h) ∧ ((-9223372036854775808) ≤ z ∧ z ≤ 9223372036854775807 ∧ ¬ z = 0)) hx hG p0 p1 k0 (fun z hz => ⟨z, rfl, hz⟩))
  subst e; exact ⟨z, hca, hp⟩
set_option maxRecDepth 100000 in
theorem cw_273_A5 {l : Launch} {D : va_G} {b0 : Nat} {ad : Nat → Nat} {Hb : Heap} {tau : Nat → Int64} {d n s : Nat} {S : Nat → xS} {Z : xZ} {h : mx_H} {Post : mx_R → Prop} (hx : XH n s S Z h) (hG : GI n S Z)  {x0 x1 : Int} (p0 : (-9223372036854775808) ≤ x0 ∧ x0 ≤ 9223372036854775807) (p1 : (-31) ≤ x1 ∧ x1 ≤ 31) (k0 : ¬ (x0 = 0 ∧ x1 = 0)) (hP : ∀ z : Int, (-9223372036854775808) ≤ z ∧ z ≤ 9223372036854775807 ∧ ¬ z = 0 → Post (some (xL z), h)) : mx_J (tB l D b0 ad Hb tau) mt_273 (d + 10) 0 [some (xL x0), none, some (xL x1), none] [] h Post := by
    refine mx_J.step (sn_273 0) (fun _ _ => rfl) ?_
    refine JcL (z := 0) (show mx_Sn _ _ 1 (mx_const (.long 0) 2) from sn_273 1) rfl ?_
    have c17 : ∀ (k1_0 : Int), (-9223372036854775808) ≤ k1_0 ∧ k1_0 ≤ 9223372036854775807 → ¬ k1_0 = 0 → mx_J (tB l D b0 ad Hb tau) mt_273 (d + 10) 17 [some (xL x0), none, some (xL x1), none] [xL k1_0] h Post := by
      intro k1_0 f1_0 f1_1
      exact mx_J.ret (sn_273 17) (fun _ _ => rfl) (hP k1_0 (by omega))
    refine Jlif_ne (show mx_Sn _ _ 2 (mx_lif_ne 10 6) from sn_273 2) (by omega) (by omega) (fun q2 => ?_) (fun q2 => ?_)
    · skip
      refine mx_J.step (sn_273 10) (fun _ _ => rfl) ?_
      refine mx_J.step (sn_273 11) (fun _ _ => rfl) ?_
      refine mx_J.step (sn_273 12) (fun _ _ => rfl) ?_
      refine JlremA (show mx_Sn _ _ 13 (mx_lrem 14) from sn_273 13) (by omega) (by omega) (by omega) (fun y3 hy3 => ?_)
      obtain ⟨z4, hc4, b4⟩ := ct_273_B5 (d := d + 0) (l := l) (D := D) (b0 := b0) (ad := ad) (Hb := Hb) (tau := tau) hx hG (show (-31) ≤ x1 ∧ x1 ≤ 31 by omega) (show (-31) ≤ y3 ∧ y3 ≤ 31 by omega) (show ((x1 ≤ 0 → y3 < -x1 ∧ x1 < y3) ∧ (0 ≤ x1 → y3 < x1 ∧ -x1 < y3)) by omega)
      refine Jcs (show mx_Sn _ _ 14 (mx_calls 273 2 17) from sn_273 14) hc4 rfl rfl rfl ?_
      exact c17 z4 (by omega) (by omega)
    · skip
      refine mx_J.step (sn_273 6) (fun _ _ => rfl) ?_
      refine mx_J.step (sn_273 7) (fun _ _ => rfl) ?_
      exact c17 x0 (by omega) (by omega)
theorem ct_273_A5 {l : Launch} {D : va_G} {b0 : Nat} {ad : Nat → Nat} {Hb : Heap} {tau : Nat → Int64} {d n s : Nat} {S : Nat → xS} {Z : xZ} {h : mx_H} (hx : XH n s S Z h) (hG : GI n S Z)  {x0 x1 : Int} (p0 : (-9223372036854775808) ≤ x0 ∧ x0 ≤ 9223372036854775807) (p1 : (-31) ≤ x1 ∧ x1 ≤ 31) (k0 : ¬ (x0 = 0 ∧ x1 = 0)) : ∃ z : Int, mx_Ca (tB l D b0 ad Hb tau) (d + 11) 273 [xL x0, xL x1] h (some (xL z), h) ∧ ((-9223372036854775808) ≤ z ∧ z ≤ 9223372036854775807 ∧ ¬ z = 0) := by
  obtain ⟨r, hca, z, e, hp⟩ := Jmt (B := tB l D b0 ad Hb tau) (M := mt_273) (mi := 273) (as := [xL x0, xL x1]) (d := d + 10) (ls := [some (xL x0), none, some (xL x1), none]) rfl rfl rfl rfl rfl rfl (cw_273_A5 (l := l) (D := D) (b0 := b0) (ad := ad) (Hb := Hb) (tau := tau) (d := d) (Post := fun r => ∃ z : Int, r = (some (xL z), h) ∧ ((-9223372036854775808) ≤ z ∧ z ≤ 9223372036854775807 ∧ ¬ z = 0)) hx hG p0 p1 k0 (fun z hz => ⟨z, rfl, hz⟩))
  subst e; exact ⟨z, hca, hp⟩
set_option maxRecDepth 100000 in
theorem cw_273_B6 {l : Launch} {D : va_G} {b0 : Nat} {ad : Nat → Nat} {Hb : Heap} {tau : Nat → Int64} {d n s : Nat} {S : Nat → xS} {Z : xZ} {h : mx_H} {Post : mx_R → Prop} (hx : XH n s S Z h) (hG : GI n S Z)  {x0 x1 : Int} (p0 : (-63) ≤ x0 ∧ x0 ≤ 63) (p1 : (-63) ≤ x1 ∧ x1 ≤ 63) (k0 : ((x0 ≤ 0 → x1 < -x0 ∧ x0 < x1) ∧ (0 ≤ x0 → x1 < x0 ∧ -x0 < x1))) (hP : ∀ z : Int, (-9223372036854775808) ≤ z ∧ z ≤ 9223372036854775807 ∧ ¬ z = 0 → Post (some (xL z), h)) : mx_J (tB l D b0 ad Hb tau) mt_273 (d + 11) 0 [some (xL x0), none, some (xL x1), none] [] h Post := by
    refine mx_J.step (sn_273 0) (fun _ _ => rfl) ?_
    refine JcL (z := 0) (show mx_Sn _ _ 1 (mx_const (.long 0) 2) from sn_273 1) rfl ?_
    have c17 : ∀ (k1_0 : Int), (-9223372036854775808) ≤ k1_0 ∧ k1_0 ≤ 9223372036854775807 → ¬ k1_0 = 0 → mx_J (tB l D b0 ad Hb tau) mt_273 (d + 11) 17 [some (xL x0), none, some (xL x1), none] [xL k1_0] h Post := by
      intro k1_0 f1_0 f1_1
      exact mx_J.ret (sn_273 17) (fun _ _ => rfl) (hP k1_0 (by omega))
    refine Jlif_ne (show mx_Sn _ _ 2 (mx_lif_ne 10 6) from sn_273 2) (by omega) (by omega) (fun q2 => ?_) (fun q2 => ?_)
    · skip
      refine mx_J.step (sn_273 10) (fun _ _ => rfl) ?_
      refine mx_J.step (sn_273 11) (fun _ _ => rfl) ?_
      refine mx_J.step (sn_273 12) (fun _ _ => rfl) ?_
      refine JlremB (show mx_Sn _ _ 13 (mx_lrem 14) from sn_273 13) (by omega) (by omega) (by omega) k0 (fun y3 hy3 => ?_)
      obtain ⟨z4, hc4, b4⟩ := ct_273_A5 (d := d + 0) (l := l) (D := D) (b0 := b0) (ad := ad) (Hb := Hb) (tau := tau) hx hG (show (-9223372036854775808) ≤ x1 ∧ x1 ≤ 9223372036854775807 by omega) (show (-31) ≤ y3 ∧ y3 ≤ 31 by omega) (show ¬ (x1 = 0 ∧ y3 = 0) by omega)
      refine Jcs (show mx_Sn _ _ 14 (mx_calls 273 2 17) from sn_273 14) hc4 rfl rfl rfl ?_
      exact c17 z4 (by omega) (by omega)
    · skip
      refine mx_J.step (sn_273 6) (fun _ _ => rfl) ?_
      refine mx_J.step (sn_273 7) (fun _ _ => rfl) ?_
      exact c17 x0 (by omega) (by omega)
theorem ct_273_B6 {l : Launch} {D : va_G} {b0 : Nat} {ad : Nat → Nat} {Hb : Heap} {tau : Nat → Int64} {d n s : Nat} {S : Nat → xS} {Z : xZ} {h : mx_H} (hx : XH n s S Z h) (hG : GI n S Z)  {x0 x1 : Int} (p0 : (-63) ≤ x0 ∧ x0 ≤ 63) (p1 : (-63) ≤ x1 ∧ x1 ≤ 63) (k0 : ((x0 ≤ 0 → x1 < -x0 ∧ x0 < x1) ∧ (0 ≤ x0 → x1 < x0 ∧ -x0 < x1))) : ∃ z : Int, mx_Ca (tB l D b0 ad Hb tau) (d + 12) 273 [xL x0, xL x1] h (some (xL z), h) ∧ ((-9223372036854775808) ≤ z ∧ z ≤ 9223372036854775807 ∧ ¬ z = 0) := by
  obtain ⟨r, hca, z, e, hp⟩ := Jmt (B := tB l D b0 ad Hb tau) (M := mt_273) (mi := 273) (as := [xL x0, xL x1]) (d := d + 11) (ls := [some (xL x0), none, some (xL x1), none]) rfl rfl rfl rfl rfl rfl (cw_273_B6 (l := l) (D := D) (b0 := b0) (ad := ad) (Hb := Hb) (tau := tau) (d := d) (Post := fun r => ∃ z : Int, r = (some (xL z), h) ∧ ((-9223372036854775808) ≤ z ∧ z ≤ 9223372036854775807 ∧ ¬ z = 0)) hx hG p0 p1 k0 (fun z hz => ⟨z, rfl, hz⟩))
  subst e; exact ⟨z, hca, hp⟩
set_option maxRecDepth 100000 in
theorem cw_273_A6 {l : Launch} {D : va_G} {b0 : Nat} {ad : Nat → Nat} {Hb : Heap} {tau : Nat → Int64} {d n s : Nat} {S : Nat → xS} {Z : xZ} {h : mx_H} {Post : mx_R → Prop} (hx : XH n s S Z h) (hG : GI n S Z)  {x0 x1 : Int} (p0 : (-9223372036854775808) ≤ x0 ∧ x0 ≤ 9223372036854775807) (p1 : (-63) ≤ x1 ∧ x1 ≤ 63) (k0 : ¬ (x0 = 0 ∧ x1 = 0)) (hP : ∀ z : Int, (-9223372036854775808) ≤ z ∧ z ≤ 9223372036854775807 ∧ ¬ z = 0 → Post (some (xL z), h)) : mx_J (tB l D b0 ad Hb tau) mt_273 (d + 12) 0 [some (xL x0), none, some (xL x1), none] [] h Post := by
    refine mx_J.step (sn_273 0) (fun _ _ => rfl) ?_
    refine JcL (z := 0) (show mx_Sn _ _ 1 (mx_const (.long 0) 2) from sn_273 1) rfl ?_
    have c17 : ∀ (k1_0 : Int), (-9223372036854775808) ≤ k1_0 ∧ k1_0 ≤ 9223372036854775807 → ¬ k1_0 = 0 → mx_J (tB l D b0 ad Hb tau) mt_273 (d + 12) 17 [some (xL x0), none, some (xL x1), none] [xL k1_0] h Post := by
      intro k1_0 f1_0 f1_1
      exact mx_J.ret (sn_273 17) (fun _ _ => rfl) (hP k1_0 (by omega))
    refine Jlif_ne (show mx_Sn _ _ 2 (mx_lif_ne 10 6) from sn_273 2) (by omega) (by omega) (fun q2 => ?_) (fun q2 => ?_)
    · skip
      refine mx_J.step (sn_273 10) (fun _ _ => rfl) ?_
      refine mx_J.step (sn_273 11) (fun _ _ => rfl) ?_
      refine mx_J.step (sn_273 12) (fun _ _ => rfl) ?_
      refine JlremA (show mx_Sn _ _ 13 (mx_lrem 14) from sn_273 13) (by omega) (by omega) (by omega) (fun y3 hy3 => ?_)
      obtain ⟨z4, hc4, b4⟩ := ct_273_B6 (d := d + 0) (l := l) (D := D) (b0 := b0) (ad := ad) (Hb := Hb) (tau := tau) hx hG (show (-63) ≤ x1 ∧ x1 ≤ 63 by omega) (show (-63) ≤ y3 ∧ y3 ≤ 63 by omega) (show ((x1 ≤ 0 → y3 < -x1 ∧ x1 < y3) ∧ (0 ≤ x1 → y3 < x1 ∧ -x1 < y3)) by omega)
      refine Jcs (show mx_Sn _ _ 14 (mx_calls 273 2 17) from sn_273 14) hc4 rfl rfl rfl ?_
      exact c17 z4 (by omega) (by omega)
    · skip
      refine mx_J.step (sn_273 6) (fun _ _ => rfl) ?_
      refine mx_J.step (sn_273 7) (fun _ _ => rfl) ?_
      exact c17 x0 (by omega) (by omega)
theorem ct_273_A6 {l : Launch} {D : va_G} {b0 : Nat} {ad : Nat → Nat} {Hb : Heap} {tau : Nat → Int64} {d n s : Nat} {S : Nat → xS} {Z : xZ} {h : mx_H} (hx : XH n s S Z h) (hG : GI n S Z)  {x0 x1 : Int} (p0 : (-9223372036854775808) ≤ x0 ∧ x0 ≤ 9223372036854775807) (p1 : (-63) ≤ x1 ∧ x1 ≤ 63) (k0 : ¬ (x0 = 0 ∧ x1 = 0)) : ∃ z : Int, mx_Ca (tB l D b0 ad Hb tau) (d + 13) 273 [xL x0, xL x1] h (some (xL z), h) ∧ ((-9223372036854775808) ≤ z ∧ z ≤ 9223372036854775807 ∧ ¬ z = 0) := by
  obtain ⟨r, hca, z, e, hp⟩ := Jmt (B := tB l D b0 ad Hb tau) (M := mt_273) (mi := 273) (as := [xL x0, xL x1]) (d := d + 12) (ls := [some (xL x0), none, some (xL x1), none]) rfl rfl rfl rfl rfl rfl (cw_273_A6 (l := l) (D := D) (b0 := b0) (ad := ad) (Hb := Hb) (tau := tau) (d := d) (Post := fun r => ∃ z : Int, r = (some (xL z), h) ∧ ((-9223372036854775808) ≤ z ∧ z ≤ 9223372036854775807 ∧ ¬ z = 0)) hx hG p0 p1 k0 (fun z hz => ⟨z, rfl, hz⟩))
  subst e; exact ⟨z, hca, hp⟩
set_option maxRecDepth 100000 in
theorem cw_273_B7 {l : Launch} {D : va_G} {b0 : Nat} {ad : Nat → Nat} {Hb : Heap} {tau : Nat → Int64} {d n s : Nat} {S : Nat → xS} {Z : xZ} {h : mx_H} {Post : mx_R → Prop} (hx : XH n s S Z h) (hG : GI n S Z)  {x0 x1 : Int} (p0 : (-127) ≤ x0 ∧ x0 ≤ 127) (p1 : (-127) ≤ x1 ∧ x1 ≤ 127) (k0 : ((x0 ≤ 0 → x1 < -x0 ∧ x0 < x1) ∧ (0 ≤ x0 → x1 < x0 ∧ -x0 < x1))) (hP : ∀ z : Int, (-9223372036854775808) ≤ z ∧ z ≤ 9223372036854775807 ∧ ¬ z = 0 → Post (some (xL z), h)) : mx_J (tB l D b0 ad Hb tau) mt_273 (d + 13) 0 [some (xL x0), none, some (xL x1), none] [] h Post := by
    refine mx_J.step (sn_273 0) (fun _ _ => rfl) ?_
    refine JcL (z := 0) (show mx_Sn _ _ 1 (mx_const (.long 0) 2) from sn_273 1) rfl ?_
    have c17 : ∀ (k1_0 : Int), (-9223372036854775808) ≤ k1_0 ∧ k1_0 ≤ 9223372036854775807 → ¬ k1_0 = 0 → mx_J (tB l D b0 ad Hb tau) mt_273 (d + 13) 17 [some (xL x0), none, some (xL x1), none] [xL k1_0] h Post := by
      intro k1_0 f1_0 f1_1
      exact mx_J.ret (sn_273 17) (fun _ _ => rfl) (hP k1_0 (by omega))
    refine Jlif_ne (show mx_Sn _ _ 2 (mx_lif_ne 10 6) from sn_273 2) (by omega) (by omega) (fun q2 => ?_) (fun q2 => ?_)
    · skip
      refine mx_J.step (sn_273 10) (fun _ _ => rfl) ?_
      refine mx_J.step (sn_273 11) (fun _ _ => rfl) ?_
      refine mx_J.step (sn_273 12) (fun _ _ => rfl) ?_
      refine JlremB (show mx_Sn _ _ 13 (mx_lrem 14) from sn_273 13) (by omega) (by omega) (by omega) k0 (fun y3 hy3 => ?_)
      obtain ⟨z4, hc4, b4⟩ := ct_273_A6 (d := d + 0) (l := l) (D := D) (b0 := b0) (ad := ad) (Hb := Hb) (tau := tau) hx hG (show (-9223372036854775808) ≤ x1 ∧ x1 ≤ 9223372036854775807 by omega) (show (-63) ≤ y3 ∧ y3 ≤ 63 by omega) (show ¬ (x1 = 0 ∧ y3 = 0) by omega)
      refine Jcs (show mx_Sn _ _ 14 (mx_calls 273 2 17) from sn_273 14) hc4 rfl rfl rfl ?_
      exact c17 z4 (by omega) (by omega)
    · skip
      refine mx_J.step (sn_273 6) (fun _ _ => rfl) ?_
      refine mx_J.step (sn_273 7) (fun _ _ => rfl) ?_
      exact c17 x0 (by omega) (by omega)
theorem ct_273_B7 {l : Launch} {D : va_G} {b0 : Nat} {ad : Nat → Nat} {Hb : Heap} {tau : Nat → Int64} {d n s : Nat} {S : Nat → xS} {Z : xZ} {h : mx_H} (hx : XH n s S Z h) (hG : GI n S Z)  {x0 x1 : Int} (p0 : (-127) ≤ x0 ∧ x0 ≤ 127) (p1 : (-127) ≤ x1 ∧ x1 ≤ 127) (k0 : ((x0 ≤ 0 → x1 < -x0 ∧ x0 < x1) ∧ (0 ≤ x0 → x1 < x0 ∧ -x0 < x1))) : ∃ z : Int, mx_Ca (tB l D b0 ad Hb tau) (d + 14) 273 [xL x0, xL x1] h (some (xL z), h) ∧ ((-9223372036854775808) ≤ z ∧ z ≤ 9223372036854775807 ∧ ¬ z = 0) := by
  obtain ⟨r, hca, z, e, hp⟩ := Jmt (B := tB l D b0 ad Hb tau) (M := mt_273) (mi := 273) (as := [xL x0, xL x1]) (d := d + 13) (ls := [some (xL x0), none, some (xL x1), none]) rfl rfl rfl rfl rfl rfl (cw_273_B7 (l := l) (D := D) (b0 := b0) (ad := ad) (Hb := Hb) (tau := tau) (d := d) (Post := fun r => ∃ z : Int, r = (some (xL z), h) ∧ ((-9223372036854775808) ≤ z ∧ z ≤ 9223372036854775807 ∧ ¬ z = 0)) hx hG p0 p1 k0 (fun z hz => ⟨z, rfl, hz⟩))
  subst e; exact ⟨z, hca, hp⟩
set_option maxRecDepth 100000 in
theorem cw_273_A7 {l : Launch} {D : va_G} {b0 : Nat} {ad : Nat → Nat} {Hb : Heap} {tau : Nat → Int64} {d n s : Nat} {S : Nat → xS} {Z : xZ} {h : mx_H} {Post : mx_R → Prop} (hx : XH n s S Z h) (hG : GI n S Z)  {x0 x1 : Int} (p0 : (-9223372036854775808) ≤ x0 ∧ x0 ≤ 9223372036854775807) (p1 : (-127) ≤ x1 ∧ x1 ≤ 127) (k0 : ¬ (x0 = 0 ∧ x1 = 0)) (hP : ∀ z : Int, (-9223372036854775808) ≤ z ∧ z ≤ 9223372036854775807 ∧ ¬ z = 0 → Post (some (xL z), h)) : mx_J (tB l D b0 ad Hb tau) mt_273 (d + 14) 0 [some (xL x0), none, some (xL x1), none] [] h Post := by
    refine mx_J.step (sn_273 0) (fun _ _ => rfl) ?_
    refine JcL (z := 0) (show mx_Sn _ _ 1 (mx_const (.long 0) 2) from sn_273 1) rfl ?_
    have c17 : ∀ (k1_0 : Int), (-9223372036854775808) ≤ k1_0 ∧ k1_0 ≤ 9223372036854775807 → ¬ k1_0 = 0 → mx_J (tB l D b0 ad Hb tau) mt_273 (d + 14) 17 [some (xL x0), none, some (xL x1), none] [xL k1_0] h Post := by
      intro k1_0 f1_0 f1_1
      exact mx_J.ret (sn_273 17) (fun _ _ => rfl) (hP k1_0 (by omega))
    refine Jlif_ne (show mx_Sn _ _ 2 (mx_lif_ne 10 6) from sn_273 2) (by omega) (by omega) (fun q2 => ?_) (fun q2 => ?_)
    · skip
      refine mx_J.step (sn_273 10) (fun _ _ => rfl) ?_
      refine mx_J.step (sn_273 11) (fun _ _ => rfl) ?_
      refine mx_J.step (sn_273 12) (fun _ _ => rfl) ?_
      refine JlremA (show mx_Sn _ _ 13 (mx_lrem 14) from sn_273 13) (by omega) (by omega) (by omega) (fun y3 hy3 => ?_)
      obtain ⟨z4, hc4, b4⟩ := ct_273_B7 (d := d + 0) (l := l) (D := D) (b0 := b0) (ad := ad) (Hb := Hb) (tau := tau) hx hG (show (-127) ≤ x1 ∧ x1 ≤ 127 by omega) (show (-127) ≤ y3 ∧ y3 ≤ 127 by omega) (show ((x1 ≤ 0 → y3 < -x1 ∧ x1 < y3) ∧ (0 ≤ x1 → y3 < x1 ∧ -x1 < y3)) by omega)
      refine Jcs (show mx_Sn _ _ 14 (mx_calls 273 2 17) from sn_273 14) hc4 rfl rfl rfl ?_
      exact c17 z4 (by omega) (by omega)
    · skip
      refine mx_J.step (sn_273 6) (fun _ _ => rfl) ?_
      refine mx_J.step (sn_273 7) (fun _ _ => rfl) ?_
      exact c17 x0 (by omega) (by omega)
theorem ct_273_A7 {l : Launch} {D : va_G} {b0 : Nat} {ad : Nat → Nat} {Hb : Heap} {tau : Nat → Int64} {d n s : Nat} {S : Nat → xS} {Z : xZ} {h : mx_H} (hx : XH n s S Z h) (hG : GI n S Z)  {x0 x1 : Int} (p0 : (-9223372036854775808) ≤ x0 ∧ x0 ≤ 9223372036854775807) (p1 : (-127) ≤ x1 ∧ x1 ≤ 127) (k0 : ¬ (x0 = 0 ∧ x1 = 0)) : ∃ z : Int, mx_Ca (tB l D b0 ad Hb tau) (d + 15) 273 [xL x0, xL x1] h (some (xL z), h) ∧ ((-9223372036854775808) ≤ z ∧ z ≤ 9223372036854775807 ∧ ¬ z = 0) := by
  obtain ⟨r, hca, z, e, hp⟩ := Jmt (B := tB l D b0 ad Hb tau) (M := mt_273) (mi := 273) (as := [xL x0, xL x1]) (d := d + 14) (ls := [some (xL x0), none, some (xL x1), none]) rfl rfl rfl rfl rfl rfl (cw_273_A7 (l := l) (D := D) (b0 := b0) (ad := ad) (Hb := Hb) (tau := tau) (d := d) (Post := fun r => ∃ z : Int, r = (some (xL z), h) ∧ ((-9223372036854775808) ≤ z ∧ z ≤ 9223372036854775807 ∧ ¬ z = 0)) hx hG p0 p1 k0 (fun z hz => ⟨z, rfl, hz⟩))
  subst e; exact ⟨z, hca, hp⟩
set_option maxRecDepth 100000 in
theorem cw_273_B8 {l : Launch} {D : va_G} {b0 : Nat} {ad : Nat → Nat} {Hb : Heap} {tau : Nat → Int64} {d n s : Nat} {S : Nat → xS} {Z : xZ} {h : mx_H} {Post : mx_R → Prop} (hx : XH n s S Z h) (hG : GI n S Z)  {x0 x1 : Int} (p0 : (-255) ≤ x0 ∧ x0 ≤ 255) (p1 : (-255) ≤ x1 ∧ x1 ≤ 255) (k0 : ((x0 ≤ 0 → x1 < -x0 ∧ x0 < x1) ∧ (0 ≤ x0 → x1 < x0 ∧ -x0 < x1))) (hP : ∀ z : Int, (-9223372036854775808) ≤ z ∧ z ≤ 9223372036854775807 ∧ ¬ z = 0 → Post (some (xL z), h)) : mx_J (tB l D b0 ad Hb tau) mt_273 (d + 15) 0 [some (xL x0), none, some (xL x1), none] [] h Post := by
    refine mx_J.step (sn_273 0) (fun _ _ => rfl) ?_
    refine JcL (z := 0) (show mx_Sn _ _ 1 (mx_const (.long 0) 2) from sn_273 1) rfl ?_
    have c17 : ∀ (k1_0 : Int), (-9223372036854775808) ≤ k1_0 ∧ k1_0 ≤ 9223372036854775807 → ¬ k1_0 = 0 → mx_J (tB l D b0 ad Hb tau) mt_273 (d + 15) 17 [some (xL x0), none, some (xL x1), none] [xL k1_0] h Post := by
      intro k1_0 f1_0 f1_1
      exact mx_J.ret (sn_273 17) (fun _ _ => rfl) (hP k1_0 (by omega))
    refine Jlif_ne (show mx_Sn _ _ 2 (mx_lif_ne 10 6) from sn_273 2) (by omega) (by omega) (fun q2 => ?_) (fun q2 => ?_)
    · skip
      refine mx_J.step (sn_273 10) (fun _ _ => rfl) ?_
      refine mx_J.step (sn_273 11) (fun _ _ => rfl) ?_
      refine mx_J.step (sn_273 12) (fun _ _ => rfl) ?_
      refine JlremB (show mx_Sn _ _ 13 (mx_lrem 14) from sn_273 13) (by omega) (by omega) (by omega) k0 (fun y3 hy3 => ?_)
      obtain ⟨z4, hc4, b4⟩ := ct_273_A7 (d := d + 0) (l := l) (D := D) (b0 := b0) (ad := ad) (Hb := Hb) (tau := tau) hx hG (show (-9223372036854775808) ≤ x1 ∧ x1 ≤ 9223372036854775807 by omega) (show (-127) ≤ y3 ∧ y3 ≤ 127 by omega) (show ¬ (x1 = 0 ∧ y3 = 0) by omega)
      refine Jcs (show mx_Sn _ _ 14 (mx_calls 273 2 17) from sn_273 14) hc4 rfl rfl rfl ?_
      exact c17 z4 (by omega) (by omega)
    · skip
      refine mx_J.step (sn_273 6) (fun _ _ => rfl) ?_
      refine mx_J.step (sn_273 7) (fun _ _ => rfl) ?_
      exact c17 x0 (by omega) (by omega)
theorem ct_273_B8 {l : Launch} {D : va_G} {b0 : Nat} {ad : Nat → Nat} {Hb : Heap} {tau : Nat → Int64} {d n s : Nat} {S : Nat → xS} {Z : xZ} {h : mx_H} (hx : XH n s S Z h) (hG : GI n S Z)  {x0 x1 : Int} (p0 : (-255) ≤ x0 ∧ x0 ≤ 255) (p1 : (-255) ≤ x1 ∧ x1 ≤ 255) (k0 : ((x0 ≤ 0 → x1 < -x0 ∧ x0 < x1) ∧ (0 ≤ x0 → x1 < x0 ∧ -x0 < x1))) : ∃ z : Int, mx_Ca (tB l D b0 ad Hb tau) (d + 16) 273 [xL x0, xL x1] h (some (xL z), h) ∧ ((-9223372036854775808) ≤ z ∧ z ≤ 9223372036854775807 ∧ ¬ z = 0) := by
  obtain ⟨r, hca, z, e, hp⟩ := Jmt (B := tB l D b0 ad Hb tau) (M := mt_273) (mi := 273) (as := [xL x0, xL x1]) (d := d + 15) (ls := [some (xL x0), none, some (xL x1), none]) rfl rfl rfl rfl rfl rfl (cw_273_B8 (l := l) (D := D) (b0 := b0) (ad := ad) (Hb := Hb) (tau := tau) (d := d) (Post := fun r => ∃ z : Int, r = (some (xL z), h) ∧ ((-9223372036854775808) ≤ z ∧ z ≤ 9223372036854775807 ∧ ¬ z = 0)) hx hG p0 p1 k0 (fun z hz => ⟨z, rfl, hz⟩))
  subst e; exact ⟨z, hca, hp⟩
set_option maxRecDepth 100000 in
theorem cw_273_A8 {l : Launch} {D : va_G} {b0 : Nat} {ad : Nat → Nat} {Hb : Heap} {tau : Nat → Int64} {d n s : Nat} {S : Nat → xS} {Z : xZ} {h : mx_H} {Post : mx_R → Prop} (hx : XH n s S Z h) (hG : GI n S Z)  {x0 x1 : Int} (p0 : (-9223372036854775808) ≤ x0 ∧ x0 ≤ 9223372036854775807) (p1 : (-255) ≤ x1 ∧ x1 ≤ 255) (k0 : ¬ (x0 = 0 ∧ x1 = 0)) (hP : ∀ z : Int, (-9223372036854775808) ≤ z ∧ z ≤ 9223372036854775807 ∧ ¬ z = 0 → Post (some (xL z), h)) : mx_J (tB l D b0 ad Hb tau) mt_273 (d + 16) 0 [some (xL x0), none, some (xL x1), none] [] h Post := by
    refine mx_J.step (sn_273 0) (fun _ _ => rfl) ?_
    refine JcL (z := 0) (show mx_Sn _ _ 1 (mx_const (.long 0) 2) from sn_273 1) rfl ?_
    have c17 : ∀ (k1_0 : Int), (-9223372036854775808) ≤ k1_0 ∧ k1_0 ≤ 9223372036854775807 → ¬ k1_0 = 0 → mx_J (tB l D b0 ad Hb tau) mt_273 (d + 16) 17 [some (xL x0), none, some (xL x1), none] [xL k1_0] h Post := by
      intro k1_0 f1_0 f1_1
      exact mx_J.ret (sn_273 17) (fun _ _ => rfl) (hP k1_0 (by omega))
    refine Jlif_ne (show mx_Sn _ _ 2 (mx_lif_ne 10 6) from sn_273 2) (by omega) (by omega) (fun q2 => ?_) (fun q2 => ?_)
    · skip
      refine mx_J.step (sn_273 10) (fun _ _ => rfl) ?_
      refine mx_J.step (sn_273 11) (fun _ _ => rfl) ?_
      refine mx_J.step (sn_273 12) (fun _ _ => rfl) ?_
      refine JlremA (show mx_Sn _ _ 13 (mx_lrem 14) from sn_273 13) (by omega) (by omega) (by omega) (fun y3 hy3 => ?_)
      obtain ⟨z4, hc4, b4⟩ := ct_273_B8 (d := d + 0) (l := l) (D := D) (b0 := b0) (ad := ad) (Hb := Hb) (tau := tau) hx hG (show (-255) ≤ x1 ∧ x1 ≤ 255 by omega) (show (-255) ≤ y3 ∧ y3 ≤ 255 by omega) (show ((x1 ≤ 0 → y3 < -x1 ∧ x1 < y3) ∧ (0 ≤ x1 → y3 < x1 ∧ -x1 < y3)) by omega)
      refine Jcs (show mx_Sn _ _ 14 (mx_calls 273 2 17) from sn_273 14) hc4 rfl rfl rfl ?_
      exact c17 z4 (by omega) (by omega)
    · skip
      refine mx_J.step (sn_273 6) (fun _ _ => rfl) ?_
      refine mx_J.step (sn_273 7) (fun _ _ => rfl) ?_
      exact c17 x0 (by omega) (by omega)
theorem ct_273_A8 {l : Launch} {D : va_G} {b0 : Nat} {ad : Nat → Nat} {Hb : Heap} {tau : Nat → Int64} {d n s : Nat} {S : Nat → xS} {Z : xZ} {h : mx_H} (hx : XH n s S Z h) (hG : GI n S Z)  {x0 x1 : Int} (p0 : (-9223372036854775808) ≤ x0 ∧ x0 ≤ 9223372036854775807) (p1 : (-255) ≤ x1 ∧ x1 ≤ 255) (k0 : ¬ (x0 = 0 ∧ x1 = 0)) : ∃ z : Int, mx_Ca (tB l D b0 ad Hb tau) (d + 17) 273 [xL x0, xL x1] h (some (xL z), h) ∧ ((-9223372036854775808) ≤ z ∧ z ≤ 9223372036854775807 ∧ ¬ z = 0) := by
  obtain ⟨r, hca, z, e, hp⟩ := Jmt (B := tB l D b0 ad Hb tau) (M := mt_273) (mi := 273) (as := [xL x0, xL x1]) (d := d + 16) (ls := [some (xL x0), none, some (xL x1), none]) rfl rfl rfl rfl rfl rfl (cw_273_A8 (l := l) (D := D) (b0 := b0) (ad := ad) (Hb := Hb) (tau := tau) (d := d) (Post := fun r => ∃ z : Int, r = (some (xL z), h) ∧ ((-9223372036854775808) ≤ z ∧ z ≤ 9223372036854775807 ∧ ¬ z = 0)) hx hG p0 p1 k0 (fun z hz => ⟨z, rfl, hz⟩))
  subst e; exact ⟨z, hca, hp⟩
set_option maxRecDepth 100000 in
theorem cw_273_B9 {l : Launch} {D : va_G} {b0 : Nat} {ad : Nat → Nat} {Hb : Heap} {tau : Nat → Int64} {d n s : Nat} {S : Nat → xS} {Z : xZ} {h : mx_H} {Post : mx_R → Prop} (hx : XH n s S Z h) (hG : GI n S Z)  {x0 x1 : Int} (p0 : (-511) ≤ x0 ∧ x0 ≤ 511) (p1 : (-511) ≤ x1 ∧ x1 ≤ 511) (k0 : ((x0 ≤ 0 → x1 < -x0 ∧ x0 < x1) ∧ (0 ≤ x0 → x1 < x0 ∧ -x0 < x1))) (hP : ∀ z : Int, (-9223372036854775808) ≤ z ∧ z ≤ 9223372036854775807 ∧ ¬ z = 0 → Post (some (xL z), h)) : mx_J (tB l D b0 ad Hb tau) mt_273 (d + 17) 0 [some (xL x0), none, some (xL x1), none] [] h Post := by
    refine mx_J.step (sn_273 0) (fun _ _ => rfl) ?_
    refine JcL (z := 0) (show mx_Sn _ _ 1 (mx_const (.long 0) 2) from sn_273 1) rfl ?_
    have c17 : ∀ (k1_0 : Int), (-9223372036854775808) ≤ k1_0 ∧ k1_0 ≤ 9223372036854775807 → ¬ k1_0 = 0 → mx_J (tB l D b0 ad Hb tau) mt_273 (d + 17) 17 [some (xL x0), none, some (xL x1), none] [xL k1_0] h Post := by
      intro k1_0 f1_0 f1_1
      exact mx_J.ret (sn_273 17) (fun _ _ => rfl) (hP k1_0 (by omega))
    refine Jlif_ne (show mx_Sn _ _ 2 (mx_lif_ne 10 6) from sn_273 2) (by omega) (by omega) (fun q2 => ?_) (fun q2 => ?_)
    · skip
      refine mx_J.step (sn_273 10) (fun _ _ => rfl) ?_
      refine mx_J.step (sn_273 11) (fun _ _ => rfl) ?_
      refine mx_J.step (sn_273 12) (fun _ _ => rfl) ?_
      refine JlremB (show mx_Sn _ _ 13 (mx_lrem 14) from sn_273 13) (by omega) (by omega) (by omega) k0 (fun y3 hy3 => ?_)
      obtain ⟨z4, hc4, b4⟩ := ct_273_A8 (d := d + 0) (l := l) (D := D) (b0 := b0) (ad := ad) (Hb := Hb) (tau := tau) hx hG (show (-9223372036854775808) ≤ x1 ∧ x1 ≤ 9223372036854775807 by omega) (show (-255) ≤ y3 ∧ y3 ≤ 255 by omega) (show ¬ (x1 = 0 ∧ y3 = 0) by omega)
      refine Jcs (show mx_Sn _ _ 14 (mx_calls 273 2 17) from sn_273 14) hc4 rfl rfl rfl ?_
      exact c17 z4 (by omega) (by omega)
    · skip
      refine mx_J.step (sn_273 6) (fun _ _ => rfl) ?_
      refine mx_J.step (sn_273 7) (fun _ _ => rfl) ?_
      exact c17 x0 (by omega) (by omega)
theorem ct_273_B9 {l : Launch} {D : va_G} {b0 : Nat} {ad : Nat → Nat} {Hb : Heap} {tau : Nat → Int64} {d n s : Nat} {S : Nat → xS} {Z : xZ} {h : mx_H} (hx : XH n s S Z h) (hG : GI n S Z)  {x0 x1 : Int} (p0 : (-511) ≤ x0 ∧ x0 ≤ 511) (p1 : (-511) ≤ x1 ∧ x1 ≤ 511) (k0 : ((x0 ≤ 0 → x1 < -x0 ∧ x0 < x1) ∧ (0 ≤ x0 → x1 < x0 ∧ -x0 < x1))) : ∃ z : Int, mx_Ca (tB l D b0 ad Hb tau) (d + 18) 273 [xL x0, xL x1] h (some (xL z), h) ∧ ((-9223372036854775808) ≤ z ∧ z ≤ 9223372036854775807 ∧ ¬ z = 0) := by
  obtain ⟨r, hca, z, e, hp⟩ := Jmt (B := tB l D b0 ad Hb tau) (M := mt_273) (mi := 273) (as := [xL x0, xL x1]) (d := d + 17) (ls := [some (xL x0), none, some (xL x1), none]) rfl rfl rfl rfl rfl rfl (cw_273_B9 (l := l) (D := D) (b0 := b0) (ad := ad) (Hb := Hb) (tau := tau) (d := d) (Post := fun r => ∃ z : Int, r = (some (xL z), h) ∧ ((-9223372036854775808) ≤ z ∧ z ≤ 9223372036854775807 ∧ ¬ z = 0)) hx hG p0 p1 k0 (fun z hz => ⟨z, rfl, hz⟩))
  subst e; exact ⟨z, hca, hp⟩
set_option maxRecDepth 100000 in
theorem cw_273_A9 {l : Launch} {D : va_G} {b0 : Nat} {ad : Nat → Nat} {Hb : Heap} {tau : Nat → Int64} {d n s : Nat} {S : Nat → xS} {Z : xZ} {h : mx_H} {Post : mx_R → Prop} (hx : XH n s S Z h) (hG : GI n S Z)  {x0 x1 : Int} (p0 : (-9223372036854775808) ≤ x0 ∧ x0 ≤ 9223372036854775807) (p1 : (-511) ≤ x1 ∧ x1 ≤ 511) (k0 : ¬ (x0 = 0 ∧ x1 = 0)) (hP : ∀ z : Int, (-9223372036854775808) ≤ z ∧ z ≤ 9223372036854775807 ∧ ¬ z = 0 → Post (some (xL z), h)) : mx_J (tB l D b0 ad Hb tau) mt_273 (d + 18) 0 [some (xL x0), none, some (xL x1), none] [] h Post := by
    refine mx_J.step (sn_273 0) (fun _ _ => rfl) ?_
    refine JcL (z := 0) (show mx_Sn _ _ 1 (mx_const (.long 0) 2) from sn_273 1) rfl ?_
    have c17 : ∀ (k1_0 : Int), (-9223372036854775808) ≤ k1_0 ∧ k1_0 ≤ 9223372036854775807 → ¬ k1_0 = 0 → mx_J (tB l D b0 ad Hb tau) mt_273 (d + 18) 17 [some (xL x0), none, some (xL x1), none] [xL k1_0] h Post := by
      intro k1_0 f1_0 f1_1
      exact mx_J.ret (sn_273 17) (fun _ _ => rfl) (hP k1_0 (by omega))
    refine Jlif_ne (show mx_Sn _ _ 2 (mx_lif_ne 10 6) from sn_273 2) (by omega) (by omega) (fun q2 => ?_) (fun q2 => ?_)
    · skip
      refine mx_J.step (sn_273 10) (fun _ _ => rfl) ?_
      refine mx_J.step (sn_273 11) (fun _ _ => rfl) ?_
      refine mx_J.step (sn_273 12) (fun _ _ => rfl) ?_
      refine JlremA (show mx_Sn _ _ 13 (mx_lrem 14) from sn_273 13) (by omega) (by omega) (by omega) (fun y3 hy3 => ?_)
      obtain ⟨z4, hc4, b4⟩ := ct_273_B9 (d := d + 0) (l := l) (D := D) (b0 := b0) (ad := ad) (Hb := Hb) (tau := tau) hx hG (show (-511) ≤ x1 ∧ x1 ≤ 511 by omega) (show (-511) ≤ y3 ∧ y3 ≤ 511 by omega) (show ((x1 ≤ 0 → y3 < -x1 ∧ x1 < y3) ∧ (0 ≤ x1 → y3 < x1 ∧ -x1 < y3)) by omega)
      refine Jcs (show mx_Sn _ _ 14 (mx_calls 273 2 17) from sn_273 14) hc4 rfl rfl rfl ?_
      exact c17 z4 (by omega) (by omega)
    · skip
      refine mx_J.step (sn_273 6) (fun _ _ => rfl) ?_
      refine mx_J.step (sn_273 7) (fun _ _ => rfl) ?_
      exact c17 x0 (by omega) (by omega)
theorem ct_273_A9 {l : Launch} {D : va_G} {b0 : Nat} {ad : Nat → Nat} {Hb : Heap} {tau : Nat → Int64} {d n s : Nat} {S : Nat → xS} {Z : xZ} {h : mx_H} (hx : XH n s S Z h) (hG : GI n S Z)  {x0 x1 : Int} (p0 : (-9223372036854775808) ≤ x0 ∧ x0 ≤ 9223372036854775807) (p1 : (-511) ≤ x1 ∧ x1 ≤ 511) (k0 : ¬ (x0 = 0 ∧ x1 = 0)) : ∃ z : Int, mx_Ca (tB l D b0 ad Hb tau) (d + 19) 273 [xL x0, xL x1] h (some (xL z), h) ∧ ((-9223372036854775808) ≤ z ∧ z ≤ 9223372036854775807 ∧ ¬ z = 0) := by
  obtain ⟨r, hca, z, e, hp⟩ := Jmt (B := tB l D b0 ad Hb tau) (M := mt_273) (mi := 273) (as := [xL x0, xL x1]) (d := d + 18) (ls := [some (xL x0), none, some (xL x1), none]) rfl rfl rfl rfl rfl rfl (cw_273_A9 (l := l) (D := D) (b0 := b0) (ad := ad) (Hb := Hb) (tau := tau) (d := d) (Post := fun r => ∃ z : Int, r = (some (xL z), h) ∧ ((-9223372036854775808) ≤ z ∧ z ≤ 9223372036854775807 ∧ ¬ z = 0)) hx hG p0 p1 k0 (fun z hz => ⟨z, rfl, hz⟩))
  subst e; exact ⟨z, hca, hp⟩
set_option maxRecDepth 100000 in
theorem cw_273_B10 {l : Launch} {D : va_G} {b0 : Nat} {ad : Nat → Nat} {Hb : Heap} {tau : Nat → Int64} {d n s : Nat} {S : Nat → xS} {Z : xZ} {h : mx_H} {Post : mx_R → Prop} (hx : XH n s S Z h) (hG : GI n S Z)  {x0 x1 : Int} (p0 : (-1023) ≤ x0 ∧ x0 ≤ 1023) (p1 : (-1023) ≤ x1 ∧ x1 ≤ 1023) (k0 : ((x0 ≤ 0 → x1 < -x0 ∧ x0 < x1) ∧ (0 ≤ x0 → x1 < x0 ∧ -x0 < x1))) (hP : ∀ z : Int, (-9223372036854775808) ≤ z ∧ z ≤ 9223372036854775807 ∧ ¬ z = 0 → Post (some (xL z), h)) : mx_J (tB l D b0 ad Hb tau) mt_273 (d + 19) 0 [some (xL x0), none, some (xL x1), none] [] h Post := by
    refine mx_J.step (sn_273 0) (fun _ _ => rfl) ?_
    refine JcL (z := 0) (show mx_Sn _ _ 1 (mx_const (.long 0) 2) from sn_273 1) rfl ?_
    have c17 : ∀ (k1_0 : Int), (-9223372036854775808) ≤ k1_0 ∧ k1_0 ≤ 9223372036854775807 → ¬ k1_0 = 0 → mx_J (tB l D b0 ad Hb tau) mt_273 (d + 19) 17 [some (xL x0), none, some (xL x1), none] [xL k1_0] h Post := by
      intro k1_0 f1_0 f1_1
      exact mx_J.ret (sn_273 17) (fun _ _ => rfl) (hP k1_0 (by omega))
    refine Jlif_ne (show mx_Sn _ _ 2 (mx_lif_ne 10 6) from sn_273 2) (by omega) (by omega) (fun q2 => ?_) (fun q2 => ?_)
    · skip
      refine mx_J.step (sn_273 10) (fun _ _ => rfl) ?_
      refine mx_J.step (sn_273 11) (fun _ _ => rfl) ?_
      refine mx_J.step (sn_273 12) (fun _ _ => rfl) ?_
      refine JlremB (show mx_Sn _ _ 13 (mx_lrem 14) from sn_273 13) (by omega) (by omega) (by omega) k0 (fun y3 hy3 => ?_)
      obtain ⟨z4, hc4, b4⟩ := ct_273_A9 (d := d + 0) (l := l) (D := D) (b0 := b0) (ad := ad) (Hb := Hb) (tau := tau) hx hG (show (-9223372036854775808) ≤ x1 ∧ x1 ≤ 9223372036854775807 by omega) (show (-511) ≤ y3 ∧ y3 ≤ 511 by omega) (show ¬ (x1 = 0 ∧ y3 = 0) by omega)
      refine Jcs (show mx_Sn _ _ 14 (mx_calls 273 2 17) from sn_273 14) hc4 rfl rfl rfl ?_
      exact c17 z4 (by omega) (by omega)
    · skip
      refine mx_J.step (sn_273 6) (fun _ _ => rfl) ?_
      refine mx_J.step (sn_273 7) (fun _ _ => rfl) ?_
      exact c17 x0 (by omega) (by omega)
theorem ct_273_B10 {l : Launch} {D : va_G} {b0 : Nat} {ad : Nat → Nat} {Hb : Heap} {tau : Nat → Int64} {d n s : Nat} {S : Nat → xS} {Z : xZ} {h : mx_H} (hx : XH n s S Z h) (hG : GI n S Z)  {x0 x1 : Int} (p0 : (-1023) ≤ x0 ∧ x0 ≤ 1023) (p1 : (-1023) ≤ x1 ∧ x1 ≤ 1023) (k0 : ((x0 ≤ 0 → x1 < -x0 ∧ x0 < x1) ∧ (0 ≤ x0 → x1 < x0 ∧ -x0 < x1))) : ∃ z : Int, mx_Ca (tB l D b0 ad Hb tau) (d + 20) 273 [xL x0, xL x1] h (some (xL z), h) ∧ ((-9223372036854775808) ≤ z ∧ z ≤ 9223372036854775807 ∧ ¬ z = 0) := by
  obtain ⟨r, hca, z, e, hp⟩ := Jmt (B := tB l D b0 ad Hb tau) (M := mt_273) (mi := 273) (as := [xL x0, xL x1]) (d := d + 19) (ls := [some (xL x0), none, some (xL x1), none]) rfl rfl rfl rfl rfl rfl (cw_273_B10 (l := l) (D := D) (b0 := b0) (ad := ad) (Hb := Hb) (tau := tau) (d := d) (Post := fun r => ∃ z : Int, r = (some (xL z), h) ∧ ((-9223372036854775808) ≤ z ∧ z ≤ 9223372036854775807 ∧ ¬ z = 0)) hx hG p0 p1 k0 (fun z hz => ⟨z, rfl, hz⟩))
  subst e; exact ⟨z, hca, hp⟩
set_option maxRecDepth 100000 in
theorem cw_273_A10 {l : Launch} {D : va_G} {b0 : Nat} {ad : Nat → Nat} {Hb : Heap} {tau : Nat → Int64} {d n s : Nat} {S : Nat → xS} {Z : xZ} {h : mx_H} {Post : mx_R → Prop} (hx : XH n s S Z h) (hG : GI n S Z)  {x0 x1 : Int} (p0 : (-9223372036854775808) ≤ x0 ∧ x0 ≤ 9223372036854775807) (p1 : (-1023) ≤ x1 ∧ x1 ≤ 1023) (k0 : ¬ (x0 = 0 ∧ x1 = 0)) (hP : ∀ z : Int, (-9223372036854775808) ≤ z ∧ z ≤ 9223372036854775807 ∧ ¬ z = 0 → Post (some (xL z), h)) : mx_J (tB l D b0 ad Hb tau) mt_273 (d + 20) 0 [some (xL x0), none, some (xL x1), none] [] h Post := by
    refine mx_J.step (sn_273 0) (fun _ _ => rfl) ?_
    refine JcL (z := 0) (show mx_Sn _ _ 1 (mx_const (.long 0) 2) from sn_273 1) rfl ?_
    have c17 : ∀ (k1_0 : Int), (-9223372036854775808) ≤ k1_0 ∧ k1_0 ≤ 9223372036854775807 → ¬ k1_0 = 0 → mx_J (tB l D b0 ad Hb tau) mt_273 (d + 20) 17 [some (xL x0), none, some (xL x1), none] [xL k1_0] h Post := by
      intro k1_0 f1_0 f1_1
      exact mx_J.ret (sn_273 17) (fun _ _ => rfl) (hP k1_0 (by omega))
    refine Jlif_ne (show mx_Sn _ _ 2 (mx_lif_ne 10 6) from sn_273 2) (by omega) (by omega) (fun q2 => ?_) (fun q2 => ?_)
    · skip
      refine mx_J.step (sn_273 10) (fun _ _ => rfl) ?_
      refine mx_J.step (sn_273 11) (fun _ _ => rfl) ?_
      refine mx_J.step (sn_273 12) (fun _ _ => rfl) ?_
      refine JlremA (show mx_Sn _ _ 13 (mx_lrem 14) from sn_273 13) (by omega) (by omega) (by omega) (fun y3 hy3 => ?_)
      obtain ⟨z4, hc4, b4⟩ := ct_273_B10 (d := d + 0) (l := l) (D := D) (b0 := b0) (ad := ad) (Hb := Hb) (tau := tau) hx hG (show (-1023) ≤ x1 ∧ x1 ≤ 1023 by omega) (show (-1023) ≤ y3 ∧ y3 ≤ 1023 by omega) (show ((x1 ≤ 0 → y3 < -x1 ∧ x1 < y3) ∧ (0 ≤ x1 → y3 < x1 ∧ -x1 < y3)) by omega)
      refine Jcs (show mx_Sn _ _ 14 (mx_calls 273 2 17) from sn_273 14) hc4 rfl rfl rfl ?_
      exact c17 z4 (by omega) (by omega)
    · skip
      refine mx_J.step (sn_273 6) (fun _ _ => rfl) ?_
      refine mx_J.step (sn_273 7) (fun _ _ => rfl) ?_
      exact c17 x0 (by omega) (by omega)
theorem ct_273_A10 {l : Launch} {D : va_G} {b0 : Nat} {ad : Nat → Nat} {Hb : Heap} {tau : Nat → Int64} {d n s : Nat} {S : Nat → xS} {Z : xZ} {h : mx_H} (hx : XH n s S Z h) (hG : GI n S Z)  {x0 x1 : Int} (p0 : (-9223372036854775808) ≤ x0 ∧ x0 ≤ 9223372036854775807) (p1 : (-1023) ≤ x1 ∧ x1 ≤ 1023) (k0 : ¬ (x0 = 0 ∧ x1 = 0)) : ∃ z : Int, mx_Ca (tB l D b0 ad Hb tau) (d + 21) 273 [xL x0, xL x1] h (some (xL z), h) ∧ ((-9223372036854775808) ≤ z ∧ z ≤ 9223372036854775807 ∧ ¬ z = 0) := by
  obtain ⟨r, hca, z, e, hp⟩ := Jmt (B := tB l D b0 ad Hb tau) (M := mt_273) (mi := 273) (as := [xL x0, xL x1]) (d := d + 20) (ls := [some (xL x0), none, some (xL x1), none]) rfl rfl rfl rfl rfl rfl (cw_273_A10 (l := l) (D := D) (b0 := b0) (ad := ad) (Hb := Hb) (tau := tau) (d := d) (Post := fun r => ∃ z : Int, r = (some (xL z), h) ∧ ((-9223372036854775808) ≤ z ∧ z ≤ 9223372036854775807 ∧ ¬ z = 0)) hx hG p0 p1 k0 (fun z hz => ⟨z, rfl, hz⟩))
  subst e; exact ⟨z, hca, hp⟩
set_option maxRecDepth 100000 in
theorem cw_273_B11 {l : Launch} {D : va_G} {b0 : Nat} {ad : Nat → Nat} {Hb : Heap} {tau : Nat → Int64} {d n s : Nat} {S : Nat → xS} {Z : xZ} {h : mx_H} {Post : mx_R → Prop} (hx : XH n s S Z h) (hG : GI n S Z)  {x0 x1 : Int} (p0 : (-2047) ≤ x0 ∧ x0 ≤ 2047) (p1 : (-2047) ≤ x1 ∧ x1 ≤ 2047) (k0 : ((x0 ≤ 0 → x1 < -x0 ∧ x0 < x1) ∧ (0 ≤ x0 → x1 < x0 ∧ -x0 < x1))) (hP : ∀ z : Int, (-9223372036854775808) ≤ z ∧ z ≤ 9223372036854775807 ∧ ¬ z = 0 → Post (some (xL z), h)) : mx_J (tB l D b0 ad Hb tau) mt_273 (d + 21) 0 [some (xL x0), none, some (xL x1), none] [] h Post := by
    refine mx_J.step (sn_273 0) (fun _ _ => rfl) ?_
    refine JcL (z := 0) (show mx_Sn _ _ 1 (mx_const (.long 0) 2) from sn_273 1) rfl ?_
    have c17 : ∀ (k1_0 : Int), (-9223372036854775808) ≤ k1_0 ∧ k1_0 ≤ 9223372036854775807 → ¬ k1_0 = 0 → mx_J (tB l D b0 ad Hb tau) mt_273 (d + 21) 17 [some (xL x0), none, some (xL x1), none] [xL k1_0] h Post := by
      intro k1_0 f1_0 f1_1
      exact mx_J.ret (sn_273 17) (fun _ _ => rfl) (hP k1_0 (by omega))
    refine Jlif_ne (show mx_Sn _ _ 2 (mx_lif_ne 10 6) from sn_273 2) (by omega) (by omega) (fun q2 => ?_) (fun q2 => ?_)
    · skip
      refine mx_J.step (sn_273 10) (fun _ _ => rfl) ?_
      refine mx_J.step (sn_273 11) (fun _ _ => rfl) ?_
      refine mx_J.step (sn_273 12) (fun _ _ => rfl) ?_
      refine JlremB (show mx_Sn _ _ 13 (mx_lrem 14) from sn_273 13) (by omega) (by omega) (by omega) k0 (fun y3 hy3 => ?_)
      obtain ⟨z4, hc4, b4⟩ := ct_273_A10 (d := d + 0) (l := l) (D := D) (b0 := b0) (ad := ad) (Hb := Hb) (tau := tau) hx hG (show (-9223372036854775808) ≤ x1 ∧ x1 ≤ 9223372036854775807 by omega) (show (-1023) ≤ y3 ∧ y3 ≤ 1023 by omega) (show ¬ (x1 = 0 ∧ y3 = 0) by omega)
      refine Jcs (show mx_Sn _ _ 14 (mx_calls 273 2 17) from sn_273 14) hc4 rfl rfl rfl ?_
      exact c17 z4 (by omega) (by omega)
    · skip
      refine mx_J.step (sn_273 6) (fun _ _ => rfl) ?_
      refine mx_J.step (sn_273 7) (fun _ _ => rfl) ?_
      exact c17 x0 (by omega) (by omega)
theorem ct_273_B11 {l : Launch} {D : va_G} {b0 : Nat} {ad : Nat → Nat} {Hb : Heap} {tau : Nat → Int64} {d n s : Nat} {S : Nat → xS} {Z : xZ} {h : mx_H} (hx : XH n s S Z h) (hG : GI n S Z)  {x0 x1 : Int} (p0 : (-2047) ≤ x0 ∧ x0 ≤ 2047) (p1 : (-2047) ≤ x1 ∧ x1 ≤ 2047) (k0 : ((x0 ≤ 0 → x1 < -x0 ∧ x0 < x1) ∧ (0 ≤ x0 → x1 < x0 ∧ -x0 < x1))) : ∃ z : Int, mx_Ca (tB l D b0 ad Hb tau) (d + 22) 273 [xL x0, xL x1] h (some (xL z), h) ∧ ((-9223372036854775808) ≤ z ∧ z ≤ 9223372036854775807 ∧ ¬ z = 0) := by
  obtain ⟨r, hca, z, e, hp⟩ := Jmt (B := tB l D b0 ad Hb tau) (M := mt_273) (mi := 273) (as := [xL x0, xL x1]) (d := d + 21) (ls := [some (xL x0), none, some (xL x1), none]) rfl rfl rfl rfl rfl rfl (cw_273_B11 (l := l) (D := D) (b0 := b0) (ad := ad) (Hb := Hb) (tau := tau) (d := d) (Post := fun r => ∃ z : Int, r = (some (xL z), h) ∧ ((-9223372036854775808) ≤ z ∧ z ≤ 9223372036854775807 ∧ ¬ z = 0)) hx hG p0 p1 k0 (fun z hz => ⟨z, rfl, hz⟩))
  subst e; exact ⟨z, hca, hp⟩
set_option maxRecDepth 100000 in
theorem cw_273_A11 {l : Launch} {D : va_G} {b0 : Nat} {ad : Nat → Nat} {Hb : Heap} {tau : Nat → Int64} {d n s : Nat} {S : Nat → xS} {Z : xZ} {h : mx_H} {Post : mx_R → Prop} (hx : XH n s S Z h) (hG : GI n S Z)  {x0 x1 : Int} (p0 : (-9223372036854775808) ≤ x0 ∧ x0 ≤ 9223372036854775807) (p1 : (-2047) ≤ x1 ∧ x1 ≤ 2047) (k0 : ¬ (x0 = 0 ∧ x1 = 0)) (hP : ∀ z : Int, (-9223372036854775808) ≤ z ∧ z ≤ 9223372036854775807 ∧ ¬ z = 0 → Post (some (xL z), h)) : mx_J (tB l D b0 ad Hb tau) mt_273 (d + 22) 0 [some (xL x0), none, some (xL x1), none] [] h Post := by
    refine mx_J.step (sn_273 0) (fun _ _ => rfl) ?_
    refine JcL (z := 0) (show mx_Sn _ _ 1 (mx_const (.long 0) 2) from sn_273 1) rfl ?_
    have c17 : ∀ (k1_0 : Int), (-9223372036854775808) ≤ k1_0 ∧ k1_0 ≤ 9223372036854775807 → ¬ k1_0 = 0 → mx_J (tB l D b0 ad Hb tau) mt_273 (d + 22) 17 [some (xL x0), none, some (xL x1), none] [xL k1_0] h Post := by
      intro k1_0 f1_0 f1_1
      exact mx_J.ret (sn_273 17) (fun _ _ => rfl) (hP k1_0 (by omega))
    refine Jlif_ne (show mx_Sn _ _ 2 (mx_lif_ne 10 6) from sn_273 2) (by omega) (by omega) (fun q2 => ?_) (fun q2 => ?_)
    · skip
      refine mx_J.step (sn_273 10) (fun _ _ => rfl) ?_
      refine mx_J.step (sn_273 11) (fun _ _ => rfl) ?_
      refine mx_J.step (sn_273 12) (fun _ _ => rfl) ?_
      refine JlremA (show mx_Sn _ _ 13 (mx_lrem 14) from sn_273 13) (by omega) (by omega) (by omega) (fun y3 hy3 => ?_)
      obtain ⟨z4, hc4, b4⟩ := ct_273_B11 (d := d + 0) (l := l) (D := D) (b0 := b0) (ad := ad) (Hb := Hb) (tau := tau) hx hG (show (-2047) ≤ x1 ∧ x1 ≤ 2047 by omega) (show (-2047) ≤ y3 ∧ y3 ≤ 2047 by omega) (show ((x1 ≤ 0 → y3 < -x1 ∧ x1 < y3) ∧ (0 ≤ x1 → y3 < x1 ∧ -x1 < y3)) by omega)
      refine Jcs (show mx_Sn _ _ 14 (mx_calls 273 2 17) from sn_273 14) hc4 rfl rfl rfl ?_
      exact c17 z4 (by omega) (by omega)
    · skip
      refine mx_J.step (sn_273 6) (fun _ _ => rfl) ?_
      refine mx_J.step (sn_273 7) (fun _ _ => rfl) ?_
      exact c17 x0 (by omega) (by omega)
theorem ct_273_A11 {l : Launch} {D : va_G} {b0 : Nat} {ad : Nat → Nat} {Hb : Heap} {tau : Nat → Int64} {d n s : Nat} {S : Nat → xS} {Z : xZ} {h : mx_H} (hx : XH n s S Z h) (hG : GI n S Z)  {x0 x1 : Int} (p0 : (-9223372036854775808) ≤ x0 ∧ x0 ≤ 9223372036854775807) (p1 : (-2047) ≤ x1 ∧ x1 ≤ 2047) (k0 : ¬ (x0 = 0 ∧ x1 = 0)) : ∃ z : Int, mx_Ca (tB l D b0 ad Hb tau) (d + 23) 273 [xL x0, xL x1] h (some (xL z), h) ∧ ((-9223372036854775808) ≤ z ∧ z ≤ 9223372036854775807 ∧ ¬ z = 0) := by
  obtain ⟨r, hca, z, e, hp⟩ := Jmt (B := tB l D b0 ad Hb tau) (M := mt_273) (mi := 273) (as := [xL x0, xL x1]) (d := d + 22) (ls := [some (xL x0), none, some (xL x1), none]) rfl rfl rfl rfl rfl rfl (cw_273_A11 (l := l) (D := D) (b0 := b0) (ad := ad) (Hb := Hb) (tau := tau) (d := d) (Post := fun r => ∃ z : Int, r = (some (xL z), h) ∧ ((-9223372036854775808) ≤ z ∧ z ≤ 9223372036854775807 ∧ ¬ z = 0)) hx hG p0 p1 k0 (fun z hz => ⟨z, rfl, hz⟩))
  subst e; exact ⟨z, hca, hp⟩
set_option maxRecDepth 100000 in
theorem cw_273_B12 {l : Launch} {D : va_G} {b0 : Nat} {ad : Nat → Nat} {Hb : Heap} {tau : Nat → Int64} {d n s : Nat} {S : Nat → xS} {Z : xZ} {h : mx_H} {Post : mx_R → Prop} (hx : XH n s S Z h) (hG : GI n S Z)  {x0 x1 : Int} (p0 : (-4095) ≤ x0 ∧ x0 ≤ 4095) (p1 : (-4095) ≤ x1 ∧ x1 ≤ 4095) (k0 : ((x0 ≤ 0 → x1 < -x0 ∧ x0 < x1) ∧ (0 ≤ x0 → x1 < x0 ∧ -x0 < x1))) (hP : ∀ z : Int, (-9223372036854775808) ≤ z ∧ z ≤ 9223372036854775807 ∧ ¬ z = 0 → Post (some (xL z), h)) : mx_J (tB l D b0 ad Hb tau) mt_273 (d + 23) 0 [some (xL x0), none, some (xL x1), none] [] h Post := by
    refine mx_J.step (sn_273 0) (fun _ _ => rfl) ?_
    refine JcL (z := 0) (show mx_Sn _ _ 1 (mx_const (.long 0) 2) from sn_273 1) rfl ?_
    have c17 : ∀ (k1_0 : Int), (-9223372036854775808) ≤ k1_0 ∧ k1_0 ≤ 9223372036854775807 → ¬ k1_0 = 0 → mx_J (tB l D b0 ad Hb tau) mt_273 (d + 23) 17 [some (xL x0), none, some (xL x1), none] [xL k1_0] h Post := by
      intro k1_0 f1_0 f1_1
      exact mx_J.ret (sn_273 17) (fun _ _ => rfl) (hP k1_0 (by omega))
    refine Jlif_ne (show mx_Sn _ _ 2 (mx_lif_ne 10 6) from sn_273 2) (by omega) (by omega) (fun q2 => ?_) (fun q2 => ?_)
    · skip
      refine mx_J.step (sn_273 10) (fun _ _ => rfl) ?_
      refine mx_J.step (sn_273 11) (fun _ _ => rfl) ?_
      refine mx_J.step (sn_273 12) (fun _ _ => rfl) ?_
      refine JlremB (show mx_Sn _ _ 13 (mx_lrem 14) from sn_273 13) (by omega) (by omega) (by omega) k0 (fun y3 hy3 => ?_)
      obtain ⟨z4, hc4, b4⟩ := ct_273_A11 (d := d + 0) (l := l) (D := D) (b0 := b0) (ad := ad) (Hb := Hb) (tau := tau) hx hG (show (-9223372036854775808) ≤ x1 ∧ x1 ≤ 9223372036854775807 by omega) (show (-2047) ≤ y3 ∧ y3 ≤ 2047 by omega) (show ¬ (x1 = 0 ∧ y3 = 0) by omega)
      refine Jcs (show mx_Sn _ _ 14 (mx_calls 273 2 17) from sn_273 14) hc4 rfl rfl rfl ?_
      exact c17 z4 (by omega) (by omega)
    · skip
      refine mx_J.step (sn_273 6) (fun _ _ => rfl) ?_
      refine mx_J.step (sn_273 7) (fun _ _ => rfl) ?_
      exact c17 x0 (by omega) (by omega)
theorem ct_273_B12 {l : Launch} {D : va_G} {b0 : Nat} {ad : Nat → Nat} {Hb : Heap} {tau : Nat → Int64} {d n s : Nat} {S : Nat → xS} {Z : xZ} {h : mx_H} (hx : XH n s S Z h) (hG : GI n S Z)  {x0 x1 : Int} (p0 : (-4095) ≤ x0 ∧ x0 ≤ 4095) (p1 : (-4095) ≤ x1 ∧ x1 ≤ 4095) (k0 : ((x0 ≤ 0 → x1 < -x0 ∧ x0 < x1) ∧ (0 ≤ x0 → x1 < x0 ∧ -x0 < x1))) : ∃ z : Int, mx_Ca (tB l D b0 ad Hb tau) (d + 24) 273 [xL x0, xL x1] h (some (xL z), h) ∧ ((-9223372036854775808) ≤ z ∧ z ≤ 9223372036854775807 ∧ ¬ z = 0) := by
  obtain ⟨r, hca, z, e, hp⟩ := Jmt (B := tB l D b0 ad Hb tau) (M := mt_273) (mi := 273) (as := [xL x0, xL x1]) (d := d + 23) (ls := [some (xL x0), none, some (xL x1), none]) rfl rfl rfl rfl rfl rfl (cw_273_B12 (l := l) (D := D) (b0 := b0) (ad := ad) (Hb := Hb) (tau := tau) (d := d) (Post := fun r => ∃ z : Int, r = (some (xL z), h) ∧ ((-9223372036854775808) ≤ z ∧ z ≤ 9223372036854775807 ∧ ¬ z = 0)) hx hG p0 p1 k0 (fun z hz => ⟨z, rfl, hz⟩))
  subst e; exact ⟨z, hca, hp⟩
set_option maxRecDepth 100000 in
theorem cw_273_A12 {l : Launch} {D : va_G} {b0 : Nat} {ad : Nat → Nat} {Hb : Heap} {tau : Nat → Int64} {d n s : Nat} {S : Nat → xS} {Z : xZ} {h : mx_H} {Post : mx_R → Prop} (hx : XH n s S Z h) (hG : GI n S Z)  {x0 x1 : Int} (p0 : (-9223372036854775808) ≤ x0 ∧ x0 ≤ 9223372036854775807) (p1 : (-4095) ≤ x1 ∧ x1 ≤ 4095) (k0 : ¬ (x0 = 0 ∧ x1 = 0)) (hP : ∀ z : Int, (-9223372036854775808) ≤ z ∧ z ≤ 9223372036854775807 ∧ ¬ z = 0 → Post (some (xL z), h)) : mx_J (tB l D b0 ad Hb tau) mt_273 (d + 24) 0 [some (xL x0), none, some (xL x1), none] [] h Post := by
    refine mx_J.step (sn_273 0) (fun _ _ => rfl) ?_
    refine JcL (z := 0) (show mx_Sn _ _ 1 (mx_const (.long 0) 2) from sn_273 1) rfl ?_
    have c17 : ∀ (k1_0 : Int), (-9223372036854775808) ≤ k1_0 ∧ k1_0 ≤ 9223372036854775807 → ¬ k1_0 = 0 → mx_J (tB l D b0 ad Hb tau) mt_273 (d + 24) 17 [some (xL x0), none, some (xL x1), none] [xL k1_0] h Post := by
      intro k1_0 f1_0 f1_1
      exact mx_J.ret (sn_273 17) (fun _ _ => rfl) (hP k1_0 (by omega))
    refine Jlif_ne (show mx_Sn _ _ 2 (mx_lif_ne 10 6) from sn_273 2) (by omega) (by omega) (fun q2 => ?_) (fun q2 => ?_)
    · skip
      refine mx_J.step (sn_273 10) (fun _ _ => rfl) ?_
      refine mx_J.step (sn_273 11) (fun _ _ => rfl) ?_
      refine mx_J.step (sn_273 12) (fun _ _ => rfl) ?_
      refine JlremA (show mx_Sn _ _ 13 (mx_lrem 14) from sn_273 13) (by omega) (by omega) (by omega) (fun y3 hy3 => ?_)
      obtain ⟨z4, hc4, b4⟩ := ct_273_B12 (d := d + 0) (l := l) (D := D) (b0 := b0) (ad := ad) (Hb := Hb) (tau := tau) hx hG (show (-4095) ≤ x1 ∧ x1 ≤ 4095 by omega) (show (-4095) ≤ y3 ∧ y3 ≤ 4095 by omega) (show ((x1 ≤ 0 → y3 < -x1 ∧ x1 < y3) ∧ (0 ≤ x1 → y3 < x1 ∧ -x1 < y3)) by omega)
      refine Jcs (show mx_Sn _ _ 14 (mx_calls 273 2 17) from sn_273 14) hc4 rfl rfl rfl ?_
      exact c17 z4 (by omega) (by omega)
    · skip
      refine mx_J.step (sn_273 6) (fun _ _ => rfl) ?_
      refine mx_J.step (sn_273 7) (fun _ _ => rfl) ?_
      exact c17 x0 (by omega) (by omega)
theorem ct_273_A12 {l : Launch} {D : va_G} {b0 : Nat} {ad : Nat → Nat} {Hb : Heap} {tau : Nat → Int64} {d n s : Nat} {S : Nat → xS} {Z : xZ} {h : mx_H} (hx : XH n s S Z h) (hG : GI n S Z)  {x0 x1 : Int} (p0 : (-9223372036854775808) ≤ x0 ∧ x0 ≤ 9223372036854775807) (p1 : (-4095) ≤ x1 ∧ x1 ≤ 4095) (k0 : ¬ (x0 = 0 ∧ x1 = 0)) : ∃ z : Int, mx_Ca (tB l D b0 ad Hb tau) (d + 25) 273 [xL x0, xL x1] h (some (xL z), h) ∧ ((-9223372036854775808) ≤ z ∧ z ≤ 9223372036854775807 ∧ ¬ z = 0) := by
  obtain ⟨r, hca, z, e, hp⟩ := Jmt (B := tB l D b0 ad Hb tau) (M := mt_273) (mi := 273) (as := [xL x0, xL x1]) (d := d + 24) (ls := [some (xL x0), none, some (xL x1), none]) rfl rfl rfl rfl rfl rfl (cw_273_A12 (l := l) (D := D) (b0 := b0) (ad := ad) (Hb := Hb) (tau := tau) (d := d) (Post := fun r => ∃ z : Int, r = (some (xL z), h) ∧ ((-9223372036854775808) ≤ z ∧ z ≤ 9223372036854775807 ∧ ¬ z = 0)) hx hG p0 p1 k0 (fun z hz => ⟨z, rfl, hz⟩))
  subst e; exact ⟨z, hca, hp⟩
set_option maxRecDepth 100000 in
theorem cw_273_B13 {l : Launch} {D : va_G} {b0 : Nat} {ad : Nat → Nat} {Hb : Heap} {tau : Nat → Int64} {d n s : Nat} {S : Nat → xS} {Z : xZ} {h : mx_H} {Post : mx_R → Prop} (hx : XH n s S Z h) (hG : GI n S Z)  {x0 x1 : Int} (p0 : (-8191) ≤ x0 ∧ x0 ≤ 8191) (p1 : (-8191) ≤ x1 ∧ x1 ≤ 8191) (k0 : ((x0 ≤ 0 → x1 < -x0 ∧ x0 < x1) ∧ (0 ≤ x0 → x1 < x0 ∧ -x0 < x1))) (hP : ∀ z : Int, (-9223372036854775808) ≤ z ∧ z ≤ 9223372036854775807 ∧ ¬ z = 0 → Post (some (xL z), h)) : mx_J (tB l D b0 ad Hb tau) mt_273 (d + 25) 0 [some (xL x0), none, some (xL x1), none] [] h Post := by
    refine mx_J.step (sn_273 0) (fun _ _ => rfl) ?_
    refine JcL (z := 0) (show mx_Sn _ _ 1 (mx_const (.long 0) 2) from sn_273 1) rfl ?_
    have c17 : ∀ (k1_0 : Int), (-9223372036854775808) ≤ k1_0 ∧ k1_0 ≤ 9223372036854775807 → ¬ k1_0 = 0 → mx_J (tB l D b0 ad Hb tau) mt_273 (d + 25) 17 [some (xL x0), none, some (xL x1), none] [xL k1_0] h Post := by
      intro k1_0 f1_0 f1_1
      exact mx_J.ret (sn_273 17) (fun _ _ => rfl) (hP k1_0 (by omega))
    refine Jlif_ne (show mx_Sn _ _ 2 (mx_lif_ne 10 6) from sn_273 2) (by omega) (by omega) (fun q2 => ?_) (fun q2 => ?_)
    · skip
      refine mx_J.step (sn_273 10) (fun _ _ => rfl) ?_
      refine mx_J.step (sn_273 11) (fun _ _ => rfl) ?_
      refine mx_J.step (sn_273 12) (fun _ _ => rfl) ?_
      refine JlremB (show mx_Sn _ _ 13 (mx_lrem 14) from sn_273 13) (by omega) (by omega) (by omega) k0 (fun y3 hy3 => ?_)
      obtain ⟨z4, hc4, b4⟩ := ct_273_A12 (d := d + 0) (l := l) (D := D) (b0 := b0) (ad := ad) (Hb := Hb) (tau := tau) hx hG (show (-9223372036854775808) ≤ x1 ∧ x1 ≤ 9223372036854775807 by omega) (show (-4095) ≤ y3 ∧ y3 ≤ 4095 by omega) (show ¬ (x1 = 0 ∧ y3 = 0) by omega)
      refine Jcs (show mx_Sn _ _ 14 (mx_calls 273 2 17) from sn_273 14) hc4 rfl rfl rfl ?_
      exact c17 z4 (by omega) (by omega)
    · skip
      refine mx_J.step (sn_273 6) (fun _ _ => rfl) ?_
      refine mx_J.step (sn_273 7) (fun _ _ => rfl) ?_
      exact c17 x0 (by omega) (by omega)
theorem ct_273_B13 {l : Launch} {D : va_G} {b0 : Nat} {ad : Nat → Nat} {Hb : Heap} {tau : Nat → Int64} {d n s : Nat} {S : Nat → xS} {Z : xZ} {h : mx_H} (hx : XH n s S Z h) (hG : GI n S Z)  {x0 x1 : Int} (p0 : (-8191) ≤ x0 ∧ x0 ≤ 8191) (p1 : (-8191) ≤ x1 ∧ x1 ≤ 8191) (k0 : ((x0 ≤ 0 → x1 < -x0 ∧ x0 < x1) ∧ (0 ≤ x0 → x1 < x0 ∧ -x0 < x1))) : ∃ z : Int, mx_Ca (tB l D b0 ad Hb tau) (d + 26) 273 [xL x0, xL x1] h (some (xL z), h) ∧ ((-9223372036854775808) ≤ z ∧ z ≤ 9223372036854775807 ∧ ¬ z = 0) := by
  obtain ⟨r, hca, z, e, hp⟩ := Jmt (B := tB l D b0 ad Hb tau) (M := mt_273) (mi := 273) (as := [xL x0, xL x1]) (d := d + 25) (ls := [some (xL x0), none, some (xL x1), none]) rfl rfl rfl rfl rfl rfl (cw_273_B13 (l := l) (D := D) (b0 := b0) (ad := ad) (Hb := Hb) (tau := tau) (d := d) (Post := fun r => ∃ z : Int, r = (some (xL z), h) ∧ ((-9223372036854775808) ≤ z ∧ z ≤ 9223372036854775807 ∧ ¬ z = 0)) hx hG p0 p1 k0 (fun z hz => ⟨z, rfl, hz⟩))
  subst e; exact ⟨z, hca, hp⟩
set_option maxRecDepth 100000 in
theorem cw_273_A13 {l : Launch} {D : va_G} {b0 : Nat} {ad : Nat → Nat} {Hb : Heap} {tau : Nat → Int64} {d n s : Nat} {S : Nat → xS} {Z : xZ} {h : mx_H} {Post : mx_R → Prop} (hx : XH n s S Z h) (hG : GI n S Z)  {x0 x1 : Int} (p0 : (-9223372036854775808) ≤ x0 ∧ x0 ≤ 9223372036854775807) (p1 : (-8191) ≤ x1 ∧ x1 ≤ 8191) (k0 : ¬ (x0 = 0 ∧ x1 = 0)) (hP : ∀ z : Int, (-9223372036854775808) ≤ z ∧ z ≤ 9223372036854775807 ∧ ¬ z = 0 → Post (some (xL z), h)) : mx_J (tB l D b0 ad Hb tau) mt_273 (d + 26) 0 [some (xL x0), none, some (xL x1), none] [] h Post := by
    refine mx_J.step (sn_273 0) (fun _ _ => rfl) ?_
    refine JcL (z := 0) (show mx_Sn _ _ 1 (mx_const (.long 0) 2) from sn_273 1) rfl ?_
    have c17 : ∀ (k1_0 : Int), (-9223372036854775808) ≤ k1_0 ∧ k1_0 ≤ 9223372036854775807 → ¬ k1_0 = 0 → mx_J (tB l D b0 ad Hb tau) mt_273 (d + 26) 17 [some (xL x0), none, some (xL x1), none] [xL k1_0] h Post := by
      intro k1_0 f1_0 f1_1
      exact mx_J.ret (sn_273 17) (fun _ _ => rfl) (hP k1_0 (by omega))
    refine Jlif_ne (show mx_Sn _ _ 2 (mx_lif_ne 10 6) from sn_273 2) (by omega) (by omega) (fun q2 => ?_) (fun q2 => ?_)
    · skip
      refine mx_J.step (sn_273 10) (fun _ _ => rfl) ?_
      refine mx_J.step (sn_273 11) (fun _ _ => rfl) ?_
      refine mx_J.step (sn_273 12) (fun _ _ => rfl) ?_
      refine JlremA (show mx_Sn _ _ 13 (mx_lrem 14) from sn_273 13) (by omega) (by omega) (by omega) (fun y3 hy3 => ?_)
      obtain ⟨z4, hc4, b4⟩ := ct_273_B13 (d := d + 0) (l := l) (D := D) (b0 := b0) (ad := ad) (Hb := Hb) (tau := tau) hx hG (show (-8191) ≤ x1 ∧ x1 ≤ 8191 by omega) (show (-8191) ≤ y3 ∧ y3 ≤ 8191 by omega) (show ((x1 ≤ 0 → y3 < -x1 ∧ x1 < y3) ∧ (0 ≤ x1 → y3 < x1 ∧ -x1 < y3)) by omega)
      refine Jcs (show mx_Sn _ _ 14 (mx_calls 273 2 17) from sn_273 14) hc4 rfl rfl rfl ?_
      exact c17 z4 (by omega) (by omega)
    · skip
      refine mx_J.step (sn_273 6) (fun _ _ => rfl) ?_
      refine mx_J.step (sn_273 7) (fun _ _ => rfl) ?_
      exact c17 x0 (by omega) (by omega)
theorem ct_273_A13 {l : Launch} {D : va_G} {b0 : Nat} {ad : Nat → Nat} {Hb : Heap} {tau : Nat → Int64} {d n s : Nat} {S : Nat → xS} {Z : xZ} {h : mx_H} (hx : XH n s S Z h) (hG : GI n S Z)  {x0 x1 : Int} (p0 : (-9223372036854775808) ≤ x0 ∧ x0 ≤ 9223372036854775807) (p1 : (-8191) ≤ x1 ∧ x1 ≤ 8191) (k0 : ¬ (x0 = 0 ∧ x1 = 0)) : ∃ z : Int, mx_Ca (tB l D b0 ad Hb tau) (d + 27) 273 [xL x0, xL x1] h (some (xL z), h) ∧ ((-9223372036854775808) ≤ z ∧ z ≤ 9223372036854775807 ∧ ¬ z = 0) := by
  obtain ⟨r, hca, z, e, hp⟩ := Jmt (B := tB l D b0 ad Hb tau) (M := mt_273) (mi := 273) (as := [xL x0, xL x1]) (d := d + 26) (ls := [some (xL x0), none, some (xL x1), none]) rfl rfl rfl rfl rfl rfl (cw_273_A13 (l := l) (D := D) (b0 := b0) (ad := ad) (Hb := Hb) (tau := tau) (d := d) (Post := fun r => ∃ z : Int, r = (some (xL z), h) ∧ ((-9223372036854775808) ≤ z ∧ z ≤ 9223372036854775807 ∧ ¬ z = 0)) hx hG p0 p1 k0 (fun z hz => ⟨z, rfl, hz⟩))
  subst e; exact ⟨z, hca, hp⟩
set_option maxRecDepth 100000 in
theorem cw_273_B14 {l : Launch} {D : va_G} {b0 : Nat} {ad : Nat → Nat} {Hb : Heap} {tau : Nat → Int64} {d n s : Nat} {S : Nat → xS} {Z : xZ} {h : mx_H} {Post : mx_R → Prop} (hx : XH n s S Z h) (hG : GI n S Z)  {x0 x1 : Int} (p0 : (-16383) ≤ x0 ∧ x0 ≤ 16383) (p1 : (-16383) ≤ x1 ∧ x1 ≤ 16383) (k0 : ((x0 ≤ 0 → x1 < -x0 ∧ x0 < x1) ∧ (0 ≤ x0 → x1 < x0 ∧ -x0 < x1))) (hP : ∀ z : Int, (-9223372036854775808) ≤ z ∧ z ≤ 9223372036854775807 ∧ ¬ z = 0 → Post (some (xL z), h)) : mx_J (tB l D b0 ad Hb tau) mt_273 (d + 27) 0 [some (xL x0), none, some (xL x1), none] [] h Post := by
    refine mx_J.step (sn_273 0) (fun _ _ => rfl) ?_
    refine JcL (z := 0) (show mx_Sn _ _ 1 (mx_const (.long 0) 2) from sn_273 1) rfl ?_
    have c17 : ∀ (k1_0 : Int), (-9223372036854775808) ≤ k1_0 ∧ k1_0 ≤ 9223372036854775807 → ¬ k1_0 = 0 → mx_J (tB l D b0 ad Hb tau) mt_273 (d + 27) 17 [some (xL x0), none, some (xL x1), none] [xL k1_0] h Post := by
      intro k1_0 f1_0 f1_1
      exact mx_J.ret (sn_273 17) (fun _ _ => rfl) (hP k1_0 (by omega))
    refine Jlif_ne (show mx_Sn _ _ 2 (mx_lif_ne 10 6) from sn_273 2) (by omega) (by omega) (fun q2 => ?_) (fun q2 => ?_)
    · skip
      refine mx_J.step (sn_273 10) (fun _ _ => rfl) ?_
      refine mx_J.step (sn_273 11) (fun _ _ => rfl) ?_
      refine mx_J.step (sn_273 12) (fun _ _ => rfl) ?_
      refine JlremB (show mx_Sn _ _ 13 (mx_lrem 14) from sn_273 13) (by omega) (by omega) (by omega) k0 (fun y3 hy3 => ?_)
      obtain ⟨z4, hc4, b4⟩ := ct_273_A13 (d := d + 0) (l := l) (D := D) (b0 := b0) (ad := ad) (Hb := Hb) (tau := tau) hx hG (show (-9223372036854775808) ≤ x1 ∧ x1 ≤ 9223372036854775807 by omega) (show (-8191) ≤ y3 ∧ y3 ≤ 8191 by omega) (show ¬ (x1 = 0 ∧ y3 = 0) by omega)
      refine Jcs (show mx_Sn _ _ 14 (mx_calls 273 2 17) from sn_273 14) hc4 rfl rfl rfl ?_
      exact c17 z4 (by omega) (by omega)
    · skip
      refine mx_J.step (sn_273 6) (fun _ _ => rfl) ?_
      refine mx_J.step (sn_273 7) (fun _ _ => rfl) ?_
      exact c17 x0 (by omega) (by omega)
theorem ct_273_B14 {l : Launch} {D : va_G} {b0 : Nat} {ad : Nat → Nat} {Hb : Heap} {tau : Nat → Int64} {d n s : Nat} {S : Nat → xS} {Z : xZ} {h : mx_H} (hx : XH n s S Z h) (hG : GI n S Z)  {x0 x1 : Int} (p0 : (-16383) ≤ x0 ∧ x0 ≤ 16383) (p1 : (-16383) ≤ x1 ∧ x1 ≤ 16383) (k0 : ((x0 ≤ 0 → x1 < -x0 ∧ x0 < x1) ∧ (0 ≤ x0 → x1 < x0 ∧ -x0 < x1))) : ∃ z : Int, mx_Ca (tB l D b0 ad Hb tau) (d + 28) 273 [xL x0, xL x1] h (some (xL z), h) ∧ ((-9223372036854775808) ≤ z ∧ z ≤ 9223372036854775807 ∧ ¬ z = 0) := by
  obtain ⟨r, hca, z, e, hp⟩ := Jmt (B := tB l D b0 ad Hb tau) (M := mt_273) (mi := 273) (as := [xL x0, xL x1]) (d := d + 27) (ls := [some (xL x0), none, some (xL x1), none]) rfl rfl rfl rfl rfl rfl (cw_273_B14 (l := l) (D := D) (b0 := b0) (ad := ad) (Hb := Hb) (tau := tau) (d := d) (Post := fun r => ∃ z : Int, r = (some (xL z), h) ∧ ((-9223372036854775808) ≤ z ∧ z ≤ 9223372036854775807 ∧ ¬ z = 0)) hx hG p0 p1 k0 (fun z hz => ⟨z, rfl, hz⟩))
  subst e; exact ⟨z, hca, hp⟩
set_option maxRecDepth 100000 in
theorem cw_273_A14 {l : Launch} {D : va_G} {b0 : Nat} {ad : Nat → Nat} {Hb : Heap} {tau : Nat → Int64} {d n s : Nat} {S : Nat → xS} {Z : xZ} {h : mx_H} {Post : mx_R → Prop} (hx : XH n s S Z h) (hG : GI n S Z)  {x0 x1 : Int} (p0 : (-9223372036854775808) ≤ x0 ∧ x0 ≤ 9223372036854775807) (p1 : (-16383) ≤ x1 ∧ x1 ≤ 16383) (k0 : ¬ (x0 = 0 ∧ x1 = 0)) (hP : ∀ z : Int, (-9223372036854775808) ≤ z ∧ z ≤ 9223372036854775807 ∧ ¬ z = 0 → Post (some (xL z), h)) : mx_J (tB l D b0 ad Hb tau) mt_273 (d + 28) 0 [some (xL x0), none, some (xL x1), none] [] h Post := by
    refine mx_J.step (sn_273 0) (fun _ _ => rfl) ?_
    refine JcL (z := 0) (show mx_Sn _ _ 1 (mx_const (.long 0) 2) from sn_273 1) rfl ?_
    have c17 : ∀ (k1_0 : Int), (-9223372036854775808) ≤ k1_0 ∧ k1_0 ≤ 9223372036854775807 → ¬ k1_0 = 0 → mx_J (tB l D b0 ad Hb tau) mt_273 (d + 28) 17 [some (xL x0), none, some (xL x1), none] [xL k1_0] h Post := by
      intro k1_0 f1_0 f1_1
      exact mx_J.ret (sn_273 17) (fun _ _ => rfl) (hP k1_0 (by omega))
    refine Jlif_ne (show mx_Sn _ _ 2 (mx_lif_ne 10 6) from sn_273 2) (by omega) (by omega) (fun q2 => ?_) (fun q2 => ?_)
    · skip
      refine mx_J.step (sn_273 10) (fun _ _ => rfl) ?_
      refine mx_J.step (sn_273 11) (fun _ _ => rfl) ?_
      refine mx_J.step (sn_273 12) (fun _ _ => rfl) ?_
      refine JlremA (show mx_Sn _ _ 13 (mx_lrem 14) from sn_273 13) (by omega) (by omega) (by omega) (fun y3 hy3 => ?_)
      obtain ⟨z4, hc4, b4⟩ := ct_273_B14 (d := d + 0) (l := l) (D := D) (b0 := b0) (ad := ad) (Hb := Hb) (tau := tau) hx hG (show (-16383) ≤ x1 ∧ x1 ≤ 16383 by omega) (show (-16383) ≤ y3 ∧ y3 ≤ 16383 by omega) (show ((x1 ≤ 0 → y3 < -x1 ∧ x1 < y3) ∧ (0 ≤ x1 → y3 < x1 ∧ -x1 < y3)) by omega)
      refine Jcs (show mx_Sn _ _ 14 (mx_calls 273 2 17) from sn_273 14) hc4 rfl rfl rfl ?_
      exact c17 z4 (by omega) (by omega)
    · skip
      refine mx_J.step (sn_273 6) (fun _ _ => rfl) ?_
      refine mx_J.step (sn_273 7) (fun _ _ => rfl) ?_
      exact c17 x0 (by omega) (by omega)
theorem ct_273_A14 {l : Launch} {D : va_G} {b0 : Nat} {ad : Nat → Nat} {Hb : Heap} {tau : Nat → Int64} {d n s : Nat} {S : Nat → xS} {Z : xZ} {h : mx_H} (hx : XH n s S Z h) (hG : GI n S Z)  {x0 x1 : Int} (p0 : (-9223372036854775808) ≤ x0 ∧ x0 ≤ 9223372036854775807) (p1 : (-16383) ≤ x1 ∧ x1 ≤ 16383) (k0 : ¬ (x0 = 0 ∧ x1 = 0)) : ∃ z : Int, mx_Ca (tB l D b0 ad Hb tau) (d + 29) 273 [xL x0, xL x1] h (some (xL z), h) ∧ ((-9223372036854775808) ≤ z ∧ z ≤ 9223372036854775807 ∧ ¬ z = 0) := by
  obtain ⟨r, hca, z, e, hp⟩ := Jmt (B := tB l D b0 ad Hb tau) (M := mt_273) (mi := 273) (as := [xL x0, xL x1]) (d := d + 28) (ls := [some (xL x0), none, some (xL x1), none]) rfl rfl rfl rfl rfl rfl (cw_273_A14 (l := l) (D := D) (b0 := b0) (ad := ad) (Hb := Hb) (tau := tau) (d := d) (Post := fun r => ∃ z : Int, r = (some (xL z), h) ∧ ((-9223372036854775808) ≤ z ∧ z ≤ 9223372036854775807 ∧ ¬ z = 0)) hx hG p0 p1 k0 (fun z hz => ⟨z, rfl, hz⟩))
  subst e; exact ⟨z, hca, hp⟩
set_option maxRecDepth 100000 in
theorem cw_273_B15 {l : Launch} {D : va_G} {b0 : Nat} {ad : Nat → Nat} {Hb : Heap} {tau : Nat → Int64} {d n s : Nat} {S : Nat → xS} {Z : xZ} {h : mx_H} {Post : mx_R → Prop} (hx : XH n s S Z h) (hG : GI n S Z)  {x0 x1 : Int} (p0 : (-32767) ≤ x0 ∧ x0 ≤ 32767) (p1 : (-32767) ≤ x1 ∧ x1 ≤ 32767) (k0 : ((x0 ≤ 0 → x1 < -x0 ∧ x0 < x1) ∧ (0 ≤ x0 → x1 < x0 ∧ -x0 < x1))) (hP : ∀ z : Int, (-9223372036854775808) ≤ z ∧ z ≤ 9223372036854775807 ∧ ¬ z = 0 → Post (some (xL z), h)) : mx_J (tB l D b0 ad Hb tau) mt_273 (d + 29) 0 [some (xL x0), none, some (xL x1), none] [] h Post := by
    refine mx_J.step (sn_273 0) (fun _ _ => rfl) ?_
    refine JcL (z := 0) (show mx_Sn _ _ 1 (mx_const (.long 0) 2) from sn_273 1) rfl ?_
    have c17 : ∀ (k1_0 : Int), (-9223372036854775808) ≤ k1_0 ∧ k1_0 ≤ 9223372036854775807 → ¬ k1_0 = 0 → mx_J (tB l D b0 ad Hb tau) mt_273 (d + 29) 17 [some (xL x0), none, some (xL x1), none] [xL k1_0] h Post := by
      intro k1_0 f1_0 f1_1
      exact mx_J.ret (sn_273 17) (fun _ _ => rfl) (hP k1_0 (by omega))
    refine Jlif_ne (show mx_Sn _ _ 2 (mx_lif_ne 10 6) from sn_273 2) (by omega) (by omega) (fun q2 => ?_) (fun q2 => ?_)
    · skip
      refine mx_J.step (sn_273 10) (fun _ _ => rfl) ?_
      refine mx_J.step (sn_273 11) (fun _ _ => rfl) ?_
      refine mx_J.step (sn_273 12) (fun _ _ => rfl) ?_
      refine JlremB (show mx_Sn _ _ 13 (mx_lrem 14) from sn_273 13) (by omega) (by omega) (by omega) k0 (fun y3 hy3 => ?_)
      obtain ⟨z4, hc4, b4⟩ := ct_273_A14 (d := d + 0) (l := l) (D := D) (b0 := b0) (ad := ad) (Hb := Hb) (tau := tau) hx hG (show (-9223372036854775808) ≤ x1 ∧ x1 ≤ 9223372036854775807 by omega) (show (-16383) ≤ y3 ∧ y3 ≤ 16383 by omega) (show ¬ (x1 = 0 ∧ y3 = 0) by omega)
      refine Jcs (show mx_Sn _ _ 14 (mx_calls 273 2 17) from sn_273 14) hc4 rfl rfl rfl ?_
      exact c17 z4 (by omega) (by omega)
    · skip
      refine mx_J.step (sn_273 6) (fun _ _ => rfl) ?_
      refine mx_J.step (sn_273 7) (fun _ _ => rfl) ?_
      exact c17 x0 (by omega) (by omega)
theorem ct_273_B15 {l : Launch} {D : va_G} {b0 : Nat} {ad : Nat → Nat} {Hb : Heap} {tau : Nat → Int64} {d n s : Nat} {S : Nat → xS} {Z : xZ} {h : mx_H} (hx : XH n s S Z h) (hG : GI n S Z)  {x0 x1 : Int} (p0 : (-32767) ≤ x0 ∧ x0 ≤ 32767) (p1 : (-32767) ≤ x1 ∧ x1 ≤ 32767) (k0 : ((x0 ≤ 0 → x1 < -x0 ∧ x0 < x1) ∧ (0 ≤ x0 → x1 < x0 ∧ -x0 < x1))) : ∃ z : Int, mx_Ca (tB l D b0 ad Hb tau) (d + 30) 273 [xL x0, xL x1] h (some (xL z), h) ∧ ((-9223372036854775808) ≤ z ∧ z ≤ 9223372036854775807 ∧ ¬ z = 0) := by
  obtain ⟨r, hca, z, e, hp⟩ := Jmt (B := tB l D b0 ad Hb tau) (M := mt_273) (mi := 273) (as := [xL x0, xL x1]) (d := d + 29) (ls := [some (xL x0), none, some (xL x1), none]) rfl rfl rfl rfl rfl rfl (cw_273_B15 (l := l) (D := D) (b0 := b0) (ad := ad) (Hb := Hb) (tau := tau) (d := d) (Post := fun r => ∃ z : Int, r = (some (xL z), h) ∧ ((-9223372036854775808) ≤ z ∧ z ≤ 9223372036854775807 ∧ ¬ z = 0)) hx hG p0 p1 k0 (fun z hz => ⟨z, rfl, hz⟩))
  subst e; exact ⟨z, hca, hp⟩
set_option maxRecDepth 100000 in
theorem cw_273_A15 {l : Launch} {D : va_G} {b0 : Nat} {ad : Nat → Nat} {Hb : Heap} {tau : Nat → Int64} {d n s : Nat} {S : Nat → xS} {Z : xZ} {h : mx_H} {Post : mx_R → Prop} (hx : XH n s S Z h) (hG : GI n S Z)  {x0 x1 : Int} (p0 : (-9223372036854775808) ≤ x0 ∧ x0 ≤ 9223372036854775807) (p1 : (-32767) ≤ x1 ∧ x1 ≤ 32767) (k0 : ¬ (x0 = 0 ∧ x1 = 0)) (hP : ∀ z : Int, (-9223372036854775808) ≤ z ∧ z ≤ 9223372036854775807 ∧ ¬ z = 0 → Post (some (xL z), h)) : mx_J (tB l D b0 ad Hb tau) mt_273 (d + 30) 0 [some (xL x0), none, some (xL x1), none] [] h Post := by
    refine mx_J.step (sn_273 0) (fun _ _ => rfl) ?_
    refine JcL (z := 0) (show mx_Sn _ _ 1 (mx_const (.long 0) 2) from sn_273 1) rfl ?_
    have c17 : ∀ (k1_0 : Int), (-9223372036854775808) ≤ k1_0 ∧ k1_0 ≤ 9223372036854775807 → ¬ k1_0 = 0 → mx_J (tB l D b0 ad Hb tau) mt_273 (d + 30) 17 [some (xL x0), none, some (xL x1), none] [xL k1_0] h Post := by
      intro k1_0 f1_0 f1_1
      exact mx_J.ret (sn_273 17) (fun _ _ => rfl) (hP k1_0 (by omega))
    refine Jlif_ne (show mx_Sn _ _ 2 (mx_lif_ne 10 6) from sn_273 2) (by omega) (by omega) (fun q2 => ?_) (fun q2 => ?_)
    · skip
      refine mx_J.step (sn_273 10) (fun _ _ => rfl) ?_
      refine mx_J.step (sn_273 11) (fun _ _ => rfl) ?_
      refine mx_J.step (sn_273 12) (fun _ _ => rfl) ?_
      refine JlremA (show mx_Sn _ _ 13 (mx_lrem 14) from sn_273 13) (by omega) (by omega) (by omega) (fun y3 hy3 => ?_)
      obtain ⟨z4, hc4, b4⟩ := ct_273_B15 (d := d + 0) (l := l) (D := D) (b0 := b0) (ad := ad) (Hb := Hb) (tau := tau) hx hG (show (-32767) ≤ x1 ∧ x1 ≤ 32767 by omega) (show (-32767) ≤ y3 ∧ y3 ≤ 32767 by omega) (show ((x1 ≤ 0 → y3 < -x1 ∧ x1 < y3) ∧ (0 ≤ x1 → y3 < x1 ∧ -x1 < y3)) by omega)
      refine Jcs (show mx_Sn _ _ 14 (mx_calls 273 2 17) from sn_273 14) hc4 rfl rfl rfl ?_
      exact c17 z4 (by omega) (by omega)
    · skip
      refine mx_J.step (sn_273 6) (fun _ _ => rfl) ?_
      refine mx_J.step (sn_273 7) (fun _ _ => rfl) ?_
      exact c17 x0 (by omega) (by omega)
theorem ct_273_A15 {l : Launch} {D : va_G} {b0 : Nat} {ad : Nat → Nat} {Hb : Heap} {tau : Nat → Int64} {d n s : Nat} {S : Nat → xS} {Z : xZ} {h : mx_H} (hx : XH n s S Z h) (hG : GI n S Z)  {x0 x1 : Int} (p0 : (-9223372036854775808) ≤ x0 ∧ x0 ≤ 9223372036854775807) (p1 : (-32767) ≤ x1 ∧ x1 ≤ 32767) (k0 : ¬ (x0 = 0 ∧ x1 = 0)) : ∃ z : Int, mx_Ca (tB l D b0 ad Hb tau) (d + 31) 273 [xL x0, xL x1] h (some (xL z), h) ∧ ((-9223372036854775808) ≤ z ∧ z ≤ 9223372036854775807 ∧ ¬ z = 0) := by
  obtain ⟨r, hca, z, e, hp⟩ := Jmt (B := tB l D b0 ad Hb tau) (M := mt_273) (mi := 273) (as := [xL x0, xL x1]) (d := d + 30) (ls := [some (xL x0), none, some (xL x1), none]) rfl rfl rfl rfl rfl rfl (cw_273_A15 (l := l) (D := D) (b0 := b0) (ad := ad) (Hb := Hb) (tau := tau) (d := d) (Post := fun r => ∃ z : Int, r = (some (xL z), h) ∧ ((-9223372036854775808) ≤ z ∧ z ≤ 9223372036854775807 ∧ ¬ z = 0)) hx hG p0 p1 k0 (fun z hz => ⟨z, rfl, hz⟩))
  subst e; exact ⟨z, hca, hp⟩
set_option maxRecDepth 100000 in
theorem cw_273_B16 {l : Launch} {D : va_G} {b0 : Nat} {ad : Nat → Nat} {Hb : Heap} {tau : Nat → Int64} {d n s : Nat} {S : Nat → xS} {Z : xZ} {h : mx_H} {Post : mx_R → Prop} (hx : XH n s S Z h) (hG : GI n S Z)  {x0 x1 : Int} (p0 : (-65535) ≤ x0 ∧ x0 ≤ 65535) (p1 : (-65535) ≤ x1 ∧ x1 ≤ 65535) (k0 : ((x0 ≤ 0 → x1 < -x0 ∧ x0 < x1) ∧ (0 ≤ x0 → x1 < x0 ∧ -x0 < x1))) (hP : ∀ z : Int, (-9223372036854775808) ≤ z ∧ z ≤ 9223372036854775807 ∧ ¬ z = 0 → Post (some (xL z), h)) : mx_J (tB l D b0 ad Hb tau) mt_273 (d + 31) 0 [some (xL x0), none, some (xL x1), none] [] h Post := by
    refine mx_J.step (sn_273 0) (fun _ _ => rfl) ?_
    refine JcL (z := 0) (show mx_Sn _ _ 1 (mx_const (.long 0) 2) from sn_273 1) rfl ?_
    have c17 : ∀ (k1_0 : Int), (-9223372036854775808) ≤ k1_0 ∧ k1_0 ≤ 9223372036854775807 → ¬ k1_0 = 0 → mx_J (tB l D b0 ad Hb tau) mt_273 (d + 31) 17 [some (xL x0), none, some (xL x1), none] [xL k1_0] h Post := by
      intro k1_0 f1_0 f1_1
      exact mx_J.ret (sn_273 17) (fun _ _ => rfl) (hP k1_0 (by omega))
    refine Jlif_ne (show mx_Sn _ _ 2 (mx_lif_ne 10 6) from sn_273 2) (by omega) (by omega) (fun q2 => ?_) (fun q2 => ?_)
    · skip
      refine mx_J.step (sn_273 10) (fun _ _ => rfl) ?_
      refine mx_J.step (sn_273 11) (fun _ _ => rfl) ?_
      refine mx_J.step (sn_273 12) (fun _ _ => rfl) ?_
      refine JlremB (show mx_Sn _ _ 13 (mx_lrem 14) from sn_273 13) (by omega) (by omega) (by omega) k0 (fun y3 hy3 => ?_)
      obtain ⟨z4, hc4, b4⟩ := ct_273_A15 (d := d + 0) (l := l) (D := D) (b0 := b0) (ad := ad) (Hb := Hb) (tau := tau) hx hG (show (-9223372036854775808) ≤ x1 ∧ x1 ≤ 9223372036854775807 by omega) (show (-32767) ≤ y3 ∧ y3 ≤ 32767 by omega) (show ¬ (x1 = 0 ∧ y3 = 0) by omega)
      refine Jcs (show mx_Sn _ _ 14 (mx_calls 273 2 17) from sn_273 14) hc4 rfl rfl rfl ?_
      exact c17 z4 (by omega) (by omega)
    · skip
      refine mx_J.step (sn_273 6) (fun _ _ => rfl) ?_
      refine mx_J.step (sn_273 7) (fun _ _ => rfl) ?_
      exact c17 x0 (by omega) (by omega)
theorem ct_273_B16 {l : Launch} {D : va_G} {b0 : Nat} {ad : Nat → Nat} {Hb : Heap} {tau : Nat → Int64} {d n s : Nat} {S : Nat → xS} {Z : xZ} {h : mx_H} (hx : XH n s S Z h) (hG : GI n S Z)  {x0 x1 : Int} (p0 : (-65535) ≤ x0 ∧ x0 ≤ 65535) (p1 : (-65535) ≤ x1 ∧ x1 ≤ 65535) (k0 : ((x0 ≤ 0 → x1 < -x0 ∧ x0 < x1) ∧ (0 ≤ x0 → x1 < x0 ∧ -x0 < x1))) : ∃ z : Int, mx_Ca (tB l D b0 ad Hb tau) (d + 32) 273 [xL x0, xL x1] h (some (xL z), h) ∧ ((-9223372036854775808) ≤ z ∧ z ≤ 9223372036854775807 ∧ ¬ z = 0) := by
  obtain ⟨r, hca, z, e, hp⟩ := Jmt (B := tB l D b0 ad Hb tau) (M := mt_273) (mi := 273) (as := [xL x0, xL x1]) (d := d + 31) (ls := [some (xL x0), none, some (xL x1), none]) rfl rfl rfl rfl rfl rfl (cw_273_B16 (l := l) (D := D) (b0 := b0) (ad := ad) (Hb := Hb) (tau := tau) (d := d) (Post := fun r => ∃ z : Int, r = (some (xL z), h) ∧ ((-9223372036854775808) ≤ z ∧ z ≤ 9223372036854775807 ∧ ¬ z = 0)) hx hG p0 p1 k0 (fun z hz => ⟨z, rfl, hz⟩))
  subst e; exact ⟨z, hca, hp⟩
set_option maxRecDepth 100000 in
theorem cw_273_A16 {l : Launch} {D : va_G} {b0 : Nat} {ad : Nat → Nat} {Hb : Heap} {tau : Nat → Int64} {d n s : Nat} {S : Nat → xS} {Z : xZ} {h : mx_H} {Post : mx_R → Prop} (hx : XH n s S Z h) (hG : GI n S Z)  {x0 x1 : Int} (p0 : (-9223372036854775808) ≤ x0 ∧ x0 ≤ 9223372036854775807) (p1 : (-65535) ≤ x1 ∧ x1 ≤ 65535) (k0 : ¬ (x0 = 0 ∧ x1 = 0)) (hP : ∀ z : Int, (-9223372036854775808) ≤ z ∧ z ≤ 9223372036854775807 ∧ ¬ z = 0 → Post (some (xL z), h)) : mx_J (tB l D b0 ad Hb tau) mt_273 (d + 32) 0 [some (xL x0), none, some (xL x1), none] [] h Post := by
    refine mx_J.step (sn_273 0) (fun _ _ => rfl) ?_
    refine JcL (z := 0) (show mx_Sn _ _ 1 (mx_const (.long 0) 2) from sn_273 1) rfl ?_
    have c17 : ∀ (k1_0 : Int), (-9223372036854775808) ≤ k1_0 ∧ k1_0 ≤ 9223372036854775807 → ¬ k1_0 = 0 → mx_J (tB l D b0 ad Hb tau) mt_273 (d + 32) 17 [some (xL x0), none, some (xL x1), none] [xL k1_0] h Post := by
      intro k1_0 f1_0 f1_1
      exact mx_J.ret (sn_273 17) (fun _ _ => rfl) (hP k1_0 (by omega))
    refine Jlif_ne (show mx_Sn _ _ 2 (mx_lif_ne 10 6) from sn_273 2) (by omega) (by omega) (fun q2 => ?_) (fun q2 => ?_)
    · skip
      refine mx_J.step (sn_273 10) (fun _ _ => rfl) ?_
      refine mx_J.step (sn_273 11) (fun _ _ => rfl) ?_
      refine mx_J.step (sn_273 12) (fun _ _ => rfl) ?_
      refine JlremA (show mx_Sn _ _ 13 (mx_lrem 14) from sn_273 13) (by omega) (by omega) (by omega) (fun y3 hy3 => ?_)
      obtain ⟨z4, hc4, b4⟩ := ct_273_B16 (d := d + 0) (l := l) (D := D) (b0 := b0) (ad := ad) (Hb := Hb) (tau := tau) hx hG (show (-65535) ≤ x1 ∧ x1 ≤ 65535 by omega) (show (-65535) ≤ y3 ∧ y3 ≤ 65535 by omega) (show ((x1 ≤ 0 → y3 < -x1 ∧ x1 < y3) ∧ (0 ≤ x1 → y3 < x1 ∧ -x1 < y3)) by omega)
      refine Jcs (show mx_Sn _ _ 14 (mx_calls 273 2 17) from sn_273 14) hc4 rfl rfl rfl ?_
      exact c17 z4 (by omega) (by omega)
    · skip
      refine mx_J.step (sn_273 6) (fun _ _ => rfl) ?_
      refine mx_J.step (sn_273 7) (fun _ _ => rfl) ?_
      exact c17 x0 (by omega) (by omega)
theorem ct_273_A16 {l : Launch} {D : va_G} {b0 : Nat} {ad : Nat → Nat} {Hb : Heap} {tau : Nat → Int64} {d n s : Nat} {S : Nat → xS} {Z : xZ} {h : mx_H} (hx : XH n s S Z h) (hG : GI n S Z)  {x0 x1 : Int} (p0 : (-9223372036854775808) ≤ x0 ∧ x0 ≤ 9223372036854775807) (p1 : (-65535) ≤ x1 ∧ x1 ≤ 65535) (k0 : ¬ (x0 = 0 ∧ x1 = 0)) : ∃ z : Int, mx_Ca (tB l D b0 ad Hb tau) (d + 33) 273 [xL x0, xL x1] h (some (xL z), h) ∧ ((-9223372036854775808) ≤ z ∧ z ≤ 9223372036854775807 ∧ ¬ z = 0) := by
  obtain ⟨r, hca, z, e, hp⟩ := Jmt (B := tB l D b0 ad Hb tau) (M := mt_273) (mi := 273) (as := [xL x0, xL x1]) (d := d + 32) (ls := [some (xL x0), none, some (xL x1), none]) rfl rfl rfl rfl rfl rfl (cw_273_A16 (l := l) (D := D) (b0 := b0) (ad := ad) (Hb := Hb) (tau := tau) (d := d) (Post := fun r => ∃ z : Int, r = (some (xL z), h) ∧ ((-9223372036854775808) ≤ z ∧ z ≤ 9223372036854775807 ∧ ¬ z = 0)) hx hG p0 p1 k0 (fun z hz => ⟨z, rfl, hz⟩))
  subst e; exact ⟨z, hca, hp⟩
set_option maxRecDepth 100000 in
theorem cw_273_B17 {l : Launch} {D : va_G} {b0 : Nat} {ad : Nat → Nat} {Hb : Heap} {tau : Nat → Int64} {d n s : Nat} {S : Nat → xS} {Z : xZ} {h : mx_H} {Post : mx_R → Prop} (hx : XH n s S Z h) (hG : GI n S Z)  {x0 x1 : Int} (p0 : (-131071) ≤ x0 ∧ x0 ≤ 131071) (p1 : (-131071) ≤ x1 ∧ x1 ≤ 131071) (k0 : ((x0 ≤ 0 → x1 < -x0 ∧ x0 < x1) ∧ (0 ≤ x0 → x1 < x0 ∧ -x0 < x1))) (hP : ∀ z : Int, (-9223372036854775808) ≤ z ∧ z ≤ 9223372036854775807 ∧ ¬ z = 0 → Post (some (xL z), h)) : mx_J (tB l D b0 ad Hb tau) mt_273 (d + 33) 0 [some (xL x0), none, some (xL x1), none] [] h Post := by
    refine mx_J.step (sn_273 0) (fun _ _ => rfl) ?_
    refine JcL (z := 0) (show mx_Sn _ _ 1 (mx_const (.long 0) 2) from sn_273 1) rfl ?_
    have c17 : ∀ (k1_0 : Int), (-9223372036854775808) ≤ k1_0 ∧ k1_0 ≤ 9223372036854775807 → ¬ k1_0 = 0 → mx_J (tB l D b0 ad Hb tau) mt_273 (d + 33) 17 [some (xL x0), none, some (xL x1), none] [xL k1_0] h Post := by
      intro k1_0 f1_0 f1_1
      exact mx_J.ret (sn_273 17) (fun _ _ => rfl) (hP k1_0 (by omega))
    refine Jlif_ne (show mx_Sn _ _ 2 (mx_lif_ne 10 6) from sn_273 2) (by omega) (by omega) (fun q2 => ?_) (fun q2 => ?_)
    · skip
      refine mx_J.step (sn_273 10) (fun _ _ => rfl) ?_
      refine mx_J.step (sn_273 11) (fun _ _ => rfl) ?_
      refine mx_J.step (sn_273 12) (fun _ _ => rfl) ?_
      refine JlremB (show mx_Sn _ _ 13 (mx_lrem 14) from sn_273 13) (by omega) (by omega) (by omega) k0 (fun y3 hy3 => ?_)
      obtain ⟨z4, hc4, b4⟩ := ct_273_A16 (d := d + 0) (l := l) (D := D) (b0 := b0) (ad := ad) (Hb := Hb) (tau := tau) hx hG (show (-9223372036854775808) ≤ x1 ∧ x1 ≤ 9223372036854775807 by omega) (show (-65535) ≤ y3 ∧ y3 ≤ 65535 by omega) (show ¬ (x1 = 0 ∧ y3 = 0) by omega)
      refine Jcs (show mx_Sn _ _ 14 (mx_calls 273 2 17) from sn_273 14) hc4 rfl rfl rfl ?_
      exact c17 z4 (by omega) (by omega)
    · skip
      refine mx_J.step (sn_273 6) (fun _ _ => rfl) ?_
      refine mx_J.step (sn_273 7) (fun _ _ => rfl) ?_
      exact c17 x0 (by omega) (by omega)
theorem ct_273_B17 {l : Launch} {D : va_G} {b0 : Nat} {ad : Nat → Nat} {Hb : Heap} {tau : Nat → Int64} {d n s : Nat} {S : Nat → xS} {Z : xZ} {h : mx_H} (hx : XH n s S Z h) (hG : GI n S Z)  {x0 x1 : Int} (p0 : (-131071) ≤ x0 ∧ x0 ≤ 131071) (p1 : (-131071) ≤ x1 ∧ x1 ≤ 131071) (k0 : ((x0 ≤ 0 → x1 < -x0 ∧ x0 < x1) ∧ (0 ≤ x0 → x1 < x0 ∧ -x0 < x1))) : ∃ z : Int, mx_Ca (tB l D b0 ad Hb tau) (d + 34) 273 [xL x0, xL x1] h (some (xL z), h) ∧ ((-9223372036854775808) ≤ z ∧ z ≤ 9223372036854775807 ∧ ¬ z = 0) := by
  obtain ⟨r, hca, z, e, hp⟩ := Jmt (B := tB l D b0 ad Hb tau) (M := mt_273) (mi := 273) (as := [xL x0, xL x1]) (d := d + 33) (ls := [some (xL x0), none, some (xL x1), none]) rfl rfl rfl rfl rfl rfl (cw_273_B17 (l := l) (D := D) (b0 := b0) (ad := ad) (Hb := Hb) (tau := tau) (d := d) (Post := fun r => ∃ z : Int, r = (some (xL z), h) ∧ ((-9223372036854775808) ≤ z ∧ z ≤ 9223372036854775807 ∧ ¬ z = 0)) hx hG p0 p1 k0 (fun z hz => ⟨z, rfl, hz⟩))
  subst e; exact ⟨z, hca, hp⟩
set_option maxRecDepth 100000 in
theorem cw_273_A17 {l : Launch} {D : va_G} {b0 : Nat} {ad : Nat → Nat} {Hb : Heap} {tau : Nat → Int64} {d n s : Nat} {S : Nat → xS} {Z : xZ} {h : mx_H} {Post : mx_R → Prop} (hx : XH n s S Z h) (hG : GI n S Z)  {x0 x1 : Int} (p0 : (-9223372036854775808) ≤ x0 ∧ x0 ≤ 9223372036854775807) (p1 : (-131071) ≤ x1 ∧ x1 ≤ 131071) (k0 : ¬ (x0 = 0 ∧ x1 = 0)) (hP : ∀ z : Int, (-9223372036854775808) ≤ z ∧ z ≤ 9223372036854775807 ∧ ¬ z = 0 → Post (some (xL z), h)) : mx_J (tB l D b0 ad Hb tau) mt_273 (d + 34) 0 [some (xL x0), none, some (xL x1), none] [] h Post := by
    refine mx_J.step (sn_273 0) (fun _ _ => rfl) ?_
    refine JcL (z := 0) (show mx_Sn _ _ 1 (mx_const (.long 0) 2) from sn_273 1) rfl ?_
    have c17 : ∀ (k1_0 : Int), (-9223372036854775808) ≤ k1_0 ∧ k1_0 ≤ 9223372036854775807 → ¬ k1_0 = 0 → mx_J (tB l D b0 ad Hb tau) mt_273 (d + 34) 17 [some (xL x0), none, some (xL x1), none] [xL k1_0] h Post := by
      intro k1_0 f1_0 f1_1
      exact mx_J.ret (sn_273 17) (fun _ _ => rfl) (hP k1_0 (by omega))
    refine Jlif_ne (show mx_Sn _ _ 2 (mx_lif_ne 10 6) from sn_273 2) (by omega) (by omega) (fun q2 => ?_) (fun q2 => ?_)
    · skip
      refine mx_J.step (sn_273 10) (fun _ _ => rfl) ?_
      refine mx_J.step (sn_273 11) (fun _ _ => rfl) ?_
      refine mx_J.step (sn_273 12) (fun _ _ => rfl) ?_
      refine JlremA (show mx_Sn _ _ 13 (mx_lrem 14) from sn_273 13) (by omega) (by omega) (by omega) (fun y3 hy3 => ?_)
      obtain ⟨z4, hc4, b4⟩ := ct_273_B17 (d := d + 0) (l := l) (D := D) (b0 := b0) (ad := ad) (Hb := Hb) (tau := tau) hx hG (show (-131071) ≤ x1 ∧ x1 ≤ 131071 by omega) (show (-131071) ≤ y3 ∧ y3 ≤ 131071 by omega) (show ((x1 ≤ 0 → y3 < -x1 ∧ x1 < y3) ∧ (0 ≤ x1 → y3 < x1 ∧ -x1 < y3)) by omega)
      refine Jcs (show mx_Sn _ _ 14 (mx_calls 273 2 17) from sn_273 14) hc4 rfl rfl rfl ?_
      exact c17 z4 (by omega) (by omega)
    · skip
      refine mx_J.step (sn_273 6) (fun _ _ => rfl) ?_
      refine mx_J.step (sn_273 7) (fun _ _ => rfl) ?_
      exact c17 x0 (by omega) (by omega)
theorem ct_273_A17 {l : Launch} {D : va_G} {b0 : Nat} {ad : Nat → Nat} {Hb : Heap} {tau : Nat → Int64} {d n s : Nat} {S : Nat → xS} {Z : xZ} {h : mx_H} (hx : XH n s S Z h) (hG : GI n S Z)  {x0 x1 : Int} (p0 : (-9223372036854775808) ≤ x0 ∧ x0 ≤ 9223372036854775807) (p1 : (-131071) ≤ x1 ∧ x1 ≤ 131071) (k0 : ¬ (x0 = 0 ∧ x1 = 0)) : ∃ z : Int, mx_Ca (tB l D b0 ad Hb tau) (d + 35) 273 [xL x0, xL x1] h (some (xL z), h) ∧ ((-9223372036854775808) ≤ z ∧ z ≤ 9223372036854775807 ∧ ¬ z = 0) := by
  obtain ⟨r, hca, z, e, hp⟩ := Jmt (B := tB l D b0 ad Hb tau) (M := mt_273) (mi := 273) (as := [xL x0, xL x1]) (d := d + 34) (ls := [some (xL x0), none, some (xL x1), none]) rfl rfl rfl rfl rfl rfl (cw_273_A17 (l := l) (D := D) (b0 := b0) (ad := ad) (Hb := Hb) (tau := tau) (d := d) (Post := fun r => ∃ z : Int, r = (some (xL z), h) ∧ ((-9223372036854775808) ≤ z ∧ z ≤ 9223372036854775807 ∧ ¬ z = 0)) hx hG p0 p1 k0 (fun z hz => ⟨z, rfl, hz⟩))
  subst e; exact ⟨z, hca, hp⟩
set_option maxRecDepth 100000 in
theorem cw_273_B18 {l : Launch} {D : va_G} {b0 : Nat} {ad : Nat → Nat} {Hb : Heap} {tau : Nat → Int64} {d n s : Nat} {S : Nat → xS} {Z : xZ} {h : mx_H} {Post : mx_R → Prop} (hx : XH n s S Z h) (hG : GI n S Z)  {x0 x1 : Int} (p0 : (-262143) ≤ x0 ∧ x0 ≤ 262143) (p1 : (-262143) ≤ x1 ∧ x1 ≤ 262143) (k0 : ((x0 ≤ 0 → x1 < -x0 ∧ x0 < x1) ∧ (0 ≤ x0 → x1 < x0 ∧ -x0 < x1))) (hP : ∀ z : Int, (-9223372036854775808) ≤ z ∧ z ≤ 9223372036854775807 ∧ ¬ z = 0 → Post (some (xL z), h)) : mx_J (tB l D b0 ad Hb tau) mt_273 (d + 35) 0 [some (xL x0), none, some (xL x1), none] [] h Post := by
    refine mx_J.step (sn_273 0) (fun _ _ => rfl) ?_
    refine JcL (z := 0) (show mx_Sn _ _ 1 (mx_const (.long 0) 2) from sn_273 1) rfl ?_
    have c17 : ∀ (k1_0 : Int), (-9223372036854775808) ≤ k1_0 ∧ k1_0 ≤ 9223372036854775807 → ¬ k1_0 = 0 → mx_J (tB l D b0 ad Hb tau) mt_273 (d + 35) 17 [some (xL x0), none, some (xL x1), none] [xL k1_0] h Post := by
      intro k1_0 f1_0 f1_1
      exact mx_J.ret (sn_273 17) (fun _ _ => rfl) (hP k1_0 (by omega))
    refine Jlif_ne (show mx_Sn _ _ 2 (mx_lif_ne 10 6) from sn_273 2) (by omega) (by omega) (fun q2 => ?_) (fun q2 => ?_)
    · skip
      refine mx_J.step (sn_273 10) (fun _ _ => rfl) ?_
      refine mx_J.step (sn_273 11) (fun _ _ => rfl) ?_
      refine mx_J.step (sn_273 12) (fun _ _ => rfl) ?_
      refine JlremB (show mx_Sn _ _ 13 (mx_lrem 14) from sn_273 13) (by omega) (by omega) (by omega) k0 (fun y3 hy3 => ?_)
      obtain ⟨z4, hc4, b4⟩ := ct_273_A17 (d := d + 0) (l := l) (D := D) (b0 := b0) (ad := ad) (Hb := Hb) (tau := tau) hx hG (show (-9223372036854775808) ≤ x1 ∧ x1 ≤ 9223372036854775807 by omega) (show (-131071) ≤ y3 ∧ y3 ≤ 131071 by omega) (show ¬ (x1 = 0 ∧ y3 = 0) by omega)
      refine Jcs (show mx_Sn _ _ 14 (mx_calls 273 2 17) from sn_273 14) hc4 rfl rfl rfl ?_
      exact c17 z4 (by omega) (by omega)
    · skip
      refine mx_J.step (sn_273 6) (fun _ _ => rfl) ?_
      refine mx_J.step (sn_273 7) (fun _ _ => rfl) ?_
      exact c17 x0 (by omega) (by omega)
theorem ct_273_B18 {l : Launch} {D : va_G} {b0 : Nat} {ad : Nat → Nat} {Hb : Heap} {tau : Nat → Int64} {d n s : Nat} {S : Nat → xS} {Z : xZ} {h : mx_H} (hx : XH n s S Z h) (hG : GI n S Z)  {x0 x1 : Int} (p0 : (-262143) ≤ x0 ∧ x0 ≤ 262143) (p1 : (-262143) ≤ x1 ∧ x1 ≤ 262143) (k0 : ((x0 ≤ 0 → x1 < -x0 ∧ x0 < x1) ∧ (0 ≤ x0 → x1 < x0 ∧ -x0 < x1))) : ∃ z : Int, mx_Ca (tB l D b0 ad Hb tau) (d + 36) 273 [xL x0, xL x1] h (some (xL z), h) ∧ ((-9223372036854775808) ≤ z ∧ z ≤ 9223372036854775807 ∧ ¬ z = 0) := by
  obtain ⟨r, hca, z, e, hp⟩ := Jmt (B := tB l D b0 ad Hb tau) (M := mt_273) (mi := 273) (as := [xL x0, xL x1]) (d := d + 35) (ls := [some (xL x0), none, some (xL x1), none]) rfl rfl rfl rfl rfl rfl (cw_273_B18 (l := l) (D := D) (b0 := b0) (ad := ad) (Hb := Hb) (tau := tau) (d := d) (Post := fun r => ∃ z : Int, r = (some (xL z), h) ∧ ((-9223372036854775808) ≤ z ∧ z ≤ 9223372036854775807 ∧ ¬ z = 0)) hx hG p0 p1 k0 (fun z hz => ⟨z, rfl, hz⟩))
  subst e; exact ⟨z, hca, hp⟩
set_option maxRecDepth 100000 in
theorem cw_273_A18 {l : Launch} {D : va_G} {b0 : Nat} {ad : Nat → Nat} {Hb : Heap} {tau : Nat → Int64} {d n s : Nat} {S : Nat → xS} {Z : xZ} {h : mx_H} {Post : mx_R → Prop} (hx : XH n s S Z h) (hG : GI n S Z)  {x0 x1 : Int} (p0 : (-9223372036854775808) ≤ x0 ∧ x0 ≤ 9223372036854775807) (p1 : (-262143) ≤ x1 ∧ x1 ≤ 262143) (k0 : ¬ (x0 = 0 ∧ x1 = 0)) (hP : ∀ z : Int, (-9223372036854775808) ≤ z ∧ z ≤ 9223372036854775807 ∧ ¬ z = 0 → Post (some (xL z), h)) : mx_J (tB l D b0 ad Hb tau) mt_273 (d + 36) 0 [some (xL x0), none, some (xL x1), none] [] h Post := by
    refine mx_J.step (sn_273 0) (fun _ _ => rfl) ?_
    refine JcL (z := 0) (show mx_Sn _ _ 1 (mx_const (.long 0) 2) from sn_273 1) rfl ?_
    have c17 : ∀ (k1_0 : Int), (-9223372036854775808) ≤ k1_0 ∧ k1_0 ≤ 9223372036854775807 → ¬ k1_0 = 0 → mx_J (tB l D b0 ad Hb tau) mt_273 (d + 36) 17 [some (xL x0), none, some (xL x1), none] [xL k1_0] h Post := by
      intro k1_0 f1_0 f1_1
      exact mx_J.ret (sn_273 17) (fun _ _ => rfl) (hP k1_0 (by omega))
    refine Jlif_ne (show mx_Sn _ _ 2 (mx_lif_ne 10 6) from sn_273 2) (by omega) (by omega) (fun q2 => ?_) (fun q2 => ?_)
    · skip
      refine mx_J.step (sn_273 10) (fun _ _ => rfl) ?_
      refine mx_J.step (sn_273 11) (fun _ _ => rfl) ?_
      refine mx_J.step (sn_273 12) (fun _ _ => rfl) ?_
      refine JlremA (show mx_Sn _ _ 13 (mx_lrem 14) from sn_273 13) (by omega) (by omega) (by omega) (fun y3 hy3 => ?_)
      obtain ⟨z4, hc4, b4⟩ := ct_273_B18 (d := d + 0) (l := l) (D := D) (b0 := b0) (ad := ad) (Hb := Hb) (tau := tau) hx hG (show (-262143) ≤ x1 ∧ x1 ≤ 262143 by omega) (show (-262143) ≤ y3 ∧ y3 ≤ 262143 by omega) (show ((x1 ≤ 0 → y3 < -x1 ∧ x1 < y3) ∧ (0 ≤ x1 → y3 < x1 ∧ -x1 < y3)) by omega)
      refine Jcs (show mx_Sn _ _ 14 (mx_calls 273 2 17) from sn_273 14) hc4 rfl rfl rfl ?_
      exact c17 z4 (by omega) (by omega)
    · skip
      refine mx_J.step (sn_273 6) (fun _ _ => rfl) ?_
      refine mx_J.step (sn_273 7) (fun _ _ => rfl) ?_
      exact c17 x0 (by omega) (by omega)
theorem ct_273_A18 {l : Launch} {D : va_G} {b0 : Nat} {ad : Nat → Nat} {Hb : Heap} {tau : Nat → Int64} {d n s : Nat} {S : Nat → xS} {Z : xZ} {h : mx_H} (hx : XH n s S Z h) (hG : GI n S Z)  {x0 x1 : Int} (p0 : (-9223372036854775808) ≤ x0 ∧ x0 ≤ 9223372036854775807) (p1 : (-262143) ≤ x1 ∧ x1 ≤ 262143) (k0 : ¬ (x0 = 0 ∧ x1 = 0)) : ∃ z : Int, mx_Ca (tB l D b0 ad Hb tau) (d + 37) 273 [xL x0, xL x1] h (some (xL z), h) ∧ ((-9223372036854775808) ≤ z ∧ z ≤ 9223372036854775807 ∧ ¬ z = 0) := by
  obtain ⟨r, hca, z, e, hp⟩ := Jmt (B := tB l D b0 ad Hb tau) (M := mt_273) (mi := 273) (as := [xL x0, xL x1]) (d := d + 36) (ls := [some (xL x0), none, some (xL x1), none]) rfl rfl rfl rfl rfl rfl (cw_273_A18 (l := l) (D := D) (b0 := b0) (ad := ad) (Hb := Hb) (tau := tau) (d := d) (Post := fun r => ∃ z : Int, r = (some (xL z), h) ∧ ((-9223372036854775808) ≤ z ∧ z ≤ 9223372036854775807 ∧ ¬ z = 0)) hx hG p0 p1 k0 (fun z hz => ⟨z, rfl, hz⟩))
  subst e; exact ⟨z, hca, hp⟩
set_option maxRecDepth 100000 in
theorem cw_273_B19 {l : Launch} {D : va_G} {b0 : Nat} {ad : Nat → Nat} {Hb : Heap} {tau : Nat → Int64} {d n s : Nat} {S : Nat → xS} {Z : xZ} {h : mx_H} {Post : mx_R → Prop} (hx : XH n s S Z h) (hG : GI n S Z)  {x0 x1 : Int} (p0 : (-524287) ≤ x0 ∧ x0 ≤ 524287) (p1 : (-524287) ≤ x1 ∧ x1 ≤ 524287) (k0 : ((x0 ≤ 0 → x1 < -x0 ∧ x0 < x1) ∧ (0 ≤ x0 → x1 < x0 ∧ -x0 < x1))) (hP : ∀ z : Int, (-9223372036854775808) ≤ z ∧ z ≤ 9223372036854775807 ∧ ¬ z = 0 → Post (some (xL z), h)) : mx_J (tB l D b0 ad Hb tau) mt_273 (d + 37) 0 [some (xL x0), none, some (xL x1), none] [] h Post := by
    refine mx_J.step (sn_273 0) (fun _ _ => rfl) ?_
    refine JcL (z := 0) (show mx_Sn _ _ 1 (mx_const (.long 0) 2) from sn_273 1) rfl ?_
    have c17 : ∀ (k1_0 : Int), (-9223372036854775808) ≤ k1_0 ∧ k1_0 ≤ 9223372036854775807 → ¬ k1_0 = 0 → mx_J (tB l D b0 ad Hb tau) mt_273 (d + 37) 17 [some (xL x0), none, some (xL x1), none] [xL k1_0] h Post := by
      intro k1_0 f1_0 f1_1
      exact mx_J.ret (sn_273 17) (fun _ _ => rfl) (hP k1_0 (by omega))
    refine Jlif_ne (show mx_Sn _ _ 2 (mx_lif_ne 10 6) from sn_273 2) (by omega) (by omega) (fun q2 => ?_) (fun q2 => ?_)
    · skip
      refine mx_J.step (sn_273 10) (fun _ _ => rfl) ?_
      refine mx_J.step (sn_273 11) (fun _ _ => rfl) ?_
      refine mx_J.step (sn_273 12) (fun _ _ => rfl) ?_
      refine JlremB (show mx_Sn _ _ 13 (mx_lrem 14) from sn_273 13) (by omega) (by omega) (by omega) k0 (fun y3 hy3 => ?_)
      obtain ⟨z4, hc4, b4⟩ := ct_273_A18 (d := d + 0) (l := l) (D := D) (b0 := b0) (ad := ad) (Hb := Hb) (tau := tau) hx hG (show (-9223372036854775808) ≤ x1 ∧ x1 ≤ 9223372036854775807 by omega) (show (-262143) ≤ y3 ∧ y3 ≤ 262143 by omega) (show ¬ (x1 = 0 ∧ y3 = 0) by omega)
      refine Jcs (show mx_Sn _ _ 14 (mx_calls 273 2 17) from sn_273 14) hc4 rfl rfl rfl ?_
      exact c17 z4 (by omega) (by omega)
    · skip
      refine mx_J.step (sn_273 6) (fun _ _ => rfl) ?_
      refine mx_J.step (sn_273 7) (fun _ _ => rfl) ?_
      exact c17 x0 (by omega) (by omega)
theorem ct_273_B19 {l : Launch} {D : va_G} {b0 : Nat} {ad : Nat → Nat} {Hb : Heap} {tau : Nat → Int64} {d n s : Nat} {S : Nat → xS} {Z : xZ} {h : mx_H} (hx : XH n s S Z h) (hG : GI n S Z)  {x0 x1 : Int} (p0 : (-524287) ≤ x0 ∧ x0 ≤ 524287) (p1 : (-524287) ≤ x1 ∧ x1 ≤ 524287) (k0 : ((x0 ≤ 0 → x1 < -x0 ∧ x0 < x1) ∧ (0 ≤ x0 → x1 < x0 ∧ -x0 < x1))) : ∃ z : Int, mx_Ca (tB l D b0 ad Hb tau) (d + 38) 273 [xL x0, xL x1] h (some (xL z), h) ∧ ((-9223372036854775808) ≤ z ∧ z ≤ 9223372036854775807 ∧ ¬ z = 0) := by
  obtain ⟨r, hca, z, e, hp⟩ := Jmt (B := tB l D b0 ad Hb tau) (M := mt_273) (mi := 273) (as := [xL x0, xL x1]) (d := d + 37) (ls := [some (xL x0), none, some (xL x1), none]) rfl rfl rfl rfl rfl rfl (cw_273_B19 (l := l) (D := D) (b0 := b0) (ad := ad) (Hb := Hb) (tau := tau) (d := d) (Post := fun r => ∃ z : Int, r = (some (xL z), h) ∧ ((-9223372036854775808) ≤ z ∧ z ≤ 9223372036854775807 ∧ ¬ z = 0)) hx hG p0 p1 k0 (fun z hz => ⟨z, rfl, hz⟩))
  subst e; exact ⟨z, hca, hp⟩
set_option maxRecDepth 100000 in
theorem cw_273_A19 {l : Launch} {D : va_G} {b0 : Nat} {ad : Nat → Nat} {Hb : Heap} {tau : Nat → Int64} {d n s : Nat} {S : Nat → xS} {Z : xZ} {h : mx_H} {Post : mx_R → Prop} (hx : XH n s S Z h) (hG : GI n S Z)  {x0 x1 : Int} (p0 : (-9223372036854775808) ≤ x0 ∧ x0 ≤ 9223372036854775807) (p1 : (-524287) ≤ x1 ∧ x1 ≤ 524287) (k0 : ¬ (x0 = 0 ∧ x1 = 0)) (hP : ∀ z : Int, (-9223372036854775808) ≤ z ∧ z ≤ 9223372036854775807 ∧ ¬ z = 0 → Post (some (xL z), h)) : mx_J (tB l D b0 ad Hb tau) mt_273 (d + 38) 0 [some (xL x0), none, some (xL x1), none] [] h Post := by
    refine mx_J.step (sn_273 0) (fun _ _ => rfl) ?_
    refine JcL (z := 0) (show mx_Sn _ _ 1 (mx_const (.long 0) 2) from sn_273 1) rfl ?_
    have c17 : ∀ (k1_0 : Int), (-9223372036854775808) ≤ k1_0 ∧ k1_0 ≤ 9223372036854775807 → ¬ k1_0 = 0 → mx_J (tB l D b0 ad Hb tau) mt_273 (d + 38) 17 [some (xL x0), none, some (xL x1), none] [xL k1_0] h Post := by
      intro k1_0 f1_0 f1_1
      exact mx_J.ret (sn_273 17) (fun _ _ => rfl) (hP k1_0 (by omega))
    refine Jlif_ne (show mx_Sn _ _ 2 (mx_lif_ne 10 6) from sn_273 2) (by omega) (by omega) (fun q2 => ?_) (fun q2 => ?_)
    · skip
      refine mx_J.step (sn_273 10) (fun _ _ => rfl) ?_
      refine mx_J.step (sn_273 11) (fun _ _ => rfl) ?_
      refine mx_J.step (sn_273 12) (fun _ _ => rfl) ?_
      refine JlremA (show mx_Sn _ _ 13 (mx_lrem 14) from sn_273 13) (by omega) (by omega) (by omega) (fun y3 hy3 => ?_)
      obtain ⟨z4, hc4, b4⟩ := ct_273_B19 (d := d + 0) (l := l) (D := D) (b0 := b0) (ad := ad) (Hb := Hb) (tau := tau) hx hG (show (-524287) ≤ x1 ∧ x1 ≤ 524287 by omega) (show (-524287) ≤ y3 ∧ y3 ≤ 524287 by omega) (show ((x1 ≤ 0 → y3 < -x1 ∧ x1 < y3) ∧ (0 ≤ x1 → y3 < x1 ∧ -x1 < y3)) by omega)
      refine Jcs (show mx_Sn _ _ 14 (mx_calls 273 2 17) from sn_273 14) hc4 rfl rfl rfl ?_
      exact c17 z4 (by omega) (by omega)
    · skip
      refine mx_J.step (sn_273 6) (fun _ _ => rfl) ?_
      refine mx_J.step (sn_273 7) (fun _ _ => rfl) ?_
      exact c17 x0 (by omega) (by omega)
theorem ct_273_A19 {l : Launch} {D : va_G} {b0 : Nat} {ad : Nat → Nat} {Hb : Heap} {tau : Nat → Int64} {d n s : Nat} {S : Nat → xS} {Z : xZ} {h : mx_H} (hx : XH n s S Z h) (hG : GI n S Z)  {x0 x1 : Int} (p0 : (-9223372036854775808) ≤ x0 ∧ x0 ≤ 9223372036854775807) (p1 : (-524287) ≤ x1 ∧ x1 ≤ 524287) (k0 : ¬ (x0 = 0 ∧ x1 = 0)) : ∃ z : Int, mx_Ca (tB l D b0 ad Hb tau) (d + 39) 273 [xL x0, xL x1] h (some (xL z), h) ∧ ((-9223372036854775808) ≤ z ∧ z ≤ 9223372036854775807 ∧ ¬ z = 0) := by
  obtain ⟨r, hca, z, e, hp⟩ := Jmt (B := tB l D b0 ad Hb tau) (M := mt_273) (mi := 273) (as := [xL x0, xL x1]) (d := d + 38) (ls := [some (xL x0), none, some (xL x1), none]) rfl rfl rfl rfl rfl rfl (cw_273_A19 (l := l) (D := D) (b0 := b0) (ad := ad) (Hb := Hb) (tau := tau) (d := d) (Post := fun r => ∃ z : Int, r = (some (xL z), h) ∧ ((-9223372036854775808) ≤ z ∧ z ≤ 9223372036854775807 ∧ ¬ z = 0)) hx hG p0 p1 k0 (fun z hz => ⟨z, rfl, hz⟩))
  subst e; exact ⟨z, hca, hp⟩
set_option maxRecDepth 100000 in
theorem cw_273_B20 {l : Launch} {D : va_G} {b0 : Nat} {ad : Nat → Nat} {Hb : Heap} {tau : Nat → Int64} {d n s : Nat} {S : Nat → xS} {Z : xZ} {h : mx_H} {Post : mx_R → Prop} (hx : XH n s S Z h) (hG : GI n S Z)  {x0 x1 : Int} (p0 : (-1048575) ≤ x0 ∧ x0 ≤ 1048575) (p1 : (-1048575) ≤ x1 ∧ x1 ≤ 1048575) (k0 : ((x0 ≤ 0 → x1 < -x0 ∧ x0 < x1) ∧ (0 ≤ x0 → x1 < x0 ∧ -x0 < x1))) (hP : ∀ z : Int, (-9223372036854775808) ≤ z ∧ z ≤ 9223372036854775807 ∧ ¬ z = 0 → Post (some (xL z), h)) : mx_J (tB l D b0 ad Hb tau) mt_273 (d + 39) 0 [some (xL x0), none, some (xL x1), none] [] h Post := by
    refine mx_J.step (sn_273 0) (fun _ _ => rfl) ?_
    refine JcL (z := 0) (show mx_Sn _ _ 1 (mx_const (.long 0) 2) from sn_273 1) rfl ?_
    have c17 : ∀ (k1_0 : Int), (-9223372036854775808) ≤ k1_0 ∧ k1_0 ≤ 9223372036854775807 → ¬ k1_0 = 0 → mx_J (tB l D b0 ad Hb tau) mt_273 (d + 39) 17 [some (xL x0), none, some (xL x1), none] [xL k1_0] h Post := by
      intro k1_0 f1_0 f1_1
      exact mx_J.ret (sn_273 17) (fun _ _ => rfl) (hP k1_0 (by omega))
    refine Jlif_ne (show mx_Sn _ _ 2 (mx_lif_ne 10 6) from sn_273 2) (by omega) (by omega) (fun q2 => ?_) (fun q2 => ?_)
    · skip
      refine mx_J.step (sn_273 10) (fun _ _ => rfl) ?_
      refine mx_J.step (sn_273 11) (fun _ _ => rfl) ?_
      refine mx_J.step (sn_273 12) (fun _ _ => rfl) ?_
      refine JlremB (show mx_Sn _ _ 13 (mx_lrem 14) from sn_273 13) (by omega) (by omega) (by omega) k0 (fun y3 hy3 => ?_)
      obtain ⟨z4, hc4, b4⟩ := ct_273_A19 (d := d + 0) (l := l) (D := D) (b0 := b0) (ad := ad) (Hb := Hb) (tau := tau) hx hG (show (-9223372036854775808) ≤ x1 ∧ x1 ≤ 9223372036854775807 by omega) (show (-524287) ≤ y3 ∧ y3 ≤ 524287 by omega) (show ¬ (x1 = 0 ∧ y3 = 0) by omega)
      refine Jcs (show mx_Sn _ _ 14 (mx_calls 273 2 17) from sn_273 14) hc4 rfl rfl rfl ?_
      exact c17 z4 (by omega) (by omega)
    · skip
      refine mx_J.step (sn_273 6) (fun _ _ => rfl) ?_
      refine mx_J.step (sn_273 7) (fun _ _ => rfl) ?_
      exact c17 x0 (by omega) (by omega)
theorem ct_273_B20 {l : Launch} {D : va_G} {b0 : Nat} {ad : Nat → Nat} {Hb : Heap} {tau : Nat → Int64} {d n s : Nat} {S : Nat → xS} {Z : xZ} {h : mx_H} (hx : XH n s S Z h) (hG : GI n S Z)  {x0 x1 : Int} (p0 : (-1048575) ≤ x0 ∧ x0 ≤ 1048575) (p1 : (-1048575) ≤ x1 ∧ x1 ≤ 1048575) (k0 : ((x0 ≤ 0 → x1 < -x0 ∧ x0 < x1) ∧ (0 ≤ x0 → x1 < x0 ∧ -x0 < x1))) : ∃ z : Int, mx_Ca (tB l D b0 ad Hb tau) (d + 40) 273 [xL x0, xL x1] h (some (xL z), h) ∧ ((-9223372036854775808) ≤ z ∧ z ≤ 9223372036854775807 ∧ ¬ z = 0) := by
  obtain ⟨r, hca, z, e, hp⟩ := Jmt (B := tB l D b0 ad Hb tau) (M := mt_273) (mi := 273) (as := [xL x0, xL x1]) (d := d + 39) (ls := [some (xL x0), none, some (xL x1), none]) rfl rfl rfl rfl rfl rfl (cw_273_B20 (l := l) (D := D) (b0 := b0) (ad := ad) (Hb := Hb) (tau := tau) (d := d) (Post := fun r => ∃ z : Int, r = (some (xL z), h) ∧ ((-9223372036854775808) ≤ z ∧ z ≤ 9223372036854775807 ∧ ¬ z = 0)) hx hG p0 p1 k0 (fun z hz => ⟨z, rfl, hz⟩))
  subst e; exact ⟨z, hca, hp⟩
set_option maxRecDepth 100000 in
theorem cw_273_A20 {l : Launch} {D : va_G} {b0 : Nat} {ad : Nat → Nat} {Hb : Heap} {tau : Nat → Int64} {d n s : Nat} {S : Nat → xS} {Z : xZ} {h : mx_H} {Post : mx_R → Prop} (hx : XH n s S Z h) (hG : GI n S Z)  {x0 x1 : Int} (p0 : (-9223372036854775808) ≤ x0 ∧ x0 ≤ 9223372036854775807) (p1 : (-1048575) ≤ x1 ∧ x1 ≤ 1048575) (k0 : ¬ (x0 = 0 ∧ x1 = 0)) (hP : ∀ z : Int, (-9223372036854775808) ≤ z ∧ z ≤ 9223372036854775807 ∧ ¬ z = 0 → Post (some (xL z), h)) : mx_J (tB l D b0 ad Hb tau) mt_273 (d + 40) 0 [some (xL x0), none, some (xL x1), none] [] h Post := by
    refine mx_J.step (sn_273 0) (fun _ _ => rfl) ?_
    refine JcL (z := 0) (show mx_Sn _ _ 1 (mx_const (.long 0) 2) from sn_273 1) rfl ?_
    have c17 : ∀ (k1_0 : Int), (-9223372036854775808) ≤ k1_0 ∧ k1_0 ≤ 9223372036854775807 → ¬ k1_0 = 0 → mx_J (tB l D b0 ad Hb tau) mt_273 (d + 40) 17 [some (xL x0), none, some (xL x1), none] [xL k1_0] h Post := by
      intro k1_0 f1_0 f1_1
      exact mx_J.ret (sn_273 17) (fun _ _ => rfl) (hP k1_0 (by omega))
    refine Jlif_ne (show mx_Sn _ _ 2 (mx_lif_ne 10 6) from sn_273 2) (by omega) (by omega) (fun q2 => ?_) (fun q2 => ?_)
    · skip
      refine mx_J.step (sn_273 10) (fun _ _ => rfl) ?_
      refine mx_J.step (sn_273 11) (fun _ _ => rfl) ?_
      refine mx_J.step (sn_273 12) (fun _ _ => rfl) ?_
      refine JlremA (show mx_Sn _ _ 13 (mx_lrem 14) from sn_273 13) (by omega) (by omega) (by omega) (fun y3 hy3 => ?_)
      obtain ⟨z4, hc4, b4⟩ := ct_273_B20 (d := d + 0) (l := l) (D := D) (b0 := b0) (ad := ad) (Hb := Hb) (tau := tau) hx hG (show (-1048575) ≤ x1 ∧ x1 ≤ 1048575 by omega) (show (-1048575) ≤ y3 ∧ y3 ≤ 1048575 by omega) (show ((x1 ≤ 0 → y3 < -x1 ∧ x1 < y3) ∧ (0 ≤ x1 → y3 < x1 ∧ -x1 < y3)) by omega)
      refine Jcs (show mx_Sn _ _ 14 (mx_calls 273 2 17) from sn_273 14) hc4 rfl rfl rfl ?_
      exact c17 z4 (by omega) (by omega)
    · skip
      refine mx_J.step (sn_273 6) (fun _ _ => rfl) ?_
      refine mx_J.step (sn_273 7) (fun _ _ => rfl) ?_
      exact c17 x0 (by omega) (by omega)
theorem ct_273_A20 {l : Launch} {D : va_G} {b0 : Nat} {ad : Nat → Nat} {Hb : Heap} {tau : Nat → Int64} {d n s : Nat} {S : Nat → xS} {Z : xZ} {h : mx_H} (hx : XH n s S Z h) (hG : GI n S Z)  {x0 x1 : Int} (p0 : (-9223372036854775808) ≤ x0 ∧ x0 ≤ 9223372036854775807) (p1 : (-1048575) ≤ x1 ∧ x1 ≤ 1048575) (k0 : ¬ (x0 = 0 ∧ x1 = 0)) : ∃ z : Int, mx_Ca (tB l D b0 ad Hb tau) (d + 41) 273 [xL x0, xL x1] h (some (xL z), h) ∧ ((-9223372036854775808) ≤ z ∧ z ≤ 9223372036854775807 ∧ ¬ z = 0) := by
  obtain ⟨r, hca, z, e, hp⟩ := Jmt (B := tB l D b0 ad Hb tau) (M := mt_273) (mi := 273) (as := [xL x0, xL x1]) (d := d + 40) (ls := [some (xL x0), none, some (xL x1), none]) rfl rfl rfl rfl rfl rfl (cw_273_A20 (l := l) (D := D) (b0 := b0) (ad := ad) (Hb := Hb) (tau := tau) (d := d) (Post := fun r => ∃ z : Int, r = (some (xL z), h) ∧ ((-9223372036854775808) ≤ z ∧ z ≤ 9223372036854775807 ∧ ¬ z = 0)) hx hG p0 p1 k0 (fun z hz => ⟨z, rfl, hz⟩))
  subst e; exact ⟨z, hca, hp⟩
set_option maxRecDepth 100000 in
theorem cw_273_B21 {l : Launch} {D : va_G} {b0 : Nat} {ad : Nat → Nat} {Hb : Heap} {tau : Nat → Int64} {d n s : Nat} {S : Nat → xS} {Z : xZ} {h : mx_H} {Post : mx_R → Prop} (hx : XH n s S Z h) (hG : GI n S Z)  {x0 x1 : Int} (p0 : (-2097151) ≤ x0 ∧ x0 ≤ 2097151) (p1 : (-2097151) ≤ x1 ∧ x1 ≤ 2097151) (k0 : ((x0 ≤ 0 → x1 < -x0 ∧ x0 < x1) ∧ (0 ≤ x0 → x1 < x0 ∧ -x0 < x1))) (hP : ∀ z : Int, (-9223372036854775808) ≤ z ∧ z ≤ 9223372036854775807 ∧ ¬ z = 0 → Post (some (xL z), h)) : mx_J (tB l D b0 ad Hb tau) mt_273 (d + 41) 0 [some (xL x0), none, some (xL x1), none] [] h Post := by
    refine mx_J.step (sn_273 0) (fun _ _ => rfl) ?_
    refine JcL (z := 0) (show mx_Sn _ _ 1 (mx_const (.long 0) 2) from sn_273 1) rfl ?_
    have c17 : ∀ (k1_0 : Int), (-9223372036854775808) ≤ k1_0 ∧ k1_0 ≤ 9223372036854775807 → ¬ k1_0 = 0 → mx_J (tB l D b0 ad Hb tau) mt_273 (d + 41) 17 [some (xL x0), none, some (xL x1), none] [xL k1_0] h Post := by
      intro k1_0 f1_0 f1_1
      exact mx_J.ret (sn_273 17) (fun _ _ => rfl) (hP k1_0 (by omega))
    refine Jlif_ne (show mx_Sn _ _ 2 (mx_lif_ne 10 6) from sn_273 2) (by omega) (by omega) (fun q2 => ?_) (fun q2 => ?_)
    · skip
      refine mx_J.step (sn_273 10) (fun _ _ => rfl) ?_
      refine mx_J.step (sn_273 11) (fun _ _ => rfl) ?_
      refine mx_J.step (sn_273 12) (fun _ _ => rfl) ?_
      refine JlremB (show mx_Sn _ _ 13 (mx_lrem 14) from sn_273 13) (by omega) (by omega) (by omega) k0 (fun y3 hy3 => ?_)
      obtain ⟨z4, hc4, b4⟩ := ct_273_A20 (d := d + 0) (l := l) (D := D) (b0 := b0) (ad := ad) (Hb := Hb) (tau := tau) hx hG (show (-9223372036854775808) ≤ x1 ∧ x1 ≤ 9223372036854775807 by omega) (show (-1048575) ≤ y3 ∧ y3 ≤ 1048575 by omega) (show ¬ (x1 = 0 ∧ y3 = 0) by omega)
      refine Jcs (show mx_Sn _ _ 14 (mx_calls 273 2 17) from sn_273 14) hc4 rfl rfl rfl ?_
      exact c17 z4 (by omega) (by omega)
    · skip
      refine mx_J.step (sn_273 6) (fun _ _ => rfl) ?_
      refine mx_J.step (sn_273 7) (fun _ _ => rfl) ?_
      exact c17 x0 (by omega) (by omega)
theorem ct_273_B21 {l : Launch} {D : va_G} {b0 : Nat} {ad : Nat → Nat} {Hb : Heap} {tau : Nat → Int64} {d n s : Nat} {S : Nat → xS} {Z : xZ} {h : mx_H} (hx : XH n s S Z h) (hG : GI n S Z)  {x0 x1 : Int} (p0 : (-2097151) ≤ x0 ∧ x0 ≤ 2097151) (p1 : (-2097151) ≤ x1 ∧ x1 ≤ 2097151) (k0 : ((x0 ≤ 0 → x1 < -x0 ∧ x0 < x1) ∧ (0 ≤ x0 → x1 < x0 ∧ -x0 < x1))) : ∃ z : Int, mx_Ca (tB l D b0 ad Hb tau) (d + 42) 273 [xL x0, xL x1] h (some (xL z), h) ∧ ((-9223372036854775808) ≤ z ∧ z ≤ 9223372036854775807 ∧ ¬ z = 0) := by
  obtain ⟨r, hca, z, e, hp⟩ := Jmt (B := tB l D b0 ad Hb tau) (M := mt_273) (mi := 273) (as := [xL x0, xL x1]) (d := d + 41) (ls := [some (xL x0), none, some (xL x1), none]) rfl rfl rfl rfl rfl rfl (cw_273_B21 (l := l) (D := D) (b0 := b0) (ad := ad) (Hb := Hb) (tau := tau) (d := d) (Post := fun r => ∃ z : Int, r = (some (xL z), h) ∧ ((-9223372036854775808) ≤ z ∧ z ≤ 9223372036854775807 ∧ ¬ z = 0)) hx hG p0 p1 k0 (fun z hz => ⟨z, rfl, hz⟩))
  subst e; exact ⟨z, hca, hp⟩
set_option maxRecDepth 100000 in
theorem cw_273_A21 {l : Launch} {D : va_G} {b0 : Nat} {ad : Nat → Nat} {Hb : Heap} {tau : Nat → Int64} {d n s : Nat} {S : Nat → xS} {Z : xZ} {h : mx_H} {Post : mx_R → Prop} (hx : XH n s S Z h) (hG : GI n S Z)  {x0 x1 : Int} (p0 : (-9223372036854775808) ≤ x0 ∧ x0 ≤ 9223372036854775807) (p1 : (-2097151) ≤ x1 ∧ x1 ≤ 2097151) (k0 : ¬ (x0 = 0 ∧ x1 = 0)) (hP : ∀ z : Int, (-9223372036854775808) ≤ z ∧ z ≤ 9223372036854775807 ∧ ¬ z = 0 → Post (some (xL z), h)) : mx_J (tB l D b0 ad Hb tau) mt_273 (d + 42) 0 [some (xL x0), none, some (xL x1), none] [] h Post := by
    refine mx_J.step (sn_273 0) (fun _ _ => rfl) ?_
    refine JcL (z := 0) (show mx_Sn _ _ 1 (mx_const (.long 0) 2) from sn_273 1) rfl ?_
    have c17 : ∀ (k1_0 : Int), (-9223372036854775808) ≤ k1_0 ∧ k1_0 ≤ 9223372036854775807 → ¬ k1_0 = 0 → mx_J (tB l D b0 ad Hb tau) mt_273 (d + 42) 17 [some (xL x0), none, some (xL x1), none] [xL k1_0] h Post := by
      intro k1_0 f1_0 f1_1
      exact mx_J.ret (sn_273 17) (fun _ _ => rfl) (hP k1_0 (by omega))
    refine Jlif_ne (show mx_Sn _ _ 2 (mx_lif_ne 10 6) from sn_273 2) (by omega) (by omega) (fun q2 => ?_) (fun q2 => ?_)
    · skip
      refine mx_J.step (sn_273 10) (fun _ _ => rfl) ?_
      refine mx_J.step (sn_273 11) (fun _ _ => rfl) ?_
      refine mx_J.step (sn_273 12) (fun _ _ => rfl) ?_
      refine JlremA (show mx_Sn _ _ 13 (mx_lrem 14) from sn_273 13) (by omega) (by omega) (by omega) (fun y3 hy3 => ?_)
      obtain ⟨z4, hc4, b4⟩ := ct_273_B21 (d := d + 0) (l := l) (D := D) (b0 := b0) (ad := ad) (Hb := Hb) (tau := tau) hx hG (show (-2097151) ≤ x1 ∧ x1 ≤ 2097151 by omega) (show (-2097151) ≤ y3 ∧ y3 ≤ 2097151 by omega) (show ((x1 ≤ 0 → y3 < -x1 ∧ x1 < y3) ∧ (0 ≤ x1 → y3 < x1 ∧ -x1 < y3)) by omega)
      refine Jcs (show mx_Sn _ _ 14 (mx_calls 273 2 17) from sn_273 14) hc4 rfl rfl rfl ?_
      exact c17 z4 (by omega) (by omega)
    · skip
      refine mx_J.step (sn_273 6) (fun _ _ => rfl) ?_
      refine mx_J.step (sn_273 7) (fun _ _ => rfl) ?_
      exact c17 x0 (by omega) (by omega)
theorem ct_273_A21 {l : Launch} {D : va_G} {b0 : Nat} {ad : Nat → Nat} {Hb : Heap} {tau : Nat → Int64} {d n s : Nat} {S : Nat → xS} {Z : xZ} {h : mx_H} (hx : XH n s S Z h) (hG : GI n S Z)  {x0 x1 : Int} (p0 : (-9223372036854775808) ≤ x0 ∧ x0 ≤ 9223372036854775807) (p1 : (-2097151) ≤ x1 ∧ x1 ≤ 2097151) (k0 : ¬ (x0 = 0 ∧ x1 = 0)) : ∃ z : Int, mx_Ca (tB l D b0 ad Hb tau) (d + 43) 273 [xL x0, xL x1] h (some (xL z), h) ∧ ((-9223372036854775808) ≤ z ∧ z ≤ 9223372036854775807 ∧ ¬ z = 0) := by
  obtain ⟨r, hca, z, e, hp⟩ := Jmt (B := tB l D b0 ad Hb tau) (M := mt_273) (mi := 273) (as := [xL x0, xL x1]) (d := d + 42) (ls := [some (xL x0), none, some (xL x1), none]) rfl rfl rfl rfl rfl rfl (cw_273_A21 (l := l) (D := D) (b0 := b0) (ad := ad) (Hb := Hb) (tau := tau) (d := d) (Post := fun r => ∃ z : Int, r = (some (xL z), h) ∧ ((-9223372036854775808) ≤ z ∧ z ≤ 9223372036854775807 ∧ ¬ z = 0)) hx hG p0 p1 k0 (fun z hz => ⟨z, rfl, hz⟩))
  subst e; exact ⟨z, hca, hp⟩
set_option maxRecDepth 100000 in
theorem cw_273_B22 {l : Launch} {D : va_G} {b0 : Nat} {ad : Nat → Nat} {Hb : Heap} {tau : Nat → Int64} {d n s : Nat} {S : Nat → xS} {Z : xZ} {h : mx_H} {Post : mx_R → Prop} (hx : XH n s S Z h) (hG : GI n S Z)  {x0 x1 : Int} (p0 : (-4194303) ≤ x0 ∧ x0 ≤ 4194303) (p1 : (-4194303) ≤ x1 ∧ x1 ≤ 4194303) (k0 : ((x0 ≤ 0 → x1 < -x0 ∧ x0 < x1) ∧ (0 ≤ x0 → x1 < x0 ∧ -x0 < x1))) (hP : ∀ z : Int, (-9223372036854775808) ≤ z ∧ z ≤ 9223372036854775807 ∧ ¬ z = 0 → Post (some (xL z), h)) : mx_J (tB l D b0 ad Hb tau) mt_273 (d + 43) 0 [some (xL x0), none, some (xL x1), none] [] h Post := by
    refine mx_J.step (sn_273 0) (fun _ _ => rfl) ?_
    refine JcL (z := 0) (show mx_Sn _ _ 1 (mx_const (.long 0) 2) from sn_273 1) rfl ?_
    have c17 : ∀ (k1_0 : Int), (-9223372036854775808) ≤ k1_0 ∧ k1_0 ≤ 9223372036854775807 → ¬ k1_0 = 0 → mx_J (tB l D b0 ad Hb tau) mt_273 (d + 43) 17 [some (xL x0), none, some (xL x1), none] [xL k1_0] h Post := by
      intro k1_0 f1_0 f1_1
      exact mx_J.ret (sn_273 17) (fun _ _ => rfl) (hP k1_0 (by omega))
    refine Jlif_ne (show mx_Sn _ _ 2 (mx_lif_ne 10 6) from sn_273 2) (by omega) (by omega) (fun q2 => ?_) (fun q2 => ?_)
    · skip
      refine mx_J.step (sn_273 10) (fun _ _ => rfl) ?_
      refine mx_J.step (sn_273 11) (fun _ _ => rfl) ?_
      refine mx_J.step (sn_273 12) (fun _ _ => rfl) ?_
      refine JlremB (show mx_Sn _ _ 13 (mx_lrem 14) from sn_273 13) (by omega) (by omega) (by omega) k0 (fun y3 hy3 => ?_)
      obtain ⟨z4, hc4, b4⟩ := ct_273_A21 (d := d + 0) (l := l) (D := D) (b0 := b0) (ad := ad) (Hb := Hb) (tau := tau) hx hG (show (-9223372036854775808) ≤ x1 ∧ x1 ≤ 9223372036854775807 by omega) (show (-2097151) ≤ y3 ∧ y3 ≤ 2097151 by omega) (show ¬ (x1 = 0 ∧ y3 = 0) by omega)
      refine Jcs (show mx_Sn _ _ 14 (mx_calls 273 2 17) from sn_273 14) hc4 rfl rfl rfl ?_
      exact c17 z4 (by omega) (by omega)
    · skip
      refine mx_J.step (sn_273 6) (fun _ _ => rfl) ?_
      refine mx_J.step (sn_273 7) (fun _ _ => rfl) ?_
      exact c17 x0 (by omega) (by omega)
theorem ct_273_B22 {l : Launch} {D : va_G} {b0 : Nat} {ad : Nat → Nat} {Hb : Heap} {tau : Nat → Int64} {d n s : Nat} {S : Nat → xS} {Z : xZ} {h : mx_H} (hx : XH n s S Z h) (hG : GI n S Z)  {x0 x1 : Int} (p0 : (-4194303) ≤ x0 ∧ x0 ≤ 4194303) (p1 : (-4194303) ≤ x1 ∧ x1 ≤ 4194303) (k0 : ((x0 ≤ 0 → x1 < -x0 ∧ x0 < x1) ∧ (0 ≤ x0 → x1 < x0 ∧ -x0 < x1))) : ∃ z : Int, mx_Ca (tB l D b0 ad Hb tau) (d + 44) 273 [xL x0, xL x1] h (some (xL z), h) ∧ ((-9223372036854775808) ≤ z ∧ z ≤ 9223372036854775807 ∧ ¬ z = 0) := by
  obtain ⟨r, hca, z, e, hp⟩ := Jmt (B := tB l D b0 ad Hb tau) (M := mt_273) (mi := 273) (as := [xL x0, xL x1]) (d := d + 43) (ls := [some (xL x0), none, some (xL x1), none]) rfl rfl rfl rfl rfl rfl (cw_273_B22 (l := l) (D := D) (b0 := b0) (ad := ad) (Hb := Hb) (tau := tau) (d := d) (Post := fun r => ∃ z : Int, r = (some (xL z), h) ∧ ((-9223372036854775808) ≤ z ∧ z ≤ 9223372036854775807 ∧ ¬ z = 0)) hx hG p0 p1 k0 (fun z hz => ⟨z, rfl, hz⟩))
  subst e; exact ⟨z, hca, hp⟩
set_option maxRecDepth 100000 in
theorem cw_273_A22 {l : Launch} {D : va_G} {b0 : Nat} {ad : Nat → Nat} {Hb : Heap} {tau : Nat → Int64} {d n s : Nat} {S : Nat → xS} {Z : xZ} {h : mx_H} {Post : mx_R → Prop} (hx : XH n s S Z h) (hG : GI n S Z)  {x0 x1 : Int} (p0 : (-9223372036854775808) ≤ x0 ∧ x0 ≤ 9223372036854775807) (p1 : (-4194303) ≤ x1 ∧ x1 ≤ 4194303) (k0 : ¬ (x0 = 0 ∧ x1 = 0)) (hP : ∀ z : Int, (-9223372036854775808) ≤ z ∧ z ≤ 9223372036854775807 ∧ ¬ z = 0 → Post (some (xL z), h)) : mx_J (tB l D b0 ad Hb tau) mt_273 (d + 44) 0 [some (xL x0), none, some (xL x1), none] [] h Post := by
    refine mx_J.step (sn_273 0) (fun _ _ => rfl) ?_
    refine JcL (z := 0) (show mx_Sn _ _ 1 (mx_const (.long 0) 2) from sn_273 1) rfl ?_
    have c17 : ∀ (k1_0 : Int), (-9223372036854775808) ≤ k1_0 ∧ k1_0 ≤ 9223372036854775807 → ¬ k1_0 = 0 → mx_J (tB l D b0 ad Hb tau) mt_273 (d + 44) 17 [some (xL x0), none, some (xL x1), none] [xL k1_0] h Post := by
      intro k1_0 f1_0 f1_1
      exact mx_J.ret (sn_273 17) (fun _ _ => rfl) (hP k1_0 (by omega))
    refine Jlif_ne (show mx_Sn _ _ 2 (mx_lif_ne 10 6) from sn_273 2) (by omega) (by omega) (fun q2 => ?_) (fun q2 => ?_)
    · skip
      refine mx_J.step (sn_273 10) (fun _ _ => rfl) ?_
      refine mx_J.step (sn_273 11) (fun _ _ => rfl) ?_
      refine mx_J.step (sn_273 12) (fun _ _ => rfl) ?_
      refine JlremA (show mx_Sn _ _ 13 (mx_lrem 14) from sn_273 13) (by omega) (by omega) (by omega) (fun y3 hy3 => ?_)
      obtain ⟨z4, hc4, b4⟩ := ct_273_B22 (d := d + 0) (l := l) (D := D) (b0 := b0) (ad := ad) (Hb := Hb) (tau := tau) hx hG (show (-4194303) ≤ x1 ∧ x1 ≤ 4194303 by omega) (show (-4194303) ≤ y3 ∧ y3 ≤ 4194303 by omega) (show ((x1 ≤ 0 → y3 < -x1 ∧ x1 < y3) ∧ (0 ≤ x1 → y3 < x1 ∧ -x1 < y3)) by omega)
      refine Jcs (show mx_Sn _ _ 14 (mx_calls 273 2 17) from sn_273 14) hc4 rfl rfl rfl ?_
      exact c17 z4 (by omega) (by omega)
    · skip
      refine mx_J.step (sn_273 6) (fun _ _ => rfl) ?_
      refine mx_J.step (sn_273 7) (fun _ _ => rfl) ?_
      exact c17 x0 (by omega) (by omega)
theorem ct_273_A22 {l : Launch} {D : va_G} {b0 : Nat} {ad : Nat → Nat} {Hb : Heap} {tau : Nat → Int64} {d n s : Nat} {S : Nat → xS} {Z : xZ} {h : mx_H} (hx : XH n s S Z h) (hG : GI n S Z)  {x0 x1 : Int} (p0 : (-9223372036854775808) ≤ x0 ∧ x0 ≤ 9223372036854775807) (p1 : (-4194303) ≤ x1 ∧ x1 ≤ 4194303) (k0 : ¬ (x0 = 0 ∧ x1 = 0)) : ∃ z : Int, mx_Ca (tB l D b0 ad Hb tau) (d + 45) 273 [xL x0, xL x1] h (some (xL z), h) ∧ ((-9223372036854775808) ≤ z ∧ z ≤ 9223372036854775807 ∧ ¬ z = 0) := by
  obtain ⟨r, hca, z, e, hp⟩ := Jmt (B := tB l D b0 ad Hb tau) (M := mt_273) (mi := 273) (as := [xL x0, xL x1]) (d := d + 44) (ls := [some (xL x0), none, some (xL x1), none]) rfl rfl rfl rfl rfl rfl (cw_273_A22 (l := l) (D := D) (b0 := b0) (ad := ad) (Hb := Hb) (tau := tau) (d := d) (Post := fun r => ∃ z : Int, r = (some (xL z), h) ∧ ((-9223372036854775808) ≤ z ∧ z ≤ 9223372036854775807 ∧ ¬ z = 0)) hx hG p0 p1 k0 (fun z hz => ⟨z, rfl, hz⟩))
  subst e; exact ⟨z, hca, hp⟩
