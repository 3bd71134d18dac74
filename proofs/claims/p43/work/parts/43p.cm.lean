theorem ct_185_56_le18 {l : Launch} {D : va_G} {b0 : Nat} {ad : Nat → Nat} {Hb : Heap} {tau : Nat → Int64} {d n s : Nat} {S : Nat → xS} {Z : xZ} {h : mx_H} (hx : XH n s S Z h) (hG : GB n S Z) {x0 x1 x2 : Int} (p0 : 0 ≤ x0 ∧ x0 ≤ 18) (p1 : 0 ≤ x1 ∧ x1 ≤ 18) (p2 : 0 ≤ x2 ∧ x2 ≤ 18) (k0 : Z 56 18 + wy (x0 * 19 + x1) ≤ 385) (k1 : x2 + x0 ≤ 18) : ∃ (Z' : xZ) (h' : mx_H), mx_Ca (tB l D b0 ad Hb tau) (d + 19) 185 [.ref 56, xI x0, xI x1, xI x2] h (none, h') ∧ XH n s S Z' h' ∧ GB n S Z' ∧ fr' [(56, 18), (61, (-1)), (63, (-1))] Z Z' ∧ (GAp Z Z' x0 x1 x2 ∧ Z' 56 18 = Z 56 18 + wy (x0 * 19 + x1)) := by
  have hc : x0 = 0 ∨ x0 = 1 ∨ x0 = 2 ∨ x0 = 3 ∨ x0 = 4 ∨ x0 = 5 ∨ x0 = 6 ∨ x0 = 7 ∨ x0 = 8 ∨ x0 = 9 ∨ x0 = 10 ∨ x0 = 11 ∨ x0 = 12 ∨ x0 = 13 ∨ x0 = 14 ∨ x0 = 15 ∨ x0 = 16 ∨ x0 = 17 ∨ x0 = 18 := by omega
  rcases hc with hc | hc | hc | hc | hc | hc | hc | hc | hc | hc | hc | hc | hc | hc | hc | hc | hc | hc | hc
  · subst hc
    obtain ⟨Z', h', hca, q1, q2, q3, q4⟩ := ct_185_56_i0 (d := d + 18) (l := l) (D := D) (b0 := b0) (ad := ad) (Hb := Hb) (tau := tau) hx hG p1 p2 k0 k1
    exact ⟨Z', h', hca, q1, q2, fr_tr (M1 := []) fr_rf q3 rfl rfl, q4⟩
  · subst hc
    obtain ⟨Z', h', hca, q1, q2, q3, q4⟩ := ct_185_56_i1 (d := d + 17) (l := l) (D := D) (b0 := b0) (ad := ad) (Hb := Hb) (tau := tau) hx hG p1 p2 k0 k1
    exact ⟨Z', h', hca, q1, q2, fr_tr (M1 := []) fr_rf q3 rfl rfl, q4⟩
  · subst hc
    obtain ⟨Z', h', hca, q1, q2, q3, q4⟩ := ct_185_56_i2 (d := d + 16) (l := l) (D := D) (b0 := b0) (ad := ad) (Hb := Hb) (tau := tau) hx hG p1 p2 k0 k1
    exact ⟨Z', h', hca, q1, q2, fr_tr (M1 := []) fr_rf q3 rfl rfl, q4⟩
  · subst hc
    obtain ⟨Z', h', hca, q1, q2, q3, q4⟩ := ct_185_56_i3 (d := d + 15) (l := l) (D := D) (b0 := b0) (ad := ad) (Hb := Hb) (tau := tau) hx hG p1 p2 k0 k1
    exact ⟨Z', h', hca, q1, q2, fr_tr (M1 := []) fr_rf q3 rfl rfl, q4⟩
  · subst hc
    obtain ⟨Z', h', hca, q1, q2, q3, q4⟩ := ct_185_56_i4 (d := d + 14) (l := l) (D := D) (b0 := b0) (ad := ad) (Hb := Hb) (tau := tau) hx hG p1 p2 k0 k1
    exact ⟨Z', h', hca, q1, q2, fr_tr (M1 := []) fr_rf q3 rfl rfl, q4⟩
  · subst hc
    obtain ⟨Z', h', hca, q1, q2, q3, q4⟩ := ct_185_56_i5 (d := d + 13) (l := l) (D := D) (b0 := b0) (ad := ad) (Hb := Hb) (tau := tau) hx hG p1 p2 k0 k1
    exact ⟨Z', h', hca, q1, q2, fr_tr (M1 := []) fr_rf q3 rfl rfl, q4⟩
  · subst hc
    obtain ⟨Z', h', hca, q1, q2, q3, q4⟩ := ct_185_56_i6 (d := d + 12) (l := l) (D := D) (b0 := b0) (ad := ad) (Hb := Hb) (tau := tau) hx hG p1 p2 k0 k1
    exact ⟨Z', h', hca, q1, q2, fr_tr (M1 := []) fr_rf q3 rfl rfl, q4⟩
  · subst hc
    obtain ⟨Z', h', hca, q1, q2, q3, q4⟩ := ct_185_56_i7 (d := d + 11) (l := l) (D := D) (b0 := b0) (ad := ad) (Hb := Hb) (tau := tau) hx hG p1 p2 k0 k1
    exact ⟨Z', h', hca, q1, q2, fr_tr (M1 := []) fr_rf q3 rfl rfl, q4⟩
  · subst hc
    obtain ⟨Z', h', hca, q1, q2, q3, q4⟩ := ct_185_56_i8 (d := d + 10) (l := l) (D := D) (b0 := b0) (ad := ad) (Hb := Hb) (tau := tau) hx hG p1 p2 k0 k1
    exact ⟨Z', h', hca, q1, q2, fr_tr (M1 := []) fr_rf q3 rfl rfl, q4⟩
  · subst hc
    obtain ⟨Z', h', hca, q1, q2, q3, q4⟩ := ct_185_56_i9 (d := d + 9) (l := l) (D := D) (b0 := b0) (ad := ad) (Hb := Hb) (tau := tau) hx hG p1 p2 k0 k1
    exact ⟨Z', h', hca, q1, q2, fr_tr (M1 := []) fr_rf q3 rfl rfl, q4⟩
  · subst hc
    obtain ⟨Z', h', hca, q1, q2, q3, q4⟩ := ct_185_56_i10 (d := d + 8) (l := l) (D := D) (b0 := b0) (ad := ad) (Hb := Hb) (tau := tau) hx hG p1 p2 k0 k1
    exact ⟨Z', h', hca, q1, q2, fr_tr (M1 := []) fr_rf q3 rfl rfl, q4⟩
  · subst hc
    obtain ⟨Z', h', hca, q1, q2, q3, q4⟩ := ct_185_56_i11 (d := d + 7) (l := l) (D := D) (b0 := b0) (ad := ad) (Hb := Hb) (tau := tau) hx hG p1 p2 k0 k1
    exact ⟨Z', h', hca, q1, q2, fr_tr (M1 := []) fr_rf q3 rfl rfl, q4⟩
  · subst hc
    obtain ⟨Z', h', hca, q1, q2, q3, q4⟩ := ct_185_56_i12 (d := d + 6) (l := l) (D := D) (b0 := b0) (ad := ad) (Hb := Hb) (tau := tau) hx hG p1 p2 k0 k1
    exact ⟨Z', h', hca, q1, q2, fr_tr (M1 := []) fr_rf q3 rfl rfl, q4⟩
  · subst hc
    obtain ⟨Z', h', hca, q1, q2, q3, q4⟩ := ct_185_56_i13 (d := d + 5) (l := l) (D := D) (b0 := b0) (ad := ad) (Hb := Hb) (tau := tau) hx hG p1 p2 k0 k1
    exact ⟨Z', h', hca, q1, q2, fr_tr (M1 := []) fr_rf q3 rfl rfl, q4⟩
  · subst hc
    obtain ⟨Z', h', hca, q1, q2, q3, q4⟩ := ct_185_56_i14 (d := d + 4) (l := l) (D := D) (b0 := b0) (ad := ad) (Hb := Hb) (tau := tau) hx hG p1 p2 k0 k1
    exact ⟨Z', h', hca, q1, q2, fr_tr (M1 := []) fr_rf q3 rfl rfl, q4⟩
  · subst hc
    obtain ⟨Z', h', hca, q1, q2, q3, q4⟩ := ct_185_56_i15 (d := d + 3) (l := l) (D := D) (b0 := b0) (ad := ad) (Hb := Hb) (tau := tau) hx hG p1 p2 k0 k1
    exact ⟨Z', h', hca, q1, q2, fr_tr (M1 := []) fr_rf q3 rfl rfl, q4⟩
  · subst hc
    obtain ⟨Z', h', hca, q1, q2, q3, q4⟩ := ct_185_56_i16 (d := d + 2) (l := l) (D := D) (b0 := b0) (ad := ad) (Hb := Hb) (tau := tau) hx hG p1 p2 k0 k1
    exact ⟨Z', h', hca, q1, q2, fr_tr (M1 := []) fr_rf q3 rfl rfl, q4⟩
  · subst hc
    obtain ⟨Z', h', hca, q1, q2, q3, q4⟩ := ct_185_56_i17 (d := d + 1) (l := l) (D := D) (b0 := b0) (ad := ad) (Hb := Hb) (tau := tau) hx hG p1 p2 k0 k1
    exact ⟨Z', h', hca, q1, q2, fr_tr (M1 := []) fr_rf q3 rfl rfl, q4⟩
  · subst hc
    obtain ⟨Z', h', hca, q1, q2, q3, q4⟩ := ct_185_56_i18 (d := d + 0) (l := l) (D := D) (b0 := b0) (ad := ad) (Hb := Hb) (tau := tau) hx hG p1 p2 k0 k1
    exact ⟨Z', h', hca, q1, q2, fr_tr (M1 := []) fr_rf q3 rfl rfl, q4⟩
set_option maxRecDepth 100000 in
theorem cw_184_56 {l : Launch} {D : va_G} {b0 : Nat} {ad : Nat → Nat} {Hb : Heap} {tau : Nat → Int64} {d n s : Nat} {S : Nat → xS} {Z : xZ} {h : mx_H} {Post : mx_R → Prop} (hx : XH n s S Z h) (hG : GB n S Z)   (hP : ∀ (Z' : xZ) (h' : mx_H), XH n s S Z' h' → GB n S Z' → fr' [(56, 18), (61, (-1)), (63, (-1))] Z Z' → (1 ≤ Z 57 1 → RTB Z' (Z 57 1)) ∧ Z' 56 18 = wy (Z 57 1 * 19 + Z 57 1) → Post (none, h')) : mx_J (tB l D b0 ad Hb tau) mt_184 (d + 19) 0 [some (.ref 56)] [] h Post := by
    have a56 : 56 < n := lt83 (GB_n hG) rfl
    have s56 : S 56 = .inl (12, [0, 2, 2, 2, 2, 0, 0, 0, 0, 0, 0, 0, 0, 0, 0, 2, 2, 2, 0, 2, 2, 2, 0, 0, 2, 2, 2, 2, 2, 2, 0, 0, 2, 2, 2, 2, 2, 2, 2, 2, 2, 2]) := GB_s hG 56 rfl
    have a57 : 57 < n := lt83 (GB_n hG) rfl
    have s57 : S 57 = .inr (.int, 2886, 0) := GB_s hG 57 rfl
    refine mx_J.step (sn_184 0) (fun _ _ => rfl) ?_
    refine JcI (z := 0) (show mx_Sn _ _ 1 (mx_const (.int 0) 2) from sn_184 1) rfl ?_
    refine JputI (g := 18) hx (show mx_Sn _ _ 2 (mx_putf 1 12 18 (.int) 5) from sn_184 2) a56 s56 rfl rfl rfl rfl (fun Z1 h1 hx1 hE1 => ?_)
    have hG1 := GB_up hG hE1 (show 0 ≤ 0 ∧ 0 ≤ 385 by omega) trivial rfl
    refine mx_J.step (sn_184 5) (fun _ _ => rfl) ?_
    refine mx_J.step (sn_184 6) (fun _ _ => rfl) ?_
    refine JgetR (g := 1) (b := 57) hx1 (show mx_Sn _ _ 7 (mx_getf 12 1 10) from sn_184 7) a56 s56 rfl rfl (hG1.prr 56 1 rfl) ?_
    refine JcI (z := 1) (show mx_Sn _ _ 10 (mx_const (.int 1) 11) from sn_184 10) rfl ?_
    have b3 : 0 ≤ Z 57 1 ∧ Z 57 1 ≤ 18 := by have hq := GB_ex hG 57 1; replace hq : f57 (1 % 962) (Z 57 1) := hq; unfold f57 at hq; omega
    have b4 : (-2147483648) ≤ Z 57 1 ∧ Z 57 1 ≤ 2147483647 := hG.pr 57 1
    refine JialdI (z := Z 57 1) hx1 (show mx_Sn _ _ 11 (mx_iald 12) from sn_184 11) a57 s57 (by omega) (up_nk hE1 rfl) ?_
    have w0 := W0 (n := (Z 57 1)) (by omega)
    refine mx_J.step (sn_184 12) (fun _ _ => rfl) ?_
    refine JgetR (g := 1) (b := 57) hx1 (show mx_Sn _ _ 13 (mx_getf 12 1 16) from sn_184 13) a56 s56 rfl rfl (hG1.prr 56 1 rfl) ?_
    refine JcI (z := 1) (show mx_Sn _ _ 16 (mx_const (.int 1) 17) from sn_184 16) rfl ?_
    refine JialdI (z := Z 57 1) hx1 (show mx_Sn _ _ 17 (mx_iald 18) from sn_184 17) a57 s57 (by omega) (up_nk hE1 rfl) ?_
    refine JcI (z := 0) (show mx_Sn _ _ 18 (mx_const (.int 0) 19) from sn_184 18) rfl ?_
    have eq7 : Z1 56 18 = 0 := (up_at hE1)
    obtain ⟨Z6, h6, hc6, hx6, hG6, hf6, b6⟩ := ct_185_56_le18 (d := d + 0) (l := l) (D := D) (b0 := b0) (ad := ad) (Hb := Hb) (tau := tau) hx1 hG1 (show 0 ≤ Z 57 1 ∧ Z 57 1 ≤ 18 by omega) (show 0 ≤ Z 57 1 ∧ Z 57 1 ≤ 18 by omega) (show 0 ≤ 0 ∧ 0 ≤ 18 by omega) (show Z1 56 18 + wy ((Z 57 1) * 19 + (Z 57 1)) ≤ 385 by first | omega | (simp only [eq7]; omega)) (show 0 + (Z 57 1) ≤ 18 by first | omega | (simp only [eq7]; omega))
    try rw [eq7] at b6
    obtain ⟨bs6_0, b6⟩ := b6
    have b8 : 0 ≤ Z6 56 18 ∧ Z6 56 18 ≤ 385 := hG6.pr 56 18
    refine Jcv0 hx1 (show mx_Sn _ _ 19 (mx_callv 185 4 12 22) from sn_184 19) a56 s56 hc6 rfl rfl rfl ?_
    have eq9 : Z6 57 1 = Z 57 1 := ((hf6 57 1 rfl).trans (up_nk hE1 rfl))
    exact mx_J.ret (sn_184 22) (fun _ _ => rfl) (hP Z6 h6 hx6 hG6 (fr_tr (M := [(56, 18), (61, (-1)), (63, (-1))]) (fr_tr (M := [(56, 18), (61, (-1)), (63, (-1))]) fr_rf (fr_up hE1) (M1 := []) rfl rfl) (hf6) rfl rfl) ⟨(fun q => ga_N (N := Z 57 1) (by omega) (up_at hE1) bs6_0), by omega⟩)
theorem ct_184_56 {l : Launch} {D : va_G} {b0 : Nat} {ad : Nat → Nat} {Hb : Heap} {tau : Nat → Int64} {d n s : Nat} {S : Nat → xS} {Z : xZ} {h : mx_H} (hx : XH n s S Z h) (hG : GB n S Z)   : ∃ (Z' : xZ) (h' : mx_H), mx_Ca (tB l D b0 ad Hb tau) (d + 20) 184 [.ref 56] h (none, h') ∧ XH n s S Z' h' ∧ GB n S Z' ∧ fr' [(56, 18), (61, (-1)), (63, (-1))] Z Z' ∧ ((1 ≤ Z 57 1 → RTB Z' (Z 57 1)) ∧ Z' 56 18 = wy (Z 57 1 * 19 + Z 57 1)) := by
  obtain ⟨r, hca, Z', h', e, q⟩ := Jmt (B := tB l D b0 ad Hb tau) (M := mt_184) (mi := 184) (as := [.ref 56]) (d := d + 19) (ls := [some (.ref 56)]) rfl rfl rfl rfl rfl rfl (cw_184_56 (l := l) (D := D) (b0 := b0) (ad := ad) (Hb := Hb) (tau := tau) (d := d) (Post := fun r => ∃ (Z' : xZ) (h' : mx_H), r = (none, h') ∧ XH n s S Z' h' ∧ GB n S Z' ∧ fr' [(56, 18), (61, (-1)), (63, (-1))] Z Z' ∧ ((1 ≤ Z 57 1 → RTB Z' (Z 57 1)) ∧ Z' 56 18 = wy (Z 57 1 * 19 + Z 57 1))) hx hG  (fun Z' h' q1 q2 q3 q4 => ⟨Z', h', rfl, q1, q2, q3, q4⟩))
  subst e; exact ⟨Z', h', hca, q⟩
set_option maxRecDepth 100000 in
theorem cw_157_56 {l : Launch} {D : va_G} {b0 : Nat} {ad : Nat → Nat} {Hb : Heap} {tau : Nat → Int64} {d n s : Nat} {S : Nat → xS} {Z : xZ} {h : mx_H} {Post : mx_R → Prop} (hx : XH n s S Z h) (hG : GI n S Z)  {x0 x1 x2 x3 x4 : Int} (p0 : (-2147483648) ≤ x0 ∧ x0 ≤ 2147483647) (p1 : (-2147483648) ≤ x1 ∧ x1 ≤ 2147483647) (p2 : (-2147483648) ≤ x2 ∧ x2 ≤ 2147483647) (p3 : (-2147483648) ≤ x3 ∧ x3 ≤ 2147483647) (p4 : (-2147483648) ≤ x4 ∧ x4 ≤ 2147483647) (hP : ∀ (z : Int) (Z' : xZ) (h' : mx_H), XH n s S Z' h' → GI n S Z' → fr' [(56, 0), (56, 5), (59, (-1))] Z Z' → (Z 56 5 ≤ 880 → FBm Z Z' (Z 56 5) x0 x1 x2 x3 x4) ∧ (880 < Z 56 5 → ∀ i, Z' 59 i = Z 59 i) ∧ (-5) ≤ z ∧ z ≤ 900 ∧ ((880 < Z 56 5 → z = -5 ∧ Z' 56 5 = Z 56 5) ∧ (Z 56 5 ≤ 880 → Z' 56 5 = Z 56 5 + 20 ∧ z = Z 56 5 + 20)) → Post (some (xI z), h')) : mx_J (tB l D b0 ad Hb tau) mt_157 (d + 0) 0 [some (.ref 56), some (xI x0), some (xI x1), some (xI x2), some (xI x3), some (xI x4), none, none] [] h Post := by
    have a56 : 56 < n := lt83 (GI_n hG) rfl
    have s56 : S 56 = .inl (12, [0, 2, 2, 2, 2, 0, 0, 0, 0, 0, 0, 0, 0, 0, 0, 2, 2, 2, 0, 2, 2, 2, 0, 0, 2, 2, 2, 2, 2, 2, 0, 0, 2, 2, 2, 2, 2, 2, 2, 2, 2, 2]) := GI_s hG 56 rfl
    have a59 : 59 < n := lt83 (GI_n hG) rfl
    have s59 : S 59 = .inr (.int, 900, 0) := GI_s hG 59 rfl
    refine mx_J.step (sn_157 0) (fun _ _ => rfl) ?_
    refine JcI (z := 0) (show mx_Sn _ _ 1 (mx_const (.int 0) 2) from sn_157 1) rfl ?_
    refine JputI (g := 0) hx (show mx_Sn _ _ 2 (mx_putf 1 12 0 (.int) 5) from sn_157 2) a56 s56 rfl rfl rfl rfl (fun Z1 h1 hx1 hE1 => ?_)
    have hG1 := GI_up hG hE1 (show (-2147483648) ≤ 0 ∧ 0 ≤ 2147483647 by omega) trivial rfl
    refine mx_J.step (sn_157 5) (fun _ _ => rfl) ?_
    have b3 : 0 ≤ Z 56 5 ∧ Z 56 5 ≤ 900 := hG.pr 56 5
    refine JgetI (g := 5) (z := Z 56 5) hx1 (show mx_Sn _ _ 6 (mx_getf 12 5 9) from sn_157 6) a56 s56 rfl rfl (up_ni hE1 (by decide)) ?_
    refine JcI (z := 20) (show mx_Sn _ _ 9 (mx_const (.int 20) 11) from sn_157 9) rfl ?_
    refine Jiadd (show mx_Sn _ _ 11 (mx_iadd 12) from sn_157 11) ?_
    refine JcI (z := 900) (show mx_Sn _ _ 12 (mx_const (.int 900) 15) from sn_157 12) rfl ?_
    refine Jicmp_le (show mx_Sn _ _ 15 (mx_icmp_le 21 18) from sn_157 15) (by omega) (by omega) (fun q4 => ?_) (fun q4 => ?_)
    · skip
      refine JcI (z := 0) (show mx_Sn _ _ 21 (mx_const (.int 0) 22) from sn_157 21) rfl ?_
      refine mx_J.step (ls2 := [some (.ref 56), some (xI x0), some (xI x1), some (xI x2), some (xI x3), some (xI x4), some (xI 0), none]) (sn_157 22) (fun _ _ => rfl) ?_
      have c24 : ∀ (m5 : Nat) (w5_6 : Int) (u5_7 : Option Value) (Z6 : xZ) (h6 : mx_H), 20 - w5_6 < (m5 : Int) → 0 ≤ w5_6 ∧ w5_6 ≤ 20 → (Z6 56 5 = Z 56 5 + w5_6 ∧ Z 56 5 ≤ 880) → FG Z Z6 (Z 56 5) w5_6 x0 x1 x2 x3 x4 → XH n s S Z6 h6 → GI n S Z6 → fr' [(56, 5), (59, (-1))] Z1 Z6 → mx_J (tB l D b0 ad Hb tau) mt_157 (d + 0) 24 [some (.ref 56), some (xI x0), some (xI x1), some (xI x2), some (xI x3), some (xI x4), some (xI w5_6), u5_7] [] h6 Post := by
        intro m5
        induction m5 with
        | zero => intro w5_6 u5_7 Z6 h6 q5 f5_0 f5_1 f5_2 hx6 hG6 hf6; exact absurd q5 (by omega)
        | succ m5 ih5 =>
          intro w5_6 u5_7 Z6 h6 q5 f5_0 f5_1 f5_2 hx6 hG6 hf6
          have b7 : 0 ≤ Z6 56 5 ∧ Z6 56 5 ≤ 900 := hG6.pr 56 5
          refine mx_J.step (sn_157 24) (fun _ _ => rfl) ?_
          refine JcI (z := 20) (show mx_Sn _ _ 26 (mx_const (.int 20) 28) from sn_157 26) rfl ?_
          refine Jicmp_ge (show mx_Sn _ _ 28 (mx_icmp_ge 121 31) from sn_157 28) (by omega) (by omega) (fun q8 => ?_) (fun q8 => ?_)
          · skip
            refine mx_J.step (sn_157 121) (fun _ _ => rfl) ?_
            refine JgetI (g := 5) (z := Z6 56 5) hx6 (show mx_Sn _ _ 122 (mx_getf 12 5 125) from sn_157 122) a56 s56 rfl rfl rfl ?_
            exact mx_J.ret (sn_157 125) (fun _ _ => rfl) (hP (Z6 56 5) Z6 h6 hx6 hG6 (fr_tr (M := [(56, 0), (56, 5), (59, (-1))]) (fr_tr (M := [(56, 0), (56, 5), (59, (-1))]) fr_rf (fr_up hE1) (M1 := []) rfl rfl) (hf6) rfl rfl) ⟨(fun _ => FG_e ((show w5_6 = (20 : Int) by omega) ▸ (by assumption))), (fun q => absurd q (by omega)), by omega⟩)
          · skip
            refine mx_J.step (sn_157 31) (fun _ _ => rfl) ?_
            refine JcI (z := 4) (show mx_Sn _ _ 33 (mx_const (.int 4) 34) from sn_157 33) rfl ?_
            have c77 : ∀ (k10_0 : Int), (-2147483648) ≤ k10_0 ∧ k10_0 ≤ 2147483647 → k10_0 = fsel x0 x1 x2 x3 x4 w5_6 → mx_J (tB l D b0 ad Hb tau) mt_157 (d + 0) 77 [some (.ref 56), some (xI x0), some (xI x1), some (xI x2), some (xI x3), some (xI x4), some (xI w5_6), u5_7] [xI k10_0] h6 Post := by
              intro k10_0 f10_0 f10_1
              refine mx_J.step (ls2 := [some (.ref 56), some (xI x0), some (xI x1), some (xI x2), some (xI x3), some (xI x4), some (xI w5_6), some (xI k10_0)]) (sn_157 77) (fun _ _ => rfl) ?_
              refine mx_J.step (sn_157 79) (fun _ _ => rfl) ?_
              refine JgetR (g := 3) (b := 59) hx6 (show mx_Sn _ _ 80 (mx_getf 12 3 83) from sn_157 80) a56 s56 rfl rfl (hG6.prr 56 3 rfl) ?_
              refine mx_J.step (sn_157 83) (fun _ _ => rfl) ?_
              refine JgetI (g := 5) (z := Z6 56 5) hx6 (show mx_Sn _ _ 84 (mx_getf 12 5 87) from sn_157 84) a56 s56 rfl rfl rfl ?_
              refine mx_J.step (sn_157 87) (fun _ _ => rfl) ?_
              refine JcI (z := 24) (show mx_Sn _ _ 89 (mx_const (.int 24) 91) from sn_157 89) rfl ?_
              refine JcI (z := 8) (show mx_Sn _ _ 91 (mx_const (.int 8) 93) from sn_157 91) rfl ?_
              refine mx_J.step (sn_157 93) (fun _ _ => rfl) ?_
              refine JcI (z := 4) (show mx_Sn _ _ 95 (mx_const (.int 4) 96) from sn_157 95) rfl ?_
              refine Jirem (show mx_Sn _ _ 96 (mx_irem 97) from sn_157 96) (by omega) (by omega) ?_
              refine Jimul (show mx_Sn _ _ 97 (mx_imul 98) from sn_157 97) ?_
              refine Jisub (show mx_Sn _ _ 98 (mx_isub 99) from sn_157 98) ?_
              refine JishrB (r := w5_6 % 4) (show mx_Sn _ _ 99 (mx_ishr 100) from sn_157 99) (by omega) (by omega) (by omega) ?_
              refine JcI (z := 255) (show mx_Sn _ _ 100 (mx_const (.int 255) 103) from sn_157 100) rfl ?_
              refine JiandM (q := 256) 8 (show mx_Sn _ _ 103 (mx_iand 104) from sn_157 103) rfl rfl rfl ?_
              refine JiastI hx6 (show mx_Sn _ _ 104 (mx_iast 1 105) from sn_157 104) a59 s59 rfl (by omega) (fun Z13 h13 hx13 hE13 => ?_)
              have hG13 := GI_up hG6 hE13 (show 0 ≤ (btq k10_0 (w5_6 % 4)) % 256 ∧ (btq k10_0 (w5_6 % 4)) % 256 ≤ 255 by omega) trivial rfl
              refine mx_J.step (sn_157 105) (fun _ _ => rfl) ?_
              refine mx_J.step (sn_157 106) (fun _ _ => rfl) ?_
              refine JgetI (g := 5) (z := Z6 56 5) hx13 (show mx_Sn _ _ 107 (mx_getf 12 5 110) from sn_157 107) a56 s56 rfl rfl (up_nk hE13 rfl) ?_
              refine JcI (z := 1) (show mx_Sn _ _ 110 (mx_const (.int 1) 111) from sn_157 110) rfl ?_
              refine Jiadd (show mx_Sn _ _ 111 (mx_iadd 112) from sn_157 111) ?_
              refine JputI (g := 5) hx13 (show mx_Sn _ _ 112 (mx_putf 1 12 5 (.int) 115) from sn_157 112) a56 s56 rfl rfl rfl rfl (fun Z15 h15 hx15 hE15 => ?_)
              have hG15 := GI_up hG13 hE15 (show 0 ≤ (Z6 56 5) + 1 ∧ (Z6 56 5) + 1 ≤ 900 by omega) trivial rfl
              refine Jiinc (z := w5_6) (cz := 1) (ls2 := [some (.ref 56), some (xI x0), some (xI x1), some (xI x2), some (xI x3), some (xI x4), some (xI (w5_6 + 1)), some (xI k10_0)]) (show mx_Sn _ _ 115 (mx_iinc 6 1 118) from sn_157 115) rfl rfl rfl rfl ?_
              refine mx_J.step (sn_157 118) (fun _ _ => rfl) ?_
              have eq16 : Z15 56 5 = (Z6 56 5) + 1 := (up_at hE15)
              exact ih5 (w5_6 + 1) (some (xI k10_0)) Z15 h15 (by omega) (by omega) (by omega) (FG_s (by assumption) hE13 hE15 (by omega) (by omega) (by assumption) (by omega)) hx15 hG15 (fr_tr (M := [(56, 5), (59, (-1))]) (fr_tr (M := [(56, 5), (59, (-1))]) (fr_tr (M := [(56, 5), (59, (-1))]) fr_rf (hf6) (M1 := []) rfl rfl) (fr_ua hE13) rfl rfl) (fr_up hE15) rfl rfl)
            refine Jicmp_ge (show mx_Sn _ _ 34 (mx_icmp_ge 41 37) from sn_157 34) (by omega) (by omega) (fun q17 => ?_) (fun q17 => ?_)
            · skip
              refine mx_J.step (sn_157 41) (fun _ _ => rfl) ?_
              refine JcI (z := 8) (show mx_Sn _ _ 43 (mx_const (.int 8) 45) from sn_157 43) rfl ?_
              refine Jicmp_ge (show mx_Sn _ _ 45 (mx_icmp_ge 52 48) from sn_157 45) (by omega) (by omega) (fun q18 => ?_) (fun q18 => ?_)
              · skip
                refine mx_J.step (sn_157 52) (fun _ _ => rfl) ?_
                refine JcI (z := 12) (show mx_Sn _ _ 54 (mx_const (.int 12) 56) from sn_157 54) rfl ?_
                refine Jicmp_ge (show mx_Sn _ _ 56 (mx_icmp_ge 63 59) from sn_157 56) (by omega) (by omega) (fun q19 => ?_) (fun q19 => ?_)
                · skip
                  refine mx_J.step (sn_157 63) (fun _ _ => rfl) ?_
                  refine JcI (z := 16) (show mx_Sn _ _ 65 (mx_const (.int 16) 67) from sn_157 65) rfl ?_
                  refine Jicmp_ge (show mx_Sn _ _ 67 (mx_icmp_ge 75 70) from sn_157 67) (by omega) (by omega) (fun q20 => ?_) (fun q20 => ?_)
                  · skip
                    refine mx_J.step (sn_157 75) (fun _ _ => rfl) ?_
                    exact c77 x4 (by omega) (fsl_4 (by omega))
                  · skip
                    refine mx_J.step (sn_157 70) (fun _ _ => rfl) ?_
                    refine mx_J.step (sn_157 72) (fun _ _ => rfl) ?_
                    exact c77 x3 (by omega) (fsl_3 (by omega))
                · skip
                  refine mx_J.step (sn_157 59) (fun _ _ => rfl) ?_
                  refine mx_J.step (sn_157 60) (fun _ _ => rfl) ?_
                  exact c77 x2 (by omega) (fsl_2 (by omega))
              · skip
                refine mx_J.step (sn_157 48) (fun _ _ => rfl) ?_
                refine mx_J.step (sn_157 49) (fun _ _ => rfl) ?_
                exact c77 x1 (by omega) (fsl_1 (by omega))
            · skip
              refine mx_J.step (sn_157 37) (fun _ _ => rfl) ?_
              refine mx_J.step (sn_157 38) (fun _ _ => rfl) ?_
              exact c77 x0 (by omega) (fsl_0 (by omega))
      have eq21 : Z1 56 5 = Z 56 5 := (up_ni hE1 (by decide))
      exact c24 (Int.toNat (20 - 0) + 1) 0 none Z1 h1 (by omega) (by omega) (by omega) (FG_0 (fun i => (up_nk hE1 rfl))) hx1 hG1 fr_rf
    · skip
      refine JcI (z := (-5)) (show mx_Sn _ _ 18 (mx_const (.int (-5)) 20) from sn_157 18) rfl ?_
      have eq22 : Z1 56 5 = Z 56 5 := (up_ni hE1 (by decide))
      have eq23 : Z1 56 5 = Z 56 5 := (up_ni hE1 (by decide))
      exact mx_J.ret (sn_157 20) (fun _ _ => rfl) (hP (-5) Z1 h1 hx1 hG1 (fr_tr (M := [(56, 0), (56, 5), (59, (-1))]) fr_rf (fr_up hE1) (M1 := []) rfl rfl) ⟨(fun q => absurd q (by omega)), (fun _ => (fun i => (up_nk hE1 rfl))), by omega⟩)
theorem ct_157_56 {l : Launch} {D : va_G} {b0 : Nat} {ad : Nat → Nat} {Hb : Heap} {tau : Nat → Int64} {d n s : Nat} {S : Nat → xS} {Z : xZ} {h : mx_H} (hx : XH n s S Z h) (hG : GI n S Z)  {x0 x1 x2 x3 x4 : Int} (p0 : (-2147483648) ≤ x0 ∧ x0 ≤ 2147483647) (p1 : (-2147483648) ≤ x1 ∧ x1 ≤ 2147483647) (p2 : (-2147483648) ≤ x2 ∧ x2 ≤ 2147483647) (p3 : (-2147483648) ≤ x3 ∧ x3 ≤ 2147483647) (p4 : (-2147483648) ≤ x4 ∧ x4 ≤ 2147483647) : ∃ (z : Int) (Z' : xZ) (h' : mx_H), mx_Ca (tB l D b0 ad Hb tau) (d + 1) 157 [.ref 56, xI x0, xI x1, xI x2, xI x3, xI x4] h (some (xI z), h') ∧ XH n s S Z' h' ∧ GI n S Z' ∧ fr' [(56, 0), (56, 5), (59, (-1))] Z Z' ∧ ((Z 56 5 ≤ 880 → FBm Z Z' (Z 56 5) x0 x1 x2 x3 x4) ∧ (880 < Z 56 5 → ∀ i, Z' 59 i = Z 59 i) ∧ (-5) ≤ z ∧ z ≤ 900 ∧ ((880 < Z 56 5 → z = -5 ∧ Z' 56 5 = Z 56 5) ∧ (Z 56 5 ≤ 880 → Z' 56 5 = Z 56 5 + 20 ∧ z = Z 56 5 + 20))) := by
  obtain ⟨r, hca, z, Z', h', e, q⟩ := Jmt (B := tB l D b0 ad Hb tau) (M := mt_157) (mi := 157) (as := [.ref 56, xI x0, xI x1, xI x2, xI x3, xI x4]) (d := d + 0) (ls := [some (.ref 56), some (xI x0), some (xI x1), some (xI x2), some (xI x3), some (xI x4), none, none]) rfl rfl rfl rfl rfl rfl (cw_157_56 (l := l) (D := D) (b0 := b0) (ad := ad) (Hb := Hb) (tau := tau) (d := d) (Post := fun r => ∃ (z : Int) (Z' : xZ) (h' : mx_H), r = (some (xI z), h') ∧ XH n s S Z' h' ∧ GI n S Z' ∧ fr' [(56, 0), (56, 5), (59, (-1))] Z Z' ∧ ((Z 56 5 ≤ 880 → FBm Z Z' (Z 56 5) x0 x1 x2 x3 x4) ∧ (880 < Z 56 5 → ∀ i, Z' 59 i = Z 59 i) ∧ (-5) ≤ z ∧ z ≤ 900 ∧ ((880 < Z 56 5 → z = -5 ∧ Z' 56 5 = Z 56 5) ∧ (Z 56 5 ≤ 880 → Z' 56 5 = Z 56 5 + 20 ∧ z = Z 56 5 + 20)))) hx hG p0 p1 p2 p3 p4 (fun z Z' h' q1 q2 q3 q4 => ⟨z, Z', h', rfl, q1, q2, q3, q4⟩))
  subst e; exact ⟨z, Z', h', hca, q⟩
set_option maxRecDepth 100000 in
theorem cw_281_56 {l : Launch} {D : va_G} {b0 : Nat} {ad : Nat → Nat} {Hb : Heap} {tau : Nat → Int64} {d n s : Nat} {S : Nat → xS} {Z : xZ} {h : mx_H} {Post : mx_R → Prop} (hx : XH n s S Z h) (hG : GI n S Z)  {x0 : Int} (p0 : (-2147483648) ≤ x0 ∧ x0 ≤ 2147483647) (hP : ∀ (z : Int) (Z' : xZ) (h' : mx_H), XH n s S Z' h' → GI n S Z' → fr' [(56, 0), (57, (-1)), (58, (-1))] Z Z' → (-2) ≤ z ∧ z ≤ 0 ∧ (((x0 < 0 ∨ 1 < x0) → z = -2) ∧ (¬ (x0 < 0 ∨ 1 < x0) → z = 0) ∧ (¬ x0 = 0 → Z' 58 0 = Z 58 0) ∧ (¬ x0 = 1 → Z' 58 1 = Z 58 1) ∧ (x0 = 0 → Z' 58 0 = 1) ∧ (x0 = 1 → Z' 58 1 = 1) ∧ Z' 57 1 = Z 57 1 ∧ (¬ x0 = 0 → Z' 57 963 = Z 57 963) ∧ (¬ x0 = 1 → Z' 57 1925 = Z 57 1925) ∧ (x0 = 0 → Z' 57 963 = Z 57 1) ∧ (x0 = 1 → Z' 57 1925 = Z 57 1)) → Post (some (xI z), h')) : mx_J (tB l D b0 ad Hb tau) mt_281 (d + 1) 0 [some (.ref 56), some (xI x0), none] [] h Post := by
    have a56 : 56 < n := lt83 (GI_n hG) rfl
    have s56 : S 56 = .inl (12, [0, 2, 2, 2, 2, 0, 0, 0, 0, 0, 0, 0, 0, 0, 0, 2, 2, 2, 0, 2, 2, 2, 0, 0, 2, 2, 2, 2, 2, 2, 0, 0, 2, 2, 2, 2, 2, 2, 2, 2, 2, 2]) := GI_s hG 56 rfl
    have a57 : 57 < n := lt83 (GI_n hG) rfl
    have s57 : S 57 = .inr (.int, 2886, 0) := GI_s hG 57 rfl
    have a58 : 58 < n := lt83 (GI_n hG) rfl
    have s58 : S 58 = .inr (.boolean, 2, 0) := GI_s hG 58 rfl
    refine mx_J.step (sn_281 0) (fun _ _ => rfl) ?_
    refine JcI (z := 0) (show mx_Sn _ _ 1 (mx_const (.int 0) 2) from sn_281 1) rfl ?_
    refine JputI (g := 0) hx (show mx_Sn _ _ 2 (mx_putf 1 12 0 (.int) 5) from sn_281 2) a56 s56 rfl rfl rfl rfl (fun Z1 h1 hx1 hE1 => ?_)
    have hG1 := GI_up hG hE1 (show (-2147483648) ≤ 0 ∧ 0 ≤ 2147483647 by omega) trivial rfl
    refine mx_J.step (sn_281 5) (fun _ _ => rfl) ?_
    refine Ji2l (show mx_Sn _ _ 6 (mx_i2l 7) from sn_281 6) (by omega) ?_
    refine JcL (z := 0) (show mx_Sn _ _ 7 (mx_const (.long 0) 8) from sn_281 7) rfl ?_
    refine JcL (z := 1) (show mx_Sn _ _ 8 (mx_const (.long 1) 9) from sn_281 8) rfl ?_
    obtain ⟨z2, hc2, b2⟩ := ct_154_ (d := d + 0) (l := l) (D := D) (b0 := b0) (ad := ad) (Hb := Hb) (tau := tau) hx1 hG1 (show (-9223372036854775808) ≤ x0 ∧ x0 ≤ 9223372036854775807 by omega) (show (-9223372036854775808) ≤ 0 ∧ 0 ≤ 9223372036854775807 by omega) (show (-9223372036854775808) ≤ 1 ∧ 1 ≤ 9223372036854775807 by omega)
    refine Jcs (show mx_Sn _ _ 9 (mx_calls 154 3 12) from sn_281 9) hc2 rfl rfl rfl ?_
    refine Jif_ne (show mx_Sn _ _ 12 (mx_if_ne 18 15) from sn_281 12) (by omega) (fun q3 => ?_) (fun q3 => ?_)
    · skip
      have hGo : GI n S Z1 := hG1
      have hG1 := GI_gb hGo
      refine JcI (z := 0) (show mx_Sn _ _ 18 (mx_const (.int 0) 19) from sn_281 18) rfl ?_
      refine mx_J.step (ls2 := [some (.ref 56), some (xI x0), some (xI 0)]) (sn_281 19) (fun _ _ => rfl) ?_
      have c20 : ∀ (m4 : Nat) (w4_2 : Int) (Z5 : xZ) (h5 : mx_H), 962 - w4_2 < (m4 : Int) → 0 ≤ w4_2 ∧ w4_2 ≤ 962 → CP Z5 Z1 (962 * (x0 + 1)) w4_2 → XH n s S Z5 h5 → GB n S Z5 → fr' [(57, (-1))] Z1 Z5 → mx_J (tB l D b0 ad Hb tau) mt_281 (d + 1) 20 [some (.ref 56), some (xI x0), some (xI w4_2)] [] h5 Post := by
        intro m4
        induction m4 with
        | zero => intro w4_2 Z5 h5 q4 f4_0 f4_1 hx5 hG5 hf5; exact absurd q4 (by omega)
        | succ m4 ih4 =>
          intro w4_2 Z5 h5 q4 f4_0 f4_1 hx5 hG5 hf5
          refine mx_J.step (sn_281 20) (fun _ _ => rfl) ?_
          refine JcI (z := 962) (show mx_Sn _ _ 21 (mx_const (.int 962) 24) from sn_281 21) rfl ?_
          refine Jicmp_ge (show mx_Sn _ _ 24 (mx_icmp_ge 53 27) from sn_281 24) (by omega) (by omega) (fun q6 => ?_) (fun q6 => ?_)
          · skip
            have cz : CP Z5 Z1 (962 * (x0 + 1)) 962 := (show w4_2 = (962 : Int) by omega) ▸ (by assumption : CP Z5 Z1 (962 * (x0 + 1)) w4_2)
            have c1 : Z5 57 1 = Z1 57 1 := (cz 1).trans (if_neg (by omega))
            have ca : x0 = 0 → Z5 57 963 = Z1 57 1 := fun e => (cz 963).trans ((if_pos (by omega)).trans (by rw [show (963 : Int) - 962 * (x0 + 1) = 1 by omega]))
            have cb : ¬ x0 = 0 → Z5 57 963 = Z1 57 963 := fun e => (cz 963).trans (if_neg (by omega))
            have cc : x0 = 1 → Z5 57 1925 = Z1 57 1 := fun e => (cz 1925).trans ((if_pos (by omega)).trans (by rw [show (1925 : Int) - 962 * (x0 + 1) = 1 by omega]))
            have cd : ¬ x0 = 1 → Z5 57 1925 = Z1 57 1925 := fun e => (cz 1925).trans (if_neg (by omega))
            have eq7 : Z1 57 1 = Z 57 1 := (up_nk hE1 rfl)
            have b8 : 0 ≤ Z 57 1 ∧ Z 57 1 ≤ 18 := by have hq : f57 (1 % 962) (Z 57 1) := (by first | exact GI_ex (GI_gb hG) 57 1 | exact GB_ex (GI_gb hG) 57 1); unfold f57 at hq; omega
            have b9 : (-2147483648) ≤ Z 57 1 ∧ Z 57 1 ≤ 2147483647 := (GI_gb hG).pr 57 1
            have eq10 : Z1 57 963 = Z 57 963 := (up_nk hE1 rfl)
            have b11 : 0 ≤ Z 57 963 ∧ Z 57 963 ≤ 18 := by have hq : f57 (963 % 962) (Z 57 963) := (by first | exact GI_ex (GI_gb hG) 57 963 | exact GB_ex (GI_gb hG) 57 963); unfold f57 at hq; omega
            have b12 : (-2147483648) ≤ Z 57 963 ∧ Z 57 963 ≤ 2147483647 := (GI_gb hG).pr 57 963
            have eq13 : Z1 57 1925 = Z 57 1925 := (up_nk hE1 rfl)
            have b14 : 0 ≤ Z 57 1925 ∧ Z 57 1925 ≤ 18 := by have hq : f57 (1925 % 962) (Z 57 1925) := (by first | exact GI_ex (GI_gb hG) 57 1925 | exact GB_ex (GI_gb hG) 57 1925); unfold f57 at hq; omega
            have b15 : (-2147483648) ≤ Z 57 1925 ∧ Z 57 1925 ≤ 2147483647 := (GI_gb hG).pr 57 1925
            refine mx_J.step (sn_281 53) (fun _ _ => rfl) ?_
            refine JgetR (g := 2) (b := 58) hx5 (show mx_Sn _ _ 54 (mx_getf 12 2 57) from sn_281 54) a56 s56 rfl rfl (hG5.prr 56 2 rfl) ?_
            refine mx_J.step (sn_281 57) (fun _ _ => rfl) ?_
            refine JcI (z := 1) (show mx_Sn _ _ 58 (mx_const (.int 1) 59) from sn_281 58) rfl ?_
            have eq17 : Z5 58 0 = Z 58 0 := ((hf5 58 0 rfl).trans (up_nk hE1 rfl))
            have b18 : 0 ≤ Z 58 0 ∧ Z 58 0 ≤ 1 := (GI_gb hG).pr 58 0
            have eq19 : Z5 58 1 = Z 58 1 := ((hf5 58 1 rfl).trans (up_nk hE1 rfl))
            have b20 : 0 ≤ Z 58 1 ∧ Z 58 1 ≤ 1 := (GI_gb hG).pr 58 1
            refine JzastI hx5 (show mx_Sn _ _ 59 (mx_zast 1 60) from sn_281 59) a58 s58 rfl (by omega) (by omega) (fun Z21 h21 hx21 hE21 => ?_)
            have hG21 := GB_up hG5 hE21 (show 0 ≤ 1 ∧ 1 ≤ 1 by omega) trivial rfl
            have i0 : x0 = 0 → Z21 58 0 = 1 := fun e => by have q := up_at hE21; rw [e] at q; exact q
            have i1 : x0 = 1 → Z21 58 1 = 1 := fun e => by have q := up_at hE21; rw [e] at q; exact q
            have j0 : ¬ x0 = 0 → Z21 58 0 = Z5 58 0 := fun e => up_ni hE21 (fun q => e q.symm)
            have j1 : ¬ x0 = 1 → Z21 58 1 = Z5 58 1 := fun e => up_ni hE21 (fun q => e q.symm)
            have eq22 : Z1 58 0 = Z 58 0 := (up_nk hE1 rfl)
            have eq23 : Z1 58 1 = Z 58 1 := (up_nk hE1 rfl)
            have hGx24 : GI n S Z21 := ⟨hG21, im_fin hGo (off := 962 * (x0 + 1)) (by omega) (cp_c cz (fun i => up_nk hE21 rfl)) ((fr_tr (M := [(56, 0), (57, (-1)), (58, (-1))]) (fr_tr (M := [(56, 0), (57, (-1)), (58, (-1))]) fr_rf (hf5) (M1 := []) rfl rfl) (fr_ua hE21) rfl rfl) 7 5 rfl) (fun i => (fr_tr (M := [(56, 0), (57, (-1)), (58, (-1))]) (fr_tr (M := [(56, 0), (57, (-1)), (58, (-1))]) fr_rf (hf5) (M1 := []) rfl rfl) (fr_ua hE21) rfl rfl) 9 i rfl) (fun i => (fr_tr (M := [(56, 0), (57, (-1)), (58, (-1))]) (fr_tr (M := [(56, 0), (57, (-1)), (58, (-1))]) fr_rf (hf5) (M1 := []) rfl rfl) (fr_ua hE21) rfl rfl) 10 i rfl) ((fr_tr (M := [(56, 0), (57, (-1)), (58, (-1))]) (fr_tr (M := [(56, 0), (57, (-1)), (58, (-1))]) fr_rf (hf5) (M1 := []) rfl rfl) (fr_ua hE21) rfl rfl) 56 18 rfl)⟩
            have hG21 := hGx24
            refine JcI (z := 0) (show mx_Sn _ _ 60 (mx_const (.int 0) 61) from sn_281 60) rfl ?_
            have b25 : 0 ≤ Z21 58 0 ∧ Z21 58 0 ≤ 1 := hG21.pr 58 0
            have b26 : 0 ≤ Z21 58 1 ∧ Z21 58 1 ≤ 1 := hG21.pr 58 1
            have eq27 : Z21 57 1 = Z5 57 1 := (up_nk hE21 rfl)
            have b28 : 0 ≤ Z5 57 1 ∧ Z5 57 1 ≤ 18 := by have hq : f57 (1 % 962) (Z5 57 1) := (by first | exact GI_ex hG5 57 1 | exact GB_ex hG5 57 1); unfold f57 at hq; omega
            have b29 : (-2147483648) ≤ Z5 57 1 ∧ Z5 57 1 ≤ 2147483647 := hG5.pr 57 1
            have eq30 : Z21 57 963 = Z5 57 963 := (up_nk hE21 rfl)
            have b31 : 0 ≤ Z5 57 963 ∧ Z5 57 963 ≤ 18 := by have hq : f57 (963 % 962) (Z5 57 963) := (by first | exact GI_ex hG5 57 963 | exact GB_ex hG5 57 963); unfold f57 at hq; omega
            have b32 : (-2147483648) ≤ Z5 57 963 ∧ Z5 57 963 ≤ 2147483647 := hG5.pr 57 963
            have eq33 : Z21 57 1925 = Z5 57 1925 := (up_nk hE21 rfl)
            have b34 : 0 ≤ Z5 57 1925 ∧ Z5 57 1925 ≤ 18 := by have hq : f57 (1925 % 962) (Z5 57 1925) := (by first | exact GI_ex hG5 57 1925 | exact GB_ex hG5 57 1925); unfold f57 at hq; omega
            have b35 : (-2147483648) ≤ Z5 57 1925 ∧ Z5 57 1925 ≤ 2147483647 := hG5.pr 57 1925
            have eq36 : Z21 57 1 = Z5 57 1 := (up_nk hE21 rfl)
            have eq37 : Z21 57 963 = Z5 57 963 := (up_nk hE21 rfl)
            have eq38 : Z21 57 1925 = Z5 57 1925 := (up_nk hE21 rfl)
            exact mx_J.ret (sn_281 61) (fun _ _ => rfl) (hP 0 Z21 h21 hx21 hG21 (fr_tr (M := [(56, 0), (57, (-1)), (58, (-1))]) (fr_tr (M := [(56, 0), (57, (-1)), (58, (-1))]) (fr_tr (M := [(56, 0), (57, (-1)), (58, (-1))]) fr_rf (fr_up hE1) (M1 := []) rfl rfl) (hf5) rfl rfl) (fr_ua hE21) rfl rfl) (by omega))
          · skip
            refine mx_J.step (sn_281 27) (fun _ _ => rfl) ?_
            refine JgetR (g := 1) (b := 57) hx5 (show mx_Sn _ _ 28 (mx_getf 12 1 31) from sn_281 28) a56 s56 rfl rfl (hG5.prr 56 1 rfl) ?_
            refine JcI (z := 962) (show mx_Sn _ _ 31 (mx_const (.int 962) 34) from sn_281 31) rfl ?_
            refine mx_J.step (sn_281 34) (fun _ _ => rfl) ?_
            refine JcI (z := 1) (show mx_Sn _ _ 35 (mx_const (.int 1) 36) from sn_281 35) rfl ?_
            refine Jiadd (show mx_Sn _ _ 36 (mx_iadd 37) from sn_281 36) ?_
            refine Jimul (show mx_Sn _ _ 37 (mx_imul 38) from sn_281 37) ?_
            refine mx_J.step (sn_281 38) (fun _ _ => rfl) ?_
            refine Jiadd (show mx_Sn _ _ 39 (mx_iadd 40) from sn_281 39) ?_
            refine mx_J.step (sn_281 40) (fun _ _ => rfl) ?_
            refine JgetR (g := 1) (b := 57) hx5 (show mx_Sn _ _ 41 (mx_getf 12 1 44) from sn_281 41) a56 s56 rfl rfl (hG5.prr 56 1 rfl) ?_
            refine mx_J.step (sn_281 44) (fun _ _ => rfl) ?_
            have b41 : f57 ((w4_2) % 962) (Z5 57 w4_2) := GB_ex hG5 57 w4_2
            have b42 : (-2147483648) ≤ Z5 57 w4_2 ∧ Z5 57 w4_2 ≤ 2147483647 := hG5.pr 57 w4_2
            refine JialdI (z := Z5 57 w4_2) hx5 (show mx_Sn _ _ 45 (mx_iald 46) from sn_281 45) a57 s57 (by omega) rfl ?_
            refine JiastI hx5 (show mx_Sn _ _ 46 (mx_iast 1 47) from sn_281 46) a57 s57 rfl (by omega) (fun Z43 h43 hx43 hE43 => ?_)
            have hG43 := GB_up hG5 hE43 (show (-2147483648) ≤ Z5 57 w4_2 ∧ Z5 57 w4_2 ≤ 2147483647 by omega) (show f57 (((962 * (x0 + 1)) + w4_2) % 962) (Z5 57 w4_2) by first | (have hq := GB_ex hG5 57 w4_2; replace hq : f57 (w4_2 % 962) (Z5 57 w4_2) := hq; rw [Int.emod_eq_of_lt (a := w4_2) (by omega) (by omega)] at hq; rw [Int.emod_eq_of_lt (a := (962 * (x0 + 1)) + w4_2) (by omega) (by omega)]; unfold f57 at hq; unfold f57; omega) | (rw [Int.emod_eq_of_lt (by omega) (by omega)]; unfold f57; omega) | (rw [show (962 * (x0 + 1) + w4_2) % 962 = w4_2 % 962 by omega]; assumption) | assumption | (unfold f57; omega) | (unfold f57 at *; omega)) rfl
            have cs : CP Z43 Z1 (962 * (x0 + 1)) (w4_2 + 1) := cp_s (by assumption) hE43 rfl rfl (by omega)
            refine Jiinc (z := w4_2) (cz := 1) (ls2 := [some (.ref 56), some (xI x0), some (xI (w4_2 + 1))]) (show mx_Sn _ _ 47 (mx_iinc 2 1 50) from sn_281 47) rfl rfl rfl rfl ?_
            refine mx_J.step (sn_281 50) (fun _ _ => rfl) ?_
            exact ih4 (w4_2 + 1) Z43 h43 (by omega) (by omega) (by first | exact cp_0 | assumption) hx43 hG43 (fr_tr (M := [(57, (-1))]) (fr_tr (M := [(57, (-1))]) fr_rf (hf5) (M1 := []) rfl rfl) (fr_ua hE43) rfl rfl)
      exact c20 (Int.toNat (962 - 0) + 1) 0 Z1 h1 (by omega) (by omega) (by first | exact cp_0 | assumption) hx1 hG1 fr_rf
    · skip
      refine JcI (z := (-2)) (show mx_Sn _ _ 15 (mx_const (.int (-2)) 17) from sn_281 15) rfl ?_
      have eq44 : Z1 58 0 = Z 58 0 := (up_nk hE1 rfl)
      have b45 : 0 ≤ Z 58 0 ∧ Z 58 0 ≤ 1 := hG.pr 58 0
      have eq46 : Z1 58 1 = Z 58 1 := (up_nk hE1 rfl)
      have b47 : 0 ≤ Z 58 1 ∧ Z 58 1 ≤ 1 := hG.pr 58 1
      have eq48 : Z1 57 1 = Z 57 1 := (up_nk hE1 rfl)
      have b49 : 0 ≤ Z 57 1 ∧ Z 57 1 ≤ 18 := by have hq : f57 (1 % 962) (Z 57 1) := (by first | exact GI_ex hG 57 1 | exact GB_ex hG 57 1); unfold f57 at hq; omega
      have b50 : (-2147483648) ≤ Z 57 1 ∧ Z 57 1 ≤ 2147483647 := hG.pr 57 1
      have eq51 : Z1 57 963 = Z 57 963 := (up_nk hE1 rfl)
      have b52 : 0 ≤ Z 57 963 ∧ Z 57 963 ≤ 18 := by have hq : f57 (963 % 962) (Z 57 963) := (by first | exact GI_ex hG 57 963 | exact GB_ex hG 57 963); unfold f57 at hq; omega
      have b53 : (-2147483648) ≤ Z 57 963 ∧ Z 57 963 ≤ 2147483647 := hG.pr 57 963
      have eq54 : Z1 57 1925 = Z 57 1925 := (up_nk hE1 rfl)
      have b55 : 0 ≤ Z 57 1925 ∧ Z 57 1925 ≤ 18 := by have hq : f57 (1925 % 962) (Z 57 1925) := (by first | exact GI_ex hG 57 1925 | exact GB_ex hG 57 1925); unfold f57 at hq; omega
      have b56 : (-2147483648) ≤ Z 57 1925 ∧ Z 57 1925 ≤ 2147483647 := hG.pr 57 1925
      have eq57 : Z1 58 0 = Z 58 0 := (up_nk hE1 rfl)
      have eq58 : Z1 58 1 = Z 58 1 := (up_nk hE1 rfl)
      have eq59 : Z1 57 1 = Z 57 1 := (up_nk hE1 rfl)
      have eq60 : Z1 57 963 = Z 57 963 := (up_nk hE1 rfl)
      have eq61 : Z1 57 1925 = Z 57 1925 := (up_nk hE1 rfl)
      exact mx_J.ret (sn_281 17) (fun _ _ => rfl) (hP (-2) Z1 h1 hx1 hG1 (fr_tr (M := [(56, 0), (57, (-1)), (58, (-1))]) fr_rf (fr_up hE1) (M1 := []) rfl rfl) (by omega))
theorem ct_281_56 {l : Launch} {D : va_G} {b0 : Nat} {ad : Nat → Nat} {Hb : Heap} {tau : Nat → Int64} {d n s : Nat} {S : Nat → xS} {Z : xZ} {h : mx_H} (hx : XH n s S Z h) (hG : GI n S Z)  {x0 : Int} (p0 : (-2147483648) ≤ x0 ∧ x0 ≤ 2147483647) : ∃ (z : Int) (Z' : xZ) (h' : mx_H), mx_Ca (tB l D b0 ad Hb tau) (d + 2) 281 [.ref 56, xI x0] h (some (xI z), h') ∧ XH n s S Z' h' ∧ GI n S Z' ∧ fr' [(56, 0), (57, (-1)), (58, (-1))] Z Z' ∧ ((-2) ≤ z ∧ z ≤ 0 ∧ (((x0 < 0 ∨ 1 < x0) → z = -2) ∧ (¬ (x0 < 0 ∨ 1 < x0) → z = 0) ∧ (¬ x0 = 0 → Z' 58 0 = Z 58 0) ∧ (¬ x0 = 1 → Z' 58 1 = Z 58 1) ∧ (x0 = 0 → Z' 58 0 = 1) ∧ (x0 = 1 → Z' 58 1 = 1) ∧ Z' 57 1 = Z 57 1 ∧ (¬ x0 = 0 → Z' 57 963 = Z 57 963) ∧ (¬ x0 = 1 → Z' 57 1925 = Z 57 1925) ∧ (x0 = 0 → Z' 57 963 = Z 57 1) ∧ (x0 = 1 → Z' 57 1925 = Z 57 1))) := by
  obtain ⟨r, hca, z, Z', h', e, q⟩ := Jmt (B := tB l D b0 ad Hb tau) (M := mt_281) (mi := 281) (as := [.ref 56, xI x0]) (d := d + 1) (ls := [some (.ref 56), some (xI x0), none]) rfl rfl rfl rfl rfl rfl (cw_281_56 (l := l) (D := D) (b0 := b0) (ad := ad) (Hb := Hb) (tau := tau) (d := d) (Post := fun r => ∃ (z : Int) (Z' : xZ) (h' : mx_H), r = (some (xI z), h') ∧ XH n s S Z' h' ∧ GI n S Z' ∧ fr' [(56, 0), (57, (-1)), (58, (-1))] Z Z' ∧ ((-2) ≤ z ∧ z ≤ 0 ∧ (((x0 < 0 ∨ 1 < x0) → z = -2) ∧ (¬ (x0 < 0 ∨ 1 < x0) → z = 0) ∧ (¬ x0 = 0 → Z' 58 0 = Z 58 0) ∧ (¬ x0 = 1 → Z' 58 1 = Z 58 1) ∧ (x0 = 0 → Z' 58 0 = 1) ∧ (x0 = 1 → Z' 58 1 = 1) ∧ Z' 57 1 = Z 57 1 ∧ (¬ x0 = 0 → Z' 57 963 = Z 57 963) ∧ (¬ x0 = 1 → Z' 57 1925 = Z 57 1925) ∧ (x0 = 0 → Z' 57 963 = Z 57 1) ∧ (x0 = 1 → Z' 57 1925 = Z 57 1)))) hx hG p0 (fun z Z' h' q1 q2 q3 q4 => ⟨z, Z', h', rfl, q1, q2, q3, q4⟩))
  subst e; exact ⟨z, Z', h', hca, q⟩
set_option maxRecDepth 100000 in
theorem cw_282_56 {l : Launch} {D : va_G} {b0 : Nat} {ad : Nat → Nat} {Hb : Heap} {tau : Nat → Int64} {d n s : Nat} {S : Nat → xS} {Z : xZ} {h : mx_H} {Post : mx_R → Prop} (hx : XH n s S Z h) (hG : GI n S Z)  {x0 : Int} (p0 : (-2147483648) ≤ x0 ∧ x0 ≤ 2147483647) (hP : ∀ (z : Int) (Z' : xZ) (h' : mx_H), XH n s S Z' h' → GI n S Z' → fr' [(56, 0), (56, 18), (57, (-1)), (61, (-1)), (63, (-1))] Z Z' → (1 ≤ Z' 57 1 → RTB Z (Z 57 1) → RTB Z' (Z' 57 1)) ∧ (-5) ≤ z ∧ z ≤ 0 ∧ (((x0 < 0 ∨ 1 < x0) → z = -2) ∧ (x0 = 0 → (Z 58 0 = 0 → z = -5) ∧ (¬ Z 58 0 = 0 → z = 0)) ∧ (x0 = 1 → (Z 58 1 = 0 → z = -5) ∧ (¬ Z 58 1 = 0 → z = 0)) ∧ Z' 57 963 = Z 57 963 ∧ Z' 57 1925 = Z 57 1925 ∧ ((x0 < 0 ∨ 1 < x0) → Z' 57 1 = Z 57 1) ∧ (x0 = 0 → (Z 58 0 = 0 → Z' 57 1 = Z 57 1) ∧ (¬ Z 58 0 = 0 → Z' 57 1 = Z 57 963)) ∧ (x0 = 1 → (Z 58 1 = 0 → Z' 57 1 = Z 57 1) ∧ (¬ Z 58 1 = 0 → Z' 57 1 = Z 57 1925))) → Post (some (xI z), h')) : mx_J (tB l D b0 ad Hb tau) mt_282 (d + 20) 0 [some (.ref 56), some (xI x0), none] [] h Post := by
    have a56 : 56 < n := lt83 (GI_n hG) rfl
    have s56 : S 56 = .inl (12, [0, 2, 2, 2, 2, 0, 0, 0, 0, 0, 0, 0, 0, 0, 0, 2, 2, 2, 0, 2, 2, 2, 0, 0, 2, 2, 2, 2, 2, 2, 0, 0, 2, 2, 2, 2, 2, 2, 2, 2, 2, 2]) := GI_s hG 56 rfl
    have a57 : 57 < n := lt83 (GI_n hG) rfl
    have s57 : S 57 = .inr (.int, 2886, 0) := GI_s hG 57 rfl
    have a58 : 58 < n := lt83 (GI_n hG) rfl
    have s58 : S 58 = .inr (.boolean, 2, 0) := GI_s hG 58 rfl
    refine mx_J.step (sn_282 0) (fun _ _ => rfl) ?_
    refine JcI (z := 0) (show mx_Sn _ _ 1 (mx_const (.int 0) 2) from sn_282 1) rfl ?_
    refine JputI (g := 0) hx (show mx_Sn _ _ 2 (mx_putf 1 12 0 (.int) 5) from sn_282 2) a56 s56 rfl rfl rfl rfl (fun Z1 h1 hx1 hE1 => ?_)
    have hG1 := GI_up hG hE1 (show (-2147483648) ≤ 0 ∧ 0 ≤ 2147483647 by omega) trivial rfl
    refine mx_J.step (sn_282 5) (fun _ _ => rfl) ?_
    refine Ji2l (show mx_Sn _ _ 6 (mx_i2l 7) from sn_282 6) (by omega) ?_
    refine JcL (z := 0) (show mx_Sn _ _ 7 (mx_const (.long 0) 8) from sn_282 7) rfl ?_
    refine JcL (z := 1) (show mx_Sn _ _ 8 (mx_const (.long 1) 9) from sn_282 8) rfl ?_
    obtain ⟨z2, hc2, b2⟩ := ct_154_ (d := d + 19) (l := l) (D := D) (b0 := b0) (ad := ad) (Hb := Hb) (tau := tau) hx1 hG1 (show (-9223372036854775808) ≤ x0 ∧ x0 ≤ 9223372036854775807 by omega) (show (-9223372036854775808) ≤ 0 ∧ 0 ≤ 9223372036854775807 by omega) (show (-9223372036854775808) ≤ 1 ∧ 1 ≤ 9223372036854775807 by omega)
    refine Jcs (show mx_Sn _ _ 9 (mx_calls 154 3 12) from sn_282 9) hc2 rfl rfl rfl ?_
    refine Jif_ne (show mx_Sn _ _ 12 (mx_if_ne 18 15) from sn_282 12) (by omega) (fun q3 => ?_) (fun q3 => ?_)
    · skip
      refine mx_J.step (sn_282 18) (fun _ _ => rfl) ?_
      refine JgetR (g := 2) (b := 58) hx1 (show mx_Sn _ _ 19 (mx_getf 12 2 22) from sn_282 19) a56 s56 rfl rfl (hG1.prr 56 2 rfl) ?_
      refine mx_J.step (sn_282 22) (fun _ _ => rfl) ?_
      have b5 : 0 ≤ Z 58 x0 ∧ Z 58 x0 ≤ 1 := hG.pr 58 x0
      refine JzaldI (z := Z 58 x0) hx1 (show mx_Sn _ _ 23 (mx_zald 24) from sn_282 23) a58 s58 (by omega) (up_nk hE1 rfl) ?_
      have r0 : x0 = 0 → (Z 58 x0) = (Z 58 0) := fun e => by rw [e]
      have r1 : x0 = 1 → (Z 58 x0) = (Z 58 1) := fun e => by rw [e]
      refine Jif_ne (show mx_Sn _ _ 24 (mx_if_ne 30 27) from sn_282 24) (by omega) (fun q6 => ?_) (fun q6 => ?_)
      · skip
        have hGo : GI n S Z1 := hG1
        have hG1 := GI_gb hGo
        refine JcI (z := 0) (show mx_Sn _ _ 30 (mx_const (.int 0) 31) from sn_282 30) rfl ?_
        refine mx_J.step (ls2 := [some (.ref 56), some (xI x0), some (xI 0)]) (sn_282 31) (fun _ _ => rfl) ?_
        have c32 : ∀ (m7 : Nat) (w7_2 : Int) (Z8 : xZ) (h8 : mx_H), 962 - w7_2 < (m7 : Int) → 0 ≤ w7_2 ∧ w7_2 ≤ 962 → CR Z8 Z1 (962 * (x0 + 1)) w7_2 → XH n s S Z8 h8 → GB n S Z8 → fr' [(57, (-1))] Z1 Z8 → mx_J (tB l D b0 ad Hb tau) mt_282 (d + 20) 32 [some (.ref 56), some (xI x0), some (xI w7_2)] [] h8 Post := by
          intro m7
          induction m7 with
          | zero => intro w7_2 Z8 h8 q7 f7_0 f7_1 hx8 hG8 hf8; exact absurd q7 (by omega)
          | succ m7 ih7 =>
            intro w7_2 Z8 h8 q7 f7_0 f7_1 hx8 hG8 hf8
            refine mx_J.step (sn_282 32) (fun _ _ => rfl) ?_
            refine JcI (z := 962) (show mx_Sn _ _ 33 (mx_const (.int 962) 36) from sn_282 33) rfl ?_
            refine Jicmp_ge (show mx_Sn _ _ 36 (mx_icmp_ge 65 39) from sn_282 36) (by omega) (by omega) (fun q9 => ?_) (fun q9 => ?_)
            · skip
              have cz : CR Z8 Z1 (962 * (x0 + 1)) 962 := (show w7_2 = (962 : Int) by omega) ▸ (by assumption : CR Z8 Z1 (962 * (x0 + 1)) w7_2)
              have c1 : Z8 57 1 = Z1 57 (962 * (x0 + 1) + 1) := (cz 1).trans (if_pos (by omega))
              have c2 : Z8 57 963 = Z1 57 963 := (cz 963).trans (if_neg (by omega))
              have c3 : Z8 57 1925 = Z1 57 1925 := (cz 1925).trans (if_neg (by omega))
              have c4 : x0 = 0 → Z1 57 (962 * (x0 + 1) + 1) = Z1 57 963 := fun e => by rw [e]; rfl
              have c5 : x0 = 1 → Z1 57 (962 * (x0 + 1) + 1) = Z1 57 1925 := fun e => by rw [e]; rfl
              have eq10 : Z1 57 1 = Z 57 1 := (up_nk hE1 rfl)
              have b11 : 0 ≤ Z 57 1 ∧ Z 57 1 ≤ 18 := by have hq : f57 (1 % 962) (Z 57 1) := (by first | exact GI_ex (GI_gb hG) 57 1 | exact GB_ex (GI_gb hG) 57 1); unfold f57 at hq; omega
              have b12 : (-2147483648) ≤ Z 57 1 ∧ Z 57 1 ≤ 2147483647 := (GI_gb hG).pr 57 1
              have eq13 : Z1 57 963 = Z 57 963 := (up_nk hE1 rfl)
              have b14 : 0 ≤ Z 57 963 ∧ Z 57 963 ≤ 18 := by have hq : f57 (963 % 962) (Z 57 963) := (by first | exact GI_ex (GI_gb hG) 57 963 | exact GB_ex (GI_gb hG) 57 963); unfold f57 at hq; omega
              have b15 : (-2147483648) ≤ Z 57 963 ∧ Z 57 963 ≤ 2147483647 := (GI_gb hG).pr 57 963
              have eq16 : Z1 57 1925 = Z 57 1925 := (up_nk hE1 rfl)
              have b17 : 0 ≤ Z 57 1925 ∧ Z 57 1925 ≤ 18 := by have hq : f57 (1925 % 962) (Z 57 1925) := (by first | exact GI_ex (GI_gb hG) 57 1925 | exact GB_ex (GI_gb hG) 57 1925); unfold f57 at hq; omega
              have b18 : (-2147483648) ≤ Z 57 1925 ∧ Z 57 1925 ≤ 2147483647 := (GI_gb hG).pr 57 1925
              refine mx_J.step (sn_282 65) (fun _ _ => rfl) ?_
              refine JgetR (g := 1) (b := 57) hx8 (show mx_Sn _ _ 66 (mx_getf 12 1 69) from sn_282 66) a56 s56 rfl rfl (hG8.prr 56 1 rfl) ?_
              refine JcI (z := 30) (show mx_Sn _ _ 69 (mx_const (.int 30) 71) from sn_282 69) rfl ?_
              refine JcI (z := 0) (show mx_Sn _ _ 71 (mx_const (.int 0) 72) from sn_282 71) rfl ?_
              refine JiastI hx8 (show mx_Sn _ _ 72 (mx_iast 1 73) from sn_282 72) a57 s57 rfl (by omega) (fun Z20 h20 hx20 hE20 => ?_)
              have hG20 := GB_up hG8 hE20 (show (-2147483648) ≤ 0 ∧ 0 ≤ 2147483647 by omega) (show f57 ((30) % 962) (0) by first | assumption | (unfold f57; omega) | (unfold f57 at *; omega)) rfl
              have c30 : ∀ i, ¬ i = 30 → Z20 57 i = Z8 57 i := fun i hi => up_ni hE20 hi
              refine mx_J.step (sn_282 73) (fun _ _ => rfl) ?_
              have eq22 : Z20 57 1 = Z8 57 1 := (up_ni hE20 (by decide))
              have b23 : 0 ≤ Z8 57 1 ∧ Z8 57 1 ≤ 18 := by have hq : f57 (1 % 962) (Z8 57 1) := (by first | exact GI_ex hG8 57 1 | exact GB_ex hG8 57 1); unfold f57 at hq; omega
              have b24 : (-2147483648) ≤ Z8 57 1 ∧ Z8 57 1 ≤ 2147483647 := hG8.pr 57 1
              obtain ⟨Z21, h21, hc21, hx21, hG21, hf21, b21⟩ := ct_184_56 (d := d + 0) (l := l) (D := D) (b0 := b0) (ad := ad) (Hb := Hb) (tau := tau) hx20 hG20 
              try rw [eq22] at b21
              obtain ⟨bs21_0, b21⟩ := b21
              have b25 : 0 ≤ Z21 56 18 ∧ Z21 56 18 ≤ 385 := hG21.pr 56 18
              refine Jcv0 hx20 (show mx_Sn _ _ 74 (mx_callv 184 1 12 77) from sn_282 74) a56 s56 hc21 rfl rfl rfl ?_
              have eq26 : Z21 57 1 = Z8 57 1 := ((hf21 57 1 rfl).trans (up_ni hE20 (by decide)))
              have hGx27 : GI n S Z21 := ⟨hG21, re_fin hGo (off := 962 * (x0 + 1)) (by omega) cz (fun i hi => (hf21 57 i rfl).trans (c30 i hi)) ((fr_tr (M := [(56, 0), (56, 18), (57, (-1)), (61, (-1)), (63, (-1))]) (fr_tr (M := [(56, 0), (56, 18), (57, (-1)), (61, (-1)), (63, (-1))]) (fr_tr (M := [(56, 0), (56, 18), (57, (-1)), (61, (-1)), (63, (-1))]) fr_rf (hf8) (M1 := []) rfl rfl) (fr_ua hE20) rfl rfl) (hf21) rfl rfl) 7 5 rfl) (fun i => (fr_tr (M := [(56, 0), (56, 18), (57, (-1)), (61, (-1)), (63, (-1))]) (fr_tr (M := [(56, 0), (56, 18), (57, (-1)), (61, (-1)), (63, (-1))]) (fr_tr (M := [(56, 0), (56, 18), (57, (-1)), (61, (-1)), (63, (-1))]) fr_rf (hf8) (M1 := []) rfl rfl) (fr_ua hE20) rfl rfl) (hf21) rfl rfl) 9 i rfl) (fun i => (fr_tr (M := [(56, 0), (56, 18), (57, (-1)), (61, (-1)), (63, (-1))]) (fr_tr (M := [(56, 0), (56, 18), (57, (-1)), (61, (-1)), (63, (-1))]) (fr_tr (M := [(56, 0), (56, 18), (57, (-1)), (61, (-1)), (63, (-1))]) fr_rf (hf8) (M1 := []) rfl rfl) (fr_ua hE20) rfl rfl) (hf21) rfl rfl) 10 i rfl) (by have e9 : Z21 57 1 = (Z8 57 1) := (by omega); rw [e9]; exact b21)⟩
              have hG21 := hGx27
              refine JcI (z := 0) (show mx_Sn _ _ 77 (mx_const (.int 0) 78) from sn_282 77) rfl ?_
              have eq28 : Z21 57 1 = Z8 57 1 := ((hf21 57 1 rfl).trans (up_ni hE20 (by decide)))
              have b29 : 0 ≤ Z8 57 1 ∧ Z8 57 1 ≤ 18 := by have hq : f57 (1 % 962) (Z8 57 1) := (by first | exact GI_ex hG8 57 1 | exact GB_ex hG8 57 1); unfold f57 at hq; omega
              have b30 : (-2147483648) ≤ Z8 57 1 ∧ Z8 57 1 ≤ 2147483647 := hG8.pr 57 1
              have eq31 : Z21 57 963 = Z8 57 963 := ((hf21 57 963 rfl).trans (up_ni hE20 (by decide)))
              have b32 : 0 ≤ Z8 57 963 ∧ Z8 57 963 ≤ 18 := by have hq : f57 (963 % 962) (Z8 57 963) := (by first | exact GI_ex hG8 57 963 | exact GB_ex hG8 57 963); unfold f57 at hq; omega
              have b33 : (-2147483648) ≤ Z8 57 963 ∧ Z8 57 963 ≤ 2147483647 := hG8.pr 57 963
              have eq34 : Z21 57 1925 = Z8 57 1925 := ((hf21 57 1925 rfl).trans (up_ni hE20 (by decide)))
              have b35 : 0 ≤ Z8 57 1925 ∧ Z8 57 1925 ≤ 18 := by have hq : f57 (1925 % 962) (Z8 57 1925) := (by first | exact GI_ex hG8 57 1925 | exact GB_ex hG8 57 1925); unfold f57 at hq; omega
              have b36 : (-2147483648) ≤ Z8 57 1925 ∧ Z8 57 1925 ≤ 2147483647 := hG8.pr 57 1925
              have eq37 : Z21 58 0 = Z 58 0 := ((hf21 58 0 rfl).trans ((up_nk hE20 rfl).trans ((hf8 58 0 rfl).trans (up_nk hE1 rfl))))
              have b38 : 0 ≤ Z 58 0 ∧ Z 58 0 ≤ 1 := hG.pr 58 0
              have eq39 : Z21 58 1 = Z 58 1 := ((hf21 58 1 rfl).trans ((up_nk hE20 rfl).trans ((hf8 58 1 rfl).trans (up_nk hE1 rfl))))
              have b40 : 0 ≤ Z 58 1 ∧ Z 58 1 ≤ 1 := hG.pr 58 1
              have eq41 : Z21 57 1 = Z8 57 1 := ((hf21 57 1 rfl).trans (up_ni hE20 (by decide)))
              have eq42 : Z21 57 963 = Z8 57 963 := ((hf21 57 963 rfl).trans (up_ni hE20 (by decide)))
              have eq43 : Z21 57 1925 = Z8 57 1925 := ((hf21 57 1925 rfl).trans (up_ni hE20 (by decide)))
              exact mx_J.ret (sn_282 78) (fun _ _ => rfl) (hP 0 Z21 h21 hx21 hG21 (fr_tr (M := [(56, 0), (56, 18), (57, (-1)), (61, (-1)), (63, (-1))]) (fr_tr (M := [(56, 0), (56, 18), (57, (-1)), (61, (-1)), (63, (-1))]) (fr_tr (M := [(56, 0), (56, 18), (57, (-1)), (61, (-1)), (63, (-1))]) (fr_tr (M := [(56, 0), (56, 18), (57, (-1)), (61, (-1)), (63, (-1))]) fr_rf (fr_up hE1) (M1 := []) rfl rfl) (hf8) rfl rfl) (fr_ua hE20) rfl rfl) (hf21) rfl rfl) ⟨(fun q _ => RTB_e (bs21_0 (by omega)) (fun _ => rfl) (by omega)), by omega⟩)
            · skip
              refine mx_J.step (sn_282 39) (fun _ _ => rfl) ?_
              refine JgetR (g := 1) (b := 57) hx8 (show mx_Sn _ _ 40 (mx_getf 12 1 43) from sn_282 40) a56 s56 rfl rfl (hG8.prr 56 1 rfl) ?_
              refine mx_J.step (sn_282 43) (fun _ _ => rfl) ?_
              refine mx_J.step (sn_282 44) (fun _ _ => rfl) ?_
              refine JgetR (g := 1) (b := 57) hx8 (show mx_Sn _ _ 45 (mx_getf 12 1 48) from sn_282 45) a56 s56 rfl rfl (hG8.prr 56 1 rfl) ?_
              refine JcI (z := 962) (show mx_Sn _ _ 48 (mx_const (.int 962) 51) from sn_282 48) rfl ?_
              refine mx_J.step (sn_282 51) (fun _ _ => rfl) ?_
              refine JcI (z := 1) (show mx_Sn _ _ 52 (mx_const (.int 1) 53) from sn_282 52) rfl ?_
              refine Jiadd (show mx_Sn _ _ 53 (mx_iadd 54) from sn_282 53) ?_
              refine Jimul (show mx_Sn _ _ 54 (mx_imul 55) from sn_282 54) ?_
              refine mx_J.step (sn_282 55) (fun _ _ => rfl) ?_
              refine Jiadd (show mx_Sn _ _ 56 (mx_iadd 57) from sn_282 56) ?_
              have b46 : f57 (((962 * (x0 + 1)) + w7_2) % 962) (Z8 57 ((962 * (x0 + 1)) + w7_2)) := GB_ex hG8 57 ((962 * (x0 + 1)) + w7_2)
              have b47 : (-2147483648) ≤ Z8 57 ((962 * (x0 + 1)) + w7_2) ∧ Z8 57 ((962 * (x0 + 1)) + w7_2) ≤ 2147483647 := hG8.pr 57 ((962 * (x0 + 1)) + w7_2)
              refine JialdI (z := Z8 57 ((962 * (x0 + 1)) + w7_2)) hx8 (show mx_Sn _ _ 57 (mx_iald 58) from sn_282 57) a57 s57 (by omega) rfl ?_
              refine JiastI hx8 (show mx_Sn _ _ 58 (mx_iast 1 59) from sn_282 58) a57 s57 rfl (by omega) (fun Z48 h48 hx48 hE48 => ?_)
              have hG48 := GB_up hG8 hE48 (show (-2147483648) ≤ Z8 57 ((962 * (x0 + 1)) + w7_2) ∧ Z8 57 ((962 * (x0 + 1)) + w7_2) ≤ 2147483647 by omega) (show f57 ((w7_2) % 962) (Z8 57 ((962 * (x0 + 1)) + w7_2)) by first | (have hq := GB_ex hG8 57 ((962 * (x0 + 1)) + w7_2); replace hq : f57 (((962 * (x0 + 1)) + w7_2) % 962) (Z8 57 ((962 * (x0 + 1)) + w7_2)) := hq; rw [Int.emod_eq_of_lt (a := ((962 * (x0 + 1)) + w7_2)) (by omega) (by omega)] at hq; rw [Int.emod_eq_of_lt (a := w7_2) (by omega) (by omega)]; unfold f57 at hq; unfold f57; omega) | (rw [Int.emod_eq_of_lt (by omega) (by omega)]; unfold f57; omega) | (rw [show w7_2 % 962 = (962 * (x0 + 1) + w7_2) % 962 by omega]; assumption) | assumption | (unfold f57; omega) | (unfold f57 at *; omega)) rfl
              have cs : CR Z48 Z1 (962 * (x0 + 1)) (w7_2 + 1) := crx_s (by assumption) hE48 rfl rfl (by omega)
              refine Jiinc (z := w7_2) (cz := 1) (ls2 := [some (.ref 56), some (xI x0), some (xI (w7_2 + 1))]) (show mx_Sn _ _ 59 (mx_iinc 2 1 62) from sn_282 59) rfl rfl rfl rfl ?_
              refine mx_J.step (sn_282 62) (fun _ _ => rfl) ?_
              exact ih7 (w7_2 + 1) Z48 h48 (by omega) (by omega) (by first | exact crx_0 | assumption) hx48 hG48 (fr_tr (M := [(57, (-1))]) (fr_tr (M := [(57, (-1))]) fr_rf (hf8) (M1 := []) rfl rfl) (fr_ua hE48) rfl rfl)
        exact c32 (Int.toNat (962 - 0) + 1) 0 Z1 h1 (by omega) (by omega) (by first | exact crx_0 | assumption) hx1 hG1 fr_rf
      · skip
        refine JcI (z := (-5)) (show mx_Sn _ _ 27 (mx_const (.int (-5)) 29) from sn_282 27) rfl ?_
        have eq49 : Z1 57 1 = Z 57 1 := (up_nk hE1 rfl)
        have b50 : 0 ≤ Z 57 1 ∧ Z 57 1 ≤ 18 := by have hq : f57 (1 % 962) (Z 57 1) := (by first | exact GI_ex hG 57 1 | exact GB_ex hG 57 1); unfold f57 at hq; omega
        have b51 : (-2147483648) ≤ Z 57 1 ∧ Z 57 1 ≤ 2147483647 := hG.pr 57 1
        have eq52 : Z1 57 963 = Z 57 963 := (up_nk hE1 rfl)
        have b53 : 0 ≤ Z 57 963 ∧ Z 57 963 ≤ 18 := by have hq : f57 (963 % 962) (Z 57 963) := (by first | exact GI_ex hG 57 963 | exact GB_ex hG 57 963); unfold f57 at hq; omega
        have b54 : (-2147483648) ≤ Z 57 963 ∧ Z 57 963 ≤ 2147483647 := hG.pr 57 963
        have eq55 : Z1 57 1925 = Z 57 1925 := (up_nk hE1 rfl)
        have b56 : 0 ≤ Z 57 1925 ∧ Z 57 1925 ≤ 18 := by have hq : f57 (1925 % 962) (Z 57 1925) := (by first | exact GI_ex hG 57 1925 | exact GB_ex hG 57 1925); unfold f57 at hq; omega
        have b57 : (-2147483648) ≤ Z 57 1925 ∧ Z 57 1925 ≤ 2147483647 := hG.pr 57 1925
        have eq58 : Z1 58 0 = Z 58 0 := (up_nk hE1 rfl)
        have b59 : 0 ≤ Z 58 0 ∧ Z 58 0 ≤ 1 := hG.pr 58 0
        have eq60 : Z1 58 1 = Z 58 1 := (up_nk hE1 rfl)
        have b61 : 0 ≤ Z 58 1 ∧ Z 58 1 ≤ 1 := hG.pr 58 1
        have eq62 : Z1 57 1 = Z 57 1 := (up_nk hE1 rfl)
        have eq63 : Z1 57 963 = Z 57 963 := (up_nk hE1 rfl)
        have eq64 : Z1 57 1925 = Z 57 1925 := (up_nk hE1 rfl)
        exact mx_J.ret (sn_282 29) (fun _ _ => rfl) (hP (-5) Z1 h1 hx1 hG1 (fr_tr (M := [(56, 0), (56, 18), (57, (-1)), (61, (-1)), (63, (-1))]) fr_rf (fr_up hE1) (M1 := []) rfl rfl) ⟨(fun _ r => RTB_e r (fun i => (up_nk hE1 rfl)) (up_nk hE1 rfl)), by omega⟩)
    · skip
      refine JcI (z := (-2)) (show mx_Sn _ _ 15 (mx_const (.int (-2)) 17) from sn_282 15) rfl ?_
      have eq65 : Z1 57 1 = Z 57 1 := (up_nk hE1 rfl)
      have b66 : 0 ≤ Z 57 1 ∧ Z 57 1 ≤ 18 := by have hq : f57 (1 % 962) (Z 57 1) := (by first | exact GI_ex hG 57 1 | exact GB_ex hG 57 1); unfold f57 at hq; omega
      have b67 : (-2147483648) ≤ Z 57 1 ∧ Z 57 1 ≤ 2147483647 := hG.pr 57 1
      have eq68 : Z1 57 963 = Z 57 963 := (up_nk hE1 rfl)
      have b69 : 0 ≤ Z 57 963 ∧ Z 57 963 ≤ 18 := by have hq : f57 (963 % 962) (Z 57 963) := (by first | exact GI_ex hG 57 963 | exact GB_ex hG 57 963); unfold f57 at hq; omega
      have b70 : (-2147483648) ≤ Z 57 963 ∧ Z 57 963 ≤ 2147483647 := hG.pr 57 963
      have eq71 : Z1 57 1925 = Z 57 1925 := (up_nk hE1 rfl)
      have b72 : 0 ≤ Z 57 1925 ∧ Z 57 1925 ≤ 18 := by have hq : f57 (1925 % 962) (Z 57 1925) := (by first | exact GI_ex hG 57 1925 | exact GB_ex hG 57 1925); unfold f57 at hq; omega
      have b73 : (-2147483648) ≤ Z 57 1925 ∧ Z 57 1925 ≤ 2147483647 := hG.pr 57 1925
      have eq74 : Z1 58 0 = Z 58 0 := (up_nk hE1 rfl)
      have b75 : 0 ≤ Z 58 0 ∧ Z 58 0 ≤ 1 := hG.pr 58 0
      have eq76 : Z1 58 1 = Z 58 1 := (up_nk hE1 rfl)
      have b77 : 0 ≤ Z 58 1 ∧ Z 58 1 ≤ 1 := hG.pr 58 1
      have eq78 : Z1 57 1 = Z 57 1 := (up_nk hE1 rfl)
      have eq79 : Z1 57 963 = Z 57 963 := (up_nk hE1 rfl)
      have eq80 : Z1 57 1925 = Z 57 1925 := (up_nk hE1 rfl)
      exact mx_J.ret (sn_282 17) (fun _ _ => rfl) (hP (-2) Z1 h1 hx1 hG1 (fr_tr (M := [(56, 0), (56, 18), (57, (-1)), (61, (-1)), (63, (-1))]) fr_rf (fr_up hE1) (M1 := []) rfl rfl) ⟨(fun _ r => RTB_e r (fun i => (up_nk hE1 rfl)) (up_nk hE1 rfl)), by omega⟩)
theorem ct_282_56 {l : Launch} {D : va_G} {b0 : Nat} {ad : Nat → Nat} {Hb : Heap} {tau : Nat → Int64} {d n s : Nat} {S : Nat → xS} {Z : xZ} {h : mx_H} (hx : XH n s S Z h) (hG : GI n S Z)  {x0 : Int} (p0 : (-2147483648) ≤ x0 ∧ x0 ≤ 2147483647) : ∃ (z : Int) (Z' : xZ) (h' : mx_H), mx_Ca (tB l D b0 ad Hb tau) (d + 21) 282 [.ref 56, xI x0] h (some (xI z), h') ∧ XH n s S Z' h' ∧ GI n S Z' ∧ fr' [(56, 0), (56, 18), (57, (-1)), (61, (-1)), (63, (-1))] Z Z' ∧ ((1 ≤ Z' 57 1 → RTB Z (Z 57 1) → RTB Z' (Z' 57 1)) ∧ (-5) ≤ z ∧ z ≤ 0 ∧ (((x0 < 0 ∨ 1 < x0) → z = -2) ∧ (x0 = 0 → (Z 58 0 = 0 → z = -5) ∧ (¬ Z 58 0 = 0 → z = 0)) ∧ (x0 = 1 → (Z 58 1 = 0 → z = -5) ∧ (¬ Z 58 1 = 0 → z = 0)) ∧ Z' 57 963 = Z 57 963 ∧ Z' 57 1925 = Z 57 1925 ∧ ((x0 < 0 ∨ 1 < x0) → Z' 57 1 = Z 57 1) ∧ (x0 = 0 → (Z 58 0 = 0 → Z' 57 1 = Z 57 1) ∧ (¬ Z 58 0 = 0 → Z' 57 1 = Z 57 963)) ∧ (x0 = 1 → (Z 58 1 = 0 → Z' 57 1 = Z 57 1) ∧ (¬ Z 58 1 = 0 → Z' 57 1 = Z 57 1925)))) := by
  obtain ⟨r, hca, z, Z', h', e, q⟩ := Jmt (B := tB l D b0 ad Hb tau) (M := mt_282) (mi := 282) (as := [.ref 56, xI x0]) (d := d + 20) (ls := [some (.ref 56), some (xI x0), none]) rfl rfl rfl rfl rfl rfl (cw_282_56 (l := l) (D := D) (b0 := b0) (ad := ad) (Hb := Hb) (tau := tau) (d := d) (Post := fun r => ∃ (z : Int) (Z' : xZ) (h' : mx_H), r = (some (xI z), h') ∧ XH n s S Z' h' ∧ GI n S Z' ∧ fr' [(56, 0), (56, 18), (57, (-1)), (61, (-1)), (63, (-1))] Z Z' ∧ ((1 ≤ Z' 57 1 → RTB Z (Z 57 1) → RTB Z' (Z' 57 1)) ∧ (-5) ≤ z ∧ z ≤ 0 ∧ (((x0 < 0 ∨ 1 < x0) → z = -2) ∧ (x0 = 0 → (Z 58 0 = 0 → z = -5) ∧ (¬ Z 58 0 = 0 → z = 0)) ∧ (x0 = 1 → (Z 58 1 = 0 → z = -5) ∧ (¬ Z 58 1 = 0 → z = 0)) ∧ Z' 57 963 = Z 57 963 ∧ Z' 57 1925 = Z 57 1925 ∧ ((x0 < 0 ∨ 1 < x0) → Z' 57 1 = Z 57 1) ∧ (x0 = 0 → (Z 58 0 = 0 → Z' 57 1 = Z 57 1) ∧ (¬ Z 58 0 = 0 → Z' 57 1 = Z 57 963)) ∧ (x0 = 1 → (Z 58 1 = 0 → Z' 57 1 = Z 57 1) ∧ (¬ Z 58 1 = 0 → Z' 57 1 = Z 57 1925))))) hx hG p0 (fun z Z' h' q1 q2 q3 q4 => ⟨z, Z', h', rfl, q1, q2, q3, q4⟩))
  subst e; exact ⟨z, Z', h', hca, q⟩
set_option maxRecDepth 100000 in
theorem cw_290_4100 {l : Launch} {D : va_G} {b0 : Nat} {ad : Nat → Nat} {Hb : Heap} {tau : Nat → Int64} {d n s : Nat} {S : Nat → xS} {Z : xZ} {h : mx_H} {Post : mx_R → Prop} (hx : XH n s S Z h) (hG : GI n S Z)   (hP : ∀ z : Int, 0 ≤ z ∧ z ≤ 0 → Post (some (xI z), h)) : mx_J (tB l D b0 ad Hb tau) mt_290 (d + 0) 0 [some (.ref 4100)] [] h Post := by
    refine JcI (z := 1) (show mx_Sn _ _ 0 (mx_const (.int 1) 3) from sn_290 0) rfl ?_
    refine Jif_eq (show mx_Sn _ _ 3 (mx_if_eq 13 6) from sn_290 3) (by omega) (fun q1 => ?_) (fun q1 => ?_)
    · skip
      exfalso; omega
    · skip
      refine mx_J.step (sn_290 6) (fun _ _ => rfl) ?_
      refine Jscod (L := sb_2) (show mx_Sn _ _ 7 (mx_scod 10) from sn_290 7) rfl ?_
      refine mx_J.step (sn_290 10) (fun _ _ => rfl) ?_
      exact mx_J.ret (show mx_Sn _ _ 14 (mx_nret .byte) from sn_290 14) (fun _ _ => nr_ok_byte (by omega)) (hP 0 (by omega))
theorem ct_290_4100 {l : Launch} {D : va_G} {b0 : Nat} {ad : Nat → Nat} {Hb : Heap} {tau : Nat → Int64} {d n s : Nat} {S : Nat → xS} {Z : xZ} {h : mx_H} (hx : XH n s S Z h) (hG : GI n S Z)   : ∃ z : Int, mx_Ca (tB l D b0 ad Hb tau) (d + 1) 290 [.ref 4100] h (some (xI z), h) ∧ (0 ≤ z ∧ z ≤ 0) := by
  obtain ⟨r, hca, z, e, hp⟩ := Jmt (B := tB l D b0 ad Hb tau) (M := mt_290) (mi := 290) (as := [.ref 4100]) (d := d + 0) (ls := [some (.ref 4100)]) rfl rfl rfl rfl rfl rfl (cw_290_4100 (l := l) (D := D) (b0 := b0) (ad := ad) (Hb := Hb) (tau := tau) (d := d) (Post := fun r => ∃ z : Int, r = (some (xI z), h) ∧ (0 ≤ z ∧ z ≤ 0)) hx hG  (fun z hz => ⟨z, rfl, hz⟩))
  subst e; exact ⟨z, hca, hp⟩
set_option maxRecDepth 100000 in
theorem cw_289_4100 {l : Launch} {D : va_G} {b0 : Nat} {ad : Nat → Nat} {Hb : Heap} {tau : Nat → Int64} {d n s : Nat} {S : Nat → xS} {Z : xZ} {h : mx_H} {Post : mx_R → Prop} (hx : XH n s S Z h) (hG : GI n S Z)   (hP : ∀ z : Int, 1 ≤ z ∧ z ≤ 1 → Post (some (xI z), h)) : mx_J (tB l D b0 ad Hb tau) mt_289 (d + 0) 0 [some (.ref 4100)] [] h Post := by
    refine JcI (z := 1) (show mx_Sn _ _ 0 (mx_const (.int 1) 3) from sn_289 0) rfl ?_
    refine Jif_eq (show mx_Sn _ _ 3 (mx_if_eq 17 6) from sn_289 3) (by omega) (fun q1 => ?_) (fun q1 => ?_)
    · skip
      exfalso; omega
    · skip
      refine mx_J.step (sn_289 6) (fun _ _ => rfl) ?_
      refine Jscod (L := sb_2) (show mx_Sn _ _ 7 (mx_scod 10) from sn_289 7) rfl ?_
      refine Jif_ne (show mx_Sn _ _ 10 (mx_if_ne 17 13) from sn_289 10) (by omega) (fun q2 => ?_) (fun q2 => ?_)
      · skip
        exfalso; omega
      · skip
        refine JcI (z := 1) (show mx_Sn _ _ 13 (mx_const (.int 1) 14) from sn_289 13) rfl ?_
        refine mx_J.step (sn_289 14) (fun _ _ => rfl) ?_
        exact mx_J.ret (show mx_Sn _ _ 18 (mx_zret) from sn_289 18) (fun _ _ => zr_ok (by omega)) (hP 1 (by omega))
theorem ct_289_4100 {l : Launch} {D : va_G} {b0 : Nat} {ad : Nat → Nat} {Hb : Heap} {tau : Nat → Int64} {d n s : Nat} {S : Nat → xS} {Z : xZ} {h : mx_H} (hx : XH n s S Z h) (hG : GI n S Z)   : ∃ z : Int, mx_Ca (tB l D b0 ad Hb tau) (d + 1) 289 [.ref 4100] h (some (xI z), h) ∧ (1 ≤ z ∧ z ≤ 1) := by
  obtain ⟨r, hca, z, e, hp⟩ := Jmt (B := tB l D b0 ad Hb tau) (M := mt_289) (mi := 289) (as := [.ref 4100]) (d := d + 0) (ls := [some (.ref 4100)]) rfl rfl rfl rfl rfl rfl (cw_289_4100 (l := l) (D := D) (b0 := b0) (ad := ad) (Hb := Hb) (tau := tau) (d := d) (Post := fun r => ∃ z : Int, r = (some (xI z), h) ∧ (1 ≤ z ∧ z ≤ 1)) hx hG  (fun z hz => ⟨z, rfl, hz⟩))
  subst e; exact ⟨z, hca, hp⟩
set_option maxRecDepth 100000 in
theorem cw_291_4100 {l : Launch} {D : va_G} {b0 : Nat} {ad : Nat → Nat} {Hb : Heap} {tau : Nat → Int64} {d n s : Nat} {S : Nat → xS} {Z : xZ} {h : mx_H} {Post : mx_R → Prop} (hx : XH n s S Z h) (hG : GI n S Z)   (hP : ∀ z : Int, 77 ≤ z ∧ z ≤ 77 → Post (some (xI z), h)) : mx_J (tB l D b0 ad Hb tau) mt_291 (d + 1) 0 [some (.ref 4100)] [] h Post := by
    refine mx_J.step (sn_291 0) (fun _ _ => rfl) ?_
    refine mx_J.step (sn_291 1) (fun _ _ => rfl) ?_
    refine Jsalen (L := sb_2) (z := 77) (show mx_Sn _ _ 4 (mx_salen 5) from sn_291 4) rfl rfl ?_
    refine mx_J.step (sn_291 5) (fun _ _ => rfl) ?_
    obtain ⟨z1, hc1, b1⟩ := ct_290_4100 (d := d + 0) (l := l) (D := D) (b0 := b0) (ad := ad) (Hb := Hb) (tau := tau) hx hG 
    refine Jck (show mx_Sn _ _ 6 (mx_callk 290 1 9) from sn_291 6) rfl hc1 rfl rfl rfl ?_
    refine Jishr0 (show mx_Sn _ _ 9 (mx_ishr 10) from sn_291 9) (by omega) ?_
    exact mx_J.ret (sn_291 10) (fun _ _ => rfl) (hP 77 (by omega))
theorem ct_291_4100 {l : Launch} {D : va_G} {b0 : Nat} {ad : Nat → Nat} {Hb : Heap} {tau : Nat → Int64} {d n s : Nat} {S : Nat → xS} {Z : xZ} {h : mx_H} (hx : XH n s S Z h) (hG : GI n S Z)   : ∃ z : Int, mx_Ca (tB l D b0 ad Hb tau) (d + 2) 291 [.ref 4100] h (some (xI z), h) ∧ (77 ≤ z ∧ z ≤ 77) := by
  obtain ⟨r, hca, z, e, hp⟩ := Jmt (B := tB l D b0 ad Hb tau) (M := mt_291) (mi := 291) (as := [.ref 4100]) (d := d + 1) (ls := [some (.ref 4100)]) rfl rfl rfl rfl rfl rfl (cw_291_4100 (l := l) (D := D) (b0 := b0) (ad := ad) (Hb := Hb) (tau := tau) (d := d) (Post := fun r => ∃ z : Int, r = (some (xI z), h) ∧ (77 ≤ z ∧ z ≤ 77)) hx hG  (fun z hz => ⟨z, rfl, hz⟩))
  subst e; exact ⟨z, hca, hp⟩
set_option maxRecDepth 100000 in
theorem cw_288_4101 {l : Launch} {D : va_G} {b0 : Nat} {ad : Nat → Nat} {Hb : Heap} {tau : Nat → Int64} {d n s : Nat} {S : Nat → xS} {Z : xZ} {h : mx_H} {Post : mx_R → Prop} (hx : XH n s S Z h) (hG : GI n S Z)  {x0 : Int} (p0 : 0 ≤ x0 ∧ x0 ≤ 76) (hP : ∀ z : Int, 32 ≤ z ∧ z ≤ 122 ∧ z = cw2 x0 ∧ (z = 32 ∨ x0 ≤ 75) → Post (some (xI z), h)) : mx_J (tB l D b0 ad Hb tau) mt_288 (d + 2) 0 [some (.ref 4101), some (xI x0)] [] h Post := by
    refine mx_J.step (sn_288 0) (fun _ _ => rfl) ?_
    refine mx_J.step (sn_288 1) (fun _ _ => rfl) ?_
    refine Jsalen (L := sb_2) (z := 77) (show mx_Sn _ _ 2 (mx_salen 3) from sn_288 2) rfl rfl ?_
    have hc1 := ct_287_ (d := d + 0) (l := l) (D := D) (b0 := b0) (ad := ad) (Hb := Hb) (tau := tau) hx hG (show 0 ≤ x0 ∧ x0 ≤ 100 by omega) (show 0 ≤ 77 ∧ 77 ≤ 100 by omega) (show x0 < 77 by omega)
    refine Jcs0 (show mx_Sn _ _ 3 (mx_calls 287 2 6) from sn_288 3) hc1 rfl rfl rfl ?_
    refine mx_J.step (sn_288 6) (fun _ _ => rfl) ?_
    refine mx_J.step (sn_288 7) (fun _ _ => rfl) ?_
    refine Jsw_2 (show mx_Sn _ _ 8 (mx_sbald 9) from sn_288 8) rfl (by omega) (fun hy2 => ?_)
    refine JcI (z := 255) (show mx_Sn _ _ 9 (mx_const (.int 255) 12) from sn_288 9) rfl ?_
    refine JiandM (q := 256) 8 (show mx_Sn _ _ 12 (mx_iand 13) from sn_288 12) rfl rfl rfl ?_
    refine Ji2c (show mx_Sn _ _ 13 (mx_i2c 14) from sn_288 13) (by omega) ?_
    exact mx_J.ret (show mx_Sn _ _ 14 (mx_nret .char) from sn_288 14) (fun _ _ => nr_ok_char (by omega)) (hP ((cw2 x0) % 256) (by omega))
theorem ct_288_4101 {l : Launch} {D : va_G} {b0 : Nat} {ad : Nat → Nat} {Hb : Heap} {tau : Nat → Int64} {d n s : Nat} {S : Nat → xS} {Z : xZ} {h : mx_H} (hx : XH n s S Z h) (hG : GI n S Z)  {x0 : Int} (p0 : 0 ≤ x0 ∧ x0 ≤ 76) : ∃ z : Int, mx_Ca (tB l D b0 ad Hb tau) (d + 3) 288 [.ref 4101, xI x0] h (some (xI z), h) ∧ (32 ≤ z ∧ z ≤ 122 ∧ z = cw2 x0 ∧ (z = 32 ∨ x0 ≤ 75)) := by
  obtain ⟨r, hca, z, e, hp⟩ := Jmt (B := tB l D b0 ad Hb tau) (M := mt_288) (mi := 288) (as := [.ref 4101, xI x0]) (d := d + 2) (ls := [some (.ref 4101), some (xI x0)]) rfl rfl rfl rfl rfl rfl (cw_288_4101 (l := l) (D := D) (b0 := b0) (ad := ad) (Hb := Hb) (tau := tau) (d := d) (Post := fun r => ∃ z : Int, r = (some (xI z), h) ∧ (32 ≤ z ∧ z ≤ 122 ∧ z = cw2 x0 ∧ (z = 32 ∨ x0 ≤ 75))) hx hG p0 (fun z hz => ⟨z, rfl, hz⟩))
  subst e; exact ⟨z, hca, hp⟩
set_option maxRecDepth 100000 in
theorem cw_292_4100 {l : Launch} {D : va_G} {b0 : Nat} {ad : Nat → Nat} {Hb : Heap} {tau : Nat → Int64} {d n s : Nat} {S : Nat → xS} {Z : xZ} {h : mx_H} {Post : mx_R → Prop} (hx : XH n s S Z h) (hG : GI n S Z)  {x0 : Int} (p0 : 0 ≤ x0 ∧ x0 ≤ 76) (hP : ∀ z : Int, 32 ≤ z ∧ z ≤ 122 ∧ z = cw2 x0 ∧ (z = 32 ∨ x0 ≤ 75) → Post (some (xI z), h)) : mx_J (tB l D b0 ad Hb tau) mt_292 (d + 3) 0 [some (.ref 4100), some (xI x0)] [] h Post := by
    refine mx_J.step (sn_292 0) (fun _ _ => rfl) ?_
    obtain ⟨z1, hc1, b1⟩ := ct_289_4100 (d := d + 2) (l := l) (D := D) (b0 := b0) (ad := ad) (Hb := Hb) (tau := tau) hx hG 
    refine Jck (show mx_Sn _ _ 1 (mx_callk 289 1 4) from sn_292 1) rfl hc1 rfl rfl rfl ?_
    refine Jif_eq (show mx_Sn _ _ 4 (mx_if_eq 16 7) from sn_292 4) (by omega) (fun q2 => ?_) (fun q2 => ?_)
    · skip
      exfalso; omega
    · skip
      refine mx_J.step (sn_292 7) (fun _ _ => rfl) ?_
      refine mx_J.step (sn_292 8) (fun _ _ => rfl) ?_
      refine mx_J.step (sn_292 11) (fun _ _ => rfl) ?_
      obtain ⟨z3, hc3, b3⟩ := ct_288_4101 (d := d + 0) (l := l) (D := D) (b0 := b0) (ad := ad) (Hb := Hb) (tau := tau) hx hG (show 0 ≤ x0 ∧ x0 ≤ 76 by omega)
      refine Jcs (show mx_Sn _ _ 12 (mx_calls 288 2 15) from sn_292 12) hc3 rfl rfl rfl ?_
      exact mx_J.ret (show mx_Sn _ _ 15 (mx_nret .char) from sn_292 15) (fun _ _ => nr_ok_char (by omega)) (hP z3 (by omega))
theorem ct_292_4100 {l : Launch} {D : va_G} {b0 : Nat} {ad : Nat → Nat} {Hb : Heap} {tau : Nat → Int64} {d n s : Nat} {S : Nat → xS} {Z : xZ} {h : mx_H} (hx : XH n s S Z h) (hG : GI n S Z)  {x0 : Int} (p0 : 0 ≤ x0 ∧ x0 ≤ 76) : ∃ z : Int, mx_Ca (tB l D b0 ad Hb tau) (d + 4) 292 [.ref 4100, xI x0] h (some (xI z), h) ∧ (32 ≤ z ∧ z ≤ 122 ∧ z = cw2 x0 ∧ (z = 32 ∨ x0 ≤ 75)) := by
  obtain ⟨r, hca, z, e, hp⟩ := Jmt (B := tB l D b0 ad Hb tau) (M := mt_292) (mi := 292) (as := [.ref 4100, xI x0]) (d := d + 3) (ls := [some (.ref 4100), some (xI x0)]) rfl rfl rfl rfl rfl rfl (cw_292_4100 (l := l) (D := D) (b0 := b0) (ad := ad) (Hb := Hb) (tau := tau) (d := d) (Post := fun r => ∃ z : Int, r = (some (xI z), h) ∧ (32 ≤ z ∧ z ≤ 122 ∧ z = cw2 x0 ∧ (z = 32 ∨ x0 ≤ 75))) hx hG p0 (fun z hz => ⟨z, rfl, hz⟩))
  subst e; exact ⟨z, hca, hp⟩
set_option maxRecDepth 100000 in
theorem cw_290_4102 {l : Launch} {D : va_G} {b0 : Nat} {ad : Nat → Nat} {Hb : Heap} {tau : Nat → Int64} {d n s : Nat} {S : Nat → xS} {Z : xZ} {h : mx_H} {Post : mx_R → Prop} (hx : XH n s S Z h) (hG : GI n S Z)   (hP : ∀ z : Int, 0 ≤ z ∧ z ≤ 0 → Post (some (xI z), h)) : mx_J (tB l D b0 ad Hb tau) mt_290 (d + 0) 0 [some (.ref 4102)] [] h Post := by
    refine JcI (z := 1) (show mx_Sn _ _ 0 (mx_const (.int 1) 3) from sn_290 0) rfl ?_
    refine Jif_eq (show mx_Sn _ _ 3 (mx_if_eq 13 6) from sn_290 3) (by omega) (fun q1 => ?_) (fun q1 => ?_)
    · skip
      exfalso; omega
    · skip
      refine mx_J.step (sn_290 6) (fun _ _ => rfl) ?_
      refine Jscod (L := sb_1) (show mx_Sn _ _ 7 (mx_scod 10) from sn_290 7) rfl ?_
      refine mx_J.step (sn_290 10) (fun _ _ => rfl) ?_
      exact mx_J.ret (show mx_Sn _ _ 14 (mx_nret .byte) from sn_290 14) (fun _ _ => nr_ok_byte (by omega)) (hP 0 (by omega))
theorem ct_290_4102 {l : Launch} {D : va_G} {b0 : Nat} {ad : Nat → Nat} {Hb : Heap} {tau : Nat → Int64} {d n s : Nat} {S : Nat → xS} {Z : xZ} {h : mx_H} (hx : XH n s S Z h) (hG : GI n S Z)   : ∃ z : Int, mx_Ca (tB l D b0 ad Hb tau) (d + 1) 290 [.ref 4102] h (some (xI z), h) ∧ (0 ≤ z ∧ z ≤ 0) := by
  obtain ⟨r, hca, z, e, hp⟩ := Jmt (B := tB l D b0 ad Hb tau) (M := mt_290) (mi := 290) (as := [.ref 4102]) (d := d + 0) (ls := [some (.ref 4102)]) rfl rfl rfl rfl rfl rfl (cw_290_4102 (l := l) (D := D) (b0 := b0) (ad := ad) (Hb := Hb) (tau := tau) (d := d) (Post := fun r => ∃ z : Int, r = (some (xI z), h) ∧ (0 ≤ z ∧ z ≤ 0)) hx hG  (fun z hz => ⟨z, rfl, hz⟩))
  subst e; exact ⟨z, hca, hp⟩
set_option maxRecDepth 100000 in
theorem cw_289_4102 {l : Launch} {D : va_G} {b0 : Nat} {ad : Nat → Nat} {Hb : Heap} {tau : Nat → Int64} {d n s : Nat} {S : Nat → xS} {Z : xZ} {h : mx_H} {Post : mx_R → Prop} (hx : XH n s S Z h) (hG : GI n S Z)   (hP : ∀ z : Int, 1 ≤ z ∧ z ≤ 1 → Post (some (xI z), h)) : mx_J (tB l D b0 ad Hb tau) mt_289 (d + 0) 0 [some (.ref 4102)] [] h Post := by
    refine JcI (z := 1) (show mx_Sn _ _ 0 (mx_const (.int 1) 3) from sn_289 0) rfl ?_
    refine Jif_eq (show mx_Sn _ _ 3 (mx_if_eq 17 6) from sn_289 3) (by omega) (fun q1 => ?_) (fun q1 => ?_)
    · skip
      exfalso; omega
    · skip
      refine mx_J.step (sn_289 6) (fun _ _ => rfl) ?_
      refine Jscod (L := sb_1) (show mx_Sn _ _ 7 (mx_scod 10) from sn_289 7) rfl ?_
      refine Jif_ne (show mx_Sn _ _ 10 (mx_if_ne 17 13) from sn_289 10) (by omega) (fun q2 => ?_) (fun q2 => ?_)
      · skip
        exfalso; omega
      · skip
        refine JcI (z := 1) (show mx_Sn _ _ 13 (mx_const (.int 1) 14) from sn_289 13) rfl ?_
        refine mx_J.step (sn_289 14) (fun _ _ => rfl) ?_
        exact mx_J.ret (show mx_Sn _ _ 18 (mx_zret) from sn_289 18) (fun _ _ => zr_ok (by omega)) (hP 1 (by omega))
theorem ct_289_4102 {l : Launch} {D : va_G} {b0 : Nat} {ad : Nat → Nat} {Hb : Heap} {tau : Nat → Int64} {d n s : Nat} {S : Nat → xS} {Z : xZ} {h : mx_H} (hx : XH n s S Z h) (hG : GI n S Z)   : ∃ z : Int, mx_Ca (tB l D b0 ad Hb tau) (d + 1) 289 [.ref 4102] h (some (xI z), h) ∧ (1 ≤ z ∧ z ≤ 1) := by
  obtain ⟨r, hca, z, e, hp⟩ := Jmt (B := tB l D b0 ad Hb tau) (M := mt_289) (mi := 289) (as := [.ref 4102]) (d := d + 0) (ls := [some (.ref 4102)]) rfl rfl rfl rfl rfl rfl (cw_289_4102 (l := l) (D := D) (b0 := b0) (ad := ad) (Hb := Hb) (tau := tau) (d := d) (Post := fun r => ∃ z : Int, r = (some (xI z), h) ∧ (1 ≤ z ∧ z ≤ 1)) hx hG  (fun z hz => ⟨z, rfl, hz⟩))
  subst e; exact ⟨z, hca, hp⟩
set_option maxRecDepth 100000 in
theorem cw_291_4102 {l : Launch} {D : va_G} {b0 : Nat} {ad : Nat → Nat} {Hb : Heap} {tau : Nat → Int64} {d n s : Nat} {S : Nat → xS} {Z : xZ} {h : mx_H} {Post : mx_R → Prop} (hx : XH n s S Z h) (hG : GI n S Z)   (hP : ∀ z : Int, 12 ≤ z ∧ z ≤ 12 → Post (some (xI z), h)) : mx_J (tB l D b0 ad Hb tau) mt_291 (d + 1) 0 [some (.ref 4102)] [] h Post := by
    refine mx_J.step (sn_291 0) (fun _ _ => rfl) ?_
    refine mx_J.step (sn_291 1) (fun _ _ => rfl) ?_
    refine Jsalen (L := sb_1) (z := 12) (show mx_Sn _ _ 4 (mx_salen 5) from sn_291 4) rfl rfl ?_
    refine mx_J.step (sn_291 5) (fun _ _ => rfl) ?_
    obtain ⟨z1, hc1, b1⟩ := ct_290_4102 (d := d + 0) (l := l) (D := D) (b0 := b0) (ad := ad) (Hb := Hb) (tau := tau) hx hG 
    refine Jck (show mx_Sn _ _ 6 (mx_callk 290 1 9) from sn_291 6) rfl hc1 rfl rfl rfl ?_
    refine Jishr0 (show mx_Sn _ _ 9 (mx_ishr 10) from sn_291 9) (by omega) ?_
    exact mx_J.ret (sn_291 10) (fun _ _ => rfl) (hP 12 (by omega))
theorem ct_291_4102 {l : Launch} {D : va_G} {b0 : Nat} {ad : Nat → Nat} {Hb : Heap} {tau : Nat → Int64} {d n s : Nat} {S : Nat → xS} {Z : xZ} {h : mx_H} (hx : XH n s S Z h) (hG : GI n S Z)   : ∃ z : Int, mx_Ca (tB l D b0 ad Hb tau) (d + 2) 291 [.ref 4102] h (some (xI z), h) ∧ (12 ≤ z ∧ z ≤ 12) := by
  obtain ⟨r, hca, z, e, hp⟩ := Jmt (B := tB l D b0 ad Hb tau) (M := mt_291) (mi := 291) (as := [.ref 4102]) (d := d + 1) (ls := [some (.ref 4102)]) rfl rfl rfl rfl rfl rfl (cw_291_4102 (l := l) (D := D) (b0 := b0) (ad := ad) (Hb := Hb) (tau := tau) (d := d) (Post := fun r => ∃ z : Int, r = (some (xI z), h) ∧ (12 ≤ z ∧ z ≤ 12)) hx hG  (fun z hz => ⟨z, rfl, hz⟩))
  subst e; exact ⟨z, hca, hp⟩
set_option maxRecDepth 100000 in
theorem cw_288_4103 {l : Launch} {D : va_G} {b0 : Nat} {ad : Nat → Nat} {Hb : Heap} {tau : Nat → Int64} {d n s : Nat} {S : Nat → xS} {Z : xZ} {h : mx_H} {Post : mx_R → Prop} (hx : XH n s S Z h) (hG : GI n S Z)  {x0 : Int} (p0 : 0 ≤ x0 ∧ x0 ≤ 11) (hP : ∀ z : Int, 32 ≤ z ∧ z ≤ 122 ∧ z = cw1 x0 → Post (some (xI z), h)) : mx_J (tB l D b0 ad Hb tau) mt_288 (d + 2) 0 [some (.ref 4103), some (xI x0)] [] h Post := by
    refine mx_J.step (sn_288 0) (fun _ _ => rfl) ?_
    refine mx_J.step (sn_288 1) (fun _ _ => rfl) ?_
    refine Jsalen (L := sb_1) (z := 12) (show mx_Sn _ _ 2 (mx_salen 3) from sn_288 2) rfl rfl ?_
    have hc1 := ct_287_ (d := d + 0) (l := l) (D := D) (b0 := b0) (ad := ad) (Hb := Hb) (tau := tau) hx hG (show 0 ≤ x0 ∧ x0 ≤ 100 by omega) (show 0 ≤ 12 ∧ 12 ≤ 100 by omega) (show x0 < 12 by omega)
    refine Jcs0 (show mx_Sn _ _ 3 (mx_calls 287 2 6) from sn_288 3) hc1 rfl rfl rfl ?_
    refine mx_J.step (sn_288 6) (fun _ _ => rfl) ?_
    refine mx_J.step (sn_288 7) (fun _ _ => rfl) ?_
    refine Jsw_1 (show mx_Sn _ _ 8 (mx_sbald 9) from sn_288 8) rfl (by omega) (fun hy2 => ?_)
    refine JcI (z := 255) (show mx_Sn _ _ 9 (mx_const (.int 255) 12) from sn_288 9) rfl ?_
    refine JiandM (q := 256) 8 (show mx_Sn _ _ 12 (mx_iand 13) from sn_288 12) rfl rfl rfl ?_
    refine Ji2c (show mx_Sn _ _ 13 (mx_i2c 14) from sn_288 13) (by omega) ?_
    exact mx_J.ret (show mx_Sn _ _ 14 (mx_nret .char) from sn_288 14) (fun _ _ => nr_ok_char (by omega)) (hP ((cw1 x0) % 256) (by omega))
theorem ct_288_4103 {l : Launch} {D : va_G} {b0 : Nat} {ad : Nat → Nat} {Hb : Heap} {tau : Nat → Int64} {d n s : Nat} {S : Nat → xS} {Z : xZ} {h : mx_H} (hx : XH n s S Z h) (hG : GI n S Z)  {x0 : Int} (p0 : 0 ≤ x0 ∧ x0 ≤ 11) : ∃ z : Int, mx_Ca (tB l D b0 ad Hb tau) (d + 3) 288 [.ref 4103, xI x0] h (some (xI z), h) ∧ (32 ≤ z ∧ z ≤ 122 ∧ z = cw1 x0) := by
  obtain ⟨r, hca, z, e, hp⟩ := Jmt (B := tB l D b0 ad Hb tau) (M := mt_288) (mi := 288) (as := [.ref 4103, xI x0]) (d := d + 2) (ls := [some (.ref 4103), some (xI x0)]) rfl rfl rfl rfl rfl rfl (cw_288_4103 (l := l) (D := D) (b0 := b0) (ad := ad) (Hb := Hb) (tau := tau) (d := d) (Post := fun r => ∃ z : Int, r = (some (xI z), h) ∧ (32 ≤ z ∧ z ≤ 122 ∧ z = cw1 x0)) hx hG p0 (fun z hz => ⟨z, rfl, hz⟩))
  subst e; exact ⟨z, hca, hp⟩
set_option maxRecDepth 100000 in
theorem cw_292_4102 {l : Launch} {D : va_G} {b0 : Nat} {ad : Nat → Nat} {Hb : Heap} {tau : Nat → Int64} {d n s : Nat} {S : Nat → xS} {Z : xZ} {h : mx_H} {Post : mx_R → Prop} (hx : XH n s S Z h) (hG : GI n S Z)  {x0 : Int} (p0 : 0 ≤ x0 ∧ x0 ≤ 11) (hP : ∀ z : Int, 32 ≤ z ∧ z ≤ 122 ∧ z = cw1 x0 → Post (some (xI z), h)) : mx_J (tB l D b0 ad Hb tau) mt_292 (d + 3) 0 [some (.ref 4102), some (xI x0)] [] h Post := by
    refine mx_J.step (sn_292 0) (fun _ _ => rfl) ?_
    obtain ⟨z1, hc1, b1⟩ := ct_289_4102 (d := d + 2) (l := l) (D := D) (b0 := b0) (ad := ad) (Hb := Hb) (tau := tau) hx hG 
    refine Jck (show mx_Sn _ _ 1 (mx_callk 289 1 4) from sn_292 1) rfl hc1 rfl rfl rfl ?_
    refine Jif_eq (show mx_Sn _ _ 4 (mx_if_eq 16 7) from sn_292 4) (by omega) (fun q2 => ?_) (fun q2 => ?_)
    · skip
      exfalso; omega
    · skip
      refine mx_J.step (sn_292 7) (fun _ _ => rfl) ?_
      refine mx_J.step (sn_292 8) (fun _ _ => rfl) ?_
      refine mx_J.step (sn_292 11) (fun _ _ => rfl) ?_
      obtain ⟨z3, hc3, b3⟩ := ct_288_4103 (d := d + 0) (l := l) (D := D) (b0 := b0) (ad := ad) (Hb := Hb) (tau := tau) hx hG (show 0 ≤ x0 ∧ x0 ≤ 11 by omega)
      refine Jcs (show mx_Sn _ _ 12 (mx_calls 288 2 15) from sn_292 12) hc3 rfl rfl rfl ?_
      exact mx_J.ret (show mx_Sn _ _ 15 (mx_nret .char) from sn_292 15) (fun _ _ => nr_ok_char (by omega)) (hP z3 (by omega))
theorem ct_292_4102 {l : Launch} {D : va_G} {b0 : Nat} {ad : Nat → Nat} {Hb : Heap} {tau : Nat → Int64} {d n s : Nat} {S : Nat → xS} {Z : xZ} {h : mx_H} (hx : XH n s S Z h) (hG : GI n S Z)  {x0 : Int} (p0 : 0 ≤ x0 ∧ x0 ≤ 11) : ∃ z : Int, mx_Ca (tB l D b0 ad Hb tau) (d + 4) 292 [.ref 4102, xI x0] h (some (xI z), h) ∧ (32 ≤ z ∧ z ≤ 122 ∧ z = cw1 x0) := by
  obtain ⟨r, hca, z, e, hp⟩ := Jmt (B := tB l D b0 ad Hb tau) (M := mt_292) (mi := 292) (as := [.ref 4102, xI x0]) (d := d + 3) (ls := [some (.ref 4102), some (xI x0)]) rfl rfl rfl rfl rfl rfl (cw_292_4102 (l := l) (D := D) (b0 := b0) (ad := ad) (Hb := Hb) (tau := tau) (d := d) (Post := fun r => ∃ z : Int, r = (some (xI z), h) ∧ (32 ≤ z ∧ z ≤ 122 ∧ z = cw1 x0)) hx hG p0 (fun z hz => ⟨z, rfl, hz⟩))
  subst e; exact ⟨z, hca, hp⟩
set_option maxRecDepth 100000 in
theorem cw_158_56 {l : Launch} {D : va_G} {b0 : Nat} {ad : Nat → Nat} {Hb : Heap} {tau : Nat → Int64} {d n s : Nat} {S : Nat → xS} {Z : xZ} {h : mx_H} {Post : mx_R → Prop} (hx : XH n s S Z h) (hG : GI n S Z)  {x0 : Int} (p0 : 0 ≤ x0 ∧ x0 ≤ 901) (hP : ∀ z : Int, (-1) ≤ z ∧ z ≤ 255 ∧ ((x0 < Z 56 8 → z = Z 59 x0) ∧ (Z 56 8 ≤ x0 → z = -1)) → Post (some (xI z), h)) : mx_J (tB l D b0 ad Hb tau) mt_158 (d + 0) 0 [some (.ref 56), some (xI x0)] [] h Post := by
    have a56 : 56 < n := lt83 (GI_n hG) rfl
    have s56 : S 56 = .inl (12, [0, 2, 2, 2, 2, 0, 0, 0, 0, 0, 0, 0, 0, 0, 0, 2, 2, 2, 0, 2, 2, 2, 0, 0, 2, 2, 2, 2, 2, 2, 0, 0, 2, 2, 2, 2, 2, 2, 2, 2, 2, 2]) := GI_s hG 56 rfl
    have a59 : 59 < n := lt83 (GI_n hG) rfl
    have s59 : S 59 = .inr (.int, 900, 0) := GI_s hG 59 rfl
    refine mx_J.step (sn_158 0) (fun _ _ => rfl) ?_
    refine mx_J.step (sn_158 1) (fun _ _ => rfl) ?_
    have b2 : 0 ≤ Z 56 8 ∧ Z 56 8 ≤ 900 := hG.pr 56 8
    refine JgetI (g := 8) (z := Z 56 8) hx (show mx_Sn _ _ 2 (mx_getf 12 8 5) from sn_158 2) a56 s56 rfl rfl rfl ?_
    have c18 : ∀ (k3_0 : Int), (-1) ≤ k3_0 ∧ k3_0 ≤ 255 → ((x0 < Z 56 8 → k3_0 = Z 59 x0) ∧ (Z 56 8 ≤ x0 → k3_0 = -1)) → mx_J (tB l D b0 ad Hb tau) mt_158 (d + 0) 18 [some (.ref 56), some (xI x0)] [xI k3_0] h Post := by
      intro k3_0 f3_0 f3_1
      have b4 : 0 ≤ Z 59 x0 ∧ Z 59 x0 ≤ 255 := hG.pr 59 x0
      exact mx_J.ret (sn_158 18) (fun _ _ => rfl) (hP k3_0 (by omega))
    refine Jicmp_ge (show mx_Sn _ _ 5 (mx_icmp_ge 17 8) from sn_158 5) (by omega) (by omega) (fun q5 => ?_) (fun q5 => ?_)
    · skip
      refine JcI (z := (-1)) (show mx_Sn _ _ 17 (mx_const (.int (-1)) 18) from sn_158 17) rfl ?_
      exact c18 (-1) (by omega) (by omega)
    · skip
      refine mx_J.step (sn_158 8) (fun _ _ => rfl) ?_
      refine JgetR (g := 3) (b := 59) hx (show mx_Sn _ _ 9 (mx_getf 12 3 12) from sn_158 9) a56 s56 rfl rfl (hG.prr 56 3 rfl) ?_
      refine mx_J.step (sn_158 12) (fun _ _ => rfl) ?_
      have b7 : 0 ≤ Z 59 x0 ∧ Z 59 x0 ≤ 255 := hG.pr 59 x0
      refine JialdI (z := Z 59 x0) hx (show mx_Sn _ _ 13 (mx_iald 14) from sn_158 13) a59 s59 (by omega) rfl ?_
      refine mx_J.step (sn_158 14) (fun _ _ => rfl) ?_
      exact c18 (Z 59 x0) (by omega) (by omega)
theorem ct_158_56 {l : Launch} {D : va_G} {b0 : Nat} {ad : Nat → Nat} {Hb : Heap} {tau : Nat → Int64} {d n s : Nat} {S : Nat → xS} {Z : xZ} {h : mx_H} (hx : XH n s S Z h) (hG : GI n S Z)  {x0 : Int} (p0 : 0 ≤ x0 ∧ x0 ≤ 901) : ∃ z : Int, mx_Ca (tB l D b0 ad Hb tau) (d + 1) 158 [.ref 56, xI x0] h (some (xI z), h) ∧ ((-1) ≤ z ∧ z ≤ 255 ∧ ((x0 < Z 56 8 → z = Z 59 x0) ∧ (Z 56 8 ≤ x0 → z = -1))) := by
  obtain ⟨r, hca, z, e, hp⟩ := Jmt (B := tB l D b0 ad Hb tau) (M := mt_158) (mi := 158) (as := [.ref 56, xI x0]) (d := d + 0) (ls := [some (.ref 56), some (xI x0)]) rfl rfl rfl rfl rfl rfl (cw_158_56 (l := l) (D := D) (b0 := b0) (ad := ad) (Hb := Hb) (tau := tau) (d := d) (Post := fun r => ∃ z : Int, r = (some (xI z), h) ∧ ((-1) ≤ z ∧ z ≤ 255 ∧ ((x0 < Z 56 8 → z = Z 59 x0) ∧ (Z 56 8 ≤ x0 → z = -1)))) hx hG p0 (fun z hz => ⟨z, rfl, hz⟩))
  subst e; exact ⟨z, hca, hp⟩
set_option maxRecDepth 100000 in
theorem cw_159_ {l : Launch} {D : va_G} {b0 : Nat} {ad : Nat → Nat} {Hb : Heap} {tau : Nat → Int64} {d n s : Nat} {S : Nat → xS} {Z : xZ} {h : mx_H} {Post : mx_R → Prop} (hx : XH n s S Z h) (hG : GI n S Z)  {x0 : Int} (p0 : (-2147483648) ≤ x0 ∧ x0 ≤ 2147483647) (hP : ∀ z : Int, 0 ≤ z ∧ z ≤ 1 ∧ ((z = 1 ∧ 97 ≤ x0 ∧ x0 ≤ 122) ∨ (z = 0 ∧ ¬ (97 ≤ x0 ∧ x0 ≤ 122))) → Post (some (xI z), h)) : mx_J (tB l D b0 ad Hb tau) mt_159 (d + 0) 0 [some (xI x0)] [] h Post := by
    refine mx_J.step (sn_159 0) (fun _ _ => rfl) ?_
    refine JcI (z := 97) (show mx_Sn _ _ 1 (mx_const (.int 97) 3) from sn_159 1) rfl ?_
    have c17 : ∀ (k1_0 : Int), 0 ≤ k1_0 ∧ k1_0 ≤ 1 → ((k1_0 = 1 ∧ 97 ≤ x0 ∧ x0 ≤ 122) ∨ (k1_0 = 0 ∧ ¬ (97 ≤ x0 ∧ x0 ≤ 122))) → mx_J (tB l D b0 ad Hb tau) mt_159 (d + 0) 17 [some (xI x0)] [xI k1_0] h Post := by
      intro k1_0 f1_0 f1_1
      exact mx_J.ret (show mx_Sn _ _ 17 (mx_zret) from sn_159 17) (fun _ _ => zr_ok (by omega)) (hP k1_0 (by omega))
    have c16 : ¬ (97 ≤ x0 ∧ x0 ≤ 122) → mx_J (tB l D b0 ad Hb tau) mt_159 (d + 0) 16 [some (xI x0)] [] h Post := by
      intro f2_0
      refine JcI (z := 0) (show mx_Sn _ _ 16 (mx_const (.int 0) 17) from sn_159 16) rfl ?_
      exact c17 0 (by omega) (by omega)
    refine Jicmp_lt (show mx_Sn _ _ 3 (mx_icmp_lt 16 6) from sn_159 3) (by omega) (by omega) (fun q3 => ?_) (fun q3 => ?_)
    · skip
      exact c16 (by omega)
    · skip
      refine mx_J.step (sn_159 6) (fun _ _ => rfl) ?_
      refine JcI (z := 122) (show mx_Sn _ _ 7 (mx_const (.int 122) 9) from sn_159 7) rfl ?_
      refine Jicmp_gt (show mx_Sn _ _ 9 (mx_icmp_gt 16 12) from sn_159 9) (by omega) (by omega) (fun q4 => ?_) (fun q4 => ?_)
      · skip
        exact c16 (by omega)
      · skip
        refine JcI (z := 1) (show mx_Sn _ _ 12 (mx_const (.int 1) 13) from sn_159 12) rfl ?_
        refine mx_J.step (sn_159 13) (fun _ _ => rfl) ?_
        exact c17 1 (by omega) (by omega)
theorem ct_159_ {l : Launch} {D : va_G} {b0 : Nat} {ad : Nat → Nat} {Hb : Heap} {tau : Nat → Int64} {d n s : Nat} {S : Nat → xS} {Z : xZ} {h : mx_H} (hx : XH n s S Z h) (hG : GI n S Z)  {x0 : Int} (p0 : (-2147483648) ≤ x0 ∧ x0 ≤ 2147483647) : ∃ z : Int, mx_Ca (tB l D b0 ad Hb tau) (d + 1) 159 [xI x0] h (some (xI z), h) ∧ (0 ≤ z ∧ z ≤ 1 ∧ ((z = 1 ∧ 97 ≤ x0 ∧ x0 ≤ 122) ∨ (z = 0 ∧ ¬ (97 ≤ x0 ∧ x0 ≤ 122)))) := by
  obtain ⟨r, hca, z, e, hp⟩ := Jmt (B := tB l D b0 ad Hb tau) (M := mt_159) (mi := 159) (as := [xI x0]) (d := d + 0) (ls := [some (xI x0)]) rfl rfl rfl rfl rfl rfl (cw_159_ (l := l) (D := D) (b0 := b0) (ad := ad) (Hb := Hb) (tau := tau) (d := d) (Post := fun r => ∃ z : Int, r = (some (xI z), h) ∧ (0 ≤ z ∧ z ≤ 1 ∧ ((z = 1 ∧ 97 ≤ x0 ∧ x0 ≤ 122) ∨ (z = 0 ∧ ¬ (97 ≤ x0 ∧ x0 ≤ 122))))) hx hG p0 (fun z hz => ⟨z, rfl, hz⟩))
  subst e; exact ⟨z, hca, hp⟩
set_option maxRecDepth 100000 in
theorem cw_160_ {l : Launch} {D : va_G} {b0 : Nat} {ad : Nat → Nat} {Hb : Heap} {tau : Nat → Int64} {d n s : Nat} {S : Nat → xS} {Z : xZ} {h : mx_H} {Post : mx_R → Prop} (hx : XH n s S Z h) (hG : GI n S Z)  {x0 : Int} (p0 : (-2147483648) ≤ x0 ∧ x0 ≤ 2147483647) (hP : ∀ z : Int, 0 ≤ z ∧ z ≤ 1 ∧ ((z = 1 ∧ 48 ≤ x0 ∧ x0 ≤ 57) ∨ (z = 0 ∧ ¬ (48 ≤ x0 ∧ x0 ≤ 57))) → Post (some (xI z), h)) : mx_J (tB l D b0 ad Hb tau) mt_160 (d + 0) 0 [some (xI x0)] [] h Post := by
    refine mx_J.step (sn_160 0) (fun _ _ => rfl) ?_
    refine JcI (z := 48) (show mx_Sn _ _ 1 (mx_const (.int 48) 3) from sn_160 1) rfl ?_
    have c17 : ∀ (k1_0 : Int), 0 ≤ k1_0 ∧ k1_0 ≤ 1 → ((k1_0 = 1 ∧ 48 ≤ x0 ∧ x0 ≤ 57) ∨ (k1_0 = 0 ∧ ¬ (48 ≤ x0 ∧ x0 ≤ 57))) → mx_J (tB l D b0 ad Hb tau) mt_160 (d + 0) 17 [some (xI x0)] [xI k1_0] h Post := by
      intro k1_0 f1_0 f1_1
      exact mx_J.ret (show mx_Sn _ _ 17 (mx_zret) from sn_160 17) (fun _ _ => zr_ok (by omega)) (hP k1_0 (by omega))
    have c16 : ¬ (48 ≤ x0 ∧ x0 ≤ 57) → mx_J (tB l D b0 ad Hb tau) mt_160 (d + 0) 16 [some (xI x0)] [] h Post := by
      intro f2_0
      refine JcI (z := 0) (show mx_Sn _ _ 16 (mx_const (.int 0) 17) from sn_160 16) rfl ?_
      exact c17 0 (by omega) (by omega)
    refine Jicmp_lt (show mx_Sn _ _ 3 (mx_icmp_lt 16 6) from sn_160 3) (by omega) (by omega) (fun q3 => ?_) (fun q3 => ?_)
    · skip
      exact c16 (by omega)
    · skip
      refine mx_J.step (sn_160 6) (fun _ _ => rfl) ?_
      refine JcI (z := 57) (show mx_Sn _ _ 7 (mx_const (.int 57) 9) from sn_160 7) rfl ?_
      refine Jicmp_gt (show mx_Sn _ _ 9 (mx_icmp_gt 16 12) from sn_160 9) (by omega) (by omega) (fun q4 => ?_) (fun q4 => ?_)
      · skip
        exact c16 (by omega)
      · skip
        refine JcI (z := 1) (show mx_Sn _ _ 12 (mx_const (.int 1) 13) from sn_160 12) rfl ?_
        refine mx_J.step (sn_160 13) (fun _ _ => rfl) ?_
        exact c17 1 (by omega) (by omega)
theorem ct_160_ {l : Launch} {D : va_G} {b0 : Nat} {ad : Nat → Nat} {Hb : Heap} {tau : Nat → Int64} {d n s : Nat} {S : Nat → xS} {Z : xZ} {h : mx_H} (hx : XH n s S Z h) (hG : GI n S Z)  {x0 : Int} (p0 : (-2147483648) ≤ x0 ∧ x0 ≤ 2147483647) : ∃ z : Int, mx_Ca (tB l D b0 ad Hb tau) (d + 1) 160 [xI x0] h (some (xI z), h) ∧ (0 ≤ z ∧ z ≤ 1 ∧ ((z = 1 ∧ 48 ≤ x0 ∧ x0 ≤ 57) ∨ (z = 0 ∧ ¬ (48 ≤ x0 ∧ x0 ≤ 57)))) := by
  obtain ⟨r, hca, z, e, hp⟩ := Jmt (B := tB l D b0 ad Hb tau) (M := mt_160) (mi := 160) (as := [xI x0]) (d := d + 0) (ls := [some (xI x0)]) rfl rfl rfl rfl rfl rfl (cw_160_ (l := l) (D := D) (b0 := b0) (ad := ad) (Hb := Hb) (tau := tau) (d := d) (Post := fun r => ∃ z : Int, r = (some (xI z), h) ∧ (0 ≤ z ∧ z ≤ 1 ∧ ((z = 1 ∧ 48 ≤ x0 ∧ x0 ≤ 57) ∨ (z = 0 ∧ ¬ (48 ≤ x0 ∧ x0 ≤ 57))))) hx hG p0 (fun z hz => ⟨z, rfl, hz⟩))
  subst e; exact ⟨z, hca, hp⟩
set_option maxRecDepth 100000 in
theorem cw_161_56 {l : Launch} {D : va_G} {b0 : Nat} {ad : Nat → Nat} {Hb : Heap} {tau : Nat → Int64} {d n s : Nat} {S : Nat → xS} {Z : xZ} {h : mx_H} {Post : mx_R → Prop} {T : Int → Int} {N : Int} (hx : XH n s S Z h) (hG : GI n S Z)   (k0 : Z 56 7 ≤ Z 56 8) (k1 : TM T N Z) (k2 : Z 56 8 = N) (hP : ∀ z : Int, z = tKey T (Z 56 6) (Z 56 7) ∧ 0 ≤ z ∧ z ≤ 77 → Post (some (xI z), h)) : mx_J (tB l D b0 ad Hb tau) mt_161 (d + 4) 0 [some (.ref 56), none, none, none] [] h Post := by
    have a56 : 56 < n := lt83 (GI_n hG) rfl
    have s56 : S 56 = .inl (12, [0, 2, 2, 2, 2, 0, 0, 0, 0, 0, 0, 0, 0, 0, 0, 2, 2, 2, 0, 2, 2, 2, 0, 0, 2, 2, 2, 2, 2, 2, 0, 0, 2, 2, 2, 2, 2, 2, 2, 2, 2, 2]) := GI_s hG 56 rfl
    have a59 : 59 < n := lt83 (GI_n hG) rfl
    have s59 : S 59 = .inr (.int, 900, 0) := GI_s hG 59 rfl
    refine JcI (z := 0) (show mx_Sn _ _ 0 (mx_const (.int 0) 1) from sn_161 0) rfl ?_
    refine mx_J.step (ls2 := [some (.ref 56), some (xI 0), none, none]) (sn_161 1) (fun _ _ => rfl) ?_
    refine JcI (z := 1) (show mx_Sn _ _ 2 (mx_const (.int 1) 3) from sn_161 2) rfl ?_
    refine mx_J.step (ls2 := [some (.ref 56), some (xI 0), some (xI 1), none]) (sn_161 3) (fun _ _ => rfl) ?_
    have c4 : ∀ (m1 : Nat) (w1_1 : Int) (w1_2 : Int) (u1_3 : Option Value), 77 - w1_1 < (m1 : Int) → 0 ≤ w1_1 ∧ w1_1 ≤ 76 → 1 ≤ w1_2 ∧ w1_2 ≤ 77 → w1_1 < w1_2 → KM T (Z 56 6) (Z 56 7) w1_1 w1_2 → mx_J (tB l D b0 ad Hb tau) mt_161 (d + 4) 4 [some (.ref 56), some (xI w1_1), some (xI w1_2), u1_3] [] h Post := by
      intro m1
      induction m1 with
      | zero => intro w1_1 w1_2 u1_3 q1 f1_0 f1_1 f1_2 f1_3; exact absurd q1 (by omega)
      | succ m1 ih1 =>
        intro w1_1 w1_2 u1_3 q1 f1_0 f1_1 f1_2 f1_3
        refine mx_J.step (sn_161 4) (fun _ _ => rfl) ?_
        refine mx_J.step (sn_161 5) (fun _ _ => rfl) ?_
        obtain ⟨z2, hc2, b2⟩ := ct_291_4100 (d := d + 2) (l := l) (D := D) (b0 := b0) (ad := ad) (Hb := Hb) (tau := tau) hx hG 
        refine Jck (show mx_Sn _ _ 7 (mx_callk 291 1 10) from sn_161 7) rfl hc2 rfl rfl rfl ?_
        refine Jicmp_ge (show mx_Sn _ _ 10 (mx_icmp_ge 123 13) from sn_161 10) (by omega) (by omega) (fun q3 => ?_) (fun q3 => ?_)
        · skip
          refine JcI (z := 22) (show mx_Sn _ _ 123 (mx_const (.int 22) 125) from sn_161 123) rfl ?_
          have b4 : 0 ≤ Z 56 6 ∧ Z 56 6 ≤ 900 := hG.pr 56 6
          have b5 : 0 ≤ Z 56 7 ∧ Z 56 7 ≤ 900 := hG.pr 56 7
          have b6 : 0 ≤ Z 56 8 ∧ Z 56 8 ≤ 900 := hG.pr 56 8
          exact mx_J.ret (sn_161 125) (fun _ _ => rfl) (hP 22 ⟨(KM_e (by assumption) (by omega)), by omega⟩)
        · skip
          refine JcI (z := 0) (show mx_Sn _ _ 13 (mx_const (.int 0) 14) from sn_161 13) rfl ?_
          refine mx_J.step (ls2 := [some (.ref 56), some (xI w1_1), some (xI w1_2), some (xI 0)]) (sn_161 14) (fun _ _ => rfl) ?_
          have c15 : ∀ (m7 : Nat) (w7_3 : Int), 75 - w7_3 < (m7 : Int) → 0 ≤ w7_3 ∧ w7_3 ≤ 75 → w1_2 + w7_3 ≤ 76 → KI T (Z 56 6) (Z 56 7) w1_1 w1_2 w7_3 → mx_J (tB l D b0 ad Hb tau) mt_161 (d + 4) 15 [some (.ref 56), some (xI w1_1), some (xI w1_2), some (xI w7_3)] [] h Post := by
            intro m7
            induction m7 with
            | zero => intro w7_3 q7 f7_0 f7_1 f7_2; exact absurd q7 (by omega)
            | succ m7 ih7 =>
              intro w7_3 q7 f7_0 f7_1 f7_2
              refine mx_J.step (sn_161 15) (fun _ _ => rfl) ?_
              refine mx_J.step (sn_161 17) (fun _ _ => rfl) ?_
              refine mx_J.step (sn_161 18) (fun _ _ => rfl) ?_
              refine Jiadd (show mx_Sn _ _ 19 (mx_iadd 20) from sn_161 19) ?_
              obtain ⟨z8, hc8, b8⟩ := ct_292_4100 (d := d + 0) (l := l) (D := D) (b0 := b0) (ad := ad) (Hb := Hb) (tau := tau) hx hG (show 0 ≤ w1_2 + w7_3 ∧ w1_2 + w7_3 ≤ 76 by omega)
              refine Jck (show mx_Sn _ _ 20 (mx_callk 292 2 23) from sn_161 20) rfl hc8 rfl rfl rfl ?_
              refine JcI (z := 32) (show mx_Sn _ _ 23 (mx_const (.int 32) 25) from sn_161 23) rfl ?_
              have c69 : w1_2 + w7_3 ≤ 76 → ¬ (¬ cw2 (w1_2 + w7_3) = 32 ∧ Z 56 6 + w7_3 < Z 56 7 ∧ T (Z 56 6 + w7_3) = cw2 (w1_2 + w7_3)) → mx_J (tB l D b0 ad Hb tau) mt_161 (d + 4) 69 [some (.ref 56), some (xI w1_1), some (xI w1_2), some (xI w7_3)] [] h Post := by
                intro f9_0 f9_1
                refine mx_J.step (sn_161 69) (fun _ _ => rfl) ?_
                refine mx_J.step (sn_161 71) (fun _ _ => rfl) ?_
                refine mx_J.step (sn_161 72) (fun _ _ => rfl) ?_
                refine Jiadd (show mx_Sn _ _ 73 (mx_iadd 74) from sn_161 73) ?_
                obtain ⟨z10, hc10, b10⟩ := ct_292_4100 (d := d + 0) (l := l) (D := D) (b0 := b0) (ad := ad) (Hb := Hb) (tau := tau) hx hG (show 0 ≤ w1_2 + w7_3 ∧ w1_2 + w7_3 ≤ 76 by omega)
                refine Jck (show mx_Sn _ _ 74 (mx_callk 292 2 77) from sn_161 74) rfl hc10 rfl rfl rfl ?_
                refine JcI (z := 32) (show mx_Sn _ _ 77 (mx_const (.int 32) 79) from sn_161 77) rfl ?_
                have c97 : ∀ (m11 : Nat) (w11_2 : Int), 76 - w11_2 < (m11 : Int) → 1 ≤ w11_2 ∧ w11_2 ≤ 76 → w1_1 < w11_2 → KZ T (Z 56 6) (Z 56 7) w1_1 w11_2 → mx_J (tB l D b0 ad Hb tau) mt_161 (d + 4) 97 [some (.ref 56), some (xI w1_1), some (xI w11_2), some (xI w7_3)] [] h Post := by
                  intro m11
                  induction m11 with
                  | zero => intro w11_2 q11 f11_0 f11_1 f11_2; exact absurd q11 (by omega)
                  | succ m11 ih11 =>
                    intro w11_2 q11 f11_0 f11_1 f11_2
                    refine mx_J.step (sn_161 97) (fun _ _ => rfl) ?_
                    refine mx_J.step (sn_161 99) (fun _ _ => rfl) ?_
                    obtain ⟨z12, hc12, b12⟩ := ct_292_4100 (d := d + 0) (l := l) (D := D) (b0 := b0) (ad := ad) (Hb := Hb) (tau := tau) hx hG (show 0 ≤ w11_2 ∧ w11_2 ≤ 76 by omega)
                    refine Jck (show mx_Sn _ _ 100 (mx_callk 292 2 103) from sn_161 100) rfl hc12 rfl rfl rfl ?_
                    refine JcI (z := 32) (show mx_Sn _ _ 103 (mx_const (.int 32) 105) from sn_161 103) rfl ?_
                    refine Jicmp_eq (show mx_Sn _ _ 105 (mx_icmp_eq 114 108) from sn_161 105) (by omega) (by omega) (fun q13 => ?_) (fun q13 => ?_)
                    · skip
                      refine Jiinc (z := w11_2) (cz := 1) (ls2 := [some (.ref 56), some (xI w1_1), some (xI (w11_2 + 1)), some (xI w7_3)]) (show mx_Sn _ _ 114 (mx_iinc 2 1 117) from sn_161 114) rfl rfl rfl rfl ?_
                      refine Jiinc (z := w1_1) (cz := 1) (ls2 := [some (.ref 56), some (xI (w1_1 + 1)), some (xI (w11_2 + 1)), some (xI w7_3)]) (show mx_Sn _ _ 117 (mx_iinc 1 1 120) from sn_161 117) rfl rfl rfl rfl ?_
                      refine mx_J.step (sn_161 120) (fun _ _ => rfl) ?_
                      exact ih1 (w1_1 + 1) (w11_2 + 1) (some (xI w7_3)) (by omega) (by omega) (by omega) (by omega) (KZ_e (by assumption) (by omega))
                    · skip
                      refine Jiinc (z := w11_2) (cz := 1) (ls2 := [some (.ref 56), some (xI w1_1), some (xI (w11_2 + 1)), some (xI w7_3)]) (show mx_Sn _ _ 108 (mx_iinc 2 1 111) from sn_161 108) rfl rfl rfl rfl ?_
                      refine mx_J.step (sn_161 111) (fun _ _ => rfl) ?_
                      exact ih11 (w11_2 + 1) (by omega) (by omega) (by omega) (KZ_s (by assumption) (by omega))
                refine Jicmp_ne (show mx_Sn _ _ 79 (mx_icmp_ne 97 82) from sn_161 79) (by omega) (by omega) (fun q14 => ?_) (fun q14 => ?_)
                · skip
                  exact c97 (Int.toNat (76 - w1_2) + 1) w1_2 (by omega) (by omega) (by omega) (KI_f (by assumption) (by assumption) (by omega))
                · skip
                  refine mx_J.step (sn_161 82) (fun _ _ => rfl) ?_
                  have b16 : 0 ≤ Z 56 6 ∧ Z 56 6 ≤ 900 := hG.pr 56 6
                  refine JgetI (g := 6) (z := Z 56 6) hx (show mx_Sn _ _ 83 (mx_getf 12 6 86) from sn_161 83) a56 s56 rfl rfl rfl ?_
                  refine mx_J.step (sn_161 86) (fun _ _ => rfl) ?_
                  refine Jiadd (show mx_Sn _ _ 87 (mx_iadd 88) from sn_161 87) ?_
                  refine mx_J.step (sn_161 88) (fun _ _ => rfl) ?_
                  have b18 : 0 ≤ Z 56 7 ∧ Z 56 7 ≤ 900 := hG.pr 56 7
                  refine JgetI (g := 7) (z := Z 56 7) hx (show mx_Sn _ _ 89 (mx_getf 12 7 92) from sn_161 89) a56 s56 rfl rfl rfl ?_
                  refine Jicmp_ne (show mx_Sn _ _ 92 (mx_icmp_ne 97 95) from sn_161 92) (by omega) (by omega) (fun q19 => ?_) (fun q19 => ?_)
                  · skip
                    exact c97 (Int.toNat (76 - w1_2) + 1) w1_2 (by omega) (by omega) (by omega) (KI_f (by assumption) (by assumption) (by omega))
                  · skip
                    refine mx_J.step (sn_161 95) (fun _ _ => rfl) ?_
                    have b20 : 0 ≤ Z 56 8 ∧ Z 56 8 ≤ 900 := hG.pr 56 8
                    exact mx_J.ret (sn_161 96) (fun _ _ => rfl) (hP w1_1 ⟨(KI_r (by assumption) (by omega) (by omega)), by omega⟩)
              refine Jicmp_eq (show mx_Sn _ _ 25 (mx_icmp_eq 69 28) from sn_161 25) (by omega) (by omega) (fun q21 => ?_) (fun q21 => ?_)
              · skip
                exact c69 (by omega) (by omega)
              · skip
                refine mx_J.step (sn_161 28) (fun _ _ => rfl) ?_
                have b23 : 0 ≤ Z 56 6 ∧ Z 56 6 ≤ 900 := hG.pr 56 6
                refine JgetI (g := 6) (z := Z 56 6) hx (show mx_Sn _ _ 29 (mx_getf 12 6 32) from sn_161 29) a56 s56 rfl rfl rfl ?_
                refine mx_J.step (sn_161 32) (fun _ _ => rfl) ?_
                refine Jiadd (show mx_Sn _ _ 33 (mx_iadd 34) from sn_161 33) ?_
                refine mx_J.step (sn_161 34) (fun _ _ => rfl) ?_
                have b25 : 0 ≤ Z 56 7 ∧ Z 56 7 ≤ 900 := hG.pr 56 7
                refine JgetI (g := 7) (z := Z 56 7) hx (show mx_Sn _ _ 35 (mx_getf 12 7 38) from sn_161 35) a56 s56 rfl rfl rfl ?_
                refine Jicmp_ge (show mx_Sn _ _ 38 (mx_icmp_ge 69 41) from sn_161 38) (by omega) (by omega) (fun q26 => ?_) (fun q26 => ?_)
                · skip
                  exact c69 (by omega) (by omega)
                · skip
                  have tj : T (Z 56 6 + w7_3) = Z 59 (Z 56 6 + w7_3) := TM_i k1 (by omega) (by omega)
                  refine mx_J.step (sn_161 41) (fun _ _ => rfl) ?_
                  refine JgetR (g := 3) (b := 59) hx (show mx_Sn _ _ 42 (mx_getf 12 3 45) from sn_161 42) a56 s56 rfl rfl (hG.prr 56 3 rfl) ?_
                  refine mx_J.step (sn_161 45) (fun _ _ => rfl) ?_
                  refine JgetI (g := 6) (z := Z 56 6) hx (show mx_Sn _ _ 46 (mx_getf 12 6 49) from sn_161 46) a56 s56 rfl rfl rfl ?_
                  refine mx_J.step (sn_161 49) (fun _ _ => rfl) ?_
                  refine Jiadd (show mx_Sn _ _ 50 (mx_iadd 51) from sn_161 50) ?_
                  have b29 : 0 ≤ Z 59 ((Z 56 6) + w7_3) ∧ Z 59 ((Z 56 6) + w7_3) ≤ 255 := hG.pr 59 ((Z 56 6) + w7_3)
                  refine JialdI (z := Z 59 ((Z 56 6) + w7_3)) hx (show mx_Sn _ _ 51 (mx_iald 52) from sn_161 51) a59 s59 (by omega) rfl ?_
                  refine mx_J.step (sn_161 52) (fun _ _ => rfl) ?_
                  refine mx_J.step (sn_161 54) (fun _ _ => rfl) ?_
                  refine mx_J.step (sn_161 55) (fun _ _ => rfl) ?_
                  refine Jiadd (show mx_Sn _ _ 56 (mx_iadd 57) from sn_161 56) ?_
                  obtain ⟨z30, hc30, b30⟩ := ct_292_4100 (d := d + 0) (l := l) (D := D) (b0 := b0) (ad := ad) (Hb := Hb) (tau := tau) hx hG (show 0 ≤ w1_2 + w7_3 ∧ w1_2 + w7_3 ≤ 76 by omega)
                  refine Jck (show mx_Sn _ _ 57 (mx_callk 292 2 60) from sn_161 57) rfl hc30 rfl rfl rfl ?_
                  refine Jicmp_ne (show mx_Sn _ _ 60 (mx_icmp_ne 69 63) from sn_161 60) (by omega) (by omega) (fun q31 => ?_) (fun q31 => ?_)
                  · skip
                    exact c69 (by omega) (by omega)
                  · skip
                    refine Jiinc (z := w7_3) (cz := 1) (ls2 := [some (.ref 56), some (xI w1_1), some (xI w1_2), some (xI (w7_3 + 1))]) (show mx_Sn _ _ 63 (mx_iinc 3 1 66) from sn_161 63) rfl rfl rfl rfl ?_
                    refine mx_J.step (sn_161 66) (fun _ _ => rfl) ?_
                    exact ih7 (w7_3 + 1) (by omega) (by omega) (by omega) (KI_s (by assumption) (by omega) (by omega) (by omega))
          exact c15 (Int.toNat (75 - 0) + 1) 0 (by omega) (by omega) (by omega) (KI_0 (by assumption) (by omega))
    exact c4 (Int.toNat (77 - 0) + 1) 0 1 none (by omega) (by omega) (by omega) (by omega) (KM_0)
theorem ct_161_56 {l : Launch} {D : va_G} {b0 : Nat} {ad : Nat → Nat} {Hb : Heap} {tau : Nat → Int64} {d n s : Nat} {S : Nat → xS} {Z : xZ} {h : mx_H} {T : Int → Int} {N : Int} (hx : XH n s S Z h) (hG : GI n S Z)   (k0 : Z 56 7 ≤ Z 56 8) (k1 : TM T N Z) (k2 : Z 56 8 = N) : ∃ z : Int, mx_Ca (tB l D b0 ad Hb tau) (d + 5) 161 [.ref 56] h (some (xI z), h) ∧ (z = tKey T (Z 56 6) (Z 56 7) ∧ 0 ≤ z ∧ z ≤ 77) := by
  obtain ⟨r, hca, z, e, hp⟩ := Jmt (B := tB l D b0 ad Hb tau) (M := mt_161) (mi := 161) (as := [.ref 56]) (d := d + 4) (ls := [some (.ref 56), none, none, none]) rfl rfl rfl rfl rfl rfl (cw_161_56 (l := l) (D := D) (b0 := b0) (ad := ad) (Hb := Hb) (tau := tau) (d := d) (Post := fun r => ∃ z : Int, r = (some (xI z), h) ∧ (z = tKey T (Z 56 6) (Z 56 7) ∧ 0 ≤ z ∧ z ≤ 77)) hx hG k0 k1 k2 (fun z hz => ⟨z, rfl, hz⟩))
  subst e; exact ⟨z, hca, hp⟩
