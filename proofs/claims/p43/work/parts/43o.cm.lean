set_option maxRecDepth 100000 in
theorem cw_185_56_i11 {l : Launch} {D : va_G} {b0 : Nat} {ad : Nat → Nat} {Hb : Heap} {tau : Nat → Int64} {d n s : Nat} {S : Nat → xS} {Z : xZ} {h : mx_H} {Post : mx_R → Prop} (hx : XH n s S Z h) (hG : GB n S Z)  {x1 x2 : Int} (p1 : 0 ≤ x1 ∧ x1 ≤ 18) (p2 : 0 ≤ x2 ∧ x2 ≤ 18) (k0 : Z 56 18 + wy (11 * 19 + x1) ≤ 385) (k1 : x2 + 11 ≤ 18) (hP : ∀ (Z' : xZ) (h' : mx_H), XH n s S Z' h' → GB n S Z' → fr' [(56, 18), (61, (-1)), (63, (-1))] Z Z' → GAp Z Z' 11 x1 x2 ∧ Z' 56 18 = Z 56 18 + wy (11 * 19 + x1) → Post (none, h')) : mx_J (tB l D b0 ad Hb tau) mt_185 (d + 11) 0 [some (.ref 56), some (xI 11), some (xI x1), some (xI x2), none] [] h Post := by
    have a56 : 56 < n := lt83 (GB_n hG) rfl
    have s56 : S 56 = .inl (12, [0, 2, 2, 2, 2, 0, 0, 0, 0, 0, 0, 0, 0, 0, 0, 2, 2, 2, 0, 2, 2, 2, 0, 0, 2, 2, 2, 2, 2, 2, 0, 0, 2, 2, 2, 2, 2, 2, 2, 2, 2, 2]) := GB_s hG 56 rfl
    have a63 : 63 < n := lt83 (GB_n hG) rfl
    have s63 : S 63 = .inr (.int, 18, 0) := GB_s hG 63 rfl
    refine mx_J.step (sn_185 0) (fun _ _ => rfl) ?_
    refine Jif_ne (show mx_Sn _ _ 1 (mx_if_ne 63 4) from sn_185 1) (by omega) (fun q1 => ?_) (fun q1 => ?_)
    · skip
      refine mx_J.step (sn_185 63) (fun _ _ => rfl) ?_
      refine mx_J.step (sn_185 64) (fun _ _ => rfl) ?_
      have c73 : ∀ (k2_0 : Int), 0 ≤ k2_0 ∧ k2_0 ≤ 11 → (wy (11 * 19 + k2_0) = wy (11 * 19 + x1) ∧ k2_0 ≤ 11) → ((x1 < 11 → k2_0 = x1) ∧ (11 ≤ x1 → k2_0 = 11)) → mx_J (tB l D b0 ad Hb tau) mt_185 (d + 11) 73 [some (.ref 56), some (xI 11), some (xI x1), some (xI x2), none] [xI k2_0] h Post := by
        intro k2_0 f2_0 f2_1 f2_2
        refine mx_J.step (ls2 := [some (.ref 56), some (xI 11), some (xI x1), some (xI x2), some (xI k2_0)]) (sn_185 73) (fun _ _ => rfl) ?_
        have c75 : ∀ (m3 : Nat) (w3_4 : Int) (Z4 : xZ) (h4 : mx_H), w3_4 - 0 < (m3 : Int) → 0 ≤ w3_4 ∧ w3_4 ≤ 11 → (Z4 56 18 + wy (11 * 19 + w3_4) = Z 56 18 + wy (11 * 19 + x1)) → GL Z Z4 11 x1 x2 w3_4 → XH n s S Z4 h4 → GB n S Z4 → fr' [(56, 18), (61, (-1)), (63, (-1))] Z Z4 → mx_J (tB l D b0 ad Hb tau) mt_185 (d + 11) 75 [some (.ref 56), some (xI 11), some (xI x1), some (xI x2), some (xI w3_4)] [] h4 Post := by
          intro m3
          induction m3 with
          | zero => intro w3_4 Z4 h4 q3 f3_0 f3_1 f3_2 hx4 hG4 hf4; exact absurd q3 (by omega)
          | succ m3 ih3 =>
            intro w3_4 Z4 h4 q3 f3_0 f3_1 f3_2 hx4 hG4 hf4
            have b5 : 0 ≤ Z4 56 18 ∧ Z4 56 18 ≤ 385 := hG4.pr 56 18
            refine mx_J.step (sn_185 75) (fun _ _ => rfl) ?_
            refine Jif_le (show mx_Sn _ _ 77 (mx_if_le 107 80) from sn_185 77) (by omega) (fun q6 => ?_) (fun q6 => ?_)
            · skip
              have w0 : wy (11 * 19 + w3_4) = 0 := by rw [show w3_4 = 0 by omega]; exact Wy0 (by omega)
              exact mx_J.ret (sn_185 107) (fun _ _ => rfl) (hP Z4 h4 hx4 hG4 (fr_tr (M := [(56, 18), (61, (-1)), (63, (-1))]) fr_rf (hf4) (M1 := []) rfl rfl) ⟨(gl_e (by assumption) (by omega) (by omega)), by omega⟩)
            · skip
              refine mx_J.step (sn_185 80) (fun _ _ => rfl) ?_
              refine JgetR (g := 17) (b := 63) hx4 (show mx_Sn _ _ 81 (mx_getf 12 17 84) from sn_185 81) a56 s56 rfl rfl (hG4.prr 56 17 rfl) ?_
              refine mx_J.step (sn_185 84) (fun _ _ => rfl) ?_
              refine mx_J.step (sn_185 85) (fun _ _ => rfl) ?_
              refine JiastI hx4 (show mx_Sn _ _ 87 (mx_iast 1 88) from sn_185 87) a63 s63 rfl (by omega) (fun Z8 h8 hx8 hE8 => ?_)
              have hG8 := GB_up hG4 hE8 (show 0 ≤ w3_4 ∧ w3_4 ≤ 18 by omega) trivial rfl
              have wr := WRr (n := 11) (m := w3_4) (by omega) (by omega)
              refine mx_J.step (sn_185 88) (fun _ _ => rfl) ?_
              refine mx_J.step (sn_185 89) (fun _ _ => rfl) ?_
              refine mx_J.step (sn_185 90) (fun _ _ => rfl) ?_
              refine Jisub (show mx_Sn _ _ 92 (mx_isub 93) from sn_185 92) ?_
              refine mx_J.step (sn_185 93) (fun _ _ => rfl) ?_
              refine mx_J.step (sn_185 95) (fun _ _ => rfl) ?_
              refine JcI (z := 1) (show mx_Sn _ _ 96 (mx_const (.int 1) 97) from sn_185 96) rfl ?_
              refine Jiadd (show mx_Sn _ _ 97 (mx_iadd 98) from sn_185 97) ?_
              have eq10 : Z8 56 18 = Z4 56 18 := (up_nk hE8 rfl)
              obtain ⟨Z9, h9, hc9, hx9, hG9, hf9, b9⟩ := ct_185_56_le10 (d := d + 0) (l := l) (D := D) (b0 := b0) (ad := ad) (Hb := Hb) (tau := tau) hx8 hG8 (show 0 ≤ 11 - w3_4 ∧ 11 - w3_4 ≤ 10 by omega) (show 0 ≤ w3_4 ∧ w3_4 ≤ 18 by omega) (show 0 ≤ x2 + 1 ∧ x2 + 1 ≤ 18 by omega) (show Z8 56 18 + wy ((11 - w3_4) * 19 + w3_4) ≤ 385 by first | omega | (simp only [eq10]; omega)) (show (x2 + 1) + (11 - w3_4) ≤ 18 by first | omega | (simp only [eq10]; omega))
              try rw [eq10] at b9
              obtain ⟨bs9_0, b9⟩ := b9
              have b11 : 0 ≤ Z9 56 18 ∧ Z9 56 18 ≤ 385 := hG9.pr 56 18
              refine Jcv0 hx8 (show mx_Sn _ _ 98 (mx_callv 185 4 12 101) from sn_185 98) a56 s56 hc9 rfl rfl rfl ?_
              have gl1 := gl_s (Z := Z) (left := 11) (most := x1) (n := x2) (its := w3_4) (by assumption) (by omega) (by omega) (by omega) hE8 bs9_0
              refine Jiinc (z := w3_4) (cz := (-1)) (ls2 := [some (.ref 56), some (xI 11), some (xI x1), some (xI x2), some (xI (w3_4 + (-1)))]) (show mx_Sn _ _ 101 (mx_iinc 4 (-1) 104) from sn_185 101) rfl rfl rfl rfl ?_
              refine mx_J.step (sn_185 104) (fun _ _ => rfl) ?_
              exact ih3 (w3_4 + (-1)) Z9 h9 (by omega) (by omega) (by omega) (gl1) hx9 hG9 (fr_tr (M := [(56, 18), (61, (-1)), (63, (-1))]) (fr_tr (M := [(56, 18), (61, (-1)), (63, (-1))]) (fr_tr (M := [(56, 18), (61, (-1)), (63, (-1))]) fr_rf (hf4) (M1 := []) rfl rfl) (fr_ua hE8) rfl rfl) (hf9) rfl rfl)
        have b12 : 0 ≤ Z 56 18 ∧ Z 56 18 ≤ 385 := hG.pr 56 18
        exact c75 (Int.toNat (k2_0 - 0) + 1) k2_0 Z h (by omega) (by omega) (by omega) (gl_0 (by omega) (by omega) (by omega) (by omega)) hx hG fr_rf
      refine Jicmp_ge (show mx_Sn _ _ 65 (mx_icmp_ge 72 68) from sn_185 65) (by omega) (by omega) (fun q13 => ?_) (fun q13 => ?_)
      · skip
        refine mx_J.step (sn_185 72) (fun _ _ => rfl) ?_
        exact c73 11 (by omega) (by first | exact ⟨rfl, by omega⟩ | exact ⟨WSs (n := 11) (by omega) (by omega), by omega⟩) (by omega)
      · skip
        refine mx_J.step (sn_185 68) (fun _ _ => rfl) ?_
        refine mx_J.step (sn_185 69) (fun _ _ => rfl) ?_
        exact c73 x1 (by omega) (by first | exact ⟨rfl, by omega⟩ | exact ⟨WSs (n := 11) (by omega) (by omega), by omega⟩) (by omega)
    · skip
      exfalso; omega
theorem ct_185_56_i11 {l : Launch} {D : va_G} {b0 : Nat} {ad : Nat → Nat} {Hb : Heap} {tau : Nat → Int64} {d n s : Nat} {S : Nat → xS} {Z : xZ} {h : mx_H} (hx : XH n s S Z h) (hG : GB n S Z)  {x1 x2 : Int} (p1 : 0 ≤ x1 ∧ x1 ≤ 18) (p2 : 0 ≤ x2 ∧ x2 ≤ 18) (k0 : Z 56 18 + wy (11 * 19 + x1) ≤ 385) (k1 : x2 + 11 ≤ 18) : ∃ (Z' : xZ) (h' : mx_H), mx_Ca (tB l D b0 ad Hb tau) (d + 12) 185 [.ref 56, xI 11, xI x1, xI x2] h (none, h') ∧ XH n s S Z' h' ∧ GB n S Z' ∧ fr' [(56, 18), (61, (-1)), (63, (-1))] Z Z' ∧ (GAp Z Z' 11 x1 x2 ∧ Z' 56 18 = Z 56 18 + wy (11 * 19 + x1)) := by
  obtain ⟨r, hca, Z', h', e, q⟩ := Jmt (B := tB l D b0 ad Hb tau) (M := mt_185) (mi := 185) (as := [.ref 56, xI 11, xI x1, xI x2]) (d := d + 11) (ls := [some (.ref 56), some (xI 11), some (xI x1), some (xI x2), none]) rfl rfl rfl rfl rfl rfl (cw_185_56_i11 (l := l) (D := D) (b0 := b0) (ad := ad) (Hb := Hb) (tau := tau) (d := d) (Post := fun r => ∃ (Z' : xZ) (h' : mx_H), r = (none, h') ∧ XH n s S Z' h' ∧ GB n S Z' ∧ fr' [(56, 18), (61, (-1)), (63, (-1))] Z Z' ∧ (GAp Z Z' 11 x1 x2 ∧ Z' 56 18 = Z 56 18 + wy (11 * 19 + x1))) hx hG p1 p2 k0 k1 (fun Z' h' q1 q2 q3 q4 => ⟨Z', h', rfl, q1, q2, q3, q4⟩))
  subst e; exact ⟨Z', h', hca, q⟩
theorem ct_185_56_le11 {l : Launch} {D : va_G} {b0 : Nat} {ad : Nat → Nat} {Hb : Heap} {tau : Nat → Int64} {d n s : Nat} {S : Nat → xS} {Z : xZ} {h : mx_H} (hx : XH n s S Z h) (hG : GB n S Z) {x0 x1 x2 : Int} (p0 : 0 ≤ x0 ∧ x0 ≤ 11) (p1 : 0 ≤ x1 ∧ x1 ≤ 18) (p2 : 0 ≤ x2 ∧ x2 ≤ 18) (k0 : Z 56 18 + wy (x0 * 19 + x1) ≤ 385) (k1 : x2 + x0 ≤ 18) : ∃ (Z' : xZ) (h' : mx_H), mx_Ca (tB l D b0 ad Hb tau) (d + 12) 185 [.ref 56, xI x0, xI x1, xI x2] h (none, h') ∧ XH n s S Z' h' ∧ GB n S Z' ∧ fr' [(56, 18), (61, (-1)), (63, (-1))] Z Z' ∧ (GAp Z Z' x0 x1 x2 ∧ Z' 56 18 = Z 56 18 + wy (x0 * 19 + x1)) := by
  have hc : x0 = 0 ∨ x0 = 1 ∨ x0 = 2 ∨ x0 = 3 ∨ x0 = 4 ∨ x0 = 5 ∨ x0 = 6 ∨ x0 = 7 ∨ x0 = 8 ∨ x0 = 9 ∨ x0 = 10 ∨ x0 = 11 := by omega
  rcases hc with hc | hc | hc | hc | hc | hc | hc | hc | hc | hc | hc | hc
  · subst hc
    obtain ⟨Z', h', hca, q1, q2, q3, q4⟩ := ct_185_56_i0 (d := d + 11) (l := l) (D := D) (b0 := b0) (ad := ad) (Hb := Hb) (tau := tau) hx hG p1 p2 k0 k1
    exact ⟨Z', h', hca, q1, q2, fr_tr (M1 := []) fr_rf q3 rfl rfl, q4⟩
  · subst hc
    obtain ⟨Z', h', hca, q1, q2, q3, q4⟩ := ct_185_56_i1 (d := d + 10) (l := l) (D := D) (b0 := b0) (ad := ad) (Hb := Hb) (tau := tau) hx hG p1 p2 k0 k1
    exact ⟨Z', h', hca, q1, q2, fr_tr (M1 := []) fr_rf q3 rfl rfl, q4⟩
  · subst hc
    obtain ⟨Z', h', hca, q1, q2, q3, q4⟩ := ct_185_56_i2 (d := d + 9) (l := l) (D := D) (b0 := b0) (ad := ad) (Hb := Hb) (tau := tau) hx hG p1 p2 k0 k1
    exact ⟨Z', h', hca, q1, q2, fr_tr (M1 := []) fr_rf q3 rfl rfl, q4⟩
  · subst hc
    obtain ⟨Z', h', hca, q1, q2, q3, q4⟩ := ct_185_56_i3 (d := d + 8) (l := l) (D := D) (b0 := b0) (ad := ad) (Hb := Hb) (tau := tau) hx hG p1 p2 k0 k1
    exact ⟨Z', h', hca, q1, q2, fr_tr (M1 := []) fr_rf q3 rfl rfl, q4⟩
  · subst hc
    obtain ⟨Z', h', hca, q1, q2, q3, q4⟩ := ct_185_56_i4 (d := d + 7) (l := l) (D := D) (b0 := b0) (ad := ad) (Hb := Hb) (tau := tau) hx hG p1 p2 k0 k1
    exact ⟨Z', h', hca, q1, q2, fr_tr (M1 := []) fr_rf q3 rfl rfl, q4⟩
  · subst hc
    obtain ⟨Z', h', hca, q1, q2, q3, q4⟩ := ct_185_56_i5 (d := d + 6) (l := l) (D := D) (b0 := b0) (ad := ad) (Hb := Hb) (tau := tau) hx hG p1 p2 k0 k1
    exact ⟨Z', h', hca, q1, q2, fr_tr (M1 := []) fr_rf q3 rfl rfl, q4⟩
  · subst hc
    obtain ⟨Z', h', hca, q1, q2, q3, q4⟩ := ct_185_56_i6 (d := d + 5) (l := l) (D := D) (b0 := b0) (ad := ad) (Hb := Hb) (tau := tau) hx hG p1 p2 k0 k1
    exact ⟨Z', h', hca, q1, q2, fr_tr (M1 := []) fr_rf q3 rfl rfl, q4⟩
  · subst hc
    obtain ⟨Z', h', hca, q1, q2, q3, q4⟩ := ct_185_56_i7 (d := d + 4) (l := l) (D := D) (b0 := b0) (ad := ad) (Hb := Hb) (tau := tau) hx hG p1 p2 k0 k1
    exact ⟨Z', h', hca, q1, q2, fr_tr (M1 := []) fr_rf q3 rfl rfl, q4⟩
  · subst hc
    obtain ⟨Z', h', hca, q1, q2, q3, q4⟩ := ct_185_56_i8 (d := d + 3) (l := l) (D := D) (b0 := b0) (ad := ad) (Hb := Hb) (tau := tau) hx hG p1 p2 k0 k1
    exact ⟨Z', h', hca, q1, q2, fr_tr (M1 := []) fr_rf q3 rfl rfl, q4⟩
  · subst hc
    obtain ⟨Z', h', hca, q1, q2, q3, q4⟩ := ct_185_56_i9 (d := d + 2) (l := l) (D := D) (b0 := b0) (ad := ad) (Hb := Hb) (tau := tau) hx hG p1 p2 k0 k1
    exact ⟨Z', h', hca, q1, q2, fr_tr (M1 := []) fr_rf q3 rfl rfl, q4⟩
  · subst hc
    obtain ⟨Z', h', hca, q1, q2, q3, q4⟩ := ct_185_56_i10 (d := d + 1) (l := l) (D := D) (b0 := b0) (ad := ad) (Hb := Hb) (tau := tau) hx hG p1 p2 k0 k1
    exact ⟨Z', h', hca, q1, q2, fr_tr (M1 := []) fr_rf q3 rfl rfl, q4⟩
  · subst hc
    obtain ⟨Z', h', hca, q1, q2, q3, q4⟩ := ct_185_56_i11 (d := d + 0) (l := l) (D := D) (b0 := b0) (ad := ad) (Hb := Hb) (tau := tau) hx hG p1 p2 k0 k1
    exact ⟨Z', h', hca, q1, q2, fr_tr (M1 := []) fr_rf q3 rfl rfl, q4⟩
set_option maxRecDepth 100000 in
theorem cw_185_56_i12 {l : Launch} {D : va_G} {b0 : Nat} {ad : Nat → Nat} {Hb : Heap} {tau : Nat → Int64} {d n s : Nat} {S : Nat → xS} {Z : xZ} {h : mx_H} {Post : mx_R → Prop} (hx : XH n s S Z h) (hG : GB n S Z)  {x1 x2 : Int} (p1 : 0 ≤ x1 ∧ x1 ≤ 18) (p2 : 0 ≤ x2 ∧ x2 ≤ 18) (k0 : Z 56 18 + wy (12 * 19 + x1) ≤ 385) (k1 : x2 + 12 ≤ 18) (hP : ∀ (Z' : xZ) (h' : mx_H), XH n s S Z' h' → GB n S Z' → fr' [(56, 18), (61, (-1)), (63, (-1))] Z Z' → GAp Z Z' 12 x1 x2 ∧ Z' 56 18 = Z 56 18 + wy (12 * 19 + x1) → Post (none, h')) : mx_J (tB l D b0 ad Hb tau) mt_185 (d + 12) 0 [some (.ref 56), some (xI 12), some (xI x1), some (xI x2), none] [] h Post := by
    have a56 : 56 < n := lt83 (GB_n hG) rfl
    have s56 : S 56 = .inl (12, [0, 2, 2, 2, 2, 0, 0, 0, 0, 0, 0, 0, 0, 0, 0, 2, 2, 2, 0, 2, 2, 2, 0, 0, 2, 2, 2, 2, 2, 2, 0, 0, 2, 2, 2, 2, 2, 2, 2, 2, 2, 2]) := GB_s hG 56 rfl
    have a63 : 63 < n := lt83 (GB_n hG) rfl
    have s63 : S 63 = .inr (.int, 18, 0) := GB_s hG 63 rfl
    refine mx_J.step (sn_185 0) (fun _ _ => rfl) ?_
    refine Jif_ne (show mx_Sn _ _ 1 (mx_if_ne 63 4) from sn_185 1) (by omega) (fun q1 => ?_) (fun q1 => ?_)
    · skip
      refine mx_J.step (sn_185 63) (fun _ _ => rfl) ?_
      refine mx_J.step (sn_185 64) (fun _ _ => rfl) ?_
      have c73 : ∀ (k2_0 : Int), 0 ≤ k2_0 ∧ k2_0 ≤ 12 → (wy (12 * 19 + k2_0) = wy (12 * 19 + x1) ∧ k2_0 ≤ 12) → ((x1 < 12 → k2_0 = x1) ∧ (12 ≤ x1 → k2_0 = 12)) → mx_J (tB l D b0 ad Hb tau) mt_185 (d + 12) 73 [some (.ref 56), some (xI 12), some (xI x1), some (xI x2), none] [xI k2_0] h Post := by
        intro k2_0 f2_0 f2_1 f2_2
        refine mx_J.step (ls2 := [some (.ref 56), some (xI 12), some (xI x1), some (xI x2), some (xI k2_0)]) (sn_185 73) (fun _ _ => rfl) ?_
        have c75 : ∀ (m3 : Nat) (w3_4 : Int) (Z4 : xZ) (h4 : mx_H), w3_4 - 0 < (m3 : Int) → 0 ≤ w3_4 ∧ w3_4 ≤ 12 → (Z4 56 18 + wy (12 * 19 + w3_4) = Z 56 18 + wy (12 * 19 + x1)) → GL Z Z4 12 x1 x2 w3_4 → XH n s S Z4 h4 → GB n S Z4 → fr' [(56, 18), (61, (-1)), (63, (-1))] Z Z4 → mx_J (tB l D b0 ad Hb tau) mt_185 (d + 12) 75 [some (.ref 56), some (xI 12), some (xI x1), some (xI x2), some (xI w3_4)] [] h4 Post := by
          intro m3
          induction m3 with
          | zero => intro w3_4 Z4 h4 q3 f3_0 f3_1 f3_2 hx4 hG4 hf4; exact absurd q3 (by omega)
          | succ m3 ih3 =>
            intro w3_4 Z4 h4 q3 f3_0 f3_1 f3_2 hx4 hG4 hf4
            have b5 : 0 ≤ Z4 56 18 ∧ Z4 56 18 ≤ 385 := hG4.pr 56 18
            refine mx_J.step (sn_185 75) (fun _ _ => rfl) ?_
            refine Jif_le (show mx_Sn _ _ 77 (mx_if_le 107 80) from sn_185 77) (by omega) (fun q6 => ?_) (fun q6 => ?_)
            · skip
              have w0 : wy (12 * 19 + w3_4) = 0 := by rw [show w3_4 = 0 by omega]; exact Wy0 (by omega)
              exact mx_J.ret (sn_185 107) (fun _ _ => rfl) (hP Z4 h4 hx4 hG4 (fr_tr (M := [(56, 18), (61, (-1)), (63, (-1))]) fr_rf (hf4) (M1 := []) rfl rfl) ⟨(gl_e (by assumption) (by omega) (by omega)), by omega⟩)
            · skip
              refine mx_J.step (sn_185 80) (fun _ _ => rfl) ?_
              refine JgetR (g := 17) (b := 63) hx4 (show mx_Sn _ _ 81 (mx_getf 12 17 84) from sn_185 81) a56 s56 rfl rfl (hG4.prr 56 17 rfl) ?_
              refine mx_J.step (sn_185 84) (fun _ _ => rfl) ?_
              refine mx_J.step (sn_185 85) (fun _ _ => rfl) ?_
              refine JiastI hx4 (show mx_Sn _ _ 87 (mx_iast 1 88) from sn_185 87) a63 s63 rfl (by omega) (fun Z8 h8 hx8 hE8 => ?_)
              have hG8 := GB_up hG4 hE8 (show 0 ≤ w3_4 ∧ w3_4 ≤ 18 by omega) trivial rfl
              have wr := WRr (n := 12) (m := w3_4) (by omega) (by omega)
              refine mx_J.step (sn_185 88) (fun _ _ => rfl) ?_
              refine mx_J.step (sn_185 89) (fun _ _ => rfl) ?_
              refine mx_J.step (sn_185 90) (fun _ _ => rfl) ?_
              refine Jisub (show mx_Sn _ _ 92 (mx_isub 93) from sn_185 92) ?_
              refine mx_J.step (sn_185 93) (fun _ _ => rfl) ?_
              refine mx_J.step (sn_185 95) (fun _ _ => rfl) ?_
              refine JcI (z := 1) (show mx_Sn _ _ 96 (mx_const (.int 1) 97) from sn_185 96) rfl ?_
              refine Jiadd (show mx_Sn _ _ 97 (mx_iadd 98) from sn_185 97) ?_
              have eq10 : Z8 56 18 = Z4 56 18 := (up_nk hE8 rfl)
              obtain ⟨Z9, h9, hc9, hx9, hG9, hf9, b9⟩ := ct_185_56_le11 (d := d + 0) (l := l) (D := D) (b0 := b0) (ad := ad) (Hb := Hb) (tau := tau) hx8 hG8 (show 0 ≤ 12 - w3_4 ∧ 12 - w3_4 ≤ 11 by omega) (show 0 ≤ w3_4 ∧ w3_4 ≤ 18 by omega) (show 0 ≤ x2 + 1 ∧ x2 + 1 ≤ 18 by omega) (show Z8 56 18 + wy ((12 - w3_4) * 19 + w3_4) ≤ 385 by first | omega | (simp only [eq10]; omega)) (show (x2 + 1) + (12 - w3_4) ≤ 18 by first | omega | (simp only [eq10]; omega))
              try rw [eq10] at b9
              obtain ⟨bs9_0, b9⟩ := b9
              have b11 : 0 ≤ Z9 56 18 ∧ Z9 56 18 ≤ 385 := hG9.pr 56 18
              refine Jcv0 hx8 (show mx_Sn _ _ 98 (mx_callv 185 4 12 101) from sn_185 98) a56 s56 hc9 rfl rfl rfl ?_
              have gl1 := gl_s (Z := Z) (left := 12) (most := x1) (n := x2) (its := w3_4) (by assumption) (by omega) (by omega) (by omega) hE8 bs9_0
              refine Jiinc (z := w3_4) (cz := (-1)) (ls2 := [some (.ref 56), some (xI 12), some (xI x1), some (xI x2), some (xI (w3_4 + (-1)))]) (show mx_Sn _ _ 101 (mx_iinc 4 (-1) 104) from sn_185 101) rfl rfl rfl rfl ?_
              refine mx_J.step (sn_185 104) (fun _ _ => rfl) ?_
              exact ih3 (w3_4 + (-1)) Z9 h9 (by omega) (by omega) (by omega) (gl1) hx9 hG9 (fr_tr (M := [(56, 18), (61, (-1)), (63, (-1))]) (fr_tr (M := [(56, 18), (61, (-1)), (63, (-1))]) (fr_tr (M := [(56, 18), (61, (-1)), (63, (-1))]) fr_rf (hf4) (M1 := []) rfl rfl) (fr_ua hE8) rfl rfl) (hf9) rfl rfl)
        have b12 : 0 ≤ Z 56 18 ∧ Z 56 18 ≤ 385 := hG.pr 56 18
        exact c75 (Int.toNat (k2_0 - 0) + 1) k2_0 Z h (by omega) (by omega) (by omega) (gl_0 (by omega) (by omega) (by omega) (by omega)) hx hG fr_rf
      refine Jicmp_ge (show mx_Sn _ _ 65 (mx_icmp_ge 72 68) from sn_185 65) (by omega) (by omega) (fun q13 => ?_) (fun q13 => ?_)
      · skip
        refine mx_J.step (sn_185 72) (fun _ _ => rfl) ?_
        exact c73 12 (by omega) (by first | exact ⟨rfl, by omega⟩ | exact ⟨WSs (n := 12) (by omega) (by omega), by omega⟩) (by omega)
      · skip
        refine mx_J.step (sn_185 68) (fun _ _ => rfl) ?_
        refine mx_J.step (sn_185 69) (fun _ _ => rfl) ?_
        exact c73 x1 (by omega) (by first | exact ⟨rfl, by omega⟩ | exact ⟨WSs (n := 12) (by omega) (by omega), by omega⟩) (by omega)
    · skip
      exfalso; omega
theorem ct_185_56_i12 {l : Launch} {D : va_G} {b0 : Nat} {ad : Nat → Nat} {Hb : Heap} {tau : Nat → Int64} {d n s : Nat} {S : Nat → xS} {Z : xZ} {h : mx_H} (hx : XH n s S Z h) (hG : GB n S Z)  {x1 x2 : Int} (p1 : 0 ≤ x1 ∧ x1 ≤ 18) (p2 : 0 ≤ x2 ∧ x2 ≤ 18) (k0 : Z 56 18 + wy (12 * 19 + x1) ≤ 385) (k1 : x2 + 12 ≤ 18) : ∃ (Z' : xZ) (h' : mx_H), mx_Ca (tB l D b0 ad Hb tau) (d + 13) 185 [.ref 56, xI 12, xI x1, xI x2] h (none, h') ∧ XH n s S Z' h' ∧ GB n S Z' ∧ fr' [(56, 18), (61, (-1)), (63, (-1))] Z Z' ∧ (GAp Z Z' 12 x1 x2 ∧ Z' 56 18 = Z 56 18 + wy (12 * 19 + x1)) := by
  obtain ⟨r, hca, Z', h', e, q⟩ := Jmt (B := tB l D b0 ad Hb tau) (M := mt_185) (mi := 185) (as := [.ref 56, xI 12, xI x1, xI x2]) (d := d + 12) (ls := [some (.ref 56), some (xI 12), some (xI x1), some (xI x2), none]) rfl rfl rfl rfl rfl rfl (cw_185_56_i12 (l := l) (D := D) (b0 := b0) (ad := ad) (Hb := Hb) (tau := tau) (d := d) (Post := fun r => ∃ (Z' : xZ) (h' : mx_H), r = (none, h') ∧ XH n s S Z' h' ∧ GB n S Z' ∧ fr' [(56, 18), (61, (-1)), (63, (-1))] Z Z' ∧ (GAp Z Z' 12 x1 x2 ∧ Z' 56 18 = Z 56 18 + wy (12 * 19 + x1))) hx hG p1 p2 k0 k1 (fun Z' h' q1 q2 q3 q4 => ⟨Z', h', rfl, q1, q2, q3, q4⟩))
  subst e; exact ⟨Z', h', hca, q⟩
theorem ct_185_56_le12 {l : Launch} {D : va_G} {b0 : Nat} {ad : Nat → Nat} {Hb : Heap} {tau : Nat → Int64} {d n s : Nat} {S : Nat → xS} {Z : xZ} {h : mx_H} (hx : XH n s S Z h) (hG : GB n S Z) {x0 x1 x2 : Int} (p0 : 0 ≤ x0 ∧ x0 ≤ 12) (p1 : 0 ≤ x1 ∧ x1 ≤ 18) (p2 : 0 ≤ x2 ∧ x2 ≤ 18) (k0 : Z 56 18 + wy (x0 * 19 + x1) ≤ 385) (k1 : x2 + x0 ≤ 18) : ∃ (Z' : xZ) (h' : mx_H), mx_Ca (tB l D b0 ad Hb tau) (d + 13) 185 [.ref 56, xI x0, xI x1, xI x2] h (none, h') ∧ XH n s S Z' h' ∧ GB n S Z' ∧ fr' [(56, 18), (61, (-1)), (63, (-1))] Z Z' ∧ (GAp Z Z' x0 x1 x2 ∧ Z' 56 18 = Z 56 18 + wy (x0 * 19 + x1)) := by
  have hc : x0 = 0 ∨ x0 = 1 ∨ x0 = 2 ∨ x0 = 3 ∨ x0 = 4 ∨ x0 = 5 ∨ x0 = 6 ∨ x0 = 7 ∨ x0 = 8 ∨ x0 = 9 ∨ x0 = 10 ∨ x0 = 11 ∨ x0 = 12 := by omega
  rcases hc with hc | hc | hc | hc | hc | hc | hc | hc | hc | hc | hc | hc | hc
  · subst hc
    obtain ⟨Z', h', hca, q1, q2, q3, q4⟩ := ct_185_56_i0 (d := d + 12) (l := l) (D := D) (b0 := b0) (ad := ad) (Hb := Hb) (tau := tau) hx hG p1 p2 k0 k1
    exact ⟨Z', h', hca, q1, q2, fr_tr (M1 := []) fr_rf q3 rfl rfl, q4⟩
  · subst hc
    obtain ⟨Z', h', hca, q1, q2, q3, q4⟩ := ct_185_56_i1 (d := d + 11) (l := l) (D := D) (b0 := b0) (ad := ad) (Hb := Hb) (tau := tau) hx hG p1 p2 k0 k1
    exact ⟨Z', h', hca, q1, q2, fr_tr (M1 := []) fr_rf q3 rfl rfl, q4⟩
  · subst hc
    obtain ⟨Z', h', hca, q1, q2, q3, q4⟩ := ct_185_56_i2 (d := d + 10) (l := l) (D := D) (b0 := b0) (ad := ad) (Hb := Hb) (tau := tau) hx hG p1 p2 k0 k1
    exact ⟨Z', h', hca, q1, q2, fr_tr (M1 := []) fr_rf q3 rfl rfl, q4⟩
  · subst hc
    obtain ⟨Z', h', hca, q1, q2, q3, q4⟩ := ct_185_56_i3 (d := d + 9) (l := l) (D := D) (b0 := b0) (ad := ad) (Hb := Hb) (tau := tau) hx hG p1 p2 k0 k1
    exact ⟨Z', h', hca, q1, q2, fr_tr (M1 := []) fr_rf q3 rfl rfl, q4⟩
  · subst hc
    obtain ⟨Z', h', hca, q1, q2, q3, q4⟩ := ct_185_56_i4 (d := d + 8) (l := l) (D := D) (b0 := b0) (ad := ad) (Hb := Hb) (tau := tau) hx hG p1 p2 k0 k1
    exact ⟨Z', h', hca, q1, q2, fr_tr (M1 := []) fr_rf q3 rfl rfl, q4⟩
  · subst hc
    obtain ⟨Z', h', hca, q1, q2, q3, q4⟩ := ct_185_56_i5 (d := d + 7) (l := l) (D := D) (b0 := b0) (ad := ad) (Hb := Hb) (tau := tau) hx hG p1 p2 k0 k1
    exact ⟨Z', h', hca, q1, q2, fr_tr (M1 := []) fr_rf q3 rfl rfl, q4⟩
  · subst hc
    obtain ⟨Z', h', hca, q1, q2, q3, q4⟩ := ct_185_56_i6 (d := d + 6) (l := l) (D := D) (b0 := b0) (ad := ad) (Hb := Hb) (tau := tau) hx hG p1 p2 k0 k1
    exact ⟨Z', h', hca, q1, q2, fr_tr (M1 := []) fr_rf q3 rfl rfl, q4⟩
  · subst hc
    obtain ⟨Z', h', hca, q1, q2, q3, q4⟩ := ct_185_56_i7 (d := d + 5) (l := l) (D := D) (b0 := b0) (ad := ad) (Hb := Hb) (tau := tau) hx hG p1 p2 k0 k1
    exact ⟨Z', h', hca, q1, q2, fr_tr (M1 := []) fr_rf q3 rfl rfl, q4⟩
  · subst hc
    obtain ⟨Z', h', hca, q1, q2, q3, q4⟩ := ct_185_56_i8 (d := d + 4) (l := l) (D := D) (b0 := b0) (ad := ad) (Hb := Hb) (tau := tau) hx hG p1 p2 k0 k1
    exact ⟨Z', h', hca, q1, q2, fr_tr (M1 := []) fr_rf q3 rfl rfl, q4⟩
  · subst hc
    obtain ⟨Z', h', hca, q1, q2, q3, q4⟩ := ct_185_56_i9 (d := d + 3) (l := l) (D := D) (b0 := b0) (ad := ad) (Hb := Hb) (tau := tau) hx hG p1 p2 k0 k1
    exact ⟨Z', h', hca, q1, q2, fr_tr (M1 := []) fr_rf q3 rfl rfl, q4⟩
  · subst hc
    obtain ⟨Z', h', hca, q1, q2, q3, q4⟩ := ct_185_56_i10 (d := d + 2) (l := l) (D := D) (b0 := b0) (ad := ad) (Hb := Hb) (tau := tau) hx hG p1 p2 k0 k1
    exact ⟨Z', h', hca, q1, q2, fr_tr (M1 := []) fr_rf q3 rfl rfl, q4⟩
  · subst hc
    obtain ⟨Z', h', hca, q1, q2, q3, q4⟩ := ct_185_56_i11 (d := d + 1) (l := l) (D := D) (b0 := b0) (ad := ad) (Hb := Hb) (tau := tau) hx hG p1 p2 k0 k1
    exact ⟨Z', h', hca, q1, q2, fr_tr (M1 := []) fr_rf q3 rfl rfl, q4⟩
  · subst hc
    obtain ⟨Z', h', hca, q1, q2, q3, q4⟩ := ct_185_56_i12 (d := d + 0) (l := l) (D := D) (b0 := b0) (ad := ad) (Hb := Hb) (tau := tau) hx hG p1 p2 k0 k1
    exact ⟨Z', h', hca, q1, q2, fr_tr (M1 := []) fr_rf q3 rfl rfl, q4⟩
set_option maxRecDepth 100000 in
theorem cw_185_56_i13 {l : Launch} {D : va_G} {b0 : Nat} {ad : Nat → Nat} {Hb : Heap} {tau : Nat → Int64} {d n s : Nat} {S : Nat → xS} {Z : xZ} {h : mx_H} {Post : mx_R → Prop} (hx : XH n s S Z h) (hG : GB n S Z)  {x1 x2 : Int} (p1 : 0 ≤ x1 ∧ x1 ≤ 18) (p2 : 0 ≤ x2 ∧ x2 ≤ 18) (k0 : Z 56 18 + wy (13 * 19 + x1) ≤ 385) (k1 : x2 + 13 ≤ 18) (hP : ∀ (Z' : xZ) (h' : mx_H), XH n s S Z' h' → GB n S Z' → fr' [(56, 18), (61, (-1)), (63, (-1))] Z Z' → GAp Z Z' 13 x1 x2 ∧ Z' 56 18 = Z 56 18 + wy (13 * 19 + x1) → Post (none, h')) : mx_J (tB l D b0 ad Hb tau) mt_185 (d + 13) 0 [some (.ref 56), some (xI 13), some (xI x1), some (xI x2), none] [] h Post := by
    have a56 : 56 < n := lt83 (GB_n hG) rfl
    have s56 : S 56 = .inl (12, [0, 2, 2, 2, 2, 0, 0, 0, 0, 0, 0, 0, 0, 0, 0, 2, 2, 2, 0, 2, 2, 2, 0, 0, 2, 2, 2, 2, 2, 2, 0, 0, 2, 2, 2, 2, 2, 2, 2, 2, 2, 2]) := GB_s hG 56 rfl
    have a63 : 63 < n := lt83 (GB_n hG) rfl
    have s63 : S 63 = .inr (.int, 18, 0) := GB_s hG 63 rfl
    refine mx_J.step (sn_185 0) (fun _ _ => rfl) ?_
    refine Jif_ne (show mx_Sn _ _ 1 (mx_if_ne 63 4) from sn_185 1) (by omega) (fun q1 => ?_) (fun q1 => ?_)
    · skip
      refine mx_J.step (sn_185 63) (fun _ _ => rfl) ?_
      refine mx_J.step (sn_185 64) (fun _ _ => rfl) ?_
      have c73 : ∀ (k2_0 : Int), 0 ≤ k2_0 ∧ k2_0 ≤ 13 → (wy (13 * 19 + k2_0) = wy (13 * 19 + x1) ∧ k2_0 ≤ 13) → ((x1 < 13 → k2_0 = x1) ∧ (13 ≤ x1 → k2_0 = 13)) → mx_J (tB l D b0 ad Hb tau) mt_185 (d + 13) 73 [some (.ref 56), some (xI 13), some (xI x1), some (xI x2), none] [xI k2_0] h Post := by
        intro k2_0 f2_0 f2_1 f2_2
        refine mx_J.step (ls2 := [some (.ref 56), some (xI 13), some (xI x1), some (xI x2), some (xI k2_0)]) (sn_185 73) (fun _ _ => rfl) ?_
        have c75 : ∀ (m3 : Nat) (w3_4 : Int) (Z4 : xZ) (h4 : mx_H), w3_4 - 0 < (m3 : Int) → 0 ≤ w3_4 ∧ w3_4 ≤ 13 → (Z4 56 18 + wy (13 * 19 + w3_4) = Z 56 18 + wy (13 * 19 + x1)) → GL Z Z4 13 x1 x2 w3_4 → XH n s S Z4 h4 → GB n S Z4 → fr' [(56, 18), (61, (-1)), (63, (-1))] Z Z4 → mx_J (tB l D b0 ad Hb tau) mt_185 (d + 13) 75 [some (.ref 56), some (xI 13), some (xI x1), some (xI x2), some (xI w3_4)] [] h4 Post := by
          intro m3
          induction m3 with
          | zero => intro w3_4 Z4 h4 q3 f3_0 f3_1 f3_2 hx4 hG4 hf4; exact absurd q3 (by omega)
          | succ m3 ih3 =>
            intro w3_4 Z4 h4 q3 f3_0 f3_1 f3_2 hx4 hG4 hf4
            have b5 : 0 ≤ Z4 56 18 ∧ Z4 56 18 ≤ 385 := hG4.pr 56 18
            refine mx_J.step (sn_185 75) (fun _ _ => rfl) ?_
            refine Jif_le (show mx_Sn _ _ 77 (mx_if_le 107 80) from sn_185 77) (by omega) (fun q6 => ?_) (fun q6 => ?_)
            · skip
              have w0 : wy (13 * 19 + w3_4) = 0 := by rw [show w3_4 = 0 by omega]; exact Wy0 (by omega)
              exact mx_J.ret (sn_185 107) (fun _ _ => rfl) (hP Z4 h4 hx4 hG4 (fr_tr (M := [(56, 18), (61, (-1)), (63, (-1))]) fr_rf (hf4) (M1 := []) rfl rfl) ⟨(gl_e (by assumption) (by omega) (by omega)), by omega⟩)
            · skip
              refine mx_J.step (sn_185 80) (fun _ _ => rfl) ?_
              refine JgetR (g := 17) (b := 63) hx4 (show mx_Sn _ _ 81 (mx_getf 12 17 84) from sn_185 81) a56 s56 rfl rfl (hG4.prr 56 17 rfl) ?_
              refine mx_J.step (sn_185 84) (fun _ _ => rfl) ?_
              refine mx_J.step (sn_185 85) (fun _ _ => rfl) ?_
              refine JiastI hx4 (show mx_Sn _ _ 87 (mx_iast 1 88) from sn_185 87) a63 s63 rfl (by omega) (fun Z8 h8 hx8 hE8 => ?_)
              have hG8 := GB_up hG4 hE8 (show 0 ≤ w3_4 ∧ w3_4 ≤ 18 by omega) trivial rfl
              have wr := WRr (n := 13) (m := w3_4) (by omega) (by omega)
              refine mx_J.step (sn_185 88) (fun _ _ => rfl) ?_
              refine mx_J.step (sn_185 89) (fun _ _ => rfl) ?_
              refine mx_J.step (sn_185 90) (fun _ _ => rfl) ?_
              refine Jisub (show mx_Sn _ _ 92 (mx_isub 93) from sn_185 92) ?_
              refine mx_J.step (sn_185 93) (fun _ _ => rfl) ?_
              refine mx_J.step (sn_185 95) (fun _ _ => rfl) ?_
              refine JcI (z := 1) (show mx_Sn _ _ 96 (mx_const (.int 1) 97) from sn_185 96) rfl ?_
              refine Jiadd (show mx_Sn _ _ 97 (mx_iadd 98) from sn_185 97) ?_
              have eq10 : Z8 56 18 = Z4 56 18 := (up_nk hE8 rfl)
              obtain ⟨Z9, h9, hc9, hx9, hG9, hf9, b9⟩ := ct_185_56_le12 (d := d + 0) (l := l) (D := D) (b0 := b0) (ad := ad) (Hb := Hb) (tau := tau) hx8 hG8 (show 0 ≤ 13 - w3_4 ∧ 13 - w3_4 ≤ 12 by omega) (show 0 ≤ w3_4 ∧ w3_4 ≤ 18 by omega) (show 0 ≤ x2 + 1 ∧ x2 + 1 ≤ 18 by omega) (show Z8 56 18 + wy ((13 - w3_4) * 19 + w3_4) ≤ 385 by first | omega | (simp only [eq10]; omega)) (show (x2 + 1) + (13 - w3_4) ≤ 18 by first | omega | (simp only [eq10]; omega))
              try rw [eq10] at b9
              obtain ⟨bs9_0, b9⟩ := b9
              have b11 : 0 ≤ Z9 56 18 ∧ Z9 56 18 ≤ 385 := hG9.pr 56 18
              refine Jcv0 hx8 (show mx_Sn _ _ 98 (mx_callv 185 4 12 101) from sn_185 98) a56 s56 hc9 rfl rfl rfl ?_
              have gl1 := gl_s (Z := Z) (left := 13) (most := x1) (n := x2) (its := w3_4) (by assumption) (by omega) (by omega) (by omega) hE8 bs9_0
              refine Jiinc (z := w3_4) (cz := (-1)) (ls2 := [some (.ref 56), some (xI 13), some (xI x1), some (xI x2), some (xI (w3_4 + (-1)))]) (show mx_Sn _ _ 101 (mx_iinc 4 (-1) 104) from sn_185 101) rfl rfl rfl rfl ?_
              refine mx_J.step (sn_185 104) (fun _ _ => rfl) ?_
              exact ih3 (w3_4 + (-1)) Z9 h9 (by omega) (by omega) (by omega) (gl1) hx9 hG9 (fr_tr (M := [(56, 18), (61, (-1)), (63, (-1))]) (fr_tr (M := [(56, 18), (61, (-1)), (63, (-1))]) (fr_tr (M := [(56, 18), (61, (-1)), (63, (-1))]) fr_rf (hf4) (M1 := []) rfl rfl) (fr_ua hE8) rfl rfl) (hf9) rfl rfl)
        have b12 : 0 ≤ Z 56 18 ∧ Z 56 18 ≤ 385 := hG.pr 56 18
        exact c75 (Int.toNat (k2_0 - 0) + 1) k2_0 Z h (by omega) (by omega) (by omega) (gl_0 (by omega) (by omega) (by omega) (by omega)) hx hG fr_rf
      refine Jicmp_ge (show mx_Sn _ _ 65 (mx_icmp_ge 72 68) from sn_185 65) (by omega) (by omega) (fun q13 => ?_) (fun q13 => ?_)
      · skip
        refine mx_J.step (sn_185 72) (fun _ _ => rfl) ?_
        exact c73 13 (by omega) (by first | exact ⟨rfl, by omega⟩ | exact ⟨WSs (n := 13) (by omega) (by omega), by omega⟩) (by omega)
      · skip
        refine mx_J.step (sn_185 68) (fun _ _ => rfl) ?_
        refine mx_J.step (sn_185 69) (fun _ _ => rfl) ?_
        exact c73 x1 (by omega) (by first | exact ⟨rfl, by omega⟩ | exact ⟨WSs (n := 13) (by omega) (by omega), by omega⟩) (by omega)
    · skip
      exfalso; omega
theorem ct_185_56_i13 {l : Launch} {D : va_G} {b0 : Nat} {ad : Nat → Nat} {Hb : Heap} {tau : Nat → Int64} {d n s : Nat} {S : Nat → xS} {Z : xZ} {h : mx_H} (hx : XH n s S Z h) (hG : GB n S Z)  {x1 x2 : Int} (p1 : 0 ≤ x1 ∧ x1 ≤ 18) (p2 : 0 ≤ x2 ∧ x2 ≤ 18) (k0 : Z 56 18 + wy (13 * 19 + x1) ≤ 385) (k1 : x2 + 13 ≤ 18) : ∃ (Z' : xZ) (h' : mx_H), mx_Ca (tB l D b0 ad Hb tau) (d + 14) 185 [.ref 56, xI 13, xI x1, xI x2] h (none, h') ∧ XH n s S Z' h' ∧ GB n S Z' ∧ fr' [(56, 18), (61, (-1)), (63, (-1))] Z Z' ∧ (GAp Z Z' 13 x1 x2 ∧ Z' 56 18 = Z 56 18 + wy (13 * 19 + x1)) := by
  obtain ⟨r, hca, Z', h', e, q⟩ := Jmt (B := tB l D b0 ad Hb tau) (M := mt_185) (mi := 185) (as := [.ref 56, xI 13, xI x1, xI x2]) (d := d + 13) (ls := [some (.ref 56), some (xI 13), some (xI x1), some (xI x2), none]) rfl rfl rfl rfl rfl rfl (cw_185_56_i13 (l := l) (D := D) (b0 := b0) (ad := ad) (Hb := Hb) (tau := tau) (d := d) (Post := fun r => ∃ (Z' : xZ) (h' : mx_H), r = (none, h') ∧ XH n s S Z' h' ∧ GB n S Z' ∧ fr' [(56, 18), (61, (-1)), (63, (-1))] Z Z' ∧ (GAp Z Z' 13 x1 x2 ∧ Z' 56 18 = Z 56 18 + wy (13 * 19 + x1))) hx hG p1 p2 k0 k1 (fun Z' h' q1 q2 q3 q4 => ⟨Z', h', rfl, q1, q2, q3, q4⟩))
  subst e; exact ⟨Z', h', hca, q⟩
theorem ct_185_56_le13 {l : Launch} {D : va_G} {b0 : Nat} {ad : Nat → Nat} {Hb : Heap} {tau : Nat → Int64} {d n s : Nat} {S : Nat → xS} {Z : xZ} {h : mx_H} (hx : XH n s S Z h) (hG : GB n S Z) {x0 x1 x2 : Int} (p0 : 0 ≤ x0 ∧ x0 ≤ 13) (p1 : 0 ≤ x1 ∧ x1 ≤ 18) (p2 : 0 ≤ x2 ∧ x2 ≤ 18) (k0 : Z 56 18 + wy (x0 * 19 + x1) ≤ 385) (k1 : x2 + x0 ≤ 18) : ∃ (Z' : xZ) (h' : mx_H), mx_Ca (tB l D b0 ad Hb tau) (d + 14) 185 [.ref 56, xI x0, xI x1, xI x2] h (none, h') ∧ XH n s S Z' h' ∧ GB n S Z' ∧ fr' [(56, 18), (61, (-1)), (63, (-1))] Z Z' ∧ (GAp Z Z' x0 x1 x2 ∧ Z' 56 18 = Z 56 18 + wy (x0 * 19 + x1)) := by
  have hc : x0 = 0 ∨ x0 = 1 ∨ x0 = 2 ∨ x0 = 3 ∨ x0 = 4 ∨ x0 = 5 ∨ x0 = 6 ∨ x0 = 7 ∨ x0 = 8 ∨ x0 = 9 ∨ x0 = 10 ∨ x0 = 11 ∨ x0 = 12 ∨ x0 = 13 := by omega
  rcases hc with hc | hc | hc | hc | hc | hc | hc | hc | hc | hc | hc | hc | hc | hc
  · subst hc
    obtain ⟨Z', h', hca, q1, q2, q3, q4⟩ := ct_185_56_i0 (d := d + 13) (l := l) (D := D) (b0 := b0) (ad := ad) (Hb := Hb) (tau := tau) hx hG p1 p2 k0 k1
    exact ⟨Z', h', hca, q1, q2, fr_tr (M1 := []) fr_rf q3 rfl rfl, q4⟩
  · subst hc
    obtain ⟨Z', h', hca, q1, q2, q3, q4⟩ := ct_185_56_i1 (d := d + 12) (l := l) (D := D) (b0 := b0) (ad := ad) (Hb := Hb) (tau := tau) hx hG p1 p2 k0 k1
    exact ⟨Z', h', hca, q1, q2, fr_tr (M1 := []) fr_rf q3 rfl rfl, q4⟩
  · subst hc
    obtain ⟨Z', h', hca, q1, q2, q3, q4⟩ := ct_185_56_i2 (d := d + 11) (l := l) (D := D) (b0 := b0) (ad := ad) (Hb := Hb) (tau := tau) hx hG p1 p2 k0 k1
    exact ⟨Z', h', hca, q1, q2, fr_tr (M1 := []) fr_rf q3 rfl rfl, q4⟩
  · subst hc
    obtain ⟨Z', h', hca, q1, q2, q3, q4⟩ := ct_185_56_i3 (d := d + 10) (l := l) (D := D) (b0 := b0) (ad := ad) (Hb := Hb) (tau := tau) hx hG p1 p2 k0 k1
    exact ⟨Z', h', hca, q1, q2, fr_tr (M1 := []) fr_rf q3 rfl rfl, q4⟩
  · subst hc
    obtain ⟨Z', h', hca, q1, q2, q3, q4⟩ := ct_185_56_i4 (d := d + 9) (l := l) (D := D) (b0 := b0) (ad := ad) (Hb := Hb) (tau := tau) hx hG p1 p2 k0 k1
    exact ⟨Z', h', hca, q1, q2, fr_tr (M1 := []) fr_rf q3 rfl rfl, q4⟩
  · subst hc
    obtain ⟨Z', h', hca, q1, q2, q3, q4⟩ := ct_185_56_i5 (d := d + 8) (l := l) (D := D) (b0 := b0) (ad := ad) (Hb := Hb) (tau := tau) hx hG p1 p2 k0 k1
    exact ⟨Z', h', hca, q1, q2, fr_tr (M1 := []) fr_rf q3 rfl rfl, q4⟩
  · subst hc
    obtain ⟨Z', h', hca, q1, q2, q3, q4⟩ := ct_185_56_i6 (d := d + 7) (l := l) (D := D) (b0 := b0) (ad := ad) (Hb := Hb) (tau := tau) hx hG p1 p2 k0 k1
    exact ⟨Z', h', hca, q1, q2, fr_tr (M1 := []) fr_rf q3 rfl rfl, q4⟩
  · subst hc
    obtain ⟨Z', h', hca, q1, q2, q3, q4⟩ := ct_185_56_i7 (d := d + 6) (l := l) (D := D) (b0 := b0) (ad := ad) (Hb := Hb) (tau := tau) hx hG p1 p2 k0 k1
    exact ⟨Z', h', hca, q1, q2, fr_tr (M1 := []) fr_rf q3 rfl rfl, q4⟩
  · subst hc
    obtain ⟨Z', h', hca, q1, q2, q3, q4⟩ := ct_185_56_i8 (d := d + 5) (l := l) (D := D) (b0 := b0) (ad := ad) (Hb := Hb) (tau := tau) hx hG p1 p2 k0 k1
    exact ⟨Z', h', hca, q1, q2, fr_tr (M1 := []) fr_rf q3 rfl rfl, q4⟩
  · subst hc
    obtain ⟨Z', h', hca, q1, q2, q3, q4⟩ := ct_185_56_i9 (d := d + 4) (l := l) (D := D) (b0 := b0) (ad := ad) (Hb := Hb) (tau := tau) hx hG p1 p2 k0 k1
    exact ⟨Z', h', hca, q1, q2, fr_tr (M1 := []) fr_rf q3 rfl rfl, q4⟩
  · subst hc
    obtain ⟨Z', h', hca, q1, q2, q3, q4⟩ := ct_185_56_i10 (d := d + 3) (l := l) (D := D) (b0 := b0) (ad := ad) (Hb := Hb) (tau := tau) hx hG p1 p2 k0 k1
    exact ⟨Z', h', hca, q1, q2, fr_tr (M1 := []) fr_rf q3 rfl rfl, q4⟩
  · subst hc
    obtain ⟨Z', h', hca, q1, q2, q3, q4⟩ := ct_185_56_i11 (d := d + 2) (l := l) (D := D) (b0 := b0) (ad := ad) (Hb := Hb) (tau := tau) hx hG p1 p2 k0 k1
    exact ⟨Z', h', hca, q1, q2, fr_tr (M1 := []) fr_rf q3 rfl rfl, q4⟩
  · subst hc
    obtain ⟨Z', h', hca, q1, q2, q3, q4⟩ := ct_185_56_i12 (d := d + 1) (l := l) (D := D) (b0 := b0) (ad := ad) (Hb := Hb) (tau := tau) hx hG p1 p2 k0 k1
    exact ⟨Z', h', hca, q1, q2, fr_tr (M1 := []) fr_rf q3 rfl rfl, q4⟩
  · subst hc
    obtain ⟨Z', h', hca, q1, q2, q3, q4⟩ := ct_185_56_i13 (d := d + 0) (l := l) (D := D) (b0 := b0) (ad := ad) (Hb := Hb) (tau := tau) hx hG p1 p2 k0 k1
    exact ⟨Z', h', hca, q1, q2, fr_tr (M1 := []) fr_rf q3 rfl rfl, q4⟩
set_option maxRecDepth 100000 in
theorem cw_185_56_i14 {l : Launch} {D : va_G} {b0 : Nat} {ad : Nat → Nat} {Hb : Heap} {tau : Nat → Int64} {d n s : Nat} {S : Nat → xS} {Z : xZ} {h : mx_H} {Post : mx_R → Prop} (hx : XH n s S Z h) (hG : GB n S Z)  {x1 x2 : Int} (p1 : 0 ≤ x1 ∧ x1 ≤ 18) (p2 : 0 ≤ x2 ∧ x2 ≤ 18) (k0 : Z 56 18 + wy (14 * 19 + x1) ≤ 385) (k1 : x2 + 14 ≤ 18) (hP : ∀ (Z' : xZ) (h' : mx_H), XH n s S Z' h' → GB n S Z' → fr' [(56, 18), (61, (-1)), (63, (-1))] Z Z' → GAp Z Z' 14 x1 x2 ∧ Z' 56 18 = Z 56 18 + wy (14 * 19 + x1) → Post (none, h')) : mx_J (tB l D b0 ad Hb tau) mt_185 (d + 14) 0 [some (.ref 56), some (xI 14), some (xI x1), some (xI x2), none] [] h Post := by
    have a56 : 56 < n := lt83 (GB_n hG) rfl
    have s56 : S 56 = .inl (12, [0, 2, 2, 2, 2, 0, 0, 0, 0, 0, 0, 0, 0, 0, 0, 2, 2, 2, 0, 2, 2, 2, 0, 0, 2, 2, 2, 2, 2, 2, 0, 0, 2, 2, 2, 2, 2, 2, 2, 2, 2, 2]) := GB_s hG 56 rfl
    have a63 : 63 < n := lt83 (GB_n hG) rfl
    have s63 : S 63 = .inr (.int, 18, 0) := GB_s hG 63 rfl
    refine mx_J.step (sn_185 0) (fun _ _ => rfl) ?_
    refine Jif_ne (show mx_Sn _ _ 1 (mx_if_ne 63 4) from sn_185 1) (by omega) (fun q1 => ?_) (fun q1 => ?_)
    · skip
      refine mx_J.step (sn_185 63) (fun _ _ => rfl) ?_
      refine mx_J.step (sn_185 64) (fun _ _ => rfl) ?_
      have c73 : ∀ (k2_0 : Int), 0 ≤ k2_0 ∧ k2_0 ≤ 14 → (wy (14 * 19 + k2_0) = wy (14 * 19 + x1) ∧ k2_0 ≤ 14) → ((x1 < 14 → k2_0 = x1) ∧ (14 ≤ x1 → k2_0 = 14)) → mx_J (tB l D b0 ad Hb tau) mt_185 (d + 14) 73 [some (.ref 56), some (xI 14), some (xI x1), some (xI x2), none] [xI k2_0] h Post := by
        intro k2_0 f2_0 f2_1 f2_2
        refine mx_J.step (ls2 := [some (.ref 56), some (xI 14), some (xI x1), some (xI x2), some (xI k2_0)]) (sn_185 73) (fun _ _ => rfl) ?_
        have c75 : ∀ (m3 : Nat) (w3_4 : Int) (Z4 : xZ) (h4 : mx_H), w3_4 - 0 < (m3 : Int) → 0 ≤ w3_4 ∧ w3_4 ≤ 14 → (Z4 56 18 + wy (14 * 19 + w3_4) = Z 56 18 + wy (14 * 19 + x1)) → GL Z Z4 14 x1 x2 w3_4 → XH n s S Z4 h4 → GB n S Z4 → fr' [(56, 18), (61, (-1)), (63, (-1))] Z Z4 → mx_J (tB l D b0 ad Hb tau) mt_185 (d + 14) 75 [some (.ref 56), some (xI 14), some (xI x1), some (xI x2), some (xI w3_4)] [] h4 Post := by
          intro m3
          induction m3 with
          | zero => intro w3_4 Z4 h4 q3 f3_0 f3_1 f3_2 hx4 hG4 hf4; exact absurd q3 (by omega)
          | succ m3 ih3 =>
            intro w3_4 Z4 h4 q3 f3_0 f3_1 f3_2 hx4 hG4 hf4
            have b5 : 0 ≤ Z4 56 18 ∧ Z4 56 18 ≤ 385 := hG4.pr 56 18
            refine mx_J.step (sn_185 75) (fun _ _ => rfl) ?_
            refine Jif_le (show mx_Sn _ _ 77 (mx_if_le 107 80) from sn_185 77) (by omega) (fun q6 => ?_) (fun q6 => ?_)
            · skip
              have w0 : wy (14 * 19 + w3_4) = 0 := by rw [show w3_4 = 0 by omega]; exact Wy0 (by omega)
              exact mx_J.ret (sn_185 107) (fun _ _ => rfl) (hP Z4 h4 hx4 hG4 (fr_tr (M := [(56, 18), (61, (-1)), (63, (-1))]) fr_rf (hf4) (M1 := []) rfl rfl) ⟨(gl_e (by assumption) (by omega) (by omega)), by omega⟩)
            · skip
              refine mx_J.step (sn_185 80) (fun _ _ => rfl) ?_
              refine JgetR (g := 17) (b := 63) hx4 (show mx_Sn _ _ 81 (mx_getf 12 17 84) from sn_185 81) a56 s56 rfl rfl (hG4.prr 56 17 rfl) ?_
              refine mx_J.step (sn_185 84) (fun _ _ => rfl) ?_
              refine mx_J.step (sn_185 85) (fun _ _ => rfl) ?_
              refine JiastI hx4 (show mx_Sn _ _ 87 (mx_iast 1 88) from sn_185 87) a63 s63 rfl (by omega) (fun Z8 h8 hx8 hE8 => ?_)
              have hG8 := GB_up hG4 hE8 (show 0 ≤ w3_4 ∧ w3_4 ≤ 18 by omega) trivial rfl
              have wr := WRr (n := 14) (m := w3_4) (by omega) (by omega)
              refine mx_J.step (sn_185 88) (fun _ _ => rfl) ?_
              refine mx_J.step (sn_185 89) (fun _ _ => rfl) ?_
              refine mx_J.step (sn_185 90) (fun _ _ => rfl) ?_
              refine Jisub (show mx_Sn _ _ 92 (mx_isub 93) from sn_185 92) ?_
              refine mx_J.step (sn_185 93) (fun _ _ => rfl) ?_
              refine mx_J.step (sn_185 95) (fun _ _ => rfl) ?_
              refine JcI (z := 1) (show mx_Sn _ _ 96 (mx_const (.int 1) 97) from sn_185 96) rfl ?_
              refine Jiadd (show mx_Sn _ _ 97 (mx_iadd 98) from sn_185 97) ?_
              have eq10 : Z8 56 18 = Z4 56 18 := (up_nk hE8 rfl)
              obtain ⟨Z9, h9, hc9, hx9, hG9, hf9, b9⟩ := ct_185_56_le13 (d := d + 0) (l := l) (D := D) (b0 := b0) (ad := ad) (Hb := Hb) (tau := tau) hx8 hG8 (show 0 ≤ 14 - w3_4 ∧ 14 - w3_4 ≤ 13 by omega) (show 0 ≤ w3_4 ∧ w3_4 ≤ 18 by omega) (show 0 ≤ x2 + 1 ∧ x2 + 1 ≤ 18 by omega) (show Z8 56 18 + wy ((14 - w3_4) * 19 + w3_4) ≤ 385 by first | omega | (simp only [eq10]; omega)) (show (x2 + 1) + (14 - w3_4) ≤ 18 by first | omega | (simp only [eq10]; omega))
              try rw [eq10] at b9
              obtain ⟨bs9_0, b9⟩ := b9
              have b11 : 0 ≤ Z9 56 18 ∧ Z9 56 18 ≤ 385 := hG9.pr 56 18
              refine Jcv0 hx8 (show mx_Sn _ _ 98 (mx_callv 185 4 12 101) from sn_185 98) a56 s56 hc9 rfl rfl rfl ?_
              have gl1 := gl_s (Z := Z) (left := 14) (most := x1) (n := x2) (its := w3_4) (by assumption) (by omega) (by omega) (by omega) hE8 bs9_0
              refine Jiinc (z := w3_4) (cz := (-1)) (ls2 := [some (.ref 56), some (xI 14), some (xI x1), some (xI x2), some (xI (w3_4 + (-1)))]) (show mx_Sn _ _ 101 (mx_iinc 4 (-1) 104) from sn_185 101) rfl rfl rfl rfl ?_
              refine mx_J.step (sn_185 104) (fun _ _ => rfl) ?_
              exact ih3 (w3_4 + (-1)) Z9 h9 (by omega) (by omega) (by omega) (gl1) hx9 hG9 (fr_tr (M := [(56, 18), (61, (-1)), (63, (-1))]) (fr_tr (M := [(56, 18), (61, (-1)), (63, (-1))]) (fr_tr (M := [(56, 18), (61, (-1)), (63, (-1))]) fr_rf (hf4) (M1 := []) rfl rfl) (fr_ua hE8) rfl rfl) (hf9) rfl rfl)
        have b12 : 0 ≤ Z 56 18 ∧ Z 56 18 ≤ 385 := hG.pr 56 18
        exact c75 (Int.toNat (k2_0 - 0) + 1) k2_0 Z h (by omega) (by omega) (by omega) (gl_0 (by omega) (by omega) (by omega) (by omega)) hx hG fr_rf
      refine Jicmp_ge (show mx_Sn _ _ 65 (mx_icmp_ge 72 68) from sn_185 65) (by omega) (by omega) (fun q13 => ?_) (fun q13 => ?_)
      · skip
        refine mx_J.step (sn_185 72) (fun _ _ => rfl) ?_
        exact c73 14 (by omega) (by first | exact ⟨rfl, by omega⟩ | exact ⟨WSs (n := 14) (by omega) (by omega), by omega⟩) (by omega)
      · skip
        refine mx_J.step (sn_185 68) (fun _ _ => rfl) ?_
        refine mx_J.step (sn_185 69) (fun _ _ => rfl) ?_
        exact c73 x1 (by omega) (by first | exact ⟨rfl, by omega⟩ | exact ⟨WSs (n := 14) (by omega) (by omega), by omega⟩) (by omega)
    · skip
      exfalso; omega
theorem ct_185_56_i14 {l : Launch} {D : va_G} {b0 : Nat} {ad : Nat → Nat} {Hb : Heap} {tau : Nat → Int64} {d n s : Nat} {S : Nat → xS} {Z : xZ} {h : mx_H} (hx : XH n s S Z h) (hG : GB n S Z)  {x1 x2 : Int} (p1 : 0 ≤ x1 ∧ x1 ≤ 18) (p2 : 0 ≤ x2 ∧ x2 ≤ 18) (k0 : Z 56 18 + wy (14 * 19 + x1) ≤ 385) (k1 : x2 + 14 ≤ 18) : ∃ (Z' : xZ) (h' : mx_H), mx_Ca (tB l D b0 ad Hb tau) (d + 15) 185 [.ref 56, xI 14, xI x1, xI x2] h (none, h') ∧ XH n s S Z' h' ∧ GB n S Z' ∧ fr' [(56, 18), (61, (-1)), (63, (-1))] Z Z' ∧ (GAp Z Z' 14 x1 x2 ∧ Z' 56 18 = Z 56 18 + wy (14 * 19 + x1)) := by
  obtain ⟨r, hca, Z', h', e, q⟩ := Jmt (B := tB l D b0 ad Hb tau) (M := mt_185) (mi := 185) (as := [.ref 56, xI 14, xI x1, xI x2]) (d := d + 14) (ls := [some (.ref 56), some (xI 14), some (xI x1), some (xI x2), none]) rfl rfl rfl rfl rfl rfl (cw_185_56_i14 (l := l) (D := D) (b0 := b0) (ad := ad) (Hb := Hb) (tau := tau) (d := d) (Post := fun r => ∃ (Z' : xZ) (h' : mx_H), r = (none, h') ∧ XH n s S Z' h' ∧ GB n S Z' ∧ fr' [(56, 18), (61, (-1)), (63, (-1))] Z Z' ∧ (GAp Z Z' 14 x1 x2 ∧ Z' 56 18 = Z 56 18 + wy (14 * 19 + x1))) hx hG p1 p2 k0 k1 (fun Z' h' q1 q2 q3 q4 => ⟨Z', h', rfl, q1, q2, q3, q4⟩))
  subst e; exact ⟨Z', h', hca, q⟩
theorem ct_185_56_le14 {l : Launch} {D : va_G} {b0 : Nat} {ad : Nat → Nat} {Hb : Heap} {tau : Nat → Int64} {d n s : Nat} {S : Nat → xS} {Z : xZ} {h : mx_H} (hx : XH n s S Z h) (hG : GB n S Z) {x0 x1 x2 : Int} (p0 : 0 ≤ x0 ∧ x0 ≤ 14) (p1 : 0 ≤ x1 ∧ x1 ≤ 18) (p2 : 0 ≤ x2 ∧ x2 ≤ 18) (k0 : Z 56 18 + wy (x0 * 19 + x1) ≤ 385) (k1 : x2 + x0 ≤ 18) : ∃ (Z' : xZ) (h' : mx_H), mx_Ca (tB l D b0 ad Hb tau) (d + 15) 185 [.ref 56, xI x0, xI x1, xI x2] h (none, h') ∧ XH n s S Z' h' ∧ GB n S Z' ∧ fr' [(56, 18), (61, (-1)), (63, (-1))] Z Z' ∧ (GAp Z Z' x0 x1 x2 ∧ Z' 56 18 = Z 56 18 + wy (x0 * 19 + x1)) := by
  have hc : x0 = 0 ∨ x0 = 1 ∨ x0 = 2 ∨ x0 = 3 ∨ x0 = 4 ∨ x0 = 5 ∨ x0 = 6 ∨ x0 = 7 ∨ x0 = 8 ∨ x0 = 9 ∨ x0 = 10 ∨ x0 = 11 ∨ x0 = 12 ∨ x0 = 13 ∨ x0 = 14 := by omega
  rcases hc with hc | hc | hc | hc | hc | hc | hc | hc | hc | hc | hc | hc | hc | hc | hc
  · subst hc
    obtain ⟨Z', h', hca, q1, q2, q3, q4⟩ := ct_185_56_i0 (d := d + 14) (l := l) (D := D) (b0 := b0) (ad := ad) (Hb := Hb) (tau := tau) hx hG p1 p2 k0 k1
    exact ⟨Z', h', hca, q1, q2, fr_tr (M1 := []) fr_rf q3 rfl rfl, q4⟩
  · subst hc
    obtain ⟨Z', h', hca, q1, q2, q3, q4⟩ := ct_185_56_i1 (d := d + 13) (l := l) (D := D) (b0 := b0) (ad := ad) (Hb := Hb) (tau := tau) hx hG p1 p2 k0 k1
    exact ⟨Z', h', hca, q1, q2, fr_tr (M1 := []) fr_rf q3 rfl rfl, q4⟩
  · subst hc
    obtain ⟨Z', h', hca, q1, q2, q3, q4⟩ := ct_185_56_i2 (d := d + 12) (l := l) (D := D) (b0 := b0) (ad := ad) (Hb := Hb) (tau := tau) hx hG p1 p2 k0 k1
    exact ⟨Z', h', hca, q1, q2, fr_tr (M1 := []) fr_rf q3 rfl rfl, q4⟩
  · subst hc
    obtain ⟨Z', h', hca, q1, q2, q3, q4⟩ := ct_185_56_i3 (d := d + 11) (l := l) (D := D) (b0 := b0) (ad := ad) (Hb := Hb) (tau := tau) hx hG p1 p2 k0 k1
    exact ⟨Z', h', hca, q1, q2, fr_tr (M1 := []) fr_rf q3 rfl rfl, q4⟩
  · subst hc
    obtain ⟨Z', h', hca, q1, q2, q3, q4⟩ := ct_185_56_i4 (d := d + 10) (l := l) (D := D) (b0 := b0) (ad := ad) (Hb := Hb) (tau := tau) hx hG p1 p2 k0 k1
    exact ⟨Z', h', hca, q1, q2, fr_tr (M1 := []) fr_rf q3 rfl rfl, q4⟩
  · subst hc
    obtain ⟨Z', h', hca, q1, q2, q3, q4⟩ := ct_185_56_i5 (d := d + 9) (l := l) (D := D) (b0 := b0) (ad := ad) (Hb := Hb) (tau := tau) hx hG p1 p2 k0 k1
    exact ⟨Z', h', hca, q1, q2, fr_tr (M1 := []) fr_rf q3 rfl rfl, q4⟩
  · subst hc
    obtain ⟨Z', h', hca, q1, q2, q3, q4⟩ := ct_185_56_i6 (d := d + 8) (l := l) (D := D) (b0 := b0) (ad := ad) (Hb := Hb) (tau := tau) hx hG p1 p2 k0 k1
    exact ⟨Z', h', hca, q1, q2, fr_tr (M1 := []) fr_rf q3 rfl rfl, q4⟩
  · subst hc
    obtain ⟨Z', h', hca, q1, q2, q3, q4⟩ := ct_185_56_i7 (d := d + 7) (l := l) (D := D) (b0 := b0) (ad := ad) (Hb := Hb) (tau := tau) hx hG p1 p2 k0 k1
    exact ⟨Z', h', hca, q1, q2, fr_tr (M1 := []) fr_rf q3 rfl rfl, q4⟩
  · subst hc
    obtain ⟨Z', h', hca, q1, q2, q3, q4⟩ := ct_185_56_i8 (d := d + 6) (l := l) (D := D) (b0 := b0) (ad := ad) (Hb := Hb) (tau := tau) hx hG p1 p2 k0 k1
    exact ⟨Z', h', hca, q1, q2, fr_tr (M1 := []) fr_rf q3 rfl rfl, q4⟩
  · subst hc
    obtain ⟨Z', h', hca, q1, q2, q3, q4⟩ := ct_185_56_i9 (d := d + 5) (l := l) (D := D) (b0 := b0) (ad := ad) (Hb := Hb) (tau := tau) hx hG p1 p2 k0 k1
    exact ⟨Z', h', hca, q1, q2, fr_tr (M1 := []) fr_rf q3 rfl rfl, q4⟩
  · subst hc
    obtain ⟨Z', h', hca, q1, q2, q3, q4⟩ := ct_185_56_i10 (d := d + 4) (l := l) (D := D) (b0 := b0) (ad := ad) (Hb := Hb) (tau := tau) hx hG p1 p2 k0 k1
    exact ⟨Z', h', hca, q1, q2, fr_tr (M1 := []) fr_rf q3 rfl rfl, q4⟩
  · subst hc
    obtain ⟨Z', h', hca, q1, q2, q3, q4⟩ := ct_185_56_i11 (d := d + 3) (l := l) (D := D) (b0 := b0) (ad := ad) (Hb := Hb) (tau := tau) hx hG p1 p2 k0 k1
    exact ⟨Z', h', hca, q1, q2, fr_tr (M1 := []) fr_rf q3 rfl rfl, q4⟩
  · subst hc
    obtain ⟨Z', h', hca, q1, q2, q3, q4⟩ := ct_185_56_i12 (d := d + 2) (l := l) (D := D) (b0 := b0) (ad := ad) (Hb := Hb) (tau := tau) hx hG p1 p2 k0 k1
    exact ⟨Z', h', hca, q1, q2, fr_tr (M1 := []) fr_rf q3 rfl rfl, q4⟩
  · subst hc
    obtain ⟨Z', h', hca, q1, q2, q3, q4⟩ := ct_185_56_i13 (d := d + 1) (l := l) (D := D) (b0 := b0) (ad := ad) (Hb := Hb) (tau := tau) hx hG p1 p2 k0 k1
    exact ⟨Z', h', hca, q1, q2, fr_tr (M1 := []) fr_rf q3 rfl rfl, q4⟩
  · subst hc
    obtain ⟨Z', h', hca, q1, q2, q3, q4⟩ := ct_185_56_i14 (d := d + 0) (l := l) (D := D) (b0 := b0) (ad := ad) (Hb := Hb) (tau := tau) hx hG p1 p2 k0 k1
    exact ⟨Z', h', hca, q1, q2, fr_tr (M1 := []) fr_rf q3 rfl rfl, q4⟩
set_option maxRecDepth 100000 in
theorem cw_185_56_i15 {l : Launch} {D : va_G} {b0 : Nat} {ad : Nat → Nat} {Hb : Heap} {tau : Nat → Int64} {d n s : Nat} {S : Nat → xS} {Z : xZ} {h : mx_H} {Post : mx_R → Prop} (hx : XH n s S Z h) (hG : GB n S Z)  {x1 x2 : Int} (p1 : 0 ≤ x1 ∧ x1 ≤ 18) (p2 : 0 ≤ x2 ∧ x2 ≤ 18) (k0 : Z 56 18 + wy (15 * 19 + x1) ≤ 385) (k1 : x2 + 15 ≤ 18) (hP : ∀ (Z' : xZ) (h' : mx_H), XH n s S Z' h' → GB n S Z' → fr' [(56, 18), (61, (-1)), (63, (-1))] Z Z' → GAp Z Z' 15 x1 x2 ∧ Z' 56 18 = Z 56 18 + wy (15 * 19 + x1) → Post (none, h')) : mx_J (tB l D b0 ad Hb tau) mt_185 (d + 15) 0 [some (.ref 56), some (xI 15), some (xI x1), some (xI x2), none] [] h Post := by
    have a56 : 56 < n := lt83 (GB_n hG) rfl
    have s56 : S 56 = .inl (12, [0, 2, 2, 2, 2, 0, 0, 0, 0, 0, 0, 0, 0, 0, 0, 2, 2, 2, 0, 2, 2, 2, 0, 0, 2, 2, 2, 2, 2, 2, 0, 0, 2, 2, 2, 2, 2, 2, 2, 2, 2, 2]) := GB_s hG 56 rfl
    have a63 : 63 < n := lt83 (GB_n hG) rfl
    have s63 : S 63 = .inr (.int, 18, 0) := GB_s hG 63 rfl
    refine mx_J.step (sn_185 0) (fun _ _ => rfl) ?_
    refine Jif_ne (show mx_Sn _ _ 1 (mx_if_ne 63 4) from sn_185 1) (by omega) (fun q1 => ?_) (fun q1 => ?_)
    · skip
      refine mx_J.step (sn_185 63) (fun _ _ => rfl) ?_
      refine mx_J.step (sn_185 64) (fun _ _ => rfl) ?_
      have c73 : ∀ (k2_0 : Int), 0 ≤ k2_0 ∧ k2_0 ≤ 15 → (wy (15 * 19 + k2_0) = wy (15 * 19 + x1) ∧ k2_0 ≤ 15) → ((x1 < 15 → k2_0 = x1) ∧ (15 ≤ x1 → k2_0 = 15)) → mx_J (tB l D b0 ad Hb tau) mt_185 (d + 15) 73 [some (.ref 56), some (xI 15), some (xI x1), some (xI x2), none] [xI k2_0] h Post := by
        intro k2_0 f2_0 f2_1 f2_2
        refine mx_J.step (ls2 := [some (.ref 56), some (xI 15), some (xI x1), some (xI x2), some (xI k2_0)]) (sn_185 73) (fun _ _ => rfl) ?_
        have c75 : ∀ (m3 : Nat) (w3_4 : Int) (Z4 : xZ) (h4 : mx_H), w3_4 - 0 < (m3 : Int) → 0 ≤ w3_4 ∧ w3_4 ≤ 15 → (Z4 56 18 + wy (15 * 19 + w3_4) = Z 56 18 + wy (15 * 19 + x1)) → GL Z Z4 15 x1 x2 w3_4 → XH n s S Z4 h4 → GB n S Z4 → fr' [(56, 18), (61, (-1)), (63, (-1))] Z Z4 → mx_J (tB l D b0 ad Hb tau) mt_185 (d + 15) 75 [some (.ref 56), some (xI 15), some (xI x1), some (xI x2), some (xI w3_4)] [] h4 Post := by
          intro m3
          induction m3 with
          | zero => intro w3_4 Z4 h4 q3 f3_0 f3_1 f3_2 hx4 hG4 hf4; exact absurd q3 (by omega)
          | succ m3 ih3 =>
            intro w3_4 Z4 h4 q3 f3_0 f3_1 f3_2 hx4 hG4 hf4
            have b5 : 0 ≤ Z4 56 18 ∧ Z4 56 18 ≤ 385 := hG4.pr 56 18
            refine mx_J.step (sn_185 75) (fun _ _ => rfl) ?_
            refine Jif_le (show mx_Sn _ _ 77 (mx_if_le 107 80) from sn_185 77) (by omega) (fun q6 => ?_) (fun q6 => ?_)
            · skip
              have w0 : wy (15 * 19 + w3_4) = 0 := by rw [show w3_4 = 0 by omega]; exact Wy0 (by omega)
              exact mx_J.ret (sn_185 107) (fun _ _ => rfl) (hP Z4 h4 hx4 hG4 (fr_tr (M := [(56, 18), (61, (-1)), (63, (-1))]) fr_rf (hf4) (M1 := []) rfl rfl) ⟨(gl_e (by assumption) (by omega) (by omega)), by omega⟩)
            · skip
              refine mx_J.step (sn_185 80) (fun _ _ => rfl) ?_
              refine JgetR (g := 17) (b := 63) hx4 (show mx_Sn _ _ 81 (mx_getf 12 17 84) from sn_185 81) a56 s56 rfl rfl (hG4.prr 56 17 rfl) ?_
              refine mx_J.step (sn_185 84) (fun _ _ => rfl) ?_
              refine mx_J.step (sn_185 85) (fun _ _ => rfl) ?_
              refine JiastI hx4 (show mx_Sn _ _ 87 (mx_iast 1 88) from sn_185 87) a63 s63 rfl (by omega) (fun Z8 h8 hx8 hE8 => ?_)
              have hG8 := GB_up hG4 hE8 (show 0 ≤ w3_4 ∧ w3_4 ≤ 18 by omega) trivial rfl
              have wr := WRr (n := 15) (m := w3_4) (by omega) (by omega)
              refine mx_J.step (sn_185 88) (fun _ _ => rfl) ?_
              refine mx_J.step (sn_185 89) (fun _ _ => rfl) ?_
              refine mx_J.step (sn_185 90) (fun _ _ => rfl) ?_
              refine Jisub (show mx_Sn _ _ 92 (mx_isub 93) from sn_185 92) ?_
              refine mx_J.step (sn_185 93) (fun _ _ => rfl) ?_
              refine mx_J.step (sn_185 95) (fun _ _ => rfl) ?_
              refine JcI (z := 1) (show mx_Sn _ _ 96 (mx_const (.int 1) 97) from sn_185 96) rfl ?_
              refine Jiadd (show mx_Sn _ _ 97 (mx_iadd 98) from sn_185 97) ?_
              have eq10 : Z8 56 18 = Z4 56 18 := (up_nk hE8 rfl)
              obtain ⟨Z9, h9, hc9, hx9, hG9, hf9, b9⟩ := ct_185_56_le14 (d := d + 0) (l := l) (D := D) (b0 := b0) (ad := ad) (Hb := Hb) (tau := tau) hx8 hG8 (show 0 ≤ 15 - w3_4 ∧ 15 - w3_4 ≤ 14 by omega) (show 0 ≤ w3_4 ∧ w3_4 ≤ 18 by omega) (show 0 ≤ x2 + 1 ∧ x2 + 1 ≤ 18 by omega) (show Z8 56 18 + wy ((15 - w3_4) * 19 + w3_4) ≤ 385 by first | omega | (simp only [eq10]; omega)) (show (x2 + 1) + (15 - w3_4) ≤ 18 by first | omega | (simp only [eq10]; omega))
              try rw [eq10] at b9
              obtain ⟨bs9_0, b9⟩ := b9
              have b11 : 0 ≤ Z9 56 18 ∧ Z9 56 18 ≤ 385 := hG9.pr 56 18
              refine Jcv0 hx8 (show mx_Sn _ _ 98 (mx_callv 185 4 12 101) from sn_185 98) a56 s56 hc9 rfl rfl rfl ?_
              have gl1 := gl_s (Z := Z) (left := 15) (most := x1) (n := x2) (its := w3_4) (by assumption) (by omega) (by omega) (by omega) hE8 bs9_0
              refine Jiinc (z := w3_4) (cz := (-1)) (ls2 := [some (.ref 56), some (xI 15), some (xI x1), some (xI x2), some (xI (w3_4 + (-1)))]) (show mx_Sn _ _ 101 (mx_iinc 4 (-1) 104) from sn_185 101) rfl rfl rfl rfl ?_
              refine mx_J.step (sn_185 104) (fun _ _ => rfl) ?_
              exact ih3 (w3_4 + (-1)) Z9 h9 (by omega) (by omega) (by omega) (gl1) hx9 hG9 (fr_tr (M := [(56, 18), (61, (-1)), (63, (-1))]) (fr_tr (M := [(56, 18), (61, (-1)), (63, (-1))]) (fr_tr (M := [(56, 18), (61, (-1)), (63, (-1))]) fr_rf (hf4) (M1 := []) rfl rfl) (fr_ua hE8) rfl rfl) (hf9) rfl rfl)
        have b12 : 0 ≤ Z 56 18 ∧ Z 56 18 ≤ 385 := hG.pr 56 18
        exact c75 (Int.toNat (k2_0 - 0) + 1) k2_0 Z h (by omega) (by omega) (by omega) (gl_0 (by omega) (by omega) (by omega) (by omega)) hx hG fr_rf
      refine Jicmp_ge (show mx_Sn _ _ 65 (mx_icmp_ge 72 68) from sn_185 65) (by omega) (by omega) (fun q13 => ?_) (fun q13 => ?_)
      · skip
        refine mx_J.step (sn_185 72) (fun _ _ => rfl) ?_
        exact c73 15 (by omega) (by first | exact ⟨rfl, by omega⟩ | exact ⟨WSs (n := 15) (by omega) (by omega), by omega⟩) (by omega)
      · skip
        refine mx_J.step (sn_185 68) (fun _ _ => rfl) ?_
        refine mx_J.step (sn_185 69) (fun _ _ => rfl) ?_
        exact c73 x1 (by omega) (by first | exact ⟨rfl, by omega⟩ | exact ⟨WSs (n := 15) (by omega) (by omega), by omega⟩) (by omega)
    · skip
      exfalso; omega
theorem ct_185_56_i15 {l : Launch} {D : va_G} {b0 : Nat} {ad : Nat → Nat} {Hb : Heap} {tau : Nat → Int64} {d n s : Nat} {S : Nat → xS} {Z : xZ} {h : mx_H} (hx : XH n s S Z h) (hG : GB n S Z)  {x1 x2 : Int} (p1 : 0 ≤ x1 ∧ x1 ≤ 18) (p2 : 0 ≤ x2 ∧ x2 ≤ 18) (k0 : Z 56 18 + wy (15 * 19 + x1) ≤ 385) (k1 : x2 + 15 ≤ 18) : ∃ (Z' : xZ) (h' : mx_H), mx_Ca (tB l D b0 ad Hb tau) (d + 16) 185 [.ref 56, xI 15, xI x1, xI x2] h (none, h') ∧ XH n s S Z' h' ∧ GB n S Z' ∧ fr' [(56, 18), (61, (-1)), (63, (-1))] Z Z' ∧ (GAp Z Z' 15 x1 x2 ∧ Z' 56 18 = Z 56 18 + wy (15 * 19 + x1)) := by
  obtain ⟨r, hca, Z', h', e, q⟩ := Jmt (B := tB l D b0 ad Hb tau) (M := mt_185) (mi := 185) (as := [.ref 56, xI 15, xI x1, xI x2]) (d := d + 15) (ls := [some (.ref 56), some (xI 15), some (xI x1), some (xI x2), none]) rfl rfl rfl rfl rfl rfl (cw_185_56_i15 (l := l) (D := D) (b0 := b0) (ad := ad) (Hb := Hb) (tau := tau) (d := d) (Post := fun r => ∃ (Z' : xZ) (h' : mx_H), r = (none, h') ∧ XH n s S Z' h' ∧ GB n S Z' ∧ fr' [(56, 18), (61, (-1)), (63, (-1))] Z Z' ∧ (GAp Z Z' 15 x1 x2 ∧ Z' 56 18 = Z 56 18 + wy (15 * 19 + x1))) hx hG p1 p2 k0 k1 (fun Z' h' q1 q2 q3 q4 => ⟨Z', h', rfl, q1, q2, q3, q4⟩))
  subst e; exact ⟨Z', h', hca, q⟩
theorem ct_185_56_le15 {l : Launch} {D : va_G} {b0 : Nat} {ad : Nat → Nat} {Hb : Heap} {tau : Nat → Int64} {d n s : Nat} {S : Nat → xS} {Z : xZ} {h : mx_H} (hx : XH n s S Z h) (hG : GB n S Z) {x0 x1 x2 : Int} (p0 : 0 ≤ x0 ∧ x0 ≤ 15) (p1 : 0 ≤ x1 ∧ x1 ≤ 18) (p2 : 0 ≤ x2 ∧ x2 ≤ 18) (k0 : Z 56 18 + wy (x0 * 19 + x1) ≤ 385) (k1 : x2 + x0 ≤ 18) : ∃ (Z' : xZ) (h' : mx_H), mx_Ca (tB l D b0 ad Hb tau) (d + 16) 185 [.ref 56, xI x0, xI x1, xI x2] h (none, h') ∧ XH n s S Z' h' ∧ GB n S Z' ∧ fr' [(56, 18), (61, (-1)), (63, (-1))] Z Z' ∧ (GAp Z Z' x0 x1 x2 ∧ Z' 56 18 = Z 56 18 + wy (x0 * 19 + x1)) := by
  have hc : x0 = 0 ∨ x0 = 1 ∨ x0 = 2 ∨ x0 = 3 ∨ x0 = 4 ∨ x0 = 5 ∨ x0 = 6 ∨ x0 = 7 ∨ x0 = 8 ∨ x0 = 9 ∨ x0 = 10 ∨ x0 = 11 ∨ x0 = 12 ∨ x0 = 13 ∨ x0 = 14 ∨ x0 = 15 := by omega
  rcases hc with hc | hc | hc | hc | hc | hc | hc | hc | hc | hc | hc | hc | hc | hc | hc | hc
  · subst hc
    obtain ⟨Z', h', hca, q1, q2, q3, q4⟩ := ct_185_56_i0 (d := d + 15) (l := l) (D := D) (b0 := b0) (ad := ad) (Hb := Hb) (tau := tau) hx hG p1 p2 k0 k1
    exact ⟨Z', h', hca, q1, q2, fr_tr (M1 := []) fr_rf q3 rfl rfl, q4⟩
  · subst hc
    obtain ⟨Z', h', hca, q1, q2, q3, q4⟩ := ct_185_56_i1 (d := d + 14) (l := l) (D := D) (b0 := b0) (ad := ad) (Hb := Hb) (tau := tau) hx hG p1 p2 k0 k1
    exact ⟨Z', h', hca, q1, q2, fr_tr (M1 := []) fr_rf q3 rfl rfl, q4⟩
  · subst hc
    obtain ⟨Z', h', hca, q1, q2, q3, q4⟩ := ct_185_56_i2 (d := d + 13) (l := l) (D := D) (b0 := b0) (ad := ad) (Hb := Hb) (tau := tau) hx hG p1 p2 k0 k1
    exact ⟨Z', h', hca, q1, q2, fr_tr (M1 := []) fr_rf q3 rfl rfl, q4⟩
  · subst hc
    obtain ⟨Z', h', hca, q1, q2, q3, q4⟩ := ct_185_56_i3 (d := d + 12) (l := l) (D := D) (b0 := b0) (ad := ad) (Hb := Hb) (tau := tau) hx hG p1 p2 k0 k1
    exact ⟨Z', h', hca, q1, q2, fr_tr (M1 := []) fr_rf q3 rfl rfl, q4⟩
  · subst hc
    obtain ⟨Z', h', hca, q1, q2, q3, q4⟩ := ct_185_56_i4 (d := d + 11) (l := l) (D := D) (b0 := b0) (ad := ad) (Hb := Hb) (tau := tau) hx hG p1 p2 k0 k1
    exact ⟨Z', h', hca, q1, q2, fr_tr (M1 := []) fr_rf q3 rfl rfl, q4⟩
  · subst hc
    obtain ⟨Z', h', hca, q1, q2, q3, q4⟩ := ct_185_56_i5 (d := d + 10) (l := l) (D := D) (b0 := b0) (ad := ad) (Hb := Hb) (tau := tau) hx hG p1 p2 k0 k1
    exact ⟨Z', h', hca, q1, q2, fr_tr (M1 := []) fr_rf q3 rfl rfl, q4⟩
  · subst hc
    obtain ⟨Z', h', hca, q1, q2, q3, q4⟩ := ct_185_56_i6 (d := d + 9) (l := l) (D := D) (b0 := b0) (ad := ad) (Hb := Hb) (tau := tau) hx hG p1 p2 k0 k1
    exact ⟨Z', h', hca, q1, q2, fr_tr (M1 := []) fr_rf q3 rfl rfl, q4⟩
  · subst hc
    obtain ⟨Z', h', hca, q1, q2, q3, q4⟩ := ct_185_56_i7 (d := d + 8) (l := l) (D := D) (b0 := b0) (ad := ad) (Hb := Hb) (tau := tau) hx hG p1 p2 k0 k1
    exact ⟨Z', h', hca, q1, q2, fr_tr (M1 := []) fr_rf q3 rfl rfl, q4⟩
  · subst hc
    obtain ⟨Z', h', hca, q1, q2, q3, q4⟩ := ct_185_56_i8 (d := d + 7) (l := l) (D := D) (b0 := b0) (ad := ad) (Hb := Hb) (tau := tau) hx hG p1 p2 k0 k1
    exact ⟨Z', h', hca, q1, q2, fr_tr (M1 := []) fr_rf q3 rfl rfl, q4⟩
  · subst hc
    obtain ⟨Z', h', hca, q1, q2, q3, q4⟩ := ct_185_56_i9 (d := d + 6) (l := l) (D := D) (b0 := b0) (ad := ad) (Hb := Hb) (tau := tau) hx hG p1 p2 k0 k1
    exact ⟨Z', h', hca, q1, q2, fr_tr (M1 := []) fr_rf q3 rfl rfl, q4⟩
  · subst hc
    obtain ⟨Z', h', hca, q1, q2, q3, q4⟩ := ct_185_56_i10 (d := d + 5) (l := l) (D := D) (b0 := b0) (ad := ad) (Hb := Hb) (tau := tau) hx hG p1 p2 k0 k1
    exact ⟨Z', h', hca, q1, q2, fr_tr (M1 := []) fr_rf q3 rfl rfl, q4⟩
  · subst hc
    obtain ⟨Z', h', hca, q1, q2, q3, q4⟩ := ct_185_56_i11 (d := d + 4) (l := l) (D := D) (b0 := b0) (ad := ad) (Hb := Hb) (tau := tau) hx hG p1 p2 k0 k1
    exact ⟨Z', h', hca, q1, q2, fr_tr (M1 := []) fr_rf q3 rfl rfl, q4⟩
  · subst hc
    obtain ⟨Z', h', hca, q1, q2, q3, q4⟩ := ct_185_56_i12 (d := d + 3) (l := l) (D := D) (b0 := b0) (ad := ad) (Hb := Hb) (tau := tau) hx hG p1 p2 k0 k1
    exact ⟨Z', h', hca, q1, q2, fr_tr (M1 := []) fr_rf q3 rfl rfl, q4⟩
  · subst hc
    obtain ⟨Z', h', hca, q1, q2, q3, q4⟩ := ct_185_56_i13 (d := d + 2) (l := l) (D := D) (b0 := b0) (ad := ad) (Hb := Hb) (tau := tau) hx hG p1 p2 k0 k1
    exact ⟨Z', h', hca, q1, q2, fr_tr (M1 := []) fr_rf q3 rfl rfl, q4⟩
  · subst hc
    obtain ⟨Z', h', hca, q1, q2, q3, q4⟩ := ct_185_56_i14 (d := d + 1) (l := l) (D := D) (b0 := b0) (ad := ad) (Hb := Hb) (tau := tau) hx hG p1 p2 k0 k1
    exact ⟨Z', h', hca, q1, q2, fr_tr (M1 := []) fr_rf q3 rfl rfl, q4⟩
  · subst hc
    obtain ⟨Z', h', hca, q1, q2, q3, q4⟩ := ct_185_56_i15 (d := d + 0) (l := l) (D := D) (b0 := b0) (ad := ad) (Hb := Hb) (tau := tau) hx hG p1 p2 k0 k1
    exact ⟨Z', h', hca, q1, q2, fr_tr (M1 := []) fr_rf q3 rfl rfl, q4⟩
set_option maxRecDepth 100000 in
theorem cw_185_56_i16 {l : Launch} {D : va_G} {b0 : Nat} {ad : Nat → Nat} {Hb : Heap} {tau : Nat → Int64} {d n s : Nat} {S : Nat → xS} {Z : xZ} {h : mx_H} {Post : mx_R → Prop} (hx : XH n s S Z h) (hG : GB n S Z)  {x1 x2 : Int} (p1 : 0 ≤ x1 ∧ x1 ≤ 18) (p2 : 0 ≤ x2 ∧ x2 ≤ 18) (k0 : Z 56 18 + wy (16 * 19 + x1) ≤ 385) (k1 : x2 + 16 ≤ 18) (hP : ∀ (Z' : xZ) (h' : mx_H), XH n s S Z' h' → GB n S Z' → fr' [(56, 18), (61, (-1)), (63, (-1))] Z Z' → GAp Z Z' 16 x1 x2 ∧ Z' 56 18 = Z 56 18 + wy (16 * 19 + x1) → Post (none, h')) : mx_J (tB l D b0 ad Hb tau) mt_185 (d + 16) 0 [some (.ref 56), some (xI 16), some (xI x1), some (xI x2), none] [] h Post := by
    have a56 : 56 < n := lt83 (GB_n hG) rfl
    have s56 : S 56 = .inl (12, [0, 2, 2, 2, 2, 0, 0, 0, 0, 0, 0, 0, 0, 0, 0, 2, 2, 2, 0, 2, 2, 2, 0, 0, 2, 2, 2, 2, 2, 2, 0, 0, 2, 2, 2, 2, 2, 2, 2, 2, 2, 2]) := GB_s hG 56 rfl
    have a63 : 63 < n := lt83 (GB_n hG) rfl
    have s63 : S 63 = .inr (.int, 18, 0) := GB_s hG 63 rfl
    refine mx_J.step (sn_185 0) (fun _ _ => rfl) ?_
    refine Jif_ne (show mx_Sn _ _ 1 (mx_if_ne 63 4) from sn_185 1) (by omega) (fun q1 => ?_) (fun q1 => ?_)
    · skip
      refine mx_J.step (sn_185 63) (fun _ _ => rfl) ?_
      refine mx_J.step (sn_185 64) (fun _ _ => rfl) ?_
      have c73 : ∀ (k2_0 : Int), 0 ≤ k2_0 ∧ k2_0 ≤ 16 → (wy (16 * 19 + k2_0) = wy (16 * 19 + x1) ∧ k2_0 ≤ 16) → ((x1 < 16 → k2_0 = x1) ∧ (16 ≤ x1 → k2_0 = 16)) → mx_J (tB l D b0 ad Hb tau) mt_185 (d + 16) 73 [some (.ref 56), some (xI 16), some (xI x1), some (xI x2), none] [xI k2_0] h Post := by
        intro k2_0 f2_0 f2_1 f2_2
        refine mx_J.step (ls2 := [some (.ref 56), some (xI 16), some (xI x1), some (xI x2), some (xI k2_0)]) (sn_185 73) (fun _ _ => rfl) ?_
        have c75 : ∀ (m3 : Nat) (w3_4 : Int) (Z4 : xZ) (h4 : mx_H), w3_4 - 0 < (m3 : Int) → 0 ≤ w3_4 ∧ w3_4 ≤ 16 → (Z4 56 18 + wy (16 * 19 + w3_4) = Z 56 18 + wy (16 * 19 + x1)) → GL Z Z4 16 x1 x2 w3_4 → XH n s S Z4 h4 → GB n S Z4 → fr' [(56, 18), (61, (-1)), (63, (-1))] Z Z4 → mx_J (tB l D b0 ad Hb tau) mt_185 (d + 16) 75 [some (.ref 56), some (xI 16), some (xI x1), some (xI x2), some (xI w3_4)] [] h4 Post := by
          intro m3
          induction m3 with
          | zero => intro w3_4 Z4 h4 q3 f3_0 f3_1 f3_2 hx4 hG4 hf4; exact absurd q3 (by omega)
          | succ m3 ih3 =>
            intro w3_4 Z4 h4 q3 f3_0 f3_1 f3_2 hx4 hG4 hf4
            have b5 : 0 ≤ Z4 56 18 ∧ Z4 56 18 ≤ 385 := hG4.pr 56 18
            refine mx_J.step (sn_185 75) (fun _ _ => rfl) ?_
            refine Jif_le (show mx_Sn _ _ 77 (mx_if_le 107 80) from sn_185 77) (by omega) (fun q6 => ?_) (fun q6 => ?_)
            · skip
              have w0 : wy (16 * 19 + w3_4) = 0 := by rw [show w3_4 = 0 by omega]; exact Wy0 (by omega)
              exact mx_J.ret (sn_185 107) (fun _ _ => rfl) (hP Z4 h4 hx4 hG4 (fr_tr (M := [(56, 18), (61, (-1)), (63, (-1))]) fr_rf (hf4) (M1 := []) rfl rfl) ⟨(gl_e (by assumption) (by omega) (by omega)), by omega⟩)
            · skip
              refine mx_J.step (sn_185 80) (fun _ _ => rfl) ?_
              refine JgetR (g := 17) (b := 63) hx4 (show mx_Sn _ _ 81 (mx_getf 12 17 84) from sn_185 81) a56 s56 rfl rfl (hG4.prr 56 17 rfl) ?_
              refine mx_J.step (sn_185 84) (fun _ _ => rfl) ?_
              refine mx_J.step (sn_185 85) (fun _ _ => rfl) ?_
              refine JiastI hx4 (show mx_Sn _ _ 87 (mx_iast 1 88) from sn_185 87) a63 s63 rfl (by omega) (fun Z8 h8 hx8 hE8 => ?_)
              have hG8 := GB_up hG4 hE8 (show 0 ≤ w3_4 ∧ w3_4 ≤ 18 by omega) trivial rfl
              have wr := WRr (n := 16) (m := w3_4) (by omega) (by omega)
              refine mx_J.step (sn_185 88) (fun _ _ => rfl) ?_
              refine mx_J.step (sn_185 89) (fun _ _ => rfl) ?_
              refine mx_J.step (sn_185 90) (fun _ _ => rfl) ?_
              refine Jisub (show mx_Sn _ _ 92 (mx_isub 93) from sn_185 92) ?_
              refine mx_J.step (sn_185 93) (fun _ _ => rfl) ?_
              refine mx_J.step (sn_185 95) (fun _ _ => rfl) ?_
              refine JcI (z := 1) (show mx_Sn _ _ 96 (mx_const (.int 1) 97) from sn_185 96) rfl ?_
              refine Jiadd (show mx_Sn _ _ 97 (mx_iadd 98) from sn_185 97) ?_
              have eq10 : Z8 56 18 = Z4 56 18 := (up_nk hE8 rfl)
              obtain ⟨Z9, h9, hc9, hx9, hG9, hf9, b9⟩ := ct_185_56_le15 (d := d + 0) (l := l) (D := D) (b0 := b0) (ad := ad) (Hb := Hb) (tau := tau) hx8 hG8 (show 0 ≤ 16 - w3_4 ∧ 16 - w3_4 ≤ 15 by omega) (show 0 ≤ w3_4 ∧ w3_4 ≤ 18 by omega) (show 0 ≤ x2 + 1 ∧ x2 + 1 ≤ 18 by omega) (show Z8 56 18 + wy ((16 - w3_4) * 19 + w3_4) ≤ 385 by first | omega | (simp only [eq10]; omega)) (show (x2 + 1) + (16 - w3_4) ≤ 18 by first | omega | (simp only [eq10]; omega))
              try rw [eq10] at b9
              obtain ⟨bs9_0, b9⟩ := b9
              have b11 : 0 ≤ Z9 56 18 ∧ Z9 56 18 ≤ 385 := hG9.pr 56 18
              refine Jcv0 hx8 (show mx_Sn _ _ 98 (mx_callv 185 4 12 101) from sn_185 98) a56 s56 hc9 rfl rfl rfl ?_
              have gl1 := gl_s (Z := Z) (left := 16) (most := x1) (n := x2) (its := w3_4) (by assumption) (by omega) (by omega) (by omega) hE8 bs9_0
              refine Jiinc (z := w3_4) (cz := (-1)) (ls2 := [some (.ref 56), some (xI 16), some (xI x1), some (xI x2), some (xI (w3_4 + (-1)))]) (show mx_Sn _ _ 101 (mx_iinc 4 (-1) 104) from sn_185 101) rfl rfl rfl rfl ?_
              refine mx_J.step (sn_185 104) (fun _ _ => rfl) ?_
              exact ih3 (w3_4 + (-1)) Z9 h9 (by omega) (by omega) (by omega) (gl1) hx9 hG9 (fr_tr (M := [(56, 18), (61, (-1)), (63, (-1))]) (fr_tr (M := [(56, 18), (61, (-1)), (63, (-1))]) (fr_tr (M := [(56, 18), (61, (-1)), (63, (-1))]) fr_rf (hf4) (M1 := []) rfl rfl) (fr_ua hE8) rfl rfl) (hf9) rfl rfl)
        have b12 : 0 ≤ Z 56 18 ∧ Z 56 18 ≤ 385 := hG.pr 56 18
        exact c75 (Int.toNat (k2_0 - 0) + 1) k2_0 Z h (by omega) (by omega) (by omega) (gl_0 (by omega) (by omega) (by omega) (by omega)) hx hG fr_rf
      refine Jicmp_ge (show mx_Sn _ _ 65 (mx_icmp_ge 72 68) from sn_185 65) (by omega) (by omega) (fun q13 => ?_) (fun q13 => ?_)
      · skip
        refine mx_J.step (sn_185 72) (fun _ _ => rfl) ?_
        exact c73 16 (by omega) (by first | exact ⟨rfl, by omega⟩ | exact ⟨WSs (n := 16) (by omega) (by omega), by omega⟩) (by omega)
      · skip
        refine mx_J.step (sn_185 68) (fun _ _ => rfl) ?_
        refine mx_J.step (sn_185 69) (fun _ _ => rfl) ?_
        exact c73 x1 (by omega) (by first | exact ⟨rfl, by omega⟩ | exact ⟨WSs (n := 16) (by omega) (by omega), by omega⟩) (by omega)
    · skip
      exfalso; omega
theorem ct_185_56_i16 {l : Launch} {D : va_G} {b0 : Nat} {ad : Nat → Nat} {Hb : Heap} {tau : Nat → Int64} {d n s : Nat} {S : Nat → xS} {Z : xZ} {h : mx_H} (hx : XH n s S Z h) (hG : GB n S Z)  {x1 x2 : Int} (p1 : 0 ≤ x1 ∧ x1 ≤ 18) (p2 : 0 ≤ x2 ∧ x2 ≤ 18) (k0 : Z 56 18 + wy (16 * 19 + x1) ≤ 385) (k1 : x2 + 16 ≤ 18) : ∃ (Z' : xZ) (h' : mx_H), mx_Ca (tB l D b0 ad Hb tau) (d + 17) 185 [.ref 56, xI 16, xI x1, xI x2] h (none, h') ∧ XH n s S Z' h' ∧ GB n S Z' ∧ fr' [(56, 18), (61, (-1)), (63, (-1))] Z Z' ∧ (GAp Z Z' 16 x1 x2 ∧ Z' 56 18 = Z 56 18 + wy (16 * 19 + x1)) := by
  obtain ⟨r, hca, Z', h', e, q⟩ := Jmt (B := tB l D b0 ad Hb tau) (M := mt_185) (mi := 185) (as := [.ref 56, xI 16, xI x1, xI x2]) (d := d + 16) (ls := [some (.ref 56), some (xI 16), some (xI x1), some (xI x2), none]) rfl rfl rfl rfl rfl rfl (cw_185_56_i16 (l := l) (D := D) (b0 := b0) (ad := ad) (Hb := Hb) (tau := tau) (d := d) (Post := fun r => ∃ (Z' : xZ) (h' : mx_H), r = (none, h') ∧ XH n s S Z' h' ∧ GB n S Z' ∧ fr' [(56, 18), (61, (-1)), (63, (-1))] Z Z' ∧ (GAp Z Z' 16 x1 x2 ∧ Z' 56 18 = Z 56 18 + wy (16 * 19 + x1))) hx hG p1 p2 k0 k1 (fun Z' h' q1 q2 q3 q4 => ⟨Z', h', rfl, q1, q2, q3, q4⟩))
  subst e; exact ⟨Z', h', hca, q⟩
theorem ct_185_56_le16 {l : Launch} {D : va_G} {b0 : Nat} {ad : Nat → Nat} {Hb : Heap} {tau : Nat → Int64} {d n s : Nat} {S : Nat → xS} {Z : xZ} {h : mx_H} (hx : XH n s S Z h) (hG : GB n S Z) {x0 x1 x2 : Int} (p0 : 0 ≤ x0 ∧ x0 ≤ 16) (p1 : 0 ≤ x1 ∧ x1 ≤ 18) (p2 : 0 ≤ x2 ∧ x2 ≤ 18) (k0 : Z 56 18 + wy (x0 * 19 + x1) ≤ 385) (k1 : x2 + x0 ≤ 18) : ∃ (Z' : xZ) (h' : mx_H), mx_Ca (tB l D b0 ad Hb tau) (d + 17) 185 [.ref 56, xI x0, xI x1, xI x2] h (none, h') ∧ XH n s S Z' h' ∧ GB n S Z' ∧ fr' [(56, 18), (61, (-1)), (63, (-1))] Z Z' ∧ (GAp Z Z' x0 x1 x2 ∧ Z' 56 18 = Z 56 18 + wy (x0 * 19 + x1)) := by
  have hc : x0 = 0 ∨ x0 = 1 ∨ x0 = 2 ∨ x0 = 3 ∨ x0 = 4 ∨ x0 = 5 ∨ x0 = 6 ∨ x0 = 7 ∨ x0 = 8 ∨ x0 = 9 ∨ x0 = 10 ∨ x0 = 11 ∨ x0 = 12 ∨ x0 = 13 ∨ x0 = 14 ∨ x0 = 15 ∨ x0 = 16 := by omega
  rcases hc with hc | hc | hc | hc | hc | hc | hc | hc | hc | hc | hc | hc | hc | hc | hc | hc | hc
  · subst hc
    obtain ⟨Z', h', hca, q1, q2, q3, q4⟩ := ct_185_56_i0 (d := d + 16) (l := l) (D := D) (b0 := b0) (ad := ad) (Hb := Hb) (tau := tau) hx hG p1 p2 k0 k1
    exact ⟨Z', h', hca, q1, q2, fr_tr (M1 := []) fr_rf q3 rfl rfl, q4⟩
  · subst hc
    obtain ⟨Z', h', hca, q1, q2, q3, q4⟩ := ct_185_56_i1 (d := d + 15) (l := l) (D := D) (b0 := b0) (ad := ad) (Hb := Hb) (tau := tau) hx hG p1 p2 k0 k1
    exact ⟨Z', h', hca, q1, q2, fr_tr (M1 := []) fr_rf q3 rfl rfl, q4⟩
  · subst hc
    obtain ⟨Z', h', hca, q1, q2, q3, q4⟩ := ct_185_56_i2 (d := d + 14) (l := l) (D := D) (b0 := b0) (ad := ad) (Hb := Hb) (tau := tau) hx hG p1 p2 k0 k1
    exact ⟨Z', h', hca, q1, q2, fr_tr (M1 := []) fr_rf q3 rfl rfl, q4⟩
  · subst hc
    obtain ⟨Z', h', hca, q1, q2, q3, q4⟩ := ct_185_56_i3 (d := d + 13) (l := l) (D := D) (b0 := b0) (ad := ad) (Hb := Hb) (tau := tau) hx hG p1 p2 k0 k1
    exact ⟨Z', h', hca, q1, q2, fr_tr (M1 := []) fr_rf q3 rfl rfl, q4⟩
  · subst hc
    obtain ⟨Z', h', hca, q1, q2, q3, q4⟩ := ct_185_56_i4 (d := d + 12) (l := l) (D := D) (b0 := b0) (ad := ad) (Hb := Hb) (tau := tau) hx hG p1 p2 k0 k1
    exact ⟨Z', h', hca, q1, q2, fr_tr (M1 := []) fr_rf q3 rfl rfl, q4⟩
  · subst hc
    obtain ⟨Z', h', hca, q1, q2, q3, q4⟩ := ct_185_56_i5 (d := d + 11) (l := l) (D := D) (b0 := b0) (ad := ad) (Hb := Hb) (tau := tau) hx hG p1 p2 k0 k1
    exact ⟨Z', h', hca, q1, q2, fr_tr (M1 := []) fr_rf q3 rfl rfl, q4⟩
  · subst hc
    obtain ⟨Z', h', hca, q1, q2, q3, q4⟩ := ct_185_56_i6 (d := d + 10) (l := l) (D := D) (b0 := b0) (ad := ad) (Hb := Hb) (tau := tau) hx hG p1 p2 k0 k1
    exact ⟨Z', h', hca, q1, q2, fr_tr (M1 := []) fr_rf q3 rfl rfl, q4⟩
  · subst hc
    obtain ⟨Z', h', hca, q1, q2, q3, q4⟩ := ct_185_56_i7 (d := d + 9) (l := l) (D := D) (b0 := b0) (ad := ad) (Hb := Hb) (tau := tau) hx hG p1 p2 k0 k1
    exact ⟨Z', h', hca, q1, q2, fr_tr (M1 := []) fr_rf q3 rfl rfl, q4⟩
  · subst hc
    obtain ⟨Z', h', hca, q1, q2, q3, q4⟩ := ct_185_56_i8 (d := d + 8) (l := l) (D := D) (b0 := b0) (ad := ad) (Hb := Hb) (tau := tau) hx hG p1 p2 k0 k1
    exact ⟨Z', h', hca, q1, q2, fr_tr (M1 := []) fr_rf q3 rfl rfl, q4⟩
  · subst hc
    obtain ⟨Z', h', hca, q1, q2, q3, q4⟩ := ct_185_56_i9 (d := d + 7) (l := l) (D := D) (b0 := b0) (ad := ad) (Hb := Hb) (tau := tau) hx hG p1 p2 k0 k1
    exact ⟨Z', h', hca, q1, q2, fr_tr (M1 := []) fr_rf q3 rfl rfl, q4⟩
  · subst hc
    obtain ⟨Z', h', hca, q1, q2, q3, q4⟩ := ct_185_56_i10 (d := d + 6) (l := l) (D := D) (b0 := b0) (ad := ad) (Hb := Hb) (tau := tau) hx hG p1 p2 k0 k1
    exact ⟨Z', h', hca, q1, q2, fr_tr (M1 := []) fr_rf q3 rfl rfl, q4⟩
  · subst hc
    obtain ⟨Z', h', hca, q1, q2, q3, q4⟩ := ct_185_56_i11 (d := d + 5) (l := l) (D := D) (b0 := b0) (ad := ad) (Hb := Hb) (tau := tau) hx hG p1 p2 k0 k1
    exact ⟨Z', h', hca, q1, q2, fr_tr (M1 := []) fr_rf q3 rfl rfl, q4⟩
  · subst hc
    obtain ⟨Z', h', hca, q1, q2, q3, q4⟩ := ct_185_56_i12 (d := d + 4) (l := l) (D := D) (b0 := b0) (ad := ad) (Hb := Hb) (tau := tau) hx hG p1 p2 k0 k1
    exact ⟨Z', h', hca, q1, q2, fr_tr (M1 := []) fr_rf q3 rfl rfl, q4⟩
  · subst hc
    obtain ⟨Z', h', hca, q1, q2, q3, q4⟩ := ct_185_56_i13 (d := d + 3) (l := l) (D := D) (b0 := b0) (ad := ad) (Hb := Hb) (tau := tau) hx hG p1 p2 k0 k1
    exact ⟨Z', h', hca, q1, q2, fr_tr (M1 := []) fr_rf q3 rfl rfl, q4⟩
  · subst hc
    obtain ⟨Z', h', hca, q1, q2, q3, q4⟩ := ct_185_56_i14 (d := d + 2) (l := l) (D := D) (b0 := b0) (ad := ad) (Hb := Hb) (tau := tau) hx hG p1 p2 k0 k1
    exact ⟨Z', h', hca, q1, q2, fr_tr (M1 := []) fr_rf q3 rfl rfl, q4⟩
  · subst hc
    obtain ⟨Z', h', hca, q1, q2, q3, q4⟩ := ct_185_56_i15 (d := d + 1) (l := l) (D := D) (b0 := b0) (ad := ad) (Hb := Hb) (tau := tau) hx hG p1 p2 k0 k1
    exact ⟨Z', h', hca, q1, q2, fr_tr (M1 := []) fr_rf q3 rfl rfl, q4⟩
  · subst hc
    obtain ⟨Z', h', hca, q1, q2, q3, q4⟩ := ct_185_56_i16 (d := d + 0) (l := l) (D := D) (b0 := b0) (ad := ad) (Hb := Hb) (tau := tau) hx hG p1 p2 k0 k1
    exact ⟨Z', h', hca, q1, q2, fr_tr (M1 := []) fr_rf q3 rfl rfl, q4⟩
set_option maxRecDepth 100000 in
theorem cw_185_56_i17 {l : Launch} {D : va_G} {b0 : Nat} {ad : Nat → Nat} {Hb : Heap} {tau : Nat → Int64} {d n s : Nat} {S : Nat → xS} {Z : xZ} {h : mx_H} {Post : mx_R → Prop} (hx : XH n s S Z h) (hG : GB n S Z)  {x1 x2 : Int} (p1 : 0 ≤ x1 ∧ x1 ≤ 18) (p2 : 0 ≤ x2 ∧ x2 ≤ 18) (k0 : Z 56 18 + wy (17 * 19 + x1) ≤ 385) (k1 : x2 + 17 ≤ 18) (hP : ∀ (Z' : xZ) (h' : mx_H), XH n s S Z' h' → GB n S Z' → fr' [(56, 18), (61, (-1)), (63, (-1))] Z Z' → GAp Z Z' 17 x1 x2 ∧ Z' 56 18 = Z 56 18 + wy (17 * 19 + x1) → Post (none, h')) : mx_J (tB l D b0 ad Hb tau) mt_185 (d + 17) 0 [some (.ref 56), some (xI 17), some (xI x1), some (xI x2), none] [] h Post := by
    have a56 : 56 < n := lt83 (GB_n hG) rfl
    have s56 : S 56 = .inl (12, [0, 2, 2, 2, 2, 0, 0, 0, 0, 0, 0, 0, 0, 0, 0, 2, 2, 2, 0, 2, 2, 2, 0, 0, 2, 2, 2, 2, 2, 2, 0, 0, 2, 2, 2, 2, 2, 2, 2, 2, 2, 2]) := GB_s hG 56 rfl
    have a63 : 63 < n := lt83 (GB_n hG) rfl
    have s63 : S 63 = .inr (.int, 18, 0) := GB_s hG 63 rfl
    refine mx_J.step (sn_185 0) (fun _ _ => rfl) ?_
    refine Jif_ne (show mx_Sn _ _ 1 (mx_if_ne 63 4) from sn_185 1) (by omega) (fun q1 => ?_) (fun q1 => ?_)
    · skip
      refine mx_J.step (sn_185 63) (fun _ _ => rfl) ?_
      refine mx_J.step (sn_185 64) (fun _ _ => rfl) ?_
      have c73 : ∀ (k2_0 : Int), 0 ≤ k2_0 ∧ k2_0 ≤ 17 → (wy (17 * 19 + k2_0) = wy (17 * 19 + x1) ∧ k2_0 ≤ 17) → ((x1 < 17 → k2_0 = x1) ∧ (17 ≤ x1 → k2_0 = 17)) → mx_J (tB l D b0 ad Hb tau) mt_185 (d + 17) 73 [some (.ref 56), some (xI 17), some (xI x1), some (xI x2), none] [xI k2_0] h Post := by
        intro k2_0 f2_0 f2_1 f2_2
        refine mx_J.step (ls2 := [some (.ref 56), some (xI 17), some (xI x1), some (xI x2), some (xI k2_0)]) (sn_185 73) (fun _ _ => rfl) ?_
        have c75 : ∀ (m3 : Nat) (w3_4 : Int) (Z4 : xZ) (h4 : mx_H), w3_4 - 0 < (m3 : Int) → 0 ≤ w3_4 ∧ w3_4 ≤ 17 → (Z4 56 18 + wy (17 * 19 + w3_4) = Z 56 18 + wy (17 * 19 + x1)) → GL Z Z4 17 x1 x2 w3_4 → XH n s S Z4 h4 → GB n S Z4 → fr' [(56, 18), (61, (-1)), (63, (-1))] Z Z4 → mx_J (tB l D b0 ad Hb tau) mt_185 (d + 17) 75 [some (.ref 56), some (xI 17), some (xI x1), some (xI x2), some (xI w3_4)] [] h4 Post := by
          intro m3
          induction m3 with
          | zero => intro w3_4 Z4 h4 q3 f3_0 f3_1 f3_2 hx4 hG4 hf4; exact absurd q3 (by omega)
          | succ m3 ih3 =>
            intro w3_4 Z4 h4 q3 f3_0 f3_1 f3_2 hx4 hG4 hf4
            have b5 : 0 ≤ Z4 56 18 ∧ Z4 56 18 ≤ 385 := hG4.pr 56 18
            refine mx_J.step (sn_185 75) (fun _ _ => rfl) ?_
            refine Jif_le (show mx_Sn _ _ 77 (mx_if_le 107 80) from sn_185 77) (by omega) (fun q6 => ?_) (fun q6 => ?_)
            · skip
              have w0 : wy (17 * 19 + w3_4) = 0 := by rw [show w3_4 = 0 by omega]; exact Wy0 (by omega)
              exact mx_J.ret (sn_185 107) (fun _ _ => rfl) (hP Z4 h4 hx4 hG4 (fr_tr (M := [(56, 18), (61, (-1)), (63, (-1))]) fr_rf (hf4) (M1 := []) rfl rfl) ⟨(gl_e (by assumption) (by omega) (by omega)), by omega⟩)
            · skip
              refine mx_J.step (sn_185 80) (fun _ _ => rfl) ?_
              refine JgetR (g := 17) (b := 63) hx4 (show mx_Sn _ _ 81 (mx_getf 12 17 84) from sn_185 81) a56 s56 rfl rfl (hG4.prr 56 17 rfl) ?_
              refine mx_J.step (sn_185 84) (fun _ _ => rfl) ?_
              refine mx_J.step (sn_185 85) (fun _ _ => rfl) ?_
              refine JiastI hx4 (show mx_Sn _ _ 87 (mx_iast 1 88) from sn_185 87) a63 s63 rfl (by omega) (fun Z8 h8 hx8 hE8 => ?_)
              have hG8 := GB_up hG4 hE8 (show 0 ≤ w3_4 ∧ w3_4 ≤ 18 by omega) trivial rfl
              have wr := WRr (n := 17) (m := w3_4) (by omega) (by omega)
              refine mx_J.step (sn_185 88) (fun _ _ => rfl) ?_
              refine mx_J.step (sn_185 89) (fun _ _ => rfl) ?_
              refine mx_J.step (sn_185 90) (fun _ _ => rfl) ?_
              refine Jisub (show mx_Sn _ _ 92 (mx_isub 93) from sn_185 92) ?_
              refine mx_J.step (sn_185 93) (fun _ _ => rfl) ?_
              refine mx_J.step (sn_185 95) (fun _ _ => rfl) ?_
              refine JcI (z := 1) (show mx_Sn _ _ 96 (mx_const (.int 1) 97) from sn_185 96) rfl ?_
              refine Jiadd (show mx_Sn _ _ 97 (mx_iadd 98) from sn_185 97) ?_
              have eq10 : Z8 56 18 = Z4 56 18 := (up_nk hE8 rfl)
              obtain ⟨Z9, h9, hc9, hx9, hG9, hf9, b9⟩ := ct_185_56_le16 (d := d + 0) (l := l) (D := D) (b0 := b0) (ad := ad) (Hb := Hb) (tau := tau) hx8 hG8 (show 0 ≤ 17 - w3_4 ∧ 17 - w3_4 ≤ 16 by omega) (show 0 ≤ w3_4 ∧ w3_4 ≤ 18 by omega) (show 0 ≤ x2 + 1 ∧ x2 + 1 ≤ 18 by omega) (show Z8 56 18 + wy ((17 - w3_4) * 19 + w3_4) ≤ 385 by first | omega | (simp only [eq10]; omega)) (show (x2 + 1) + (17 - w3_4) ≤ 18 by first | omega | (simp only [eq10]; omega))
              try rw [eq10] at b9
              obtain ⟨bs9_0, b9⟩ := b9
              have b11 : 0 ≤ Z9 56 18 ∧ Z9 56 18 ≤ 385 := hG9.pr 56 18
              refine Jcv0 hx8 (show mx_Sn _ _ 98 (mx_callv 185 4 12 101) from sn_185 98) a56 s56 hc9 rfl rfl rfl ?_
              have gl1 := gl_s (Z := Z) (left := 17) (most := x1) (n := x2) (its := w3_4) (by assumption) (by omega) (by omega) (by omega) hE8 bs9_0
              refine Jiinc (z := w3_4) (cz := (-1)) (ls2 := [some (.ref 56), some (xI 17), some (xI x1), some (xI x2), some (xI (w3_4 + (-1)))]) (show mx_Sn _ _ 101 (mx_iinc 4 (-1) 104) from sn_185 101) rfl rfl rfl rfl ?_
              refine mx_J.step (sn_185 104) (fun _ _ => rfl) ?_
              exact ih3 (w3_4 + (-1)) Z9 h9 (by omega) (by omega) (by omega) (gl1) hx9 hG9 (fr_tr (M := [(56, 18), (61, (-1)), (63, (-1))]) (fr_tr (M := [(56, 18), (61, (-1)), (63, (-1))]) (fr_tr (M := [(56, 18), (61, (-1)), (63, (-1))]) fr_rf (hf4) (M1 := []) rfl rfl) (fr_ua hE8) rfl rfl) (hf9) rfl rfl)
        have b12 : 0 ≤ Z 56 18 ∧ Z 56 18 ≤ 385 := hG.pr 56 18
        exact c75 (Int.toNat (k2_0 - 0) + 1) k2_0 Z h (by omega) (by omega) (by omega) (gl_0 (by omega) (by omega) (by omega) (by omega)) hx hG fr_rf
      refine Jicmp_ge (show mx_Sn _ _ 65 (mx_icmp_ge 72 68) from sn_185 65) (by omega) (by omega) (fun q13 => ?_) (fun q13 => ?_)
      · skip
        refine mx_J.step (sn_185 72) (fun _ _ => rfl) ?_
        exact c73 17 (by omega) (by first | exact ⟨rfl, by omega⟩ | exact ⟨WSs (n := 17) (by omega) (by omega), by omega⟩) (by omega)
      · skip
        refine mx_J.step (sn_185 68) (fun _ _ => rfl) ?_
        refine mx_J.step (sn_185 69) (fun _ _ => rfl) ?_
        exact c73 x1 (by omega) (by first | exact ⟨rfl, by omega⟩ | exact ⟨WSs (n := 17) (by omega) (by omega), by omega⟩) (by omega)
    · skip
      exfalso; omega
theorem ct_185_56_i17 {l : Launch} {D : va_G} {b0 : Nat} {ad : Nat → Nat} {Hb : Heap} {tau : Nat → Int64} {d n s : Nat} {S : Nat → xS} {Z : xZ} {h : mx_H} (hx : XH n s S Z h) (hG : GB n S Z)  {x1 x2 : Int} (p1 : 0 ≤ x1 ∧ x1 ≤ 18) (p2 : 0 ≤ x2 ∧ x2 ≤ 18) (k0 : Z 56 18 + wy (17 * 19 + x1) ≤ 385) (k1 : x2 + 17 ≤ 18) : ∃ (Z' : xZ) (h' : mx_H), mx_Ca (tB l D b0 ad Hb tau) (d + 18) 185 [.ref 56, xI 17, xI x1, xI x2] h (none, h') ∧ XH n s S Z' h' ∧ GB n S Z' ∧ fr' [(56, 18), (61, (-1)), (63, (-1))] Z Z' ∧ (GAp Z Z' 17 x1 x2 ∧ Z' 56 18 = Z 56 18 + wy (17 * 19 + x1)) := by
  obtain ⟨r, hca, Z', h', e, q⟩ := Jmt (B := tB l D b0 ad Hb tau) (M := mt_185) (mi := 185) (as := [.ref 56, xI 17, xI x1, xI x2]) (d := d + 17) (ls := [some (.ref 56), some (xI 17), some (xI x1), some (xI x2), none]) rfl rfl rfl rfl rfl rfl (cw_185_56_i17 (l := l) (D := D) (b0 := b0) (ad := ad) (Hb := Hb) (tau := tau) (d := d) (Post := fun r => ∃ (Z' : xZ) (h' : mx_H), r = (none, h') ∧ XH n s S Z' h' ∧ GB n S Z' ∧ fr' [(56, 18), (61, (-1)), (63, (-1))] Z Z' ∧ (GAp Z Z' 17 x1 x2 ∧ Z' 56 18 = Z 56 18 + wy (17 * 19 + x1))) hx hG p1 p2 k0 k1 (fun Z' h' q1 q2 q3 q4 => ⟨Z', h', rfl, q1, q2, q3, q4⟩))
  subst e; exact ⟨Z', h', hca, q⟩
theorem ct_185_56_le17 {l : Launch} {D : va_G} {b0 : Nat} {ad : Nat → Nat} {Hb : Heap} {tau : Nat → Int64} {d n s : Nat} {S : Nat → xS} {Z : xZ} {h : mx_H} (hx : XH n s S Z h) (hG : GB n S Z) {x0 x1 x2 : Int} (p0 : 0 ≤ x0 ∧ x0 ≤ 17) (p1 : 0 ≤ x1 ∧ x1 ≤ 18) (p2 : 0 ≤ x2 ∧ x2 ≤ 18) (k0 : Z 56 18 + wy (x0 * 19 + x1) ≤ 385) (k1 : x2 + x0 ≤ 18) : ∃ (Z' : xZ) (h' : mx_H), mx_Ca (tB l D b0 ad Hb tau) (d + 18) 185 [.ref 56, xI x0, xI x1, xI x2] h (none, h') ∧ XH n s S Z' h' ∧ GB n S Z' ∧ fr' [(56, 18), (61, (-1)), (63, (-1))] Z Z' ∧ (GAp Z Z' x0 x1 x2 ∧ Z' 56 18 = Z 56 18 + wy (x0 * 19 + x1)) := by
  have hc : x0 = 0 ∨ x0 = 1 ∨ x0 = 2 ∨ x0 = 3 ∨ x0 = 4 ∨ x0 = 5 ∨ x0 = 6 ∨ x0 = 7 ∨ x0 = 8 ∨ x0 = 9 ∨ x0 = 10 ∨ x0 = 11 ∨ x0 = 12 ∨ x0 = 13 ∨ x0 = 14 ∨ x0 = 15 ∨ x0 = 16 ∨ x0 = 17 := by omega
  rcases hc with hc | hc | hc | hc | hc | hc | hc | hc | hc | hc | hc | hc | hc | hc | hc | hc | hc | hc
  · subst hc
    obtain ⟨Z', h', hca, q1, q2, q3, q4⟩ := ct_185_56_i0 (d := d + 17) (l := l) (D := D) (b0 := b0) (ad := ad) (Hb := Hb) (tau := tau) hx hG p1 p2 k0 k1
    exact ⟨Z', h', hca, q1, q2, fr_tr (M1 := []) fr_rf q3 rfl rfl, q4⟩
  · subst hc
    obtain ⟨Z', h', hca, q1, q2, q3, q4⟩ := ct_185_56_i1 (d := d + 16) (l := l) (D := D) (b0 := b0) (ad := ad) (Hb := Hb) (tau := tau) hx hG p1 p2 k0 k1
    exact ⟨Z', h', hca, q1, q2, fr_tr (M1 := []) fr_rf q3 rfl rfl, q4⟩
  · subst hc
    obtain ⟨Z', h', hca, q1, q2, q3, q4⟩ := ct_185_56_i2 (d := d + 15) (l := l) (D := D) (b0 := b0) (ad := ad) (Hb := Hb) (tau := tau) hx hG p1 p2 k0 k1
    exact ⟨Z', h', hca, q1, q2, fr_tr (M1 := []) fr_rf q3 rfl rfl, q4⟩
  · subst hc
    obtain ⟨Z', h', hca, q1, q2, q3, q4⟩ := ct_185_56_i3 (d := d + 14) (l := l) (D := D) (b0 := b0) (ad := ad) (Hb := Hb) (tau := tau) hx hG p1 p2 k0 k1
    exact ⟨Z', h', hca, q1, q2, fr_tr (M1 := []) fr_rf q3 rfl rfl, q4⟩
  · subst hc
    obtain ⟨Z', h', hca, q1, q2, q3, q4⟩ := ct_185_56_i4 (d := d + 13) (l := l) (D := D) (b0 := b0) (ad := ad) (Hb := Hb) (tau := tau) hx hG p1 p2 k0 k1
    exact ⟨Z', h', hca, q1, q2, fr_tr (M1 := []) fr_rf q3 rfl rfl, q4⟩
  · subst hc
    obtain ⟨Z', h', hca, q1, q2, q3, q4⟩ := ct_185_56_i5 (d := d + 12) (l := l) (D := D) (b0 := b0) (ad := ad) (Hb := Hb) (tau := tau) hx hG p1 p2 k0 k1
    exact ⟨Z', h', hca, q1, q2, fr_tr (M1 := []) fr_rf q3 rfl rfl, q4⟩
  · subst hc
    obtain ⟨Z', h', hca, q1, q2, q3, q4⟩ := ct_185_56_i6 (d := d + 11) (l := l) (D := D) (b0 := b0) (ad := ad) (Hb := Hb) (tau := tau) hx hG p1 p2 k0 k1
    exact ⟨Z', h', hca, q1, q2, fr_tr (M1 := []) fr_rf q3 rfl rfl, q4⟩
  · subst hc
    obtain ⟨Z', h', hca, q1, q2, q3, q4⟩ := ct_185_56_i7 (d := d + 10) (l := l) (D := D) (b0 := b0) (ad := ad) (Hb := Hb) (tau := tau) hx hG p1 p2 k0 k1
    exact ⟨Z', h', hca, q1, q2, fr_tr (M1 := []) fr_rf q3 rfl rfl, q4⟩
  · subst hc
    obtain ⟨Z', h', hca, q1, q2, q3, q4⟩ := ct_185_56_i8 (d := d + 9) (l := l) (D := D) (b0 := b0) (ad := ad) (Hb := Hb) (tau := tau) hx hG p1 p2 k0 k1
    exact ⟨Z', h', hca, q1, q2, fr_tr (M1 := []) fr_rf q3 rfl rfl, q4⟩
  · subst hc
    obtain ⟨Z', h', hca, q1, q2, q3, q4⟩ := ct_185_56_i9 (d := d + 8) (l := l) (D := D) (b0 := b0) (ad := ad) (Hb := Hb) (tau := tau) hx hG p1 p2 k0 k1
    exact ⟨Z', h', hca, q1, q2, fr_tr (M1 := []) fr_rf q3 rfl rfl, q4⟩
  · subst hc
    obtain ⟨Z', h', hca, q1, q2, q3, q4⟩ := ct_185_56_i10 (d := d + 7) (l := l) (D := D) (b0 := b0) (ad := ad) (Hb := Hb) (tau := tau) hx hG p1 p2 k0 k1
    exact ⟨Z', h', hca, q1, q2, fr_tr (M1 := []) fr_rf q3 rfl rfl, q4⟩
  · subst hc
    obtain ⟨Z', h', hca, q1, q2, q3, q4⟩ := ct_185_56_i11 (d := d + 6) (l := l) (D := D) (b0 := b0) (ad := ad) (Hb := Hb) (tau := tau) hx hG p1 p2 k0 k1
    exact ⟨Z', h', hca, q1, q2, fr_tr (M1 := []) fr_rf q3 rfl rfl, q4⟩
  · subst hc
    obtain ⟨Z', h', hca, q1, q2, q3, q4⟩ := ct_185_56_i12 (d := d + 5) (l := l) (D := D) (b0 := b0) (ad := ad) (Hb := Hb) (tau := tau) hx hG p1 p2 k0 k1
    exact ⟨Z', h', hca, q1, q2, fr_tr (M1 := []) fr_rf q3 rfl rfl, q4⟩
  · subst hc
    obtain ⟨Z', h', hca, q1, q2, q3, q4⟩ := ct_185_56_i13 (d := d + 4) (l := l) (D := D) (b0 := b0) (ad := ad) (Hb := Hb) (tau := tau) hx hG p1 p2 k0 k1
    exact ⟨Z', h', hca, q1, q2, fr_tr (M1 := []) fr_rf q3 rfl rfl, q4⟩
  · subst hc
    obtain ⟨Z', h', hca, q1, q2, q3, q4⟩ := ct_185_56_i14 (d := d + 3) (l := l) (D := D) (b0 := b0) (ad := ad) (Hb := Hb) (tau := tau) hx hG p1 p2 k0 k1
    exact ⟨Z', h', hca, q1, q2, fr_tr (M1 := []) fr_rf q3 rfl rfl, q4⟩
  · subst hc
    obtain ⟨Z', h', hca, q1, q2, q3, q4⟩ := ct_185_56_i15 (d := d + 2) (l := l) (D := D) (b0 := b0) (ad := ad) (Hb := Hb) (tau := tau) hx hG p1 p2 k0 k1
    exact ⟨Z', h', hca, q1, q2, fr_tr (M1 := []) fr_rf q3 rfl rfl, q4⟩
  · subst hc
    obtain ⟨Z', h', hca, q1, q2, q3, q4⟩ := ct_185_56_i16 (d := d + 1) (l := l) (D := D) (b0 := b0) (ad := ad) (Hb := Hb) (tau := tau) hx hG p1 p2 k0 k1
    exact ⟨Z', h', hca, q1, q2, fr_tr (M1 := []) fr_rf q3 rfl rfl, q4⟩
  · subst hc
    obtain ⟨Z', h', hca, q1, q2, q3, q4⟩ := ct_185_56_i17 (d := d + 0) (l := l) (D := D) (b0 := b0) (ad := ad) (Hb := Hb) (tau := tau) hx hG p1 p2 k0 k1
    exact ⟨Z', h', hca, q1, q2, fr_tr (M1 := []) fr_rf q3 rfl rfl, q4⟩
set_option maxRecDepth 100000 in
theorem cw_185_56_i18 {l : Launch} {D : va_G} {b0 : Nat} {ad : Nat → Nat} {Hb : Heap} {tau : Nat → Int64} {d n s : Nat} {S : Nat → xS} {Z : xZ} {h : mx_H} {Post : mx_R → Prop} (hx : XH n s S Z h) (hG : GB n S Z)  {x1 x2 : Int} (p1 : 0 ≤ x1 ∧ x1 ≤ 18) (p2 : 0 ≤ x2 ∧ x2 ≤ 18) (k0 : Z 56 18 + wy (18 * 19 + x1) ≤ 385) (k1 : x2 + 18 ≤ 18) (hP : ∀ (Z' : xZ) (h' : mx_H), XH n s S Z' h' → GB n S Z' → fr' [(56, 18), (61, (-1)), (63, (-1))] Z Z' → GAp Z Z' 18 x1 x2 ∧ Z' 56 18 = Z 56 18 + wy (18 * 19 + x1) → Post (none, h')) : mx_J (tB l D b0 ad Hb tau) mt_185 (d + 18) 0 [some (.ref 56), some (xI 18), some (xI x1), some (xI x2), none] [] h Post := by
    have a56 : 56 < n := lt83 (GB_n hG) rfl
    have s56 : S 56 = .inl (12, [0, 2, 2, 2, 2, 0, 0, 0, 0, 0, 0, 0, 0, 0, 0, 2, 2, 2, 0, 2, 2, 2, 0, 0, 2, 2, 2, 2, 2, 2, 0, 0, 2, 2, 2, 2, 2, 2, 2, 2, 2, 2]) := GB_s hG 56 rfl
    have a63 : 63 < n := lt83 (GB_n hG) rfl
    have s63 : S 63 = .inr (.int, 18, 0) := GB_s hG 63 rfl
    refine mx_J.step (sn_185 0) (fun _ _ => rfl) ?_
    refine Jif_ne (show mx_Sn _ _ 1 (mx_if_ne 63 4) from sn_185 1) (by omega) (fun q1 => ?_) (fun q1 => ?_)
    · skip
      refine mx_J.step (sn_185 63) (fun _ _ => rfl) ?_
      refine mx_J.step (sn_185 64) (fun _ _ => rfl) ?_
      have c73 : ∀ (k2_0 : Int), 0 ≤ k2_0 ∧ k2_0 ≤ 18 → (wy (18 * 19 + k2_0) = wy (18 * 19 + x1) ∧ k2_0 ≤ 18) → ((x1 < 18 → k2_0 = x1) ∧ (18 ≤ x1 → k2_0 = 18)) → mx_J (tB l D b0 ad Hb tau) mt_185 (d + 18) 73 [some (.ref 56), some (xI 18), some (xI x1), some (xI x2), none] [xI k2_0] h Post := by
        intro k2_0 f2_0 f2_1 f2_2
        refine mx_J.step (ls2 := [some (.ref 56), some (xI 18), some (xI x1), some (xI x2), some (xI k2_0)]) (sn_185 73) (fun _ _ => rfl) ?_
        have c75 : ∀ (m3 : Nat) (w3_4 : Int) (Z4 : xZ) (h4 : mx_H), w3_4 - 0 < (m3 : Int) → 0 ≤ w3_4 ∧ w3_4 ≤ 18 → (Z4 56 18 + wy (18 * 19 + w3_4) = Z 56 18 + wy (18 * 19 + x1)) → GL Z Z4 18 x1 x2 w3_4 → XH n s S Z4 h4 → GB n S Z4 → fr' [(56, 18), (61, (-1)), (63, (-1))] Z Z4 → mx_J (tB l D b0 ad Hb tau) mt_185 (d + 18) 75 [some (.ref 56), some (xI 18), some (xI x1), some (xI x2), some (xI w3_4)] [] h4 Post := by
          intro m3
          induction m3 with
          | zero => intro w3_4 Z4 h4 q3 f3_0 f3_1 f3_2 hx4 hG4 hf4; exact absurd q3 (by omega)
          | succ m3 ih3 =>
            intro w3_4 Z4 h4 q3 f3_0 f3_1 f3_2 hx4 hG4 hf4
            have b5 : 0 ≤ Z4 56 18 ∧ Z4 56 18 ≤ 385 := hG4.pr 56 18
            refine mx_J.step (sn_185 75) (fun _ _ => rfl) ?_
            refine Jif_le (show mx_Sn _ _ 77 (mx_if_le 107 80) from sn_185 77) (by omega) (fun q6 => ?_) (fun q6 => ?_)
            · skip
              have w0 : wy (18 * 19 + w3_4) = 0 := by rw [show w3_4 = 0 by omega]; exact Wy0 (by omega)
              exact mx_J.ret (sn_185 107) (fun _ _ => rfl) (hP Z4 h4 hx4 hG4 (fr_tr (M := [(56, 18), (61, (-1)), (63, (-1))]) fr_rf (hf4) (M1 := []) rfl rfl) ⟨(gl_e (by assumption) (by omega) (by omega)), by omega⟩)
            · skip
              refine mx_J.step (sn_185 80) (fun _ _ => rfl) ?_
              refine JgetR (g := 17) (b := 63) hx4 (show mx_Sn _ _ 81 (mx_getf 12 17 84) from sn_185 81) a56 s56 rfl rfl (hG4.prr 56 17 rfl) ?_
              refine mx_J.step (sn_185 84) (fun _ _ => rfl) ?_
              refine mx_J.step (sn_185 85) (fun _ _ => rfl) ?_
              refine JiastI hx4 (show mx_Sn _ _ 87 (mx_iast 1 88) from sn_185 87) a63 s63 rfl (by omega) (fun Z8 h8 hx8 hE8 => ?_)
              have hG8 := GB_up hG4 hE8 (show 0 ≤ w3_4 ∧ w3_4 ≤ 18 by omega) trivial rfl
              have wr := WRr (n := 18) (m := w3_4) (by omega) (by omega)
              refine mx_J.step (sn_185 88) (fun _ _ => rfl) ?_
              refine mx_J.step (sn_185 89) (fun _ _ => rfl) ?_
              refine mx_J.step (sn_185 90) (fun _ _ => rfl) ?_
              refine Jisub (show mx_Sn _ _ 92 (mx_isub 93) from sn_185 92) ?_
              refine mx_J.step (sn_185 93) (fun _ _ => rfl) ?_
              refine mx_J.step (sn_185 95) (fun _ _ => rfl) ?_
              refine JcI (z := 1) (show mx_Sn _ _ 96 (mx_const (.int 1) 97) from sn_185 96) rfl ?_
              refine Jiadd (show mx_Sn _ _ 97 (mx_iadd 98) from sn_185 97) ?_
              have eq10 : Z8 56 18 = Z4 56 18 := (up_nk hE8 rfl)
              obtain ⟨Z9, h9, hc9, hx9, hG9, hf9, b9⟩ := ct_185_56_le17 (d := d + 0) (l := l) (D := D) (b0 := b0) (ad := ad) (Hb := Hb) (tau := tau) hx8 hG8 (show 0 ≤ 18 - w3_4 ∧ 18 - w3_4 ≤ 17 by omega) (show 0 ≤ w3_4 ∧ w3_4 ≤ 18 by omega) (show 0 ≤ x2 + 1 ∧ x2 + 1 ≤ 18 by omega) (show Z8 56 18 + wy ((18 - w3_4) * 19 + w3_4) ≤ 385 by first | omega | (simp only [eq10]; omega)) (show (x2 + 1) + (18 - w3_4) ≤ 18 by first | omega | (simp only [eq10]; omega))
              try rw [eq10] at b9
              obtain ⟨bs9_0, b9⟩ := b9
              have b11 : 0 ≤ Z9 56 18 ∧ Z9 56 18 ≤ 385 := hG9.pr 56 18
              refine Jcv0 hx8 (show mx_Sn _ _ 98 (mx_callv 185 4 12 101) from sn_185 98) a56 s56 hc9 rfl rfl rfl ?_
              have gl1 := gl_s (Z := Z) (left := 18) (most := x1) (n := x2) (its := w3_4) (by assumption) (by omega) (by omega) (by omega) hE8 bs9_0
              refine Jiinc (z := w3_4) (cz := (-1)) (ls2 := [some (.ref 56), some (xI 18), some (xI x1), some (xI x2), some (xI (w3_4 + (-1)))]) (show mx_Sn _ _ 101 (mx_iinc 4 (-1) 104) from sn_185 101) rfl rfl rfl rfl ?_
              refine mx_J.step (sn_185 104) (fun _ _ => rfl) ?_
              exact ih3 (w3_4 + (-1)) Z9 h9 (by omega) (by omega) (by omega) (gl1) hx9 hG9 (fr_tr (M := [(56, 18), (61, (-1)), (63, (-1))]) (fr_tr (M := [(56, 18), (61, (-1)), (63, (-1))]) (fr_tr (M := [(56, 18), (61, (-1)), (63, (-1))]) fr_rf (hf4) (M1 := []) rfl rfl) (fr_ua hE8) rfl rfl) (hf9) rfl rfl)
        have b12 : 0 ≤ Z 56 18 ∧ Z 56 18 ≤ 385 := hG.pr 56 18
        exact c75 (Int.toNat (k2_0 - 0) + 1) k2_0 Z h (by omega) (by omega) (by omega) (gl_0 (by omega) (by omega) (by omega) (by omega)) hx hG fr_rf
      refine Jicmp_ge (show mx_Sn _ _ 65 (mx_icmp_ge 72 68) from sn_185 65) (by omega) (by omega) (fun q13 => ?_) (fun q13 => ?_)
      · skip
        refine mx_J.step (sn_185 72) (fun _ _ => rfl) ?_
        exact c73 18 (by omega) (by first | exact ⟨rfl, by omega⟩ | exact ⟨WSs (n := 18) (by omega) (by omega), by omega⟩) (by omega)
      · skip
        refine mx_J.step (sn_185 68) (fun _ _ => rfl) ?_
        refine mx_J.step (sn_185 69) (fun _ _ => rfl) ?_
        exact c73 x1 (by omega) (by first | exact ⟨rfl, by omega⟩ | exact ⟨WSs (n := 18) (by omega) (by omega), by omega⟩) (by omega)
    · skip
      exfalso; omega
theorem ct_185_56_i18 {l : Launch} {D : va_G} {b0 : Nat} {ad : Nat → Nat} {Hb : Heap} {tau : Nat → Int64} {d n s : Nat} {S : Nat → xS} {Z : xZ} {h : mx_H} (hx : XH n s S Z h) (hG : GB n S Z)  {x1 x2 : Int} (p1 : 0 ≤ x1 ∧ x1 ≤ 18) (p2 : 0 ≤ x2 ∧ x2 ≤ 18) (k0 : Z 56 18 + wy (18 * 19 + x1) ≤ 385) (k1 : x2 + 18 ≤ 18) : ∃ (Z' : xZ) (h' : mx_H), mx_Ca (tB l D b0 ad Hb tau) (d + 19) 185 [.ref 56, xI 18, xI x1, xI x2] h (none, h') ∧ XH n s S Z' h' ∧ GB n S Z' ∧ fr' [(56, 18), (61, (-1)), (63, (-1))] Z Z' ∧ (GAp Z Z' 18 x1 x2 ∧ Z' 56 18 = Z 56 18 + wy (18 * 19 + x1)) := by
  obtain ⟨r, hca, Z', h', e, q⟩ := Jmt (B := tB l D b0 ad Hb tau) (M := mt_185) (mi := 185) (as := [.ref 56, xI 18, xI x1, xI x2]) (d := d + 18) (ls := [some (.ref 56), some (xI 18), some (xI x1), some (xI x2), none]) rfl rfl rfl rfl rfl rfl (cw_185_56_i18 (l := l) (D := D) (b0 := b0) (ad := ad) (Hb := Hb) (tau := tau) (d := d) (Post := fun r => ∃ (Z' : xZ) (h' : mx_H), r = (none, h') ∧ XH n s S Z' h' ∧ GB n S Z' ∧ fr' [(56, 18), (61, (-1)), (63, (-1))] Z Z' ∧ (GAp Z Z' 18 x1 x2 ∧ Z' 56 18 = Z 56 18 + wy (18 * 19 + x1))) hx hG p1 p2 k0 k1 (fun Z' h' q1 q2 q3 q4 => ⟨Z', h', rfl, q1, q2, q3, q4⟩))
  subst e; exact ⟨Z', h', hca, q⟩
