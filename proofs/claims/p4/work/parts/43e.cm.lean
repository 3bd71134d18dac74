set_option maxRecDepth 100000 in
theorem cw_185_56_i5 {l : Launch} {D : va_G} {b0 : Nat} {ad : Nat → Nat} {Hb : Heap} {tau : Nat → Int64} {d n s : Nat} {S : Nat → xS} {Z : xZ} {h : mx_H} {Post : mx_R → Prop} (hx : XH n s S Z h) (hG : GB n S Z)  {x1 x2 : Int} (p1 : 0 ≤ x1 ∧ x1 ≤ 18) (p2 : 0 ≤ x2 ∧ x2 ≤ 18) (k0 : Z 56 18 + wy (5 * 19 + x1) ≤ 385) (k1 : x2 + 5 ≤ 18) (hP : ∀ (Z' : xZ) (h' : mx_H), XH n s S Z' h' → GB n S Z' → fr' [(56, 18), (61, (-1)), (63, (-1))] Z Z' → Z' 56 18 = Z 56 18 + wy (5 * 19 + x1) → Post (none, h')) : mx_J (tB l D b0 ad Hb tau) mt_185 (d + 5) 0 [some (.ref 56), some (xI 5), some (xI x1), some (xI x2), none] [] h Post := by
    have a56 : 56 < n := lt83 (GB_n hG) rfl
    have s56 : S 56 = .inl (12, [0, 2, 2, 2, 2, 0, 0, 0, 0, 0, 0, 0, 0, 0, 0, 2, 2, 2, 0, 2, 2, 2, 0, 0, 2, 2, 2, 2, 2, 2, 0, 0, 2, 2, 2, 2, 2, 2, 2, 2, 2, 2]) := GB_s hG 56 rfl
    have a63 : 63 < n := lt83 (GB_n hG) rfl
    have s63 : S 63 = .inr (.int, 18, 0) := GB_s hG 63 rfl
    refine mx_J.step (sn_185 0) (fun _ _ => rfl) ?_
    refine Jif_ne (show mx_Sn _ _ 1 (mx_if_ne 63 4) from sn_185 1) (by omega) (fun q1 => ?_) (fun q1 => ?_)
    · skip
      refine mx_J.step (sn_185 63) (fun _ _ => rfl) ?_
      refine mx_J.step (sn_185 64) (fun _ _ => rfl) ?_
      have c73 : ∀ (k2_0 : Int), 0 ≤ k2_0 ∧ k2_0 ≤ 5 → (wy (5 * 19 + k2_0) = wy (5 * 19 + x1) ∧ k2_0 ≤ 5) → mx_J (tB l D b0 ad Hb tau) mt_185 (d + 5) 73 [some (.ref 56), some (xI 5), some (xI x1), some (xI x2), none] [xI k2_0] h Post := by
        intro k2_0 f2_0 f2_1
        refine mx_J.step (ls2 := [some (.ref 56), some (xI 5), some (xI x1), some (xI x2), some (xI k2_0)]) (sn_185 73) (fun _ _ => rfl) ?_
        have c75 : ∀ (m3 : Nat) (w3_4 : Int) (Z4 : xZ) (h4 : mx_H), w3_4 - 0 < (m3 : Int) → 0 ≤ w3_4 ∧ w3_4 ≤ 5 → (Z4 56 18 + wy (5 * 19 + w3_4) = Z 56 18 + wy (5 * 19 + x1)) → XH n s S Z4 h4 → GB n S Z4 → fr' [(56, 18), (61, (-1)), (63, (-1))] Z Z4 → mx_J (tB l D b0 ad Hb tau) mt_185 (d + 5) 75 [some (.ref 56), some (xI 5), some (xI x1), some (xI x2), some (xI w3_4)] [] h4 Post := by
          intro m3
          induction m3 with
          | zero => intro w3_4 Z4 h4 q3 f3_0 f3_1 hx4 hG4 hf4; exact absurd q3 (by omega)
          | succ m3 ih3 =>
            intro w3_4 Z4 h4 q3 f3_0 f3_1 hx4 hG4 hf4
            have b5 : 0 ≤ Z4 56 18 ∧ Z4 56 18 ≤ 385 := hG4.pr 56 18
            refine mx_J.step (sn_185 75) (fun _ _ => rfl) ?_
            refine Jif_le (show mx_Sn _ _ 77 (mx_if_le 107 80) from sn_185 77) (by omega) (fun q6 => ?_) (fun q6 => ?_)
            · skip
              have w0 : wy (5 * 19 + w3_4) = 0 := by rw [show w3_4 = 0 by omega]; exact Wy0 (by omega)
              exact mx_J.ret (sn_185 107) (fun _ _ => rfl) (hP Z4 h4 hx4 hG4 (fr_tr (M := [(56, 18), (61, (-1)), (63, (-1))]) fr_rf (hf4) (M1 := []) rfl rfl) (by omega))
            · skip
              refine mx_J.step (sn_185 80) (fun _ _ => rfl) ?_
              refine JgetR (g := 17) (b := 63) hx4 (show mx_Sn _ _ 81 (mx_getf 12 17 84) from sn_185 81) a56 s56 rfl rfl (hG4.prr 56 17 rfl) ?_
              refine mx_J.step (sn_185 84) (fun _ _ => rfl) ?_
              refine mx_J.step (sn_185 85) (fun _ _ => rfl) ?_
              refine JiastI hx4 (show mx_Sn _ _ 87 (mx_iast 1 88) from sn_185 87) a63 s63 rfl (by omega) (fun Z8 h8 hx8 hE8 => ?_)
              have hG8 := GB_up hG4 hE8 (show 0 ≤ w3_4 ∧ w3_4 ≤ 18 by omega) trivial rfl
              have wr := WRr (n := 5) (m := w3_4) (by omega) (by omega)
              refine mx_J.step (sn_185 88) (fun _ _ => rfl) ?_
              refine mx_J.step (sn_185 89) (fun _ _ => rfl) ?_
              refine mx_J.step (sn_185 90) (fun _ _ => rfl) ?_
              refine Jisub (show mx_Sn _ _ 92 (mx_isub 93) from sn_185 92) ?_
              refine mx_J.step (sn_185 93) (fun _ _ => rfl) ?_
              refine mx_J.step (sn_185 95) (fun _ _ => rfl) ?_
              refine JcI (z := 1) (show mx_Sn _ _ 96 (mx_const (.int 1) 97) from sn_185 96) rfl ?_
              refine Jiadd (show mx_Sn _ _ 97 (mx_iadd 98) from sn_185 97) ?_
              have eq10 : Z8 56 18 = Z4 56 18 := (up_nk hE8 rfl)
              obtain ⟨Z9, h9, hc9, hx9, hG9, hf9, b9⟩ := ct_185_56_le4 (d := d + 0) (l := l) (D := D) (b0 := b0) (ad := ad) (Hb := Hb) (tau := tau) hx8 hG8 (show 0 ≤ 5 - w3_4 ∧ 5 - w3_4 ≤ 4 by omega) (show 0 ≤ w3_4 ∧ w3_4 ≤ 18 by omega) (show 0 ≤ x2 + 1 ∧ x2 + 1 ≤ 18 by omega) (show Z8 56 18 + wy ((5 - w3_4) * 19 + w3_4) ≤ 385 by first | omega | (simp only [eq10]; omega)) (show (x2 + 1) + (5 - w3_4) ≤ 18 by first | omega | (simp only [eq10]; omega))
              try rw [eq10] at b9
              have b11 : 0 ≤ Z9 56 18 ∧ Z9 56 18 ≤ 385 := hG9.pr 56 18
              refine Jcv0 hx8 (show mx_Sn _ _ 98 (mx_callv 185 4 12 101) from sn_185 98) a56 s56 hc9 rfl rfl rfl ?_
              refine Jiinc (z := w3_4) (cz := (-1)) (ls2 := [some (.ref 56), some (xI 5), some (xI x1), some (xI x2), some (xI (w3_4 + (-1)))]) (show mx_Sn _ _ 101 (mx_iinc 4 (-1) 104) from sn_185 101) rfl rfl rfl rfl ?_
              refine mx_J.step (sn_185 104) (fun _ _ => rfl) ?_
              exact ih3 (w3_4 + (-1)) Z9 h9 (by omega) (by omega) (by omega) hx9 hG9 (fr_tr (M := [(56, 18), (61, (-1)), (63, (-1))]) (fr_tr (M := [(56, 18), (61, (-1)), (63, (-1))]) (fr_tr (M := [(56, 18), (61, (-1)), (63, (-1))]) fr_rf (hf4) (M1 := []) rfl rfl) (fr_ua hE8) rfl rfl) (hf9) rfl rfl)
        have b12 : 0 ≤ Z 56 18 ∧ Z 56 18 ≤ 385 := hG.pr 56 18
        exact c75 (Int.toNat (k2_0 - 0) + 1) k2_0 Z h (by omega) (by omega) (by omega) hx hG fr_rf
      refine Jicmp_ge (show mx_Sn _ _ 65 (mx_icmp_ge 72 68) from sn_185 65) (by omega) (by omega) (fun q13 => ?_) (fun q13 => ?_)
      · skip
        refine mx_J.step (sn_185 72) (fun _ _ => rfl) ?_
        exact c73 5 (by omega) (by first | exact ⟨rfl, by omega⟩ | exact ⟨WSs (n := 5) (by omega) (by omega), by omega⟩)
      · skip
        refine mx_J.step (sn_185 68) (fun _ _ => rfl) ?_
        refine mx_J.step (sn_185 69) (fun _ _ => rfl) ?_
        exact c73 x1 (by omega) (by first | exact ⟨rfl, by omega⟩ | exact ⟨WSs (n := 5) (by omega) (by omega), by omega⟩)
    · skip
      exfalso; omega
theorem ct_185_56_i5 {l : Launch} {D : va_G} {b0 : Nat} {ad : Nat → Nat} {Hb : Heap} {tau : Nat → Int64} {d n s : Nat} {S : Nat → xS} {Z : xZ} {h : mx_H} (hx : XH n s S Z h) (hG : GB n S Z)  {x1 x2 : Int} (p1 : 0 ≤ x1 ∧ x1 ≤ 18) (p2 : 0 ≤ x2 ∧ x2 ≤ 18) (k0 : Z 56 18 + wy (5 * 19 + x1) ≤ 385) (k1 : x2 + 5 ≤ 18) : ∃ (Z' : xZ) (h' : mx_H), mx_Ca (tB l D b0 ad Hb tau) (d + 6) 185 [.ref 56, xI 5, xI x1, xI x2] h (none, h') ∧ XH n s S Z' h' ∧ GB n S Z' ∧ fr' [(56, 18), (61, (-1)), (63, (-1))] Z Z' ∧ (Z' 56 18 = Z 56 18 + wy (5 * 19 + x1)) := by
  obtain ⟨r, hca, Z', h', e, q⟩ := Jmt (B := tB l D b0 ad Hb tau) (M := mt_185) (mi := 185) (as := [.ref 56, xI 5, xI x1, xI x2]) (d := d + 5) (ls := [some (.ref 56), some (xI 5), some (xI x1), some (xI x2), none]) rfl rfl rfl rfl rfl rfl (cw_185_56_i5 (l := l) (D := D) (b0 := b0) (ad := ad) (Hb := Hb) (tau := tau) (d := d) (Post := fun r => ∃ (Z' : xZ) (h' : mx_H), r = (none, h') ∧ XH n s S Z' h' ∧ GB n S Z' ∧ fr' [(56, 18), (61, (-1)), (63, (-1))] Z Z' ∧ (Z' 56 18 = Z 56 18 + wy (5 * 19 + x1))) hx hG p1 p2 k0 k1 (fun Z' h' q1 q2 q3 q4 => ⟨Z', h', rfl, q1, q2, q3, q4⟩))
  subst e; exact ⟨Z', h', hca, q⟩
theorem ct_185_56_le5 {l : Launch} {D : va_G} {b0 : Nat} {ad : Nat → Nat} {Hb : Heap} {tau : Nat → Int64} {d n s : Nat} {S : Nat → xS} {Z : xZ} {h : mx_H} (hx : XH n s S Z h) (hG : GB n S Z) {x0 x1 x2 : Int} (p0 : 0 ≤ x0 ∧ x0 ≤ 5) (p1 : 0 ≤ x1 ∧ x1 ≤ 18) (p2 : 0 ≤ x2 ∧ x2 ≤ 18) (k0 : Z 56 18 + wy (x0 * 19 + x1) ≤ 385) (k1 : x2 + x0 ≤ 18) : ∃ (Z' : xZ) (h' : mx_H), mx_Ca (tB l D b0 ad Hb tau) (d + 6) 185 [.ref 56, xI x0, xI x1, xI x2] h (none, h') ∧ XH n s S Z' h' ∧ GB n S Z' ∧ fr' [(56, 18), (61, (-1)), (63, (-1))] Z Z' ∧ (Z' 56 18 = Z 56 18 + wy (x0 * 19 + x1)) := by
  have hc : x0 = 0 ∨ x0 = 1 ∨ x0 = 2 ∨ x0 = 3 ∨ x0 = 4 ∨ x0 = 5 := by omega
  rcases hc with hc | hc | hc | hc | hc | hc
  · subst hc
    obtain ⟨Z', h', hca, q1, q2, q3, q4⟩ := ct_185_56_i0 (d := d + 5) (l := l) (D := D) (b0 := b0) (ad := ad) (Hb := Hb) (tau := tau) hx hG p1 p2 k0 k1
    exact ⟨Z', h', hca, q1, q2, fr_tr (M1 := []) fr_rf q3 rfl rfl, q4⟩
  · subst hc
    obtain ⟨Z', h', hca, q1, q2, q3, q4⟩ := ct_185_56_i1 (d := d + 4) (l := l) (D := D) (b0 := b0) (ad := ad) (Hb := Hb) (tau := tau) hx hG p1 p2 k0 k1
    exact ⟨Z', h', hca, q1, q2, fr_tr (M1 := []) fr_rf q3 rfl rfl, q4⟩
  · subst hc
    obtain ⟨Z', h', hca, q1, q2, q3, q4⟩ := ct_185_56_i2 (d := d + 3) (l := l) (D := D) (b0 := b0) (ad := ad) (Hb := Hb) (tau := tau) hx hG p1 p2 k0 k1
    exact ⟨Z', h', hca, q1, q2, fr_tr (M1 := []) fr_rf q3 rfl rfl, q4⟩
  · subst hc
    obtain ⟨Z', h', hca, q1, q2, q3, q4⟩ := ct_185_56_i3 (d := d + 2) (l := l) (D := D) (b0 := b0) (ad := ad) (Hb := Hb) (tau := tau) hx hG p1 p2 k0 k1
    exact ⟨Z', h', hca, q1, q2, fr_tr (M1 := []) fr_rf q3 rfl rfl, q4⟩
  · subst hc
    obtain ⟨Z', h', hca, q1, q2, q3, q4⟩ := ct_185_56_i4 (d := d + 1) (l := l) (D := D) (b0 := b0) (ad := ad) (Hb := Hb) (tau := tau) hx hG p1 p2 k0 k1
    exact ⟨Z', h', hca, q1, q2, fr_tr (M1 := []) fr_rf q3 rfl rfl, q4⟩
  · subst hc
    obtain ⟨Z', h', hca, q1, q2, q3, q4⟩ := ct_185_56_i5 (d := d + 0) (l := l) (D := D) (b0 := b0) (ad := ad) (Hb := Hb) (tau := tau) hx hG p1 p2 k0 k1
    exact ⟨Z', h', hca, q1, q2, fr_tr (M1 := []) fr_rf q3 rfl rfl, q4⟩
set_option maxRecDepth 100000 in
theorem cw_185_56_i6 {l : Launch} {D : va_G} {b0 : Nat} {ad : Nat → Nat} {Hb : Heap} {tau : Nat → Int64} {d n s : Nat} {S : Nat → xS} {Z : xZ} {h : mx_H} {Post : mx_R → Prop} (hx : XH n s S Z h) (hG : GB n S Z)  {x1 x2 : Int} (p1 : 0 ≤ x1 ∧ x1 ≤ 18) (p2 : 0 ≤ x2 ∧ x2 ≤ 18) (k0 : Z 56 18 + wy (6 * 19 + x1) ≤ 385) (k1 : x2 + 6 ≤ 18) (hP : ∀ (Z' : xZ) (h' : mx_H), XH n s S Z' h' → GB n S Z' → fr' [(56, 18), (61, (-1)), (63, (-1))] Z Z' → Z' 56 18 = Z 56 18 + wy (6 * 19 + x1) → Post (none, h')) : mx_J (tB l D b0 ad Hb tau) mt_185 (d + 6) 0 [some (.ref 56), some (xI 6), some (xI x1), some (xI x2), none] [] h Post := by
    have a56 : 56 < n := lt83 (GB_n hG) rfl
    have s56 : S 56 = .inl (12, [0, 2, 2, 2, 2, 0, 0, 0, 0, 0, 0, 0, 0, 0, 0, 2, 2, 2, 0, 2, 2, 2, 0, 0, 2, 2, 2, 2, 2, 2, 0, 0, 2, 2, 2, 2, 2, 2, 2, 2, 2, 2]) := GB_s hG 56 rfl
    have a63 : 63 < n := lt83 (GB_n hG) rfl
    have s63 : S 63 = .inr (.int, 18, 0) := GB_s hG 63 rfl
    refine mx_J.step (sn_185 0) (fun _ _ => rfl) ?_
    refine Jif_ne (show mx_Sn _ _ 1 (mx_if_ne 63 4) from sn_185 1) (by omega) (fun q1 => ?_) (fun q1 => ?_)
    · skip
      refine mx_J.step (sn_185 63) (fun _ _ => rfl) ?_
      refine mx_J.step (sn_185 64) (fun _ _ => rfl) ?_
      have c73 : ∀ (k2_0 : Int), 0 ≤ k2_0 ∧ k2_0 ≤ 6 → (wy (6 * 19 + k2_0) = wy (6 * 19 + x1) ∧ k2_0 ≤ 6) → mx_J (tB l D b0 ad Hb tau) mt_185 (d + 6) 73 [some (.ref 56), some (xI 6), some (xI x1), some (xI x2), none] [xI k2_0] h Post := by
        intro k2_0 f2_0 f2_1
        refine mx_J.step (ls2 := [some (.ref 56), some (xI 6), some (xI x1), some (xI x2), some (xI k2_0)]) (sn_185 73) (fun _ _ => rfl) ?_
        have c75 : ∀ (m3 : Nat) (w3_4 : Int) (Z4 : xZ) (h4 : mx_H), w3_4 - 0 < (m3 : Int) → 0 ≤ w3_4 ∧ w3_4 ≤ 6 → (Z4 56 18 + wy (6 * 19 + w3_4) = Z 56 18 + wy (6 * 19 + x1)) → XH n s S Z4 h4 → GB n S Z4 → fr' [(56, 18), (61, (-1)), (63, (-1))] Z Z4 → mx_J (tB l D b0 ad Hb tau) mt_185 (d + 6) 75 [some (.ref 56), some (xI 6), some (xI x1), some (xI x2), some (xI w3_4)] [] h4 Post := by
          intro m3
          induction m3 with
          | zero => intro w3_4 Z4 h4 q3 f3_0 f3_1 hx4 hG4 hf4; exact absurd q3 (by omega)
          | succ m3 ih3 =>
            intro w3_4 Z4 h4 q3 f3_0 f3_1 hx4 hG4 hf4
            have b5 : 0 ≤ Z4 56 18 ∧ Z4 56 18 ≤ 385 := hG4.pr 56 18
            refine mx_J.step (sn_185 75) (fun _ _ => rfl) ?_
            refine Jif_le (show mx_Sn _ _ 77 (mx_if_le 107 80) from sn_185 77) (by omega) (fun q6 => ?_) (fun q6 => ?_)
            · skip
              have w0 : wy (6 * 19 + w3_4) = 0 := by rw [show w3_4 = 0 by omega]; exact Wy0 (by omega)
              exact mx_J.ret (sn_185 107) (fun _ _ => rfl) (hP Z4 h4 hx4 hG4 (fr_tr (M := [(56, 18), (61, (-1)), (63, (-1))]) fr_rf (hf4) (M1 := []) rfl rfl) (by omega))
            · skip
              refine mx_J.step (sn_185 80) (fun _ _ => rfl) ?_
              refine JgetR (g := 17) (b := 63) hx4 (show mx_Sn _ _ 81 (mx_getf 12 17 84) from sn_185 81) a56 s56 rfl rfl (hG4.prr 56 17 rfl) ?_
              refine mx_J.step (sn_185 84) (fun _ _ => rfl) ?_
              refine mx_J.step (sn_185 85) (fun _ _ => rfl) ?_
              refine JiastI hx4 (show mx_Sn _ _ 87 (mx_iast 1 88) from sn_185 87) a63 s63 rfl (by omega) (fun Z8 h8 hx8 hE8 => ?_)
              have hG8 := GB_up hG4 hE8 (show 0 ≤ w3_4 ∧ w3_4 ≤ 18 by omega) trivial rfl
              have wr := WRr (n := 6) (m := w3_4) (by omega) (by omega)
              refine mx_J.step (sn_185 88) (fun _ _ => rfl) ?_
              refine mx_J.step (sn_185 89) (fun _ _ => rfl) ?_
              refine mx_J.step (sn_185 90) (fun _ _ => rfl) ?_
              refine Jisub (show mx_Sn _ _ 92 (mx_isub 93) from sn_185 92) ?_
              refine mx_J.step (sn_185 93) (fun _ _ => rfl) ?_
              refine mx_J.step (sn_185 95) (fun _ _ => rfl) ?_
              refine JcI (z := 1) (show mx_Sn _ _ 96 (mx_const (.int 1) 97) from sn_185 96) rfl ?_
              refine Jiadd (show mx_Sn _ _ 97 (mx_iadd 98) from sn_185 97) ?_
              have eq10 : Z8 56 18 = Z4 56 18 := (up_nk hE8 rfl)
              obtain ⟨Z9, h9, hc9, hx9, hG9, hf9, b9⟩ := ct_185_56_le5 (d := d + 0) (l := l) (D := D) (b0 := b0) (ad := ad) (Hb := Hb) (tau := tau) hx8 hG8 (show 0 ≤ 6 - w3_4 ∧ 6 - w3_4 ≤ 5 by omega) (show 0 ≤ w3_4 ∧ w3_4 ≤ 18 by omega) (show 0 ≤ x2 + 1 ∧ x2 + 1 ≤ 18 by omega) (show Z8 56 18 + wy ((6 - w3_4) * 19 + w3_4) ≤ 385 by first | omega | (simp only [eq10]; omega)) (show (x2 + 1) + (6 - w3_4) ≤ 18 by first | omega | (simp only [eq10]; omega))
              try rw [eq10] at b9
              have b11 : 0 ≤ Z9 56 18 ∧ Z9 56 18 ≤ 385 := hG9.pr 56 18
              refine Jcv0 hx8 (show mx_Sn _ _ 98 (mx_callv 185 4 12 101) from sn_185 98) a56 s56 hc9 rfl rfl rfl ?_
              refine Jiinc (z := w3_4) (cz := (-1)) (ls2 := [some (.ref 56), some (xI 6), some (xI x1), some (xI x2), some (xI (w3_4 + (-1)))]) (show mx_Sn _ _ 101 (mx_iinc 4 (-1) 104) from sn_185 101) rfl rfl rfl rfl ?_
              refine mx_J.step (sn_185 104) (fun _ _ => rfl) ?_
              exact ih3 (w3_4 + (-1)) Z9 h9 (by omega) (by omega) (by omega) hx9 hG9 (fr_tr (M := [(56, 18), (61, (-1)), (63, (-1))]) (fr_tr (M := [(56, 18), (61, (-1)), (63, (-1))]) (fr_tr (M := [(56, 18), (61, (-1)), (63, (-1))]) fr_rf (hf4) (M1 := []) rfl rfl) (fr_ua hE8) rfl rfl) (hf9) rfl rfl)
        have b12 : 0 ≤ Z 56 18 ∧ Z 56 18 ≤ 385 := hG.pr 56 18
        exact c75 (Int.toNat (k2_0 - 0) + 1) k2_0 Z h (by omega) (by omega) (by omega) hx hG fr_rf
      refine Jicmp_ge (show mx_Sn _ _ 65 (mx_icmp_ge 72 68) from sn_185 65) (by omega) (by omega) (fun q13 => ?_) (fun q13 => ?_)
      · skip
        refine mx_J.step (sn_185 72) (fun _ _ => rfl) ?_
        exact c73 6 (by omega) (by first | exact ⟨rfl, by omega⟩ | exact ⟨WSs (n := 6) (by omega) (by omega), by omega⟩)
      · skip
        refine mx_J.step (sn_185 68) (fun _ _ => rfl) ?_
        refine mx_J.step (sn_185 69) (fun _ _ => rfl) ?_
        exact c73 x1 (by omega) (by first | exact ⟨rfl, by omega⟩ | exact ⟨WSs (n := 6) (by omega) (by omega), by omega⟩)
    · skip
      exfalso; omega
theorem ct_185_56_i6 {l : Launch} {D : va_G} {b0 : Nat} {ad : Nat → Nat} {Hb : Heap} {tau : Nat → Int64} {d n s : Nat} {S : Nat → xS} {Z : xZ} {h : mx_H} (hx : XH n s S Z h) (hG : GB n S Z)  {x1 x2 : Int} (p1 : 0 ≤ x1 ∧ x1 ≤ 18) (p2 : 0 ≤ x2 ∧ x2 ≤ 18) (k0 : Z 56 18 + wy (6 * 19 + x1) ≤ 385) (k1 : x2 + 6 ≤ 18) : ∃ (Z' : xZ) (h' : mx_H), mx_Ca (tB l D b0 ad Hb tau) (d + 7) 185 [.ref 56, xI 6, xI x1, xI x2] h (none, h') ∧ XH n s S Z' h' ∧ GB n S Z' ∧ fr' [(56, 18), (61, (-1)), (63, (-1))] Z Z' ∧ (Z' 56 18 = Z 56 18 + wy (6 * 19 + x1)) := by
  obtain ⟨r, hca, Z', h', e, q⟩ := Jmt (B := tB l D b0 ad Hb tau) (M := mt_185) (mi := 185) (as := [.ref 56, xI 6, xI x1, xI x2]) (d := d + 6) (ls := [some (.ref 56), some (xI 6), some (xI x1), some (xI x2), none]) rfl rfl rfl rfl rfl rfl (cw_185_56_i6 (l := l) (D := D) (b0 := b0) (ad := ad) (Hb := Hb) (tau := tau) (d := d) (Post := fun r => ∃ (Z' : xZ) (h' : mx_H), r = (none, h') ∧ XH n s S Z' h' ∧ GB n S Z' ∧ fr' [(56, 18), (61, (-1)), (63, (-1))] Z Z' ∧ (Z' 56 18 = Z 56 18 + wy (6 * 19 + x1))) hx hG p1 p2 k0 k1 (fun Z' h' q1 q2 q3 q4 => ⟨Z', h', rfl, q1, q2, q3, q4⟩))
  subst e; exact ⟨Z', h', hca, q⟩
theorem ct_185_56_le6 {l : Launch} {D : va_G} {b0 : Nat} {ad : Nat → Nat} {Hb : Heap} {tau : Nat → Int64} {d n s : Nat} {S : Nat → xS} {Z : xZ} {h : mx_H} (hx : XH n s S Z h) (hG : GB n S Z) {x0 x1 x2 : Int} (p0 : 0 ≤ x0 ∧ x0 ≤ 6) (p1 : 0 ≤ x1 ∧ x1 ≤ 18) (p2 : 0 ≤ x2 ∧ x2 ≤ 18) (k0 : Z 56 18 + wy (x0 * 19 + x1) ≤ 385) (k1 : x2 + x0 ≤ 18) : ∃ (Z' : xZ) (h' : mx_H), mx_Ca (tB l D b0 ad Hb tau) (d + 7) 185 [.ref 56, xI x0, xI x1, xI x2] h (none, h') ∧ XH n s S Z' h' ∧ GB n S Z' ∧ fr' [(56, 18), (61, (-1)), (63, (-1))] Z Z' ∧ (Z' 56 18 = Z 56 18 + wy (x0 * 19 + x1)) := by
  have hc : x0 = 0 ∨ x0 = 1 ∨ x0 = 2 ∨ x0 = 3 ∨ x0 = 4 ∨ x0 = 5 ∨ x0 = 6 := by omega
  rcases hc with hc | hc | hc | hc | hc | hc | hc
  · subst hc
    obtain ⟨Z', h', hca, q1, q2, q3, q4⟩ := ct_185_56_i0 (d := d + 6) (l := l) (D := D) (b0 := b0) (ad := ad) (Hb := Hb) (tau := tau) hx hG p1 p2 k0 k1
    exact ⟨Z', h', hca, q1, q2, fr_tr (M1 := []) fr_rf q3 rfl rfl, q4⟩
  · subst hc
    obtain ⟨Z', h', hca, q1, q2, q3, q4⟩ := ct_185_56_i1 (d := d + 5) (l := l) (D := D) (b0 := b0) (ad := ad) (Hb := Hb) (tau := tau) hx hG p1 p2 k0 k1
    exact ⟨Z', h', hca, q1, q2, fr_tr (M1 := []) fr_rf q3 rfl rfl, q4⟩
  · subst hc
    obtain ⟨Z', h', hca, q1, q2, q3, q4⟩ := ct_185_56_i2 (d := d + 4) (l := l) (D := D) (b0 := b0) (ad := ad) (Hb := Hb) (tau := tau) hx hG p1 p2 k0 k1
    exact ⟨Z', h', hca, q1, q2, fr_tr (M1 := []) fr_rf q3 rfl rfl, q4⟩
  · subst hc
    obtain ⟨Z', h', hca, q1, q2, q3, q4⟩ := ct_185_56_i3 (d := d + 3) (l := l) (D := D) (b0 := b0) (ad := ad) (Hb := Hb) (tau := tau) hx hG p1 p2 k0 k1
    exact ⟨Z', h', hca, q1, q2, fr_tr (M1 := []) fr_rf q3 rfl rfl, q4⟩
  · subst hc
    obtain ⟨Z', h', hca, q1, q2, q3, q4⟩ := ct_185_56_i4 (d := d + 2) (l := l) (D := D) (b0 := b0) (ad := ad) (Hb := Hb) (tau := tau) hx hG p1 p2 k0 k1
    exact ⟨Z', h', hca, q1, q2, fr_tr (M1 := []) fr_rf q3 rfl rfl, q4⟩
  · subst hc
    obtain ⟨Z', h', hca, q1, q2, q3, q4⟩ := ct_185_56_i5 (d := d + 1) (l := l) (D := D) (b0 := b0) (ad := ad) (Hb := Hb) (tau := tau) hx hG p1 p2 k0 k1
    exact ⟨Z', h', hca, q1, q2, fr_tr (M1 := []) fr_rf q3 rfl rfl, q4⟩
  · subst hc
    obtain ⟨Z', h', hca, q1, q2, q3, q4⟩ := ct_185_56_i6 (d := d + 0) (l := l) (D := D) (b0 := b0) (ad := ad) (Hb := Hb) (tau := tau) hx hG p1 p2 k0 k1
    exact ⟨Z', h', hca, q1, q2, fr_tr (M1 := []) fr_rf q3 rfl rfl, q4⟩
set_option maxRecDepth 100000 in
theorem cw_185_56_i7 {l : Launch} {D : va_G} {b0 : Nat} {ad : Nat → Nat} {Hb : Heap} {tau : Nat → Int64} {d n s : Nat} {S : Nat → xS} {Z : xZ} {h : mx_H} {Post : mx_R → Prop} (hx : XH n s S Z h) (hG : GB n S Z)  {x1 x2 : Int} (p1 : 0 ≤ x1 ∧ x1 ≤ 18) (p2 : 0 ≤ x2 ∧ x2 ≤ 18) (k0 : Z 56 18 + wy (7 * 19 + x1) ≤ 385) (k1 : x2 + 7 ≤ 18) (hP : ∀ (Z' : xZ) (h' : mx_H), XH n s S Z' h' → GB n S Z' → fr' [(56, 18), (61, (-1)), (63, (-1))] Z Z' → Z' 56 18 = Z 56 18 + wy (7 * 19 + x1) → Post (none, h')) : mx_J (tB l D b0 ad Hb tau) mt_185 (d + 7) 0 [some (.ref 56), some (xI 7), some (xI x1), some (xI x2), none] [] h Post := by
    have a56 : 56 < n := lt83 (GB_n hG) rfl
    have s56 : S 56 = .inl (12, [0, 2, 2, 2, 2, 0, 0, 0, 0, 0, 0, 0, 0, 0, 0, 2, 2, 2, 0, 2, 2, 2, 0, 0, 2, 2, 2, 2, 2, 2, 0, 0, 2, 2, 2, 2, 2, 2, 2, 2, 2, 2]) := GB_s hG 56 rfl
    have a63 : 63 < n := lt83 (GB_n hG) rfl
    have s63 : S 63 = .inr (.int, 18, 0) := GB_s hG 63 rfl
    refine mx_J.step (sn_185 0) (fun _ _ => rfl) ?_
    refine Jif_ne (show mx_Sn _ _ 1 (mx_if_ne 63 4) from sn_185 1) (by omega) (fun q1 => ?_) (fun q1 => ?_)
    · skip
      refine mx_J.step (sn_185 63) (fun _ _ => rfl) ?_
      refine mx_J.step (sn_185 64) (fun _ _ => rfl) ?_
      have c73 : ∀ (k2_0 : Int), 0 ≤ k2_0 ∧ k2_0 ≤ 7 → (wy (7 * 19 + k2_0) = wy (7 * 19 + x1) ∧ k2_0 ≤ 7) → mx_J (tB l D b0 ad Hb tau) mt_185 (d + 7) 73 [some (.ref 56), some (xI 7), some (xI x1), some (xI x2), none] [xI k2_0] h Post := by
        intro k2_0 f2_0 f2_1
        refine mx_J.step (ls2 := [some (.ref 56), some (xI 7), some (xI x1), some (xI x2), some (xI k2_0)]) (sn_185 73) (fun _ _ => rfl) ?_
        have c75 : ∀ (m3 : Nat) (w3_4 : Int) (Z4 : xZ) (h4 : mx_H), w3_4 - 0 < (m3 : Int) → 0 ≤ w3_4 ∧ w3_4 ≤ 7 → (Z4 56 18 + wy (7 * 19 + w3_4) = Z 56 18 + wy (7 * 19 + x1)) → XH n s S Z4 h4 → GB n S Z4 → fr' [(56, 18), (61, (-1)), (63, (-1))] Z Z4 → mx_J (tB l D b0 ad Hb tau) mt_185 (d + 7) 75 [some (.ref 56), some (xI 7), some (xI x1), some (xI x2), some (xI w3_4)] [] h4 Post := by
          intro m3
          induction m3 with
          | zero => intro w3_4 Z4 h4 q3 f3_0 f3_1 hx4 hG4 hf4; exact absurd q3 (by omega)
          | succ m3 ih3 =>
            intro w3_4 Z4 h4 q3 f3_0 f3_1 hx4 hG4 hf4
            have b5 : 0 ≤ Z4 56 18 ∧ Z4 56 18 ≤ 385 := hG4.pr 56 18
            refine mx_J.step (sn_185 75) (fun _ _ => rfl) ?_
            refine Jif_le (show mx_Sn _ _ 77 (mx_if_le 107 80) from sn_185 77) (by omega) (fun q6 => ?_) (fun q6 => ?_)
            · skip
              have w0 : wy (7 * 19 + w3_4) = 0 := by rw [show w3_4 = 0 by omega]; exact Wy0 (by omega)
              exact mx_J.ret (sn_185 107) (fun _ _ => rfl) (hP Z4 h4 hx4 hG4 (fr_tr (M := [(56, 18), (61, (-1)), (63, (-1))]) fr_rf (hf4) (M1 := []) rfl rfl) (by omega))
            · skip
              refine mx_J.step (sn_185 80) (fun _ _ => rfl) ?_
              refine JgetR (g := 17) (b := 63) hx4 (show mx_Sn _ _ 81 (mx_getf 12 17 84) from sn_185 81) a56 s56 rfl rfl (hG4.prr 56 17 rfl) ?_
              refine mx_J.step (sn_185 84) (fun _ _ => rfl) ?_
              refine mx_J.step (sn_185 85) (fun _ _ => rfl) ?_
              refine JiastI hx4 (show mx_Sn _ _ 87 (mx_iast 1 88) from sn_185 87) a63 s63 rfl (by omega) (fun Z8 h8 hx8 hE8 => ?_)
              have hG8 := GB_up hG4 hE8 (show 0 ≤ w3_4 ∧ w3_4 ≤ 18 by omega) trivial rfl
              have wr := WRr (n := 7) (m := w3_4) (by omega) (by omega)
              refine mx_J.step (sn_185 88) (fun _ _ => rfl) ?_
              refine mx_J.step (sn_185 89) (fun _ _ => rfl) ?_
              refine mx_J.step (sn_185 90) (fun _ _ => rfl) ?_
              refine Jisub (show mx_Sn _ _ 92 (mx_isub 93) from sn_185 92) ?_
              refine mx_J.step (sn_185 93) (fun _ _ => rfl) ?_
              refine mx_J.step (sn_185 95) (fun _ _ => rfl) ?_
              refine JcI (z := 1) (show mx_Sn _ _ 96 (mx_const (.int 1) 97) from sn_185 96) rfl ?_
              refine Jiadd (show mx_Sn _ _ 97 (mx_iadd 98) from sn_185 97) ?_
              have eq10 : Z8 56 18 = Z4 56 18 := (up_nk hE8 rfl)
              obtain ⟨Z9, h9, hc9, hx9, hG9, hf9, b9⟩ := ct_185_56_le6 (d := d + 0) (l := l) (D := D) (b0 := b0) (ad := ad) (Hb := Hb) (tau := tau) hx8 hG8 (show 0 ≤ 7 - w3_4 ∧ 7 - w3_4 ≤ 6 by omega) (show 0 ≤ w3_4 ∧ w3_4 ≤ 18 by omega) (show 0 ≤ x2 + 1 ∧ x2 + 1 ≤ 18 by omega) (show Z8 56 18 + wy ((7 - w3_4) * 19 + w3_4) ≤ 385 by first | omega | (simp only [eq10]; omega)) (show (x2 + 1) + (7 - w3_4) ≤ 18 by first | omega | (simp only [eq10]; omega))
              try rw [eq10] at b9
              have b11 : 0 ≤ Z9 56 18 ∧ Z9 56 18 ≤ 385 := hG9.pr 56 18
              refine Jcv0 hx8 (show mx_Sn _ _ 98 (mx_callv 185 4 12 101) from sn_185 98) a56 s56 hc9 rfl rfl rfl ?_
              refine Jiinc (z := w3_4) (cz := (-1)) (ls2 := [some (.ref 56), some (xI 7), some (xI x1), some (xI x2), some (xI (w3_4 + (-1)))]) (show mx_Sn _ _ 101 (mx_iinc 4 (-1) 104) from sn_185 101) rfl rfl rfl rfl ?_
              refine mx_J.step (sn_185 104) (fun _ _ => rfl) ?_
              exact ih3 (w3_4 + (-1)) Z9 h9 (by omega) (by omega) (by omega) hx9 hG9 (fr_tr (M := [(56, 18), (61, (-1)), (63, (-1))]) (fr_tr (M := [(56, 18), (61, (-1)), (63, (-1))]) (fr_tr (M := [(56, 18), (61, (-1)), (63, (-1))]) fr_rf (hf4) (M1 := []) rfl rfl) (fr_ua hE8) rfl rfl) (hf9) rfl rfl)
        have b12 : 0 ≤ Z 56 18 ∧ Z 56 18 ≤ 385 := hG.pr 56 18
        exact c75 (Int.toNat (k2_0 - 0) + 1) k2_0 Z h (by omega) (by omega) (by omega) hx hG fr_rf
      refine Jicmp_ge (show mx_Sn _ _ 65 (mx_icmp_ge 72 68) from sn_185 65) (by omega) (by omega) (fun q13 => ?_) (fun q13 => ?_)
      · skip
        refine mx_J.step (sn_185 72) (fun _ _ => rfl) ?_
        exact c73 7 (by omega) (by first | exact ⟨rfl, by omega⟩ | exact ⟨WSs (n := 7) (by omega) (by omega), by omega⟩)
      · skip
        refine mx_J.step (sn_185 68) (fun _ _ => rfl) ?_
        refine mx_J.step (sn_185 69) (fun _ _ => rfl) ?_
        exact c73 x1 (by omega) (by first | exact ⟨rfl, by omega⟩ | exact ⟨WSs (n := 7) (by omega) (by omega), by omega⟩)
    · skip
      exfalso; omega
theorem ct_185_56_i7 {l : Launch} {D : va_G} {b0 : Nat} {ad : Nat → Nat} {Hb : Heap} {tau : Nat → Int64} {d n s : Nat} {S : Nat → xS} {Z : xZ} {h : mx_H} (hx : XH n s S Z h) (hG : GB n S Z)  {x1 x2 : Int} (p1 : 0 ≤ x1 ∧ x1 ≤ 18) (p2 : 0 ≤ x2 ∧ x2 ≤ 18) (k0 : Z 56 18 + wy (7 * 19 + x1) ≤ 385) (k1 : x2 + 7 ≤ 18) : ∃ (Z' : xZ) (h' : mx_H), mx_Ca (tB l D b0 ad Hb tau) (d + 8) 185 [.ref 56, xI 7, xI x1, xI x2] h (none, h') ∧ XH n s S Z' h' ∧ GB n S Z' ∧ fr' [(56, 18), (61, (-1)), (63, (-1))] Z Z' ∧ (Z' 56 18 = Z 56 18 + wy (7 * 19 + x1)) := by
  obtain ⟨r, hca, Z', h', e, q⟩ := Jmt (B := tB l D b0 ad Hb tau) (M := mt_185) (mi := 185) (as := [.ref 56, xI 7, xI x1, xI x2]) (d := d + 7) (ls := [some (.ref 56), some (xI 7), some (xI x1), some (xI x2), none]) rfl rfl rfl rfl rfl rfl (cw_185_56_i7 (l := l) (D := D) (b0 := b0) (ad := ad) (Hb := Hb) (tau := tau) (d := d) (Post := fun r => ∃ (Z' : xZ) (h' : mx_H), r = (none, h') ∧ XH n s S Z' h' ∧ GB n S Z' ∧ fr' [(56, 18), (61, (-1)), (63, (-1))] Z Z' ∧ (Z' 56 18 = Z 56 18 + wy (7 * 19 + x1))) hx hG p1 p2 k0 k1 (fun Z' h' q1 q2 q3 q4 => ⟨Z', h', rfl, q1, q2, q3, q4⟩))
  subst e; exact ⟨Z', h', hca, q⟩
theorem ct_185_56_le7 {l : Launch} {D : va_G} {b0 : Nat} {ad : Nat → Nat} {Hb : Heap} {tau : Nat → Int64} {d n s : Nat} {S : Nat → xS} {Z : xZ} {h : mx_H} (hx : XH n s S Z h) (hG : GB n S Z) {x0 x1 x2 : Int} (p0 : 0 ≤ x0 ∧ x0 ≤ 7) (p1 : 0 ≤ x1 ∧ x1 ≤ 18) (p2 : 0 ≤ x2 ∧ x2 ≤ 18) (k0 : Z 56 18 + wy (x0 * 19 + x1) ≤ 385) (k1 : x2 + x0 ≤ 18) : ∃ (Z' : xZ) (h' : mx_H), mx_Ca (tB l D b0 ad Hb tau) (d + 8) 185 [.ref 56, xI x0, xI x1, xI x2] h (none, h') ∧ XH n s S Z' h' ∧ GB n S Z' ∧ fr' [(56, 18), (61, (-1)), (63, (-1))] Z Z' ∧ (Z' 56 18 = Z 56 18 + wy (x0 * 19 + x1)) := by
  have hc : x0 = 0 ∨ x0 = 1 ∨ x0 = 2 ∨ x0 = 3 ∨ x0 = 4 ∨ x0 = 5 ∨ x0 = 6 ∨ x0 = 7 := by omega
  rcases hc with hc | hc | hc | hc | hc | hc | hc | hc
  · subst hc
    obtain ⟨Z', h', hca, q1, q2, q3, q4⟩ := ct_185_56_i0 (d := d + 7) (l := l) (D := D) (b0 := b0) (ad := ad) (Hb := Hb) (tau := tau) hx hG p1 p2 k0 k1
    exact ⟨Z', h', hca, q1, q2, fr_tr (M1 := []) fr_rf q3 rfl rfl, q4⟩
  · subst hc
    obtain ⟨Z', h', hca, q1, q2, q3, q4⟩ := ct_185_56_i1 (d := d + 6) (l := l) (D := D) (b0 := b0) (ad := ad) (Hb := Hb) (tau := tau) hx hG p1 p2 k0 k1
    exact ⟨Z', h', hca, q1, q2, fr_tr (M1 := []) fr_rf q3 rfl rfl, q4⟩
  · subst hc
    obtain ⟨Z', h', hca, q1, q2, q3, q4⟩ := ct_185_56_i2 (d := d + 5) (l := l) (D := D) (b0 := b0) (ad := ad) (Hb := Hb) (tau := tau) hx hG p1 p2 k0 k1
    exact ⟨Z', h', hca, q1, q2, fr_tr (M1 := []) fr_rf q3 rfl rfl, q4⟩
  · subst hc
    obtain ⟨Z', h', hca, q1, q2, q3, q4⟩ := ct_185_56_i3 (d := d + 4) (l := l) (D := D) (b0 := b0) (ad := ad) (Hb := Hb) (tau := tau) hx hG p1 p2 k0 k1
    exact ⟨Z', h', hca, q1, q2, fr_tr (M1 := []) fr_rf q3 rfl rfl, q4⟩
  · subst hc
    obtain ⟨Z', h', hca, q1, q2, q3, q4⟩ := ct_185_56_i4 (d := d + 3) (l := l) (D := D) (b0 := b0) (ad := ad) (Hb := Hb) (tau := tau) hx hG p1 p2 k0 k1
    exact ⟨Z', h', hca, q1, q2, fr_tr (M1 := []) fr_rf q3 rfl rfl, q4⟩
  · subst hc
    obtain ⟨Z', h', hca, q1, q2, q3, q4⟩ := ct_185_56_i5 (d := d + 2) (l := l) (D := D) (b0 := b0) (ad := ad) (Hb := Hb) (tau := tau) hx hG p1 p2 k0 k1
    exact ⟨Z', h', hca, q1, q2, fr_tr (M1 := []) fr_rf q3 rfl rfl, q4⟩
  · subst hc
    obtain ⟨Z', h', hca, q1, q2, q3, q4⟩ := ct_185_56_i6 (d := d + 1) (l := l) (D := D) (b0 := b0) (ad := ad) (Hb := Hb) (tau := tau) hx hG p1 p2 k0 k1
    exact ⟨Z', h', hca, q1, q2, fr_tr (M1 := []) fr_rf q3 rfl rfl, q4⟩
  · subst hc
    obtain ⟨Z', h', hca, q1, q2, q3, q4⟩ := ct_185_56_i7 (d := d + 0) (l := l) (D := D) (b0 := b0) (ad := ad) (Hb := Hb) (tau := tau) hx hG p1 p2 k0 k1
    exact ⟨Z', h', hca, q1, q2, fr_tr (M1 := []) fr_rf q3 rfl rfl, q4⟩
set_option maxRecDepth 100000 in
theorem cw_185_56_i8 {l : Launch} {D : va_G} {b0 : Nat} {ad : Nat → Nat} {Hb : Heap} {tau : Nat → Int64} {d n s : Nat} {S : Nat → xS} {Z : xZ} {h : mx_H} {Post : mx_R → Prop} (hx : XH n s S Z h) (hG : GB n S Z)  {x1 x2 : Int} (p1 : 0 ≤ x1 ∧ x1 ≤ 18) (p2 : 0 ≤ x2 ∧ x2 ≤ 18) (k0 : Z 56 18 + wy (8 * 19 + x1) ≤ 385) (k1 : x2 + 8 ≤ 18) (hP : ∀ (Z' : xZ) (h' : mx_H), XH n s S Z' h' → GB n S Z' → fr' [(56, 18), (61, (-1)), (63, (-1))] Z Z' → Z' 56 18 = Z 56 18 + wy (8 * 19 + x1) → Post (none, h')) : mx_J (tB l D b0 ad Hb tau) mt_185 (d + 8) 0 [some (.ref 56), some (xI 8), some (xI x1), some (xI x2), none] [] h Post := by
    have a56 : 56 < n := lt83 (GB_n hG) rfl
    have s56 : S 56 = .inl (12, [0, 2, 2, 2, 2, 0, 0, 0, 0, 0, 0, 0, 0, 0, 0, 2, 2, 2, 0, 2, 2, 2, 0, 0, 2, 2, 2, 2, 2, 2, 0, 0, 2, 2, 2, 2, 2, 2, 2, 2, 2, 2]) := GB_s hG 56 rfl
    have a63 : 63 < n := lt83 (GB_n hG) rfl
    have s63 : S 63 = .inr (.int, 18, 0) := GB_s hG 63 rfl
    refine mx_J.step (sn_185 0) (fun _ _ => rfl) ?_
    refine Jif_ne (show mx_Sn _ _ 1 (mx_if_ne 63 4) from sn_185 1) (by omega) (fun q1 => ?_) (fun q1 => ?_)
    · skip
      refine mx_J.step (sn_185 63) (fun _ _ => rfl) ?_
      refine mx_J.step (sn_185 64) (fun _ _ => rfl) ?_
      have c73 : ∀ (k2_0 : Int), 0 ≤ k2_0 ∧ k2_0 ≤ 8 → (wy (8 * 19 + k2_0) = wy (8 * 19 + x1) ∧ k2_0 ≤ 8) → mx_J (tB l D b0 ad Hb tau) mt_185 (d + 8) 73 [some (.ref 56), some (xI 8), some (xI x1), some (xI x2), none] [xI k2_0] h Post := by
        intro k2_0 f2_0 f2_1
        refine mx_J.step (ls2 := [some (.ref 56), some (xI 8), some (xI x1), some (xI x2), some (xI k2_0)]) (sn_185 73) (fun _ _ => rfl) ?_
        have c75 : ∀ (m3 : Nat) (w3_4 : Int) (Z4 : xZ) (h4 : mx_H), w3_4 - 0 < (m3 : Int) → 0 ≤ w3_4 ∧ w3_4 ≤ 8 → (Z4 56 18 + wy (8 * 19 + w3_4) = Z 56 18 + wy (8 * 19 + x1)) → XH n s S Z4 h4 → GB n S Z4 → fr' [(56, 18), (61, (-1)), (63, (-1))] Z Z4 → mx_J (tB l D b0 ad Hb tau) mt_185 (d + 8) 75 [some (.ref 56), some (xI 8), some (xI x1), some (xI x2), some (xI w3_4)] [] h4 Post := by
          intro m3
          induction m3 with
          | zero => intro w3_4 Z4 h4 q3 f3_0 f3_1 hx4 hG4 hf4; exact absurd q3 (by omega)
          | succ m3 ih3 =>
            intro w3_4 Z4 h4 q3 f3_0 f3_1 hx4 hG4 hf4
            have b5 : 0 ≤ Z4 56 18 ∧ Z4 56 18 ≤ 385 := hG4.pr 56 18
            refine mx_J.step (sn_185 75) (fun _ _ => rfl) ?_
            refine Jif_le (show mx_Sn _ _ 77 (mx_if_le 107 80) from sn_185 77) (by omega) (fun q6 => ?_) (fun q6 => ?_)
            · skip
              have w0 : wy (8 * 19 + w3_4) = 0 := by rw [show w3_4 = 0 by omega]; exact Wy0 (by omega)
              exact mx_J.ret (sn_185 107) (fun _ _ => rfl) (hP Z4 h4 hx4 hG4 (fr_tr (M := [(56, 18), (61, (-1)), (63, (-1))]) fr_rf (hf4) (M1 := []) rfl rfl) (by omega))
            · skip
              refine mx_J.step (sn_185 80) (fun _ _ => rfl) ?_
              refine JgetR (g := 17) (b := 63) hx4 (show mx_Sn _ _ 81 (mx_getf 12 17 84) from sn_185 81) a56 s56 rfl rfl (hG4.prr 56 17 rfl) ?_
              refine mx_J.step (sn_185 84) (fun _ _ => rfl) ?_
              refine mx_J.step (sn_185 85) (fun _ _ => rfl) ?_
              refine JiastI hx4 (show mx_Sn _ _ 87 (mx_iast 1 88) from sn_185 87) a63 s63 rfl (by omega) (fun Z8 h8 hx8 hE8 => ?_)
              have hG8 := GB_up hG4 hE8 (show 0 ≤ w3_4 ∧ w3_4 ≤ 18 by omega) trivial rfl
              have wr := WRr (n := 8) (m := w3_4) (by omega) (by omega)
              refine mx_J.step (sn_185 88) (fun _ _ => rfl) ?_
              refine mx_J.step (sn_185 89) (fun _ _ => rfl) ?_
              refine mx_J.step (sn_185 90) (fun _ _ => rfl) ?_
              refine Jisub (show mx_Sn _ _ 92 (mx_isub 93) from sn_185 92) ?_
              refine mx_J.step (sn_185 93) (fun _ _ => rfl) ?_
              refine mx_J.step (sn_185 95) (fun _ _ => rfl) ?_
              refine JcI (z := 1) (show mx_Sn _ _ 96 (mx_const (.int 1) 97) from sn_185 96) rfl ?_
              refine Jiadd (show mx_Sn _ _ 97 (mx_iadd 98) from sn_185 97) ?_
              have eq10 : Z8 56 18 = Z4 56 18 := (up_nk hE8 rfl)
              obtain ⟨Z9, h9, hc9, hx9, hG9, hf9, b9⟩ := ct_185_56_le7 (d := d + 0) (l := l) (D := D) (b0 := b0) (ad := ad) (Hb := Hb) (tau := tau) hx8 hG8 (show 0 ≤ 8 - w3_4 ∧ 8 - w3_4 ≤ 7 by omega) (show 0 ≤ w3_4 ∧ w3_4 ≤ 18 by omega) (show 0 ≤ x2 + 1 ∧ x2 + 1 ≤ 18 by omega) (show Z8 56 18 + wy ((8 - w3_4) * 19 + w3_4) ≤ 385 by first | omega | (simp only [eq10]; omega)) (show (x2 + 1) + (8 - w3_4) ≤ 18 by first | omega | (simp only [eq10]; omega))
              try rw [eq10] at b9
              have b11 : 0 ≤ Z9 56 18 ∧ Z9 56 18 ≤ 385 := hG9.pr 56 18
              refine Jcv0 hx8 (show mx_Sn _ _ 98 (mx_callv 185 4 12 101) from sn_185 98) a56 s56 hc9 rfl rfl rfl ?_
              refine Jiinc (z := w3_4) (cz := (-1)) (ls2 := [some (.ref 56), some (xI 8), some (xI x1), some (xI x2), some (xI (w3_4 + (-1)))]) (show mx_Sn _ _ 101 (mx_iinc 4 (-1) 104) from sn_185 101) rfl rfl rfl rfl ?_
              refine mx_J.step (sn_185 104) (fun _ _ => rfl) ?_
              exact ih3 (w3_4 + (-1)) Z9 h9 (by omega) (by omega) (by omega) hx9 hG9 (fr_tr (M := [(56, 18), (61, (-1)), (63, (-1))]) (fr_tr (M := [(56, 18), (61, (-1)), (63, (-1))]) (fr_tr (M := [(56, 18), (61, (-1)), (63, (-1))]) fr_rf (hf4) (M1 := []) rfl rfl) (fr_ua hE8) rfl rfl) (hf9) rfl rfl)
        have b12 : 0 ≤ Z 56 18 ∧ Z 56 18 ≤ 385 := hG.pr 56 18
        exact c75 (Int.toNat (k2_0 - 0) + 1) k2_0 Z h (by omega) (by omega) (by omega) hx hG fr_rf
      refine Jicmp_ge (show mx_Sn _ _ 65 (mx_icmp_ge 72 68) from sn_185 65) (by omega) (by omega) (fun q13 => ?_) (fun q13 => ?_)
      · skip
        refine mx_J.step (sn_185 72) (fun _ _ => rfl) ?_
        exact c73 8 (by omega) (by first | exact ⟨rfl, by omega⟩ | exact ⟨WSs (n := 8) (by omega) (by omega), by omega⟩)
      · skip
        refine mx_J.step (sn_185 68) (fun _ _ => rfl) ?_
        refine mx_J.step (sn_185 69) (fun _ _ => rfl) ?_
        exact c73 x1 (by omega) (by first | exact ⟨rfl, by omega⟩ | exact ⟨WSs (n := 8) (by omega) (by omega), by omega⟩)
    · skip
      exfalso; omega
theorem ct_185_56_i8 {l : Launch} {D : va_G} {b0 : Nat} {ad : Nat → Nat} {Hb : Heap} {tau : Nat → Int64} {d n s : Nat} {S : Nat → xS} {Z : xZ} {h : mx_H} (hx : XH n s S Z h) (hG : GB n S Z)  {x1 x2 : Int} (p1 : 0 ≤ x1 ∧ x1 ≤ 18) (p2 : 0 ≤ x2 ∧ x2 ≤ 18) (k0 : Z 56 18 + wy (8 * 19 + x1) ≤ 385) (k1 : x2 + 8 ≤ 18) : ∃ (Z' : xZ) (h' : mx_H), mx_Ca (tB l D b0 ad Hb tau) (d + 9) 185 [.ref 56, xI 8, xI x1, xI x2] h (none, h') ∧ XH n s S Z' h' ∧ GB n S Z' ∧ fr' [(56, 18), (61, (-1)), (63, (-1))] Z Z' ∧ (Z' 56 18 = Z 56 18 + wy (8 * 19 + x1)) := by
  obtain ⟨r, hca, Z', h', e, q⟩ := Jmt (B := tB l D b0 ad Hb tau) (M := mt_185) (mi := 185) (as := [.ref 56, xI 8, xI x1, xI x2]) (d := d + 8) (ls := [some (.ref 56), some (xI 8), some (xI x1), some (xI x2), none]) rfl rfl rfl rfl rfl rfl (cw_185_56_i8 (l := l) (D := D) (b0 := b0) (ad := ad) (Hb := Hb) (tau := tau) (d := d) (Post := fun r => ∃ (Z' : xZ) (h' : mx_H), r = (none, h') ∧ XH n s S Z' h' ∧ GB n S Z' ∧ fr' [(56, 18), (61, (-1)), (63, (-1))] Z Z' ∧ (Z' 56 18 = Z 56 18 + wy (8 * 19 + x1))) hx hG p1 p2 k0 k1 (fun Z' h' q1 q2 q3 q4 => ⟨Z', h', rfl, q1, q2, q3, q4⟩))
  subst e; exact ⟨Z', h', hca, q⟩
theorem ct_185_56_le8 {l : Launch} {D : va_G} {b0 : Nat} {ad : Nat → Nat} {Hb : Heap} {tau : Nat → Int64} {d n s : Nat} {S : Nat → xS} {Z : xZ} {h : mx_H} (hx : XH n s S Z h) (hG : GB n S Z) {x0 x1 x2 : Int} (p0 : 0 ≤ x0 ∧ x0 ≤ 8) (p1 : 0 ≤ x1 ∧ x1 ≤ 18) (p2 : 0 ≤ x2 ∧ x2 ≤ 18) (k0 : Z 56 18 + wy (x0 * 19 + x1) ≤ 385) (k1 : x2 + x0 ≤ 18) : ∃ (Z' : xZ) (h' : mx_H), mx_Ca (tB l D b0 ad Hb tau) (d + 9) 185 [.ref 56, xI x0, xI x1, xI x2] h (none, h') ∧ XH n s S Z' h' ∧ GB n S Z' ∧ fr' [(56, 18), (61, (-1)), (63, (-1))] Z Z' ∧ (Z' 56 18 = Z 56 18 + wy (x0 * 19 + x1)) := by
  have hc : x0 = 0 ∨ x0 = 1 ∨ x0 = 2 ∨ x0 = 3 ∨ x0 = 4 ∨ x0 = 5 ∨ x0 = 6 ∨ x0 = 7 ∨ x0 = 8 := by omega
  rcases hc with hc | hc | hc | hc | hc | hc | hc | hc | hc
  · subst hc
    obtain ⟨Z', h', hca, q1, q2, q3, q4⟩ := ct_185_56_i0 (d := d + 8) (l := l) (D := D) (b0 := b0) (ad := ad) (Hb := Hb) (tau := tau) hx hG p1 p2 k0 k1
    exact ⟨Z', h', hca, q1, q2, fr_tr (M1 := []) fr_rf q3 rfl rfl, q4⟩
  · subst hc
    obtain ⟨Z', h', hca, q1, q2, q3, q4⟩ := ct_185_56_i1 (d := d + 7) (l := l) (D := D) (b0 := b0) (ad := ad) (Hb := Hb) (tau := tau) hx hG p1 p2 k0 k1
    exact ⟨Z', h', hca, q1, q2, fr_tr (M1 := []) fr_rf q3 rfl rfl, q4⟩
  · subst hc
    obtain ⟨Z', h', hca, q1, q2, q3, q4⟩ := ct_185_56_i2 (d := d + 6) (l := l) (D := D) (b0 := b0) (ad := ad) (Hb := Hb) (tau := tau) hx hG p1 p2 k0 k1
    exact ⟨Z', h', hca, q1, q2, fr_tr (M1 := []) fr_rf q3 rfl rfl, q4⟩
  · subst hc
    obtain ⟨Z', h', hca, q1, q2, q3, q4⟩ := ct_185_56_i3 (d := d + 5) (l := l) (D := D) (b0 := b0) (ad := ad) (Hb := Hb) (tau := tau) hx hG p1 p2 k0 k1
    exact ⟨Z', h', hca, q1, q2, fr_tr (M1 := []) fr_rf q3 rfl rfl, q4⟩
  · subst hc
    obtain ⟨Z', h', hca, q1, q2, q3, q4⟩ := ct_185_56_i4 (d := d + 4) (l := l) (D := D) (b0 := b0) (ad := ad) (Hb := Hb) (tau := tau) hx hG p1 p2 k0 k1
    exact ⟨Z', h', hca, q1, q2, fr_tr (M1 := []) fr_rf q3 rfl rfl, q4⟩
  · subst hc
    obtain ⟨Z', h', hca, q1, q2, q3, q4⟩ := ct_185_56_i5 (d := d + 3) (l := l) (D := D) (b0 := b0) (ad := ad) (Hb := Hb) (tau := tau) hx hG p1 p2 k0 k1
    exact ⟨Z', h', hca, q1, q2, fr_tr (M1 := []) fr_rf q3 rfl rfl, q4⟩
  · subst hc
    obtain ⟨Z', h', hca, q1, q2, q3, q4⟩ := ct_185_56_i6 (d := d + 2) (l := l) (D := D) (b0 := b0) (ad := ad) (Hb := Hb) (tau := tau) hx hG p1 p2 k0 k1
    exact ⟨Z', h', hca, q1, q2, fr_tr (M1 := []) fr_rf q3 rfl rfl, q4⟩
  · subst hc
    obtain ⟨Z', h', hca, q1, q2, q3, q4⟩ := ct_185_56_i7 (d := d + 1) (l := l) (D := D) (b0 := b0) (ad := ad) (Hb := Hb) (tau := tau) hx hG p1 p2 k0 k1
    exact ⟨Z', h', hca, q1, q2, fr_tr (M1 := []) fr_rf q3 rfl rfl, q4⟩
  · subst hc
    obtain ⟨Z', h', hca, q1, q2, q3, q4⟩ := ct_185_56_i8 (d := d + 0) (l := l) (D := D) (b0 := b0) (ad := ad) (Hb := Hb) (tau := tau) hx hG p1 p2 k0 k1
    exact ⟨Z', h', hca, q1, q2, fr_tr (M1 := []) fr_rf q3 rfl rfl, q4⟩
set_option maxRecDepth 100000 in
theorem cw_185_56_i9 {l : Launch} {D : va_G} {b0 : Nat} {ad : Nat → Nat} {Hb : Heap} {tau : Nat → Int64} {d n s : Nat} {S : Nat → xS} {Z : xZ} {h : mx_H} {Post : mx_R → Prop} (hx : XH n s S Z h) (hG : GB n S Z)  {x1 x2 : Int} (p1 : 0 ≤ x1 ∧ x1 ≤ 18) (p2 : 0 ≤ x2 ∧ x2 ≤ 18) (k0 : Z 56 18 + wy (9 * 19 + x1) ≤ 385) (k1 : x2 + 9 ≤ 18) (hP : ∀ (Z' : xZ) (h' : mx_H), XH n s S Z' h' → GB n S Z' → fr' [(56, 18), (61, (-1)), (63, (-1))] Z Z' → Z' 56 18 = Z 56 18 + wy (9 * 19 + x1) → Post (none, h')) : mx_J (tB l D b0 ad Hb tau) mt_185 (d + 9) 0 [some (.ref 56), some (xI 9), some (xI x1), some (xI x2), none] [] h Post := by
    have a56 : 56 < n := lt83 (GB_n hG) rfl
    have s56 : S 56 = .inl (12, [0, 2, 2, 2, 2, 0, 0, 0, 0, 0, 0, 0, 0, 0, 0, 2, 2, 2, 0, 2, 2, 2, 0, 0, 2, 2, 2, 2, 2, 2, 0, 0, 2, 2, 2, 2, 2, 2, 2, 2, 2, 2]) := GB_s hG 56 rfl
    have a63 : 63 < n := lt83 (GB_n hG) rfl
    have s63 : S 63 = .inr (.int, 18, 0) := GB_s hG 63 rfl
    refine mx_J.step (sn_185 0) (fun _ _ => rfl) ?_
    refine Jif_ne (show mx_Sn _ _ 1 (mx_if_ne 63 4) from sn_185 1) (by omega) (fun q1 => ?_) (fun q1 => ?_)
    · skip
      refine mx_J.step (sn_185 63) (fun _ _ => rfl) ?_
      refine mx_J.step (sn_185 64) (fun _ _ => rfl) ?_
      have c73 : ∀ (k2_0 : Int), 0 ≤ k2_0 ∧ k2_0 ≤ 9 → (wy (9 * 19 + k2_0) = wy (9 * 19 + x1) ∧ k2_0 ≤ 9) → mx_J (tB l D b0 ad Hb tau) mt_185 (d + 9) 73 [some (.ref 56), some (xI 9), some (xI x1), some (xI x2), none] [xI k2_0] h Post := by
        intro k2_0 f2_0 f2_1
        refine mx_J.step (ls2 := [some (.ref 56), some (xI 9), some (xI x1), some (xI x2), some (xI k2_0)]) (sn_185 73) (fun _ _ => rfl) ?_
        have c75 : ∀ (m3 : Nat) (w3_4 : Int) (Z4 : xZ) (h4 : mx_H), w3_4 - 0 < (m3 : Int) → 0 ≤ w3_4 ∧ w3_4 ≤ 9 → (Z4 56 18 + wy (9 * 19 + w3_4) = Z 56 18 + wy (9 * 19 + x1)) → XH n s S Z4 h4 → GB n S Z4 → fr' [(56, 18), (61, (-1)), (63, (-1))] Z Z4 → mx_J (tB l D b0 ad Hb tau) mt_185 (d + 9) 75 [some (.ref 56), some (xI 9), some (xI x1), some (xI x2), some (xI w3_4)] [] h4 Post := by
          intro m3
          induction m3 with
          | zero => intro w3_4 Z4 h4 q3 f3_0 f3_1 hx4 hG4 hf4; exact absurd q3 (by omega)
          | succ m3 ih3 =>
            intro w3_4 Z4 h4 q3 f3_0 f3_1 hx4 hG4 hf4
            have b5 : 0 ≤ Z4 56 18 ∧ Z4 56 18 ≤ 385 := hG4.pr 56 18
            refine mx_J.step (sn_185 75) (fun _ _ => rfl) ?_
            refine Jif_le (show mx_Sn _ _ 77 (mx_if_le 107 80) from sn_185 77) (by omega) (fun q6 => ?_) (fun q6 => ?_)
            · skip
              have w0 : wy (9 * 19 + w3_4) = 0 := by rw [show w3_4 = 0 by omega]; exact Wy0 (by omega)
              exact mx_J.ret (sn_185 107) (fun _ _ => rfl) (hP Z4 h4 hx4 hG4 (fr_tr (M := [(56, 18), (61, (-1)), (63, (-1))]) fr_rf (hf4) (M1 := []) rfl rfl) (by omega))
            · skip
              refine mx_J.step (sn_185 80) (fun _ _ => rfl) ?_
              refine JgetR (g := 17) (b := 63) hx4 (show mx_Sn _ _ 81 (mx_getf 12 17 84) from sn_185 81) a56 s56 rfl rfl (hG4.prr 56 17 rfl) ?_
              refine mx_J.step (sn_185 84) (fun _ _ => rfl) ?_
              refine mx_J.step (sn_185 85) (fun _ _ => rfl) ?_
              refine JiastI hx4 (show mx_Sn _ _ 87 (mx_iast 1 88) from sn_185 87) a63 s63 rfl (by omega) (fun Z8 h8 hx8 hE8 => ?_)
              have hG8 := GB_up hG4 hE8 (show 0 ≤ w3_4 ∧ w3_4 ≤ 18 by omega) trivial rfl
              have wr := WRr (n := 9) (m := w3_4) (by omega) (by omega)
              refine mx_J.step (sn_185 88) (fun _ _ => rfl) ?_
              refine mx_J.step (sn_185 89) (fun _ _ => rfl) ?_
              refine mx_J.step (sn_185 90) (fun _ _ => rfl) ?_
              refine Jisub (show mx_Sn _ _ 92 (mx_isub 93) from sn_185 92) ?_
              refine mx_J.step (sn_185 93) (fun _ _ => rfl) ?_
              refine mx_J.step (sn_185 95) (fun _ _ => rfl) ?_
              refine JcI (z := 1) (show mx_Sn _ _ 96 (mx_const (.int 1) 97) from sn_185 96) rfl ?_
              refine Jiadd (show mx_Sn _ _ 97 (mx_iadd 98) from sn_185 97) ?_
              have eq10 : Z8 56 18 = Z4 56 18 := (up_nk hE8 rfl)
              obtain ⟨Z9, h9, hc9, hx9, hG9, hf9, b9⟩ := ct_185_56_le8 (d := d + 0) (l := l) (D := D) (b0 := b0) (ad := ad) (Hb := Hb) (tau := tau) hx8 hG8 (show 0 ≤ 9 - w3_4 ∧ 9 - w3_4 ≤ 8 by omega) (show 0 ≤ w3_4 ∧ w3_4 ≤ 18 by omega) (show 0 ≤ x2 + 1 ∧ x2 + 1 ≤ 18 by omega) (show Z8 56 18 + wy ((9 - w3_4) * 19 + w3_4) ≤ 385 by first | omega | (simp only [eq10]; omega)) (show (x2 + 1) + (9 - w3_4) ≤ 18 by first | omega | (simp only [eq10]; omega))
              try rw [eq10] at b9
              have b11 : 0 ≤ Z9 56 18 ∧ Z9 56 18 ≤ 385 := hG9.pr 56 18
              refine Jcv0 hx8 (show mx_Sn _ _ 98 (mx_callv 185 4 12 101) from sn_185 98) a56 s56 hc9 rfl rfl rfl ?_
              refine Jiinc (z := w3_4) (cz := (-1)) (ls2 := [some (.ref 56), some (xI 9), some (xI x1), some (xI x2), some (xI (w3_4 + (-1)))]) (show mx_Sn _ _ 101 (mx_iinc 4 (-1) 104) from sn_185 101) rfl rfl rfl rfl ?_
              refine mx_J.step (sn_185 104) (fun _ _ => rfl) ?_
              exact ih3 (w3_4 + (-1)) Z9 h9 (by omega) (by omega) (by omega) hx9 hG9 (fr_tr (M := [(56, 18), (61, (-1)), (63, (-1))]) (fr_tr (M := [(56, 18), (61, (-1)), (63, (-1))]) (fr_tr (M := [(56, 18), (61, (-1)), (63, (-1))]) fr_rf (hf4) (M1 := []) rfl rfl) (fr_ua hE8) rfl rfl) (hf9) rfl rfl)
        have b12 : 0 ≤ Z 56 18 ∧ Z 56 18 ≤ 385 := hG.pr 56 18
        exact c75 (Int.toNat (k2_0 - 0) + 1) k2_0 Z h (by omega) (by omega) (by omega) hx hG fr_rf
      refine Jicmp_ge (show mx_Sn _ _ 65 (mx_icmp_ge 72 68) from sn_185 65) (by omega) (by omega) (fun q13 => ?_) (fun q13 => ?_)
      · skip
        refine mx_J.step (sn_185 72) (fun _ _ => rfl) ?_
        exact c73 9 (by omega) (by first | exact ⟨rfl, by omega⟩ | exact ⟨WSs (n := 9) (by omega) (by omega), by omega⟩)
      · skip
        refine mx_J.step (sn_185 68) (fun _ _ => rfl) ?_
        refine mx_J.step (sn_185 69) (fun _ _ => rfl) ?_
        exact c73 x1 (by omega) (by first | exact ⟨rfl, by omega⟩ | exact ⟨WSs (n := 9) (by omega) (by omega), by omega⟩)
    · skip
      exfalso; omega
theorem ct_185_56_i9 {l : Launch} {D : va_G} {b0 : Nat} {ad : Nat → Nat} {Hb : Heap} {tau : Nat → Int64} {d n s : Nat} {S : Nat → xS} {Z : xZ} {h : mx_H} (hx : XH n s S Z h) (hG : GB n S Z)  {x1 x2 : Int} (p1 : 0 ≤ x1 ∧ x1 ≤ 18) (p2 : 0 ≤ x2 ∧ x2 ≤ 18) (k0 : Z 56 18 + wy (9 * 19 + x1) ≤ 385) (k1 : x2 + 9 ≤ 18) : ∃ (Z' : xZ) (h' : mx_H), mx_Ca (tB l D b0 ad Hb tau) (d + 10) 185 [.ref 56, xI 9, xI x1, xI x2] h (none, h') ∧ XH n s S Z' h' ∧ GB n S Z' ∧ fr' [(56, 18), (61, (-1)), (63, (-1))] Z Z' ∧ (Z' 56 18 = Z 56 18 + wy (9 * 19 + x1)) := by
  obtain ⟨r, hca, Z', h', e, q⟩ := Jmt (B := tB l D b0 ad Hb tau) (M := mt_185) (mi := 185) (as := [.ref 56, xI 9, xI x1, xI x2]) (d := d + 9) (ls := [some (.ref 56), some (xI 9), some (xI x1), some (xI x2), none]) rfl rfl rfl rfl rfl rfl (cw_185_56_i9 (l := l) (D := D) (b0 := b0) (ad := ad) (Hb := Hb) (tau := tau) (d := d) (Post := fun r => ∃ (Z' : xZ) (h' : mx_H), r = (none, h') ∧ XH n s S Z' h' ∧ GB n S Z' ∧ fr' [(56, 18), (61, (-1)), (63, (-1))] Z Z' ∧ (Z' 56 18 = Z 56 18 + wy (9 * 19 + x1))) hx hG p1 p2 k0 k1 (fun Z' h' q1 q2 q3 q4 => ⟨Z', h', rfl, q1, q2, q3, q4⟩))
  subst e; exact ⟨Z', h', hca, q⟩
theorem ct_185_56_le9 {l : Launch} {D : va_G} {b0 : Nat} {ad : Nat → Nat} {Hb : Heap} {tau : Nat → Int64} {d n s : Nat} {S : Nat → xS} {Z : xZ} {h : mx_H} (hx : XH n s S Z h) (hG : GB n S Z) {x0 x1 x2 : Int} (p0 : 0 ≤ x0 ∧ x0 ≤ 9) (p1 : 0 ≤ x1 ∧ x1 ≤ 18) (p2 : 0 ≤ x2 ∧ x2 ≤ 18) (k0 : Z 56 18 + wy (x0 * 19 + x1) ≤ 385) (k1 : x2 + x0 ≤ 18) : ∃ (Z' : xZ) (h' : mx_H), mx_Ca (tB l D b0 ad Hb tau) (d + 10) 185 [.ref 56, xI x0, xI x1, xI x2] h (none, h') ∧ XH n s S Z' h' ∧ GB n S Z' ∧ fr' [(56, 18), (61, (-1)), (63, (-1))] Z Z' ∧ (Z' 56 18 = Z 56 18 + wy (x0 * 19 + x1)) := by
  have hc : x0 = 0 ∨ x0 = 1 ∨ x0 = 2 ∨ x0 = 3 ∨ x0 = 4 ∨ x0 = 5 ∨ x0 = 6 ∨ x0 = 7 ∨ x0 = 8 ∨ x0 = 9 := by omega
  rcases hc with hc | hc | hc | hc | hc | hc | hc | hc | hc | hc
  · subst hc
    obtain ⟨Z', h', hca, q1, q2, q3, q4⟩ := ct_185_56_i0 (d := d + 9) (l := l) (D := D) (b0 := b0) (ad := ad) (Hb := Hb) (tau := tau) hx hG p1 p2 k0 k1
    exact ⟨Z', h', hca, q1, q2, fr_tr (M1 := []) fr_rf q3 rfl rfl, q4⟩
  · subst hc
    obtain ⟨Z', h', hca, q1, q2, q3, q4⟩ := ct_185_56_i1 (d := d + 8) (l := l) (D := D) (b0 := b0) (ad := ad) (Hb := Hb) (tau := tau) hx hG p1 p2 k0 k1
    exact ⟨Z', h', hca, q1, q2, fr_tr (M1 := []) fr_rf q3 rfl rfl, q4⟩
  · subst hc
    obtain ⟨Z', h', hca, q1, q2, q3, q4⟩ := ct_185_56_i2 (d := d + 7) (l := l) (D := D) (b0 := b0) (ad := ad) (Hb := Hb) (tau := tau) hx hG p1 p2 k0 k1
    exact ⟨Z', h', hca, q1, q2, fr_tr (M1 := []) fr_rf q3 rfl rfl, q4⟩
  · subst hc
    obtain ⟨Z', h', hca, q1, q2, q3, q4⟩ := ct_185_56_i3 (d := d + 6) (l := l) (D := D) (b0 := b0) (ad := ad) (Hb := Hb) (tau := tau) hx hG p1 p2 k0 k1
    exact ⟨Z', h', hca, q1, q2, fr_tr (M1 := []) fr_rf q3 rfl rfl, q4⟩
  · subst hc
    obtain ⟨Z', h', hca, q1, q2, q3, q4⟩ := ct_185_56_i4 (d := d + 5) (l := l) (D := D) (b0 := b0) (ad := ad) (Hb := Hb) (tau := tau) hx hG p1 p2 k0 k1
    exact ⟨Z', h', hca, q1, q2, fr_tr (M1 := []) fr_rf q3 rfl rfl, q4⟩
  · subst hc
    obtain ⟨Z', h', hca, q1, q2, q3, q4⟩ := ct_185_56_i5 (d := d + 4) (l := l) (D := D) (b0 := b0) (ad := ad) (Hb := Hb) (tau := tau) hx hG p1 p2 k0 k1
    exact ⟨Z', h', hca, q1, q2, fr_tr (M1 := []) fr_rf q3 rfl rfl, q4⟩
  · subst hc
    obtain ⟨Z', h', hca, q1, q2, q3, q4⟩ := ct_185_56_i6 (d := d + 3) (l := l) (D := D) (b0 := b0) (ad := ad) (Hb := Hb) (tau := tau) hx hG p1 p2 k0 k1
    exact ⟨Z', h', hca, q1, q2, fr_tr (M1 := []) fr_rf q3 rfl rfl, q4⟩
  · subst hc
    obtain ⟨Z', h', hca, q1, q2, q3, q4⟩ := ct_185_56_i7 (d := d + 2) (l := l) (D := D) (b0 := b0) (ad := ad) (Hb := Hb) (tau := tau) hx hG p1 p2 k0 k1
    exact ⟨Z', h', hca, q1, q2, fr_tr (M1 := []) fr_rf q3 rfl rfl, q4⟩
  · subst hc
    obtain ⟨Z', h', hca, q1, q2, q3, q4⟩ := ct_185_56_i8 (d := d + 1) (l := l) (D := D) (b0 := b0) (ad := ad) (Hb := Hb) (tau := tau) hx hG p1 p2 k0 k1
    exact ⟨Z', h', hca, q1, q2, fr_tr (M1 := []) fr_rf q3 rfl rfl, q4⟩
  · subst hc
    obtain ⟨Z', h', hca, q1, q2, q3, q4⟩ := ct_185_56_i9 (d := d + 0) (l := l) (D := D) (b0 := b0) (ad := ad) (Hb := Hb) (tau := tau) hx hG p1 p2 k0 k1
    exact ⟨Z', h', hca, q1, q2, fr_tr (M1 := []) fr_rf q3 rfl rfl, q4⟩
set_option maxRecDepth 100000 in
theorem cw_185_56_i10 {l : Launch} {D : va_G} {b0 : Nat} {ad : Nat → Nat} {Hb : Heap} {tau : Nat → Int64} {d n s : Nat} {S : Nat → xS} {Z : xZ} {h : mx_H} {Post : mx_R → Prop} (hx : XH n s S Z h) (hG : GB n S Z)  {x1 x2 : Int} (p1 : 0 ≤ x1 ∧ x1 ≤ 18) (p2 : 0 ≤ x2 ∧ x2 ≤ 18) (k0 : Z 56 18 + wy (10 * 19 + x1) ≤ 385) (k1 : x2 + 10 ≤ 18) (hP : ∀ (Z' : xZ) (h' : mx_H), XH n s S Z' h' → GB n S Z' → fr' [(56, 18), (61, (-1)), (63, (-1))] Z Z' → Z' 56 18 = Z 56 18 + wy (10 * 19 + x1) → Post (none, h')) : mx_J (tB l D b0 ad Hb tau) mt_185 (d + 10) 0 [some (.ref 56), some (xI 10), some (xI x1), some (xI x2), none] [] h Post := by
    have a56 : 56 < n := lt83 (GB_n hG) rfl
    have s56 : S 56 = .inl (12, [0, 2, 2, 2, 2, 0, 0, 0, 0, 0, 0, 0, 0, 0, 0, 2, 2, 2, 0, 2, 2, 2, 0, 0, 2, 2, 2, 2, 2, 2, 0, 0, 2, 2, 2, 2, 2, 2, 2, 2, 2, 2]) := GB_s hG 56 rfl
    have a63 : 63 < n := lt83 (GB_n hG) rfl
    have s63 : S 63 = .inr (.int, 18, 0) := GB_s hG 63 rfl
    refine mx_J.step (sn_185 0) (fun _ _ => rfl) ?_
    refine Jif_ne (show mx_Sn _ _ 1 (mx_if_ne 63 4) from sn_185 1) (by omega) (fun q1 => ?_) (fun q1 => ?_)
    · skip
      refine mx_J.step (sn_185 63) (fun _ _ => rfl) ?_
      refine mx_J.step (sn_185 64) (fun _ _ => rfl) ?_
      have c73 : ∀ (k2_0 : Int), 0 ≤ k2_0 ∧ k2_0 ≤ 10 → (wy (10 * 19 + k2_0) = wy (10 * 19 + x1) ∧ k2_0 ≤ 10) → mx_J (tB l D b0 ad Hb tau) mt_185 (d + 10) 73 [some (.ref 56), some (xI 10), some (xI x1), some (xI x2), none] [xI k2_0] h Post := by
        intro k2_0 f2_0 f2_1
        refine mx_J.step (ls2 := [some (.ref 56), some (xI 10), some (xI x1), some (xI x2), some (xI k2_0)]) (sn_185 73) (fun _ _ => rfl) ?_
        have c75 : ∀ (m3 : Nat) (w3_4 : Int) (Z4 : xZ) (h4 : mx_H), w3_4 - 0 < (m3 : Int) → 0 ≤ w3_4 ∧ w3_4 ≤ 10 → (Z4 56 18 + wy (10 * 19 + w3_4) = Z 56 18 + wy (10 * 19 + x1)) → XH n s S Z4 h4 → GB n S Z4 → fr' [(56, 18), (61, (-1)), (63, (-1))] Z Z4 → mx_J (tB l D b0 ad Hb tau) mt_185 (d + 10) 75 [some (.ref 56), some (xI 10), some (xI x1), some (xI x2), some (xI w3_4)] [] h4 Post := by
          intro m3
          induction m3 with
          | zero => intro w3_4 Z4 h4 q3 f3_0 f3_1 hx4 hG4 hf4; exact absurd q3 (by omega)
          | succ m3 ih3 =>
            intro w3_4 Z4 h4 q3 f3_0 f3_1 hx4 hG4 hf4
            have b5 : 0 ≤ Z4 56 18 ∧ Z4 56 18 ≤ 385 := hG4.pr 56 18
            refine mx_J.step (sn_185 75) (fun _ _ => rfl) ?_
            refine Jif_le (show mx_Sn _ _ 77 (mx_if_le 107 80) from sn_185 77) (by omega) (fun q6 => ?_) (fun q6 => ?_)
            · skip
              have w0 : wy (10 * 19 + w3_4) = 0 := by rw [show w3_4 = 0 by omega]; exact Wy0 (by omega)
              exact mx_J.ret (sn_185 107) (fun _ _ => rfl) (hP Z4 h4 hx4 hG4 (fr_tr (M := [(56, 18), (61, (-1)), (63, (-1))]) fr_rf (hf4) (M1 := []) rfl rfl) (by omega))
            · skip
              refine mx_J.step (sn_185 80) (fun _ _ => rfl) ?_
              refine JgetR (g := 17) (b := 63) hx4 (show mx_Sn _ _ 81 (mx_getf 12 17 84) from sn_185 81) a56 s56 rfl rfl (hG4.prr 56 17 rfl) ?_
              refine mx_J.step (sn_185 84) (fun _ _ => rfl) ?_
              refine mx_J.step (sn_185 85) (fun _ _ => rfl) ?_
              refine JiastI hx4 (show mx_Sn _ _ 87 (mx_iast 1 88) from sn_185 87) a63 s63 rfl (by omega) (fun Z8 h8 hx8 hE8 => ?_)
              have hG8 := GB_up hG4 hE8 (show 0 ≤ w3_4 ∧ w3_4 ≤ 18 by omega) trivial rfl
              have wr := WRr (n := 10) (m := w3_4) (by omega) (by omega)
              refine mx_J.step (sn_185 88) (fun _ _ => rfl) ?_
              refine mx_J.step (sn_185 89) (fun _ _ => rfl) ?_
              refine mx_J.step (sn_185 90) (fun _ _ => rfl) ?_
              refine Jisub (show mx_Sn _ _ 92 (mx_isub 93) from sn_185 92) ?_
              refine mx_J.step (sn_185 93) (fun _ _ => rfl) ?_
              refine mx_J.step (sn_185 95) (fun _ _ => rfl) ?_
              refine JcI (z := 1) (show mx_Sn _ _ 96 (mx_const (.int 1) 97) from sn_185 96) rfl ?_
              refine Jiadd (show mx_Sn _ _ 97 (mx_iadd 98) from sn_185 97) ?_
              have eq10 : Z8 56 18 = Z4 56 18 := (up_nk hE8 rfl)
              obtain ⟨Z9, h9, hc9, hx9, hG9, hf9, b9⟩ := ct_185_56_le9 (d := d + 0) (l := l) (D := D) (b0 := b0) (ad := ad) (Hb := Hb) (tau := tau) hx8 hG8 (show 0 ≤ 10 - w3_4 ∧ 10 - w3_4 ≤ 9 by omega) (show 0 ≤ w3_4 ∧ w3_4 ≤ 18 by omega) (show 0 ≤ x2 + 1 ∧ x2 + 1 ≤ 18 by omega) (show Z8 56 18 + wy ((10 - w3_4) * 19 + w3_4) ≤ 385 by first | omega | (simp only [eq10]; omega)) (show (x2 + 1) + (10 - w3_4) ≤ 18 by first | omega | (simp only [eq10]; omega))
              try rw [eq10] at b9
              have b11 : 0 ≤ Z9 56 18 ∧ Z9 56 18 ≤ 385 := hG9.pr 56 18
              refine Jcv0 hx8 (show mx_Sn _ _ 98 (mx_callv 185 4 12 101) from sn_185 98) a56 s56 hc9 rfl rfl rfl ?_
              refine Jiinc (z := w3_4) (cz := (-1)) (ls2 := [some (.ref 56), some (xI 10), some (xI x1), some (xI x2), some (xI (w3_4 + (-1)))]) (show mx_Sn _ _ 101 (mx_iinc 4 (-1) 104) from sn_185 101) rfl rfl rfl rfl ?_
              refine mx_J.step (sn_185 104) (fun _ _ => rfl) ?_
              exact ih3 (w3_4 + (-1)) Z9 h9 (by omega) (by omega) (by omega) hx9 hG9 (fr_tr (M := [(56, 18), (61, (-1)), (63, (-1))]) (fr_tr (M := [(56, 18), (61, (-1)), (63, (-1))]) (fr_tr (M := [(56, 18), (61, (-1)), (63, (-1))]) fr_rf (hf4) (M1 := []) rfl rfl) (fr_ua hE8) rfl rfl) (hf9) rfl rfl)
        have b12 : 0 ≤ Z 56 18 ∧ Z 56 18 ≤ 385 := hG.pr 56 18
        exact c75 (Int.toNat (k2_0 - 0) + 1) k2_0 Z h (by omega) (by omega) (by omega) hx hG fr_rf
      refine Jicmp_ge (show mx_Sn _ _ 65 (mx_icmp_ge 72 68) from sn_185 65) (by omega) (by omega) (fun q13 => ?_) (fun q13 => ?_)
      · skip
        refine mx_J.step (sn_185 72) (fun _ _ => rfl) ?_
        exact c73 10 (by omega) (by first | exact ⟨rfl, by omega⟩ | exact ⟨WSs (n := 10) (by omega) (by omega), by omega⟩)
      · skip
        refine mx_J.step (sn_185 68) (fun _ _ => rfl) ?_
        refine mx_J.step (sn_185 69) (fun _ _ => rfl) ?_
        exact c73 x1 (by omega) (by first | exact ⟨rfl, by omega⟩ | exact ⟨WSs (n := 10) (by omega) (by omega), by omega⟩)
    · skip
      exfalso; omega
theorem ct_185_56_i10 {l : Launch} {D : va_G} {b0 : Nat} {ad : Nat → Nat} {Hb : Heap} {tau : Nat → Int64} {d n s : Nat} {S : Nat → xS} {Z : xZ} {h : mx_H} (hx : XH n s S Z h) (hG : GB n S Z)  {x1 x2 : Int} (p1 : 0 ≤ x1 ∧ x1 ≤ 18) (p2 : 0 ≤ x2 ∧ x2 ≤ 18) (k0 : Z 56 18 + wy (10 * 19 + x1) ≤ 385) (k1 : x2 + 10 ≤ 18) : ∃ (Z' : xZ) (h' : mx_H), mx_Ca (tB l D b0 ad Hb tau) (d + 11) 185 [.ref 56, xI 10, xI x1, xI x2] h (none, h') ∧ XH n s S Z' h' ∧ GB n S Z' ∧ fr' [(56, 18), (61, (-1)), (63, (-1))] Z Z' ∧ (Z' 56 18 = Z 56 18 + wy (10 * 19 + x1)) := by
  obtain ⟨r, hca, Z', h', e, q⟩ := Jmt (B := tB l D b0 ad Hb tau) (M := mt_185) (mi := 185) (as := [.ref 56, xI 10, xI x1, xI x2]) (d := d + 10) (ls := [some (.ref 56), some (xI 10), some (xI x1), some (xI x2), none]) rfl rfl rfl rfl rfl rfl (cw_185_56_i10 (l := l) (D := D) (b0 := b0) (ad := ad) (Hb := Hb) (tau := tau) (d := d) (Post := fun r => ∃ (Z' : xZ) (h' : mx_H), r = (none, h') ∧ XH n s S Z' h' ∧ GB n S Z' ∧ fr' [(56, 18), (61, (-1)), (63, (-1))] Z Z' ∧ (Z' 56 18 = Z 56 18 + wy (10 * 19 + x1))) hx hG p1 p2 k0 k1 (fun Z' h' q1 q2 q3 q4 => ⟨Z', h', rfl, q1, q2, q3, q4⟩))
  subst e; exact ⟨Z', h', hca, q⟩
theorem ct_185_56_le10 {l : Launch} {D : va_G} {b0 : Nat} {ad : Nat → Nat} {Hb : Heap} {tau : Nat → Int64} {d n s : Nat} {S : Nat → xS} {Z : xZ} {h : mx_H} (hx : XH n s S Z h) (hG : GB n S Z) {x0 x1 x2 : Int} (p0 : 0 ≤ x0 ∧ x0 ≤ 10) (p1 : 0 ≤ x1 ∧ x1 ≤ 18) (p2 : 0 ≤ x2 ∧ x2 ≤ 18) (k0 : Z 56 18 + wy (x0 * 19 + x1) ≤ 385) (k1 : x2 + x0 ≤ 18) : ∃ (Z' : xZ) (h' : mx_H), mx_Ca (tB l D b0 ad Hb tau) (d + 11) 185 [.ref 56, xI x0, xI x1, xI x2] h (none, h') ∧ XH n s S Z' h' ∧ GB n S Z' ∧ fr' [(56, 18), (61, (-1)), (63, (-1))] Z Z' ∧ (Z' 56 18 = Z 56 18 + wy (x0 * 19 + x1)) := by
  have hc : x0 = 0 ∨ x0 = 1 ∨ x0 = 2 ∨ x0 = 3 ∨ x0 = 4 ∨ x0 = 5 ∨ x0 = 6 ∨ x0 = 7 ∨ x0 = 8 ∨ x0 = 9 ∨ x0 = 10 := by omega
  rcases hc with hc | hc | hc | hc | hc | hc | hc | hc | hc | hc | hc
  · subst hc
    obtain ⟨Z', h', hca, q1, q2, q3, q4⟩ := ct_185_56_i0 (d := d + 10) (l := l) (D := D) (b0 := b0) (ad := ad) (Hb := Hb) (tau := tau) hx hG p1 p2 k0 k1
    exact ⟨Z', h', hca, q1, q2, fr_tr (M1 := []) fr_rf q3 rfl rfl, q4⟩
  · subst hc
    obtain ⟨Z', h', hca, q1, q2, q3, q4⟩ := ct_185_56_i1 (d := d + 9) (l := l) (D := D) (b0 := b0) (ad := ad) (Hb := Hb) (tau := tau) hx hG p1 p2 k0 k1
    exact ⟨Z', h', hca, q1, q2, fr_tr (M1 := []) fr_rf q3 rfl rfl, q4⟩
  · subst hc
    obtain ⟨Z', h', hca, q1, q2, q3, q4⟩ := ct_185_56_i2 (d := d + 8) (l := l) (D := D) (b0 := b0) (ad := ad) (Hb := Hb) (tau := tau) hx hG p1 p2 k0 k1
    exact ⟨Z', h', hca, q1, q2, fr_tr (M1 := []) fr_rf q3 rfl rfl, q4⟩
  · subst hc
    obtain ⟨Z', h', hca, q1, q2, q3, q4⟩ := ct_185_56_i3 (d := d + 7) (l := l) (D := D) (b0 := b0) (ad := ad) (Hb := Hb) (tau := tau) hx hG p1 p2 k0 k1
    exact ⟨Z', h', hca, q1, q2, fr_tr (M1 := []) fr_rf q3 rfl rfl, q4⟩
  · subst hc
    obtain ⟨Z', h', hca, q1, q2, q3, q4⟩ := ct_185_56_i4 (d := d + 6) (l := l) (D := D) (b0 := b0) (ad := ad) (Hb := Hb) (tau := tau) hx hG p1 p2 k0 k1
    exact ⟨Z', h', hca, q1, q2, fr_tr (M1 := []) fr_rf q3 rfl rfl, q4⟩
  · subst hc
    obtain ⟨Z', h', hca, q1, q2, q3, q4⟩ := ct_185_56_i5 (d := d + 5) (l := l) (D := D) (b0 := b0) (ad := ad) (Hb := Hb) (tau := tau) hx hG p1 p2 k0 k1
    exact ⟨Z', h', hca, q1, q2, fr_tr (M1 := []) fr_rf q3 rfl rfl, q4⟩
  · subst hc
    obtain ⟨Z', h', hca, q1, q2, q3, q4⟩ := ct_185_56_i6 (d := d + 4) (l := l) (D := D) (b0 := b0) (ad := ad) (Hb := Hb) (tau := tau) hx hG p1 p2 k0 k1
    exact ⟨Z', h', hca, q1, q2, fr_tr (M1 := []) fr_rf q3 rfl rfl, q4⟩
  · subst hc
    obtain ⟨Z', h', hca, q1, q2, q3, q4⟩ := ct_185_56_i7 (d := d + 3) (l := l) (D := D) (b0 := b0) (ad := ad) (Hb := Hb) (tau := tau) hx hG p1 p2 k0 k1
    exact ⟨Z', h', hca, q1, q2, fr_tr (M1 := []) fr_rf q3 rfl rfl, q4⟩
  · subst hc
    obtain ⟨Z', h', hca, q1, q2, q3, q4⟩ := ct_185_56_i8 (d := d + 2) (l := l) (D := D) (b0 := b0) (ad := ad) (Hb := Hb) (tau := tau) hx hG p1 p2 k0 k1
    exact ⟨Z', h', hca, q1, q2, fr_tr (M1 := []) fr_rf q3 rfl rfl, q4⟩
  · subst hc
    obtain ⟨Z', h', hca, q1, q2, q3, q4⟩ := ct_185_56_i9 (d := d + 1) (l := l) (D := D) (b0 := b0) (ad := ad) (Hb := Hb) (tau := tau) hx hG p1 p2 k0 k1
    exact ⟨Z', h', hca, q1, q2, fr_tr (M1 := []) fr_rf q3 rfl rfl, q4⟩
  · subst hc
    obtain ⟨Z', h', hca, q1, q2, q3, q4⟩ := ct_185_56_i10 (d := d + 0) (l := l) (D := D) (b0 := b0) (ad := ad) (Hb := Hb) (tau := tau) hx hG p1 p2 k0 k1
    exact ⟨Z', h', hca, q1, q2, fr_tr (M1 := []) fr_rf q3 rfl rfl, q4⟩
set_option maxRecDepth 100000 in
theorem cw_185_56_i11 {l : Launch} {D : va_G} {b0 : Nat} {ad : Nat → Nat} {Hb : Heap} {tau : Nat → Int64} {d n s : Nat} {S : Nat → xS} {Z : xZ} {h : mx_H} {Post : mx_R → Prop} (hx : XH n s S Z h) (hG : GB n S Z)  {x1 x2 : Int} (p1 : 0 ≤ x1 ∧ x1 ≤ 18) (p2 : 0 ≤ x2 ∧ x2 ≤ 18) (k0 : Z 56 18 + wy (11 * 19 + x1) ≤ 385) (k1 : x2 + 11 ≤ 18) (hP : ∀ (Z' : xZ) (h' : mx_H), XH n s S Z' h' → GB n S Z' → fr' [(56, 18), (61, (-1)), (63, (-1))] Z Z' → Z' 56 18 = Z 56 18 + wy (11 * 19 + x1) → Post (none, h')) : mx_J (tB l D b0 ad Hb tau) mt_185 (d + 11) 0 [some (.ref 56), some (xI 11), some (xI x1), some (xI x2), none] [] h Post := by
    have a56 : 56 < n := lt83 (GB_n hG) rfl
    have s56 : S 56 = .inl (12, [0, 2, 2, 2, 2, 0, 0, 0, 0, 0, 0, 0, 0, 0, 0, 2, 2, 2, 0, 2, 2, 2, 0, 0, 2, 2, 2, 2, 2, 2, 0, 0, 2, 2, 2, 2, 2, 2, 2, 2, 2, 2]) := GB_s hG 56 rfl
    have a63 : 63 < n := lt83 (GB_n hG) rfl
    have s63 : S 63 = .inr (.int, 18, 0) := GB_s hG 63 rfl
    refine mx_J.step (sn_185 0) (fun _ _ => rfl) ?_
    refine Jif_ne (show mx_Sn _ _ 1 (mx_if_ne 63 4) from sn_185 1) (by omega) (fun q1 => ?_) (fun q1 => ?_)
    · skip
      refine mx_J.step (sn_185 63) (fun _ _ => rfl) ?_
      refine mx_J.step (sn_185 64) (fun _ _ => rfl) ?_
      have c73 : ∀ (k2_0 : Int), 0 ≤ k2_0 ∧ k2_0 ≤ 11 → (wy (11 * 19 + k2_0) = wy (11 * 19 + x1) ∧ k2_0 ≤ 11) → mx_J (tB l D b0 ad Hb tau) mt_185 (d + 11) 73 [some (.ref 56), some (xI 11), some (xI x1), some (xI x2), none] [xI k2_0] h Post := by
        intro k2_0 f2_0 f2_1
        refine mx_J.step (ls2 := [some (.ref 56), some (xI 11), some (xI x1), some (xI x2), some (xI k2_0)]) (sn_185 73) (fun _ _ => rfl) ?_
        have c75 : ∀ (m3 : Nat) (w3_4 : Int) (Z4 : xZ) (h4 : mx_H), w3_4 - 0 < (m3 : Int) → 0 ≤ w3_4 ∧ w3_4 ≤ 11 → (Z4 56 18 + wy (11 * 19 + w3_4) = Z 56 18 + wy (11 * 19 + x1)) → XH n s S Z4 h4 → GB n S Z4 → fr' [(56, 18), (61, (-1)), (63, (-1))] Z Z4 → mx_J (tB l D b0 ad Hb tau) mt_185 (d + 11) 75 [some (.ref 56), some (xI 11), some (xI x1), some (xI x2), some (xI w3_4)] [] h4 Post := by
          intro m3
          induction m3 with
          | zero => intro w3_4 Z4 h4 q3 f3_0 f3_1 hx4 hG4 hf4; exact absurd q3 (by omega)
          | succ m3 ih3 =>
            intro w3_4 Z4 h4 q3 f3_0 f3_1 hx4 hG4 hf4
            have b5 : 0 ≤ Z4 56 18 ∧ Z4 56 18 ≤ 385 := hG4.pr 56 18
            refine mx_J.step (sn_185 75) (fun _ _ => rfl) ?_
            refine Jif_le (show mx_Sn _ _ 77 (mx_if_le 107 80) from sn_185 77) (by omega) (fun q6 => ?_) (fun q6 => ?_)
            · skip
              have w0 : wy (11 * 19 + w3_4) = 0 := by rw [show w3_4 = 0 by omega]; exact Wy0 (by omega)
              exact mx_J.ret (sn_185 107) (fun _ _ => rfl) (hP Z4 h4 hx4 hG4 (fr_tr (M := [(56, 18), (61, (-1)), (63, (-1))]) fr_rf (hf4) (M1 := []) rfl rfl) (by omega))
            · skip
              refine mx_J.step (sn_185 80) (fun _ _ => rfl) ?_
              refine JgetR (g := 17) (b := 63) hx4 (show mx_Sn _ _ 81 (mx_getf 12 17 84) from sn_185 81) a56 s56 rfl rfl (hG4.prr 56 17 rfl) ?_
              refine mx_J.step (sn_185 84) (fun _ _ => rfl) ?_
              refine mx_J.step (sn_185 85) (fun _ _ => rfl) ?_
              refine JiastI hx4 (show mx_Sn _ _ 87 (mx_iast 1 88) from sn_185 87) a63 s63 rfl (by omega) (fun Z8 h8 hx8 hE8 => ?_)
              have hG8 := GB_up hG4 hE8 (show 0 ≤ w3_4 ∧ w3_4 ≤ 18 by omega) trivial rfl
              have wr := WRr (n := 11) (m := w3_4) (by omega) (by omega)
              refine mx_J.step (sn_185 88) (fun _ _ => rfl) ?_
              refine mx_J.step (sn_185 89) (fun _ _ => rfl) ?_
              refine mx_J.step (sn_185 90) (fun _ _ => rfl) ?_
              refine Jisub (show mx_Sn _ _ 92 (mx_isub 93) from sn_185 92) ?_
              refine mx_J.step (sn_185 93) (fun _ _ => rfl) ?_
              refine mx_J.step (sn_185 95) (fun _ _ => rfl) ?_
              refine JcI (z := 1) (show mx_Sn _ _ 96 (mx_const (.int 1) 97) from sn_185 96) rfl ?_
              refine Jiadd (show mx_Sn _ _ 97 (mx_iadd 98) from sn_185 97) ?_
              have eq10 : Z8 56 18 = Z4 56 18 := (up_nk hE8 rfl)
              obtain ⟨Z9, h9, hc9, hx9, hG9, hf9, b9⟩ := ct_185_56_le10 (d := d + 0) (l := l) (D := D) (b0 := b0) (ad := ad) (Hb := Hb) (tau := tau) hx8 hG8 (show 0 ≤ 11 - w3_4 ∧ 11 - w3_4 ≤ 10 by omega) (show 0 ≤ w3_4 ∧ w3_4 ≤ 18 by omega) (show 0 ≤ x2 + 1 ∧ x2 + 1 ≤ 18 by omega) (show Z8 56 18 + wy ((11 - w3_4) * 19 + w3_4) ≤ 385 by first | omega | (simp only [eq10]; omega)) (show (x2 + 1) + (11 - w3_4) ≤ 18 by first | omega | (simp only [eq10]; omega))
              try rw [eq10] at b9
              have b11 : 0 ≤ Z9 56 18 ∧ Z9 56 18 ≤ 385 := hG9.pr 56 18
              refine Jcv0 hx8 (show mx_Sn _ _ 98 (mx_callv 185 4 12 101) from sn_185 98) a56 s56 hc9 rfl rfl rfl ?_
              refine Jiinc (z := w3_4) (cz := (-1)) (ls2 := [some (.ref 56), some (xI 11), some (xI x1), some (xI x2), some (xI (w3_4 + (-1)))]) (show mx_Sn _ _ 101 (mx_iinc 4 (-1) 104) from sn_185 101) rfl rfl rfl rfl ?_
              refine mx_J.step (sn_185 104) (fun _ _ => rfl) ?_
              exact ih3 (w3_4 + (-1)) Z9 h9 (by omega) (by omega) (by omega) hx9 hG9 (fr_tr (M := [(56, 18), (61, (-1)), (63, (-1))]) (fr_tr (M := [(56, 18), (61, (-1)), (63, (-1))]) (fr_tr (M := [(56, 18), (61, (-1)), (63, (-1))]) fr_rf (hf4) (M1 := []) rfl rfl) (fr_ua hE8) rfl rfl) (hf9) rfl rfl)
        have b12 : 0 ≤ Z 56 18 ∧ Z 56 18 ≤ 385 := hG.pr 56 18
        exact c75 (Int.toNat (k2_0 - 0) + 1) k2_0 Z h (by omega) (by omega) (by omega) hx hG fr_rf
      refine Jicmp_ge (show mx_Sn _ _ 65 (mx_icmp_ge 72 68) from sn_185 65) (by omega) (by omega) (fun q13 => ?_) (fun q13 => ?_)
      · skip
        refine mx_J.step (sn_185 72) (fun _ _ => rfl) ?_
        exact c73 11 (by omega) (by first | exact ⟨rfl, by omega⟩ | exact ⟨WSs (n := 11) (by omega) (by omega), by omega⟩)
      · skip
        refine mx_J.step (sn_185 68) (fun _ _ => rfl) ?_
        refine mx_J.step (sn_185 69) (fun _ _ => rfl) ?_
        exact c73 x1 (by omega) (by first | exact ⟨rfl, by omega⟩ | exact ⟨WSs (n := 11) (by omega) (by omega), by omega⟩)
    · skip
      exfalso; omega
theorem ct_185_56_i11 {l : Launch} {D : va_G} {b0 : Nat} {ad : Nat → Nat} {Hb : Heap} {tau : Nat → Int64} {d n s : Nat} {S : Nat → xS} {Z : xZ} {h : mx_H} (hx : XH n s S Z h) (hG : GB n S Z)  {x1 x2 : Int} (p1 : 0 ≤ x1 ∧ x1 ≤ 18) (p2 : 0 ≤ x2 ∧ x2 ≤ 18) (k0 : Z 56 18 + wy (11 * 19 + x1) ≤ 385) (k1 : x2 + 11 ≤ 18) : ∃ (Z' : xZ) (h' : mx_H), mx_Ca (tB l D b0 ad Hb tau) (d + 12) 185 [.ref 56, xI 11, xI x1, xI x2] h (none, h') ∧ XH n s S Z' h' ∧ GB n S Z' ∧ fr' [(56, 18), (61, (-1)), (63, (-1))] Z Z' ∧ (Z' 56 18 = Z 56 18 + wy (11 * 19 + x1)) := by
  obtain ⟨r, hca, Z', h', e, q⟩ := Jmt (B := tB l D b0 ad Hb tau) (M := mt_185) (mi := 185) (as := [.ref 56, xI 11, xI x1, xI x2]) (d := d + 11) (ls := [some (.ref 56), some (xI 11), some (xI x1), some (xI x2), none]) rfl rfl rfl rfl rfl rfl (cw_185_56_i11 (l := l) (D := D) (b0 := b0) (ad := ad) (Hb := Hb) (tau := tau) (d := d) (Post := fun r => ∃ (Z' : xZ) (h' : mx_H), r = (none, h') ∧ XH n s S Z' h' ∧ GB n S Z' ∧ fr' [(56, 18), (61, (-1)), (63, (-1))] Z Z' ∧ (Z' 56 18 = Z 56 18 + wy (11 * 19 + x1))) hx hG p1 p2 k0 k1 (fun Z' h' q1 q2 q3 q4 => ⟨Z', h', rfl, q1, q2, q3, q4⟩))
  subst e; exact ⟨Z', h', hca, q⟩
theorem ct_185_56_le11 {l : Launch} {D : va_G} {b0 : Nat} {ad : Nat → Nat} {Hb : Heap} {tau : Nat → Int64} {d n s : Nat} {S : Nat → xS} {Z : xZ} {h : mx_H} (hx : XH n s S Z h) (hG : GB n S Z) {x0 x1 x2 : Int} (p0 : 0 ≤ x0 ∧ x0 ≤ 11) (p1 : 0 ≤ x1 ∧ x1 ≤ 18) (p2 : 0 ≤ x2 ∧ x2 ≤ 18) (k0 : Z 56 18 + wy (x0 * 19 + x1) ≤ 385) (k1 : x2 + x0 ≤ 18) : ∃ (Z' : xZ) (h' : mx_H), mx_Ca (tB l D b0 ad Hb tau) (d + 12) 185 [.ref 56, xI x0, xI x1, xI x2] h (none, h') ∧ XH n s S Z' h' ∧ GB n S Z' ∧ fr' [(56, 18), (61, (-1)), (63, (-1))] Z Z' ∧ (Z' 56 18 = Z 56 18 + wy (x0 * 19 + x1)) := by
  have hc : x0 = 0 ∨ x0 = 1 ∨ x0 = 2 ∨ x0 = 3 ∨ x0 = 4 ∨ x0 = 5 ∨ x0 = 6 ∨ x0 = 7 ∨ x0 = 8 ∨ x0 = 9 ∨ x0 = 10 ∨ x0 = 11 := by omega
  rcases hc with hc | hc | hc | hc | hc | hc | hc | hc | hc | hc | hc | hc
  · subst hc
    obtain ⟨Z', h', hca, q1, q2, q3, q4⟩ := ct_185_56_i0 (d := d + 11) (l := l) (D := D) (b0 := b0) (ad := ad) (Hb := Hb) (tau := tau) hx hG p1 p2 k0 k1
    exact ⟨Z', h', hca, q1, q2, fr_tr (M1 := []) fr_rf q3 rfl rfl, q4⟩
  · subst hc
    obtain ⟨Z', h', hca, q1, q2, q3, q4⟩ := ct_185_56_i1 (d := d + 10) (l := l) (D := D) (b0 := b0) (ad := ad) (Hb := Hb) (tau := tau) hx hG p1 p2 k0 k1
    exact ⟨Z', h', hca, q1, q2, fr_tr (M1 := []) fr_rf q3 rfl rfl, q4⟩
  · subst hc
    obtain ⟨Z', h', hca, q1, q2, q3, q4⟩ := ct_185_56_i2 (d := d + 9) (l := l) (D := D) (b0 := b0) (ad := ad) (Hb := Hb) (tau := tau) hx hG p1 p2 k0 k1
    exact ⟨Z', h', hca, q1, q2, fr_tr (M1 := []) fr_rf q3 rfl rfl, q4⟩
  · subst hc
    obtain ⟨Z', h', hca, q1, q2, q3, q4⟩ := ct_185_56_i3 (d := d + 8) (l := l) (D := D) (b0 := b0) (ad := ad) (Hb := Hb) (tau := tau) hx hG p1 p2 k0 k1
    exact ⟨Z', h', hca, q1, q2, fr_tr (M1 := []) fr_rf q3 rfl rfl, q4⟩
  · subst hc
    obtain ⟨Z', h', hca, q1, q2, q3, q4⟩ := ct_185_56_i4 (d := d + 7) (l := l) (D := D) (b0 := b0) (ad := ad) (Hb := Hb) (tau := tau) hx hG p1 p2 k0 k1
    exact ⟨Z', h', hca, q1, q2, fr_tr (M1 := []) fr_rf q3 rfl rfl, q4⟩
  · subst hc
    obtain ⟨Z', h', hca, q1, q2, q3, q4⟩ := ct_185_56_i5 (d := d + 6) (l := l) (D := D) (b0 := b0) (ad := ad) (Hb := Hb) (tau := tau) hx hG p1 p2 k0 k1
    exact ⟨Z', h', hca, q1, q2, fr_tr (M1 := []) fr_rf q3 rfl rfl, q4⟩
  · subst hc
    obtain ⟨Z', h', hca, q1, q2, q3, q4⟩ := ct_185_56_i6 (d := d + 5) (l := l) (D := D) (b0 := b0) (ad := ad) (Hb := Hb) (tau := tau) hx hG p1 p2 k0 k1
    exact ⟨Z', h', hca, q1, q2, fr_tr (M1 := []) fr_rf q3 rfl rfl, q4⟩
  · subst hc
    obtain ⟨Z', h', hca, q1, q2, q3, q4⟩ := ct_185_56_i7 (d := d + 4) (l := l) (D := D) (b0 := b0) (ad := ad) (Hb := Hb) (tau := tau) hx hG p1 p2 k0 k1
    exact ⟨Z', h', hca, q1, q2, fr_tr (M1 := []) fr_rf q3 rfl rfl, q4⟩
  · subst hc
    obtain ⟨Z', h', hca, q1, q2, q3, q4⟩ := ct_185_56_i8 (d := d + 3) (l := l) (D := D) (b0 := b0) (ad := ad) (Hb := Hb) (tau := tau) hx hG p1 p2 k0 k1
    exact ⟨Z', h', hca, q1, q2, fr_tr (M1 := []) fr_rf q3 rfl rfl, q4⟩
  · subst hc
    obtain ⟨Z', h', hca, q1, q2, q3, q4⟩ := ct_185_56_i9 (d := d + 2) (l := l) (D := D) (b0 := b0) (ad := ad) (Hb := Hb) (tau := tau) hx hG p1 p2 k0 k1
    exact ⟨Z', h', hca, q1, q2, fr_tr (M1 := []) fr_rf q3 rfl rfl, q4⟩
  · subst hc
    obtain ⟨Z', h', hca, q1, q2, q3, q4⟩ := ct_185_56_i10 (d := d + 1) (l := l) (D := D) (b0 := b0) (ad := ad) (Hb := Hb) (tau := tau) hx hG p1 p2 k0 k1
    exact ⟨Z', h', hca, q1, q2, fr_tr (M1 := []) fr_rf q3 rfl rfl, q4⟩
  · subst hc
    obtain ⟨Z', h', hca, q1, q2, q3, q4⟩ := ct_185_56_i11 (d := d + 0) (l := l) (D := D) (b0 := b0) (ad := ad) (Hb := Hb) (tau := tau) hx hG p1 p2 k0 k1
    exact ⟨Z', h', hca, q1, q2, fr_tr (M1 := []) fr_rf q3 rfl rfl, q4⟩
set_option maxRecDepth 100000 in
theorem cw_185_56_i12 {l : Launch} {D : va_G} {b0 : Nat} {ad : Nat → Nat} {Hb : Heap} {tau : Nat → Int64} {d n s : Nat} {S : Nat → xS} {Z : xZ} {h : mx_H} {Post : mx_R → Prop} (hx : XH n s S Z h) (hG : GB n S Z)  {x1 x2 : Int} (p1 : 0 ≤ x1 ∧ x1 ≤ 18) (p2 : 0 ≤ x2 ∧ x2 ≤ 18) (k0 : Z 56 18 + wy (12 * 19 + x1) ≤ 385) (k1 : x2 + 12 ≤ 18) (hP : ∀ (Z' : xZ) (h' : mx_H), XH n s S Z' h' → GB n S Z' → fr' [(56, 18), (61, (-1)), (63, (-1))] Z Z' → Z' 56 18 = Z 56 18 + wy (12 * 19 + x1) → Post (none, h')) : mx_J (tB l D b0 ad Hb tau) mt_185 (d + 12) 0 [some (.ref 56), some (xI 12), some (xI x1), some (xI x2), none] [] h Post := by
    have a56 : 56 < n := lt83 (GB_n hG) rfl
    have s56 : S 56 = .inl (12, [0, 2, 2, 2, 2, 0, 0, 0, 0, 0, 0, 0, 0, 0, 0, 2, 2, 2, 0, 2, 2, 2, 0, 0, 2, 2, 2, 2, 2, 2, 0, 0, 2, 2, 2, 2, 2, 2, 2, 2, 2, 2]) := GB_s hG 56 rfl
    have a63 : 63 < n := lt83 (GB_n hG) rfl
    have s63 : S 63 = .inr (.int, 18, 0) := GB_s hG 63 rfl
    refine mx_J.step (sn_185 0) (fun _ _ => rfl) ?_
    refine Jif_ne (show mx_Sn _ _ 1 (mx_if_ne 63 4) from sn_185 1) (by omega) (fun q1 => ?_) (fun q1 => ?_)
    · skip
      refine mx_J.step (sn_185 63) (fun _ _ => rfl) ?_
      refine mx_J.step (sn_185 64) (fun _ _ => rfl) ?_
      have c73 : ∀ (k2_0 : Int), 0 ≤ k2_0 ∧ k2_0 ≤ 12 → (wy (12 * 19 + k2_0) = wy (12 * 19 + x1) ∧ k2_0 ≤ 12) → mx_J (tB l D b0 ad Hb tau) mt_185 (d + 12) 73 [some (.ref 56), some (xI 12), some (xI x1), some (xI x2), none] [xI k2_0] h Post := by
        intro k2_0 f2_0 f2_1
        refine mx_J.step (ls2 := [some (.ref 56), some (xI 12), some (xI x1), some (xI x2), some (xI k2_0)]) (sn_185 73) (fun _ _ => rfl) ?_
        have c75 : ∀ (m3 : Nat) (w3_4 : Int) (Z4 : xZ) (h4 : mx_H), w3_4 - 0 < (m3 : Int) → 0 ≤ w3_4 ∧ w3_4 ≤ 12 → (Z4 56 18 + wy (12 * 19 + w3_4) = Z 56 18 + wy (12 * 19 + x1)) → XH n s S Z4 h4 → GB n S Z4 → fr' [(56, 18), (61, (-1)), (63, (-1))] Z Z4 → mx_J (tB l D b0 ad Hb tau) mt_185 (d + 12) 75 [some (.ref 56), some (xI 12), some (xI x1), some (xI x2), some (xI w3_4)] [] h4 Post := by
          intro m3
          induction m3 with
          | zero => intro w3_4 Z4 h4 q3 f3_0 f3_1 hx4 hG4 hf4; exact absurd q3 (by omega)
          | succ m3 ih3 =>
            intro w3_4 Z4 h4 q3 f3_0 f3_1 hx4 hG4 hf4
            have b5 : 0 ≤ Z4 56 18 ∧ Z4 56 18 ≤ 385 := hG4.pr 56 18
            refine mx_J.step (sn_185 75) (fun _ _ => rfl) ?_
            refine Jif_le (show mx_Sn _ _ 77 (mx_if_le 107 80) from sn_185 77) (by omega) (fun q6 => ?_) (fun q6 => ?_)
            · skip
              have w0 : wy (12 * 19 + w3_4) = 0 := by rw [show w3_4 = 0 by omega]; exact Wy0 (by omega)
              exact mx_J.ret (sn_185 107) (fun _ _ => rfl) (hP Z4 h4 hx4 hG4 (fr_tr (M := [(56, 18), (61, (-1)), (63, (-1))]) fr_rf (hf4) (M1 := []) rfl rfl) (by omega))
            · skip
              refine mx_J.step (sn_185 80) (fun _ _ => rfl) ?_
              refine JgetR (g := 17) (b := 63) hx4 (show mx_Sn _ _ 81 (mx_getf 12 17 84) from sn_185 81) a56 s56 rfl rfl (hG4.prr 56 17 rfl) ?_
              refine mx_J.step (sn_185 84) (fun _ _ => rfl) ?_
              refine mx_J.step (sn_185 85) (fun _ _ => rfl) ?_
              refine JiastI hx4 (show mx_Sn _ _ 87 (mx_iast 1 88) from sn_185 87) a63 s63 rfl (by omega) (fun Z8 h8 hx8 hE8 => ?_)
              have hG8 := GB_up hG4 hE8 (show 0 ≤ w3_4 ∧ w3_4 ≤ 18 by omega) trivial rfl
              have wr := WRr (n := 12) (m := w3_4) (by omega) (by omega)
              refine mx_J.step (sn_185 88) (fun _ _ => rfl) ?_
              refine mx_J.step (sn_185 89) (fun _ _ => rfl) ?_
              refine mx_J.step (sn_185 90) (fun _ _ => rfl) ?_
              refine Jisub (show mx_Sn _ _ 92 (mx_isub 93) from sn_185 92) ?_
              refine mx_J.step (sn_185 93) (fun _ _ => rfl) ?_
              refine mx_J.step (sn_185 95) (fun _ _ => rfl) ?_
              refine JcI (z := 1) (show mx_Sn _ _ 96 (mx_const (.int 1) 97) from sn_185 96) rfl ?_
              refine Jiadd (show mx_Sn _ _ 97 (mx_iadd 98) from sn_185 97) ?_
              have eq10 : Z8 56 18 = Z4 56 18 := (up_nk hE8 rfl)
              obtain ⟨Z9, h9, hc9, hx9, hG9, hf9, b9⟩ := ct_185_56_le11 (d := d + 0) (l := l) (D := D) (b0 := b0) (ad := ad) (Hb := Hb) (tau := tau) hx8 hG8 (show 0 ≤ 12 - w3_4 ∧ 12 - w3_4 ≤ 11 by omega) (show 0 ≤ w3_4 ∧ w3_4 ≤ 18 by omega) (show 0 ≤ x2 + 1 ∧ x2 + 1 ≤ 18 by omega) (show Z8 56 18 + wy ((12 - w3_4) * 19 + w3_4) ≤ 385 by first | omega | (simp only [eq10]; omega)) (show (x2 + 1) + (12 - w3_4) ≤ 18 by first | omega | (simp only [eq10]; omega))
              try rw [eq10] at b9
              have b11 : 0 ≤ Z9 56 18 ∧ Z9 56 18 ≤ 385 := hG9.pr 56 18
              refine Jcv0 hx8 (show mx_Sn _ _ 98 (mx_callv 185 4 12 101) from sn_185 98) a56 s56 hc9 rfl rfl rfl ?_
              refine Jiinc (z := w3_4) (cz := (-1)) (ls2 := [some (.ref 56), some (xI 12), some (xI x1), some (xI x2), some (xI (w3_4 + (-1)))]) (show mx_Sn _ _ 101 (mx_iinc 4 (-1) 104) from sn_185 101) rfl rfl rfl rfl ?_
              refine mx_J.step (sn_185 104) (fun _ _ => rfl) ?_
              exact ih3 (w3_4 + (-1)) Z9 h9 (by omega) (by omega) (by omega) hx9 hG9 (fr_tr (M := [(56, 18), (61, (-1)), (63, (-1))]) (fr_tr (M := [(56, 18), (61, (-1)), (63, (-1))]) (fr_tr (M := [(56, 18), (61, (-1)), (63, (-1))]) fr_rf (hf4) (M1 := []) rfl rfl) (fr_ua hE8) rfl rfl) (hf9) rfl rfl)
        have b12 : 0 ≤ Z 56 18 ∧ Z 56 18 ≤ 385 := hG.pr 56 18
        exact c75 (Int.toNat (k2_0 - 0) + 1) k2_0 Z h (by omega) (by omega) (by omega) hx hG fr_rf
      refine Jicmp_ge (show mx_Sn _ _ 65 (mx_icmp_ge 72 68) from sn_185 65) (by omega) (by omega) (fun q13 => ?_) (fun q13 => ?_)
      · skip
        refine mx_J.step (sn_185 72) (fun _ _ => rfl) ?_
        exact c73 12 (by omega) (by first | exact ⟨rfl, by omega⟩ | exact ⟨WSs (n := 12) (by omega) (by omega), by omega⟩)
      · skip
        refine mx_J.step (sn_185 68) (fun _ _ => rfl) ?_
        refine mx_J.step (sn_185 69) (fun _ _ => rfl) ?_
        exact c73 x1 (by omega) (by first | exact ⟨rfl, by omega⟩ | exact ⟨WSs (n := 12) (by omega) (by omega), by omega⟩)
    · skip
      exfalso; omega
theorem ct_185_56_i12 {l : Launch} {D : va_G} {b0 : Nat} {ad : Nat → Nat} {Hb : Heap} {tau : Nat → Int64} {d n s : Nat} {S : Nat → xS} {Z : xZ} {h : mx_H} (hx : XH n s S Z h) (hG : GB n S Z)  {x1 x2 : Int} (p1 : 0 ≤ x1 ∧ x1 ≤ 18) (p2 : 0 ≤ x2 ∧ x2 ≤ 18) (k0 : Z 56 18 + wy (12 * 19 + x1) ≤ 385) (k1 : x2 + 12 ≤ 18) : ∃ (Z' : xZ) (h' : mx_H), mx_Ca (tB l D b0 ad Hb tau) (d + 13) 185 [.ref 56, xI 12, xI x1, xI x2] h (none, h') ∧ XH n s S Z' h' ∧ GB n S Z' ∧ fr' [(56, 18), (61, (-1)), (63, (-1))] Z Z' ∧ (Z' 56 18 = Z 56 18 + wy (12 * 19 + x1)) := by
  obtain ⟨r, hca, Z', h', e, q⟩ := Jmt (B := tB l D b0 ad Hb tau) (M := mt_185) (mi := 185) (as := [.ref 56, xI 12, xI x1, xI x2]) (d := d + 12) (ls := [some (.ref 56), some (xI 12), some (xI x1), some (xI x2), none]) rfl rfl rfl rfl rfl rfl (cw_185_56_i12 (l := l) (D := D) (b0 := b0) (ad := ad) (Hb := Hb) (tau := tau) (d := d) (Post := fun r => ∃ (Z' : xZ) (h' : mx_H), r = (none, h') ∧ XH n s S Z' h' ∧ GB n S Z' ∧ fr' [(56, 18), (61, (-1)), (63, (-1))] Z Z' ∧ (Z' 56 18 = Z 56 18 + wy (12 * 19 + x1))) hx hG p1 p2 k0 k1 (fun Z' h' q1 q2 q3 q4 => ⟨Z', h', rfl, q1, q2, q3, q4⟩))
  subst e; exact ⟨Z', h', hca, q⟩
theorem ct_185_56_le12 {l : Launch} {D : va_G} {b0 : Nat} {ad : Nat → Nat} {Hb : Heap} {tau : Nat → Int64} {d n s : Nat} {S : Nat → xS} {Z : xZ} {h : mx_H} (hx : XH n s S Z h) (hG : GB n S Z) {x0 x1 x2 : Int} (p0 : 0 ≤ x0 ∧ x0 ≤ 12) (p1 : 0 ≤ x1 ∧ x1 ≤ 18) (p2 : 0 ≤ x2 ∧ x2 ≤ 18) (k0 : Z 56 18 + wy (x0 * 19 + x1) ≤ 385) (k1 : x2 + x0 ≤ 18) : ∃ (Z' : xZ) (h' : mx_H), mx_Ca (tB l D b0 ad Hb tau) (d + 13) 185 [.ref 56, xI x0, xI x1, xI x2] h (none, h') ∧ XH n s S Z' h' ∧ GB n S Z' ∧ fr' [(56, 18), (61, (-1)), (63, (-1))] Z Z' ∧ (Z' 56 18 = Z 56 18 + wy (x0 * 19 + x1)) := by
  have hc : x0 = 0 ∨ x0 = 1 ∨ x0 = 2 ∨ x0 = 3 ∨ x0 = 4 ∨ x0 = 5 ∨ x0 = 6 ∨ x0 = 7 ∨ x0 = 8 ∨ x0 = 9 ∨ x0 = 10 ∨ x0 = 11 ∨ x0 = 12 := by omega
  rcases hc with hc | hc | hc | hc | hc | hc | hc | hc | hc | hc | hc | hc | hc
  · subst hc
    obtain ⟨Z', h', hca, q1, q2, q3, q4⟩ := ct_185_56_i0 (d := d + 12) (l := l) (D := D) (b0 := b0) (ad := ad) (Hb := Hb) (tau := tau) hx hG p1 p2 k0 k1
    exact ⟨Z', h', hca, q1, q2, fr_tr (M1 := []) fr_rf q3 rfl rfl, q4⟩
  · subst hc
    obtain ⟨Z', h', hca, q1, q2, q3, q4⟩ := ct_185_56_i1 (d := d + 11) (l := l) (D := D) (b0 := b0) (ad := ad) (Hb := Hb) (tau := tau) hx hG p1 p2 k0 k1
    exact ⟨Z', h', hca, q1, q2, fr_tr (M1 := []) fr_rf q3 rfl rfl, q4⟩
  · subst hc
    obtain ⟨Z', h', hca, q1, q2, q3, q4⟩ := ct_185_56_i2 (d := d + 10) (l := l) (D := D) (b0 := b0) (ad := ad) (Hb := Hb) (tau := tau) hx hG p1 p2 k0 k1
    exact ⟨Z', h', hca, q1, q2, fr_tr (M1 := []) fr_rf q3 rfl rfl, q4⟩
  · subst hc
    obtain ⟨Z', h', hca, q1, q2, q3, q4⟩ := ct_185_56_i3 (d := d + 9) (l := l) (D := D) (b0 := b0) (ad := ad) (Hb := Hb) (tau := tau) hx hG p1 p2 k0 k1
    exact ⟨Z', h', hca, q1, q2, fr_tr (M1 := []) fr_rf q3 rfl rfl, q4⟩
  · subst hc
    obtain ⟨Z', h', hca, q1, q2, q3, q4⟩ := ct_185_56_i4 (d := d + 8) (l := l) (D := D) (b0 := b0) (ad := ad) (Hb := Hb) (tau := tau) hx hG p1 p2 k0 k1
    exact ⟨Z', h', hca, q1, q2, fr_tr (M1 := []) fr_rf q3 rfl rfl, q4⟩
  · subst hc
    obtain ⟨Z', h', hca, q1, q2, q3, q4⟩ := ct_185_56_i5 (d := d + 7) (l := l) (D := D) (b0 := b0) (ad := ad) (Hb := Hb) (tau := tau) hx hG p1 p2 k0 k1
    exact ⟨Z', h', hca, q1, q2, fr_tr (M1 := []) fr_rf q3 rfl rfl, q4⟩
  · subst hc
    obtain ⟨Z', h', hca, q1, q2, q3, q4⟩ := ct_185_56_i6 (d := d + 6) (l := l) (D := D) (b0 := b0) (ad := ad) (Hb := Hb) (tau := tau) hx hG p1 p2 k0 k1
    exact ⟨Z', h', hca, q1, q2, fr_tr (M1 := []) fr_rf q3 rfl rfl, q4⟩
  · subst hc
    obtain ⟨Z', h', hca, q1, q2, q3, q4⟩ := ct_185_56_i7 (d := d + 5) (l := l) (D := D) (b0 := b0) (ad := ad) (Hb := Hb) (tau := tau) hx hG p1 p2 k0 k1
    exact ⟨Z', h', hca, q1, q2, fr_tr (M1 := []) fr_rf q3 rfl rfl, q4⟩
  · subst hc
    obtain ⟨Z', h', hca, q1, q2, q3, q4⟩ := ct_185_56_i8 (d := d + 4) (l := l) (D := D) (b0 := b0) (ad := ad) (Hb := Hb) (tau := tau) hx hG p1 p2 k0 k1
    exact ⟨Z', h', hca, q1, q2, fr_tr (M1 := []) fr_rf q3 rfl rfl, q4⟩
  · subst hc
    obtain ⟨Z', h', hca, q1, q2, q3, q4⟩ := ct_185_56_i9 (d := d + 3) (l := l) (D := D) (b0 := b0) (ad := ad) (Hb := Hb) (tau := tau) hx hG p1 p2 k0 k1
    exact ⟨Z', h', hca, q1, q2, fr_tr (M1 := []) fr_rf q3 rfl rfl, q4⟩
  · subst hc
    obtain ⟨Z', h', hca, q1, q2, q3, q4⟩ := ct_185_56_i10 (d := d + 2) (l := l) (D := D) (b0 := b0) (ad := ad) (Hb := Hb) (tau := tau) hx hG p1 p2 k0 k1
    exact ⟨Z', h', hca, q1, q2, fr_tr (M1 := []) fr_rf q3 rfl rfl, q4⟩
  · subst hc
    obtain ⟨Z', h', hca, q1, q2, q3, q4⟩ := ct_185_56_i11 (d := d + 1) (l := l) (D := D) (b0 := b0) (ad := ad) (Hb := Hb) (tau := tau) hx hG p1 p2 k0 k1
    exact ⟨Z', h', hca, q1, q2, fr_tr (M1 := []) fr_rf q3 rfl rfl, q4⟩
  · subst hc
    obtain ⟨Z', h', hca, q1, q2, q3, q4⟩ := ct_185_56_i12 (d := d + 0) (l := l) (D := D) (b0 := b0) (ad := ad) (Hb := Hb) (tau := tau) hx hG p1 p2 k0 k1
    exact ⟨Z', h', hca, q1, q2, fr_tr (M1 := []) fr_rf q3 rfl rfl, q4⟩
set_option maxRecDepth 100000 in
theorem cw_185_56_i13 {l : Launch} {D : va_G} {b0 : Nat} {ad : Nat → Nat} {Hb : Heap} {tau : Nat → Int64} {d n s : Nat} {S : Nat → xS} {Z : xZ} {h : mx_H} {Post : mx_R → Prop} (hx : XH n s S Z h) (hG : GB n S Z)  {x1 x2 : Int} (p1 : 0 ≤ x1 ∧ x1 ≤ 18) (p2 : 0 ≤ x2 ∧ x2 ≤ 18) (k0 : Z 56 18 + wy (13 * 19 + x1) ≤ 385) (k1 : x2 + 13 ≤ 18) (hP : ∀ (Z' : xZ) (h' : mx_H), XH n s S Z' h' → GB n S Z' → fr' [(56, 18), (61, (-1)), (63, (-1))] Z Z' → Z' 56 18 = Z 56 18 + wy (13 * 19 + x1) → Post (none, h')) : mx_J (tB l D b0 ad Hb tau) mt_185 (d + 13) 0 [some (.ref 56), some (xI 13), some (xI x1), some (xI x2), none] [] h Post := by
    have a56 : 56 < n := lt83 (GB_n hG) rfl
    have s56 : S 56 = .inl (12, [0, 2, 2, 2, 2, 0, 0, 0, 0, 0, 0, 0, 0, 0, 0, 2, 2, 2, 0, 2, 2, 2, 0, 0, 2, 2, 2, 2, 2, 2, 0, 0, 2, 2, 2, 2, 2, 2, 2, 2, 2, 2]) := GB_s hG 56 rfl
    have a63 : 63 < n := lt83 (GB_n hG) rfl
    have s63 : S 63 = .inr (.int, 18, 0) := GB_s hG 63 rfl
    refine mx_J.step (sn_185 0) (fun _ _ => rfl) ?_
    refine Jif_ne (show mx_Sn _ _ 1 (mx_if_ne 63 4) from sn_185 1) (by omega) (fun q1 => ?_) (fun q1 => ?_)
    · skip
      refine mx_J.step (sn_185 63) (fun _ _ => rfl) ?_
      refine mx_J.step (sn_185 64) (fun _ _ => rfl) ?_
      have c73 : ∀ (k2_0 : Int), 0 ≤ k2_0 ∧ k2_0 ≤ 13 → (wy (13 * 19 + k2_0) = wy (13 * 19 + x1) ∧ k2_0 ≤ 13) → mx_J (tB l D b0 ad Hb tau) mt_185 (d + 13) 73 [some (.ref 56), some (xI 13), some (xI x1), some (xI x2), none] [xI k2_0] h Post := by
        intro k2_0 f2_0 f2_1
        refine mx_J.step (ls2 := [some (.ref 56), some (xI 13), some (xI x1), some (xI x2), some (xI k2_0)]) (sn_185 73) (fun _ _ => rfl) ?_
        have c75 : ∀ (m3 : Nat) (w3_4 : Int) (Z4 : xZ) (h4 : mx_H), w3_4 - 0 < (m3 : Int) → 0 ≤ w3_4 ∧ w3_4 ≤ 13 → (Z4 56 18 + wy (13 * 19 + w3_4) = Z 56 18 + wy (13 * 19 + x1)) → XH n s S Z4 h4 → GB n S Z4 → fr' [(56, 18), (61, (-1)), (63, (-1))] Z Z4 → mx_J (tB l D b0 ad Hb tau) mt_185 (d + 13) 75 [some (.ref 56), some (xI 13), some (xI x1), some (xI x2), some (xI w3_4)] [] h4 Post := by
          intro m3
          induction m3 with
          | zero => intro w3_4 Z4 h4 q3 f3_0 f3_1 hx4 hG4 hf4; exact absurd q3 (by omega)
          | succ m3 ih3 =>
            intro w3_4 Z4 h4 q3 f3_0 f3_1 hx4 hG4 hf4
            have b5 : 0 ≤ Z4 56 18 ∧ Z4 56 18 ≤ 385 := hG4.pr 56 18
            refine mx_J.step (sn_185 75) (fun _ _ => rfl) ?_
            refine Jif_le (show mx_Sn _ _ 77 (mx_if_le 107 80) from sn_185 77) (by omega) (fun q6 => ?_) (fun q6 => ?_)
            · skip
              have w0 : wy (13 * 19 + w3_4) = 0 := by rw [show w3_4 = 0 by omega]; exact Wy0 (by omega)
              exact mx_J.ret (sn_185 107) (fun _ _ => rfl) (hP Z4 h4 hx4 hG4 (fr_tr (M := [(56, 18), (61, (-1)), (63, (-1))]) fr_rf (hf4) (M1 := []) rfl rfl) (by omega))
            · skip
              refine mx_J.step (sn_185 80) (fun _ _ => rfl) ?_
              refine JgetR (g := 17) (b := 63) hx4 (show mx_Sn _ _ 81 (mx_getf 12 17 84) from sn_185 81) a56 s56 rfl rfl (hG4.prr 56 17 rfl) ?_
              refine mx_J.step (sn_185 84) (fun _ _ => rfl) ?_
              refine mx_J.step (sn_185 85) (fun _ _ => rfl) ?_
              refine JiastI hx4 (show mx_Sn _ _ 87 (mx_iast 1 88) from sn_185 87) a63 s63 rfl (by omega) (fun Z8 h8 hx8 hE8 => ?_)
              have hG8 := GB_up hG4 hE8 (show 0 ≤ w3_4 ∧ w3_4 ≤ 18 by omega) trivial rfl
              have wr := WRr (n := 13) (m := w3_4) (by omega) (by omega)
              refine mx_J.step (sn_185 88) (fun _ _ => rfl) ?_
              refine mx_J.step (sn_185 89) (fun _ _ => rfl) ?_
              refine mx_J.step (sn_185 90) (fun _ _ => rfl) ?_
              refine Jisub (show mx_Sn _ _ 92 (mx_isub 93) from sn_185 92) ?_
              refine mx_J.step (sn_185 93) (fun _ _ => rfl) ?_
              refine mx_J.step (sn_185 95) (fun _ _ => rfl) ?_
              refine JcI (z := 1) (show mx_Sn _ _ 96 (mx_const (.int 1) 97) from sn_185 96) rfl ?_
              refine Jiadd (show mx_Sn _ _ 97 (mx_iadd 98) from sn_185 97) ?_
              have eq10 : Z8 56 18 = Z4 56 18 := (up_nk hE8 rfl)
              obtain ⟨Z9, h9, hc9, hx9, hG9, hf9, b9⟩ := ct_185_56_le12 (d := d + 0) (l := l) (D := D) (b0 := b0) (ad := ad) (Hb := Hb) (tau := tau) hx8 hG8 (show 0 ≤ 13 - w3_4 ∧ 13 - w3_4 ≤ 12 by omega) (show 0 ≤ w3_4 ∧ w3_4 ≤ 18 by omega) (show 0 ≤ x2 + 1 ∧ x2 + 1 ≤ 18 by omega) (show Z8 56 18 + wy ((13 - w3_4) * 19 + w3_4) ≤ 385 by first | omega | (simp only [eq10]; omega)) (show (x2 + 1) + (13 - w3_4) ≤ 18 by first | omega | (simp only [eq10]; omega))
              try rw [eq10] at b9
              have b11 : 0 ≤ Z9 56 18 ∧ Z9 56 18 ≤ 385 := hG9.pr 56 18
              refine Jcv0 hx8 (show mx_Sn _ _ 98 (mx_callv 185 4 12 101) from sn_185 98) a56 s56 hc9 rfl rfl rfl ?_
              refine Jiinc (z := w3_4) (cz := (-1)) (ls2 := [some (.ref 56), some (xI 13), some (xI x1), some (xI x2), some (xI (w3_4 + (-1)))]) (show mx_Sn _ _ 101 (mx_iinc 4 (-1) 104) from sn_185 101) rfl rfl rfl rfl ?_
              refine mx_J.step (sn_185 104) (fun _ _ => rfl) ?_
              exact ih3 (w3_4 + (-1)) Z9 h9 (by omega) (by omega) (by omega) hx9 hG9 (fr_tr (M := [(56, 18), (61, (-1)), (63, (-1))]) (fr_tr (M := [(56, 18), (61, (-1)), (63, (-1))]) (fr_tr (M := [(56, 18), (61, (-1)), (63, (-1))]) fr_rf (hf4) (M1 := []) rfl rfl) (fr_ua hE8) rfl rfl) (hf9) rfl rfl)
        have b12 : 0 ≤ Z 56 18 ∧ Z 56 18 ≤ 385 := hG.pr 56 18
        exact c75 (Int.toNat (k2_0 - 0) + 1) k2_0 Z h (by omega) (by omega) (by omega) hx hG fr_rf
      refine Jicmp_ge (show mx_Sn _ _ 65 (mx_icmp_ge 72 68) from sn_185 65) (by omega) (by omega) (fun q13 => ?_) (fun q13 => ?_)
      · skip
        refine mx_J.step (sn_185 72) (fun _ _ => rfl) ?_
        exact c73 13 (by omega) (by first | exact ⟨rfl, by omega⟩ | exact ⟨WSs (n := 13) (by omega) (by omega), by omega⟩)
      · skip
        refine mx_J.step (sn_185 68) (fun _ _ => rfl) ?_
        refine mx_J.step (sn_185 69) (fun _ _ => rfl) ?_
        exact c73 x1 (by omega) (by first | exact ⟨rfl, by omega⟩ | exact ⟨WSs (n := 13) (by omega) (by omega), by omega⟩)
    · skip
      exfalso; omega
theorem ct_185_56_i13 {l : Launch} {D : va_G} {b0 : Nat} {ad : Nat → Nat} {Hb : Heap} {tau : Nat → Int64} {d n s : Nat} {S : Nat → xS} {Z : xZ} {h : mx_H} (hx : XH n s S Z h) (hG : GB n S Z)  {x1 x2 : Int} (p1 : 0 ≤ x1 ∧ x1 ≤ 18) (p2 : 0 ≤ x2 ∧ x2 ≤ 18) (k0 : Z 56 18 + wy (13 * 19 + x1) ≤ 385) (k1 : x2 + 13 ≤ 18) : ∃ (Z' : xZ) (h' : mx_H), mx_Ca (tB l D b0 ad Hb tau) (d + 14) 185 [.ref 56, xI 13, xI x1, xI x2] h (none, h') ∧ XH n s S Z' h' ∧ GB n S Z' ∧ fr' [(56, 18), (61, (-1)), (63, (-1))] Z Z' ∧ (Z' 56 18 = Z 56 18 + wy (13 * 19 + x1)) := by
  obtain ⟨r, hca, Z', h', e, q⟩ := Jmt (B := tB l D b0 ad Hb tau) (M := mt_185) (mi := 185) (as := [.ref 56, xI 13, xI x1, xI x2]) (d := d + 13) (ls := [some (.ref 56), some (xI 13), some (xI x1), some (xI x2), none]) rfl rfl rfl rfl rfl rfl (cw_185_56_i13 (l := l) (D := D) (b0 := b0) (ad := ad) (Hb := Hb) (tau := tau) (d := d) (Post := fun r => ∃ (Z' : xZ) (h' : mx_H), r = (none, h') ∧ XH n s S Z' h' ∧ GB n S Z' ∧ fr' [(56, 18), (61, (-1)), (63, (-1))] Z Z' ∧ (Z' 56 18 = Z 56 18 + wy (13 * 19 + x1))) hx hG p1 p2 k0 k1 (fun Z' h' q1 q2 q3 q4 => ⟨Z', h', rfl, q1, q2, q3, q4⟩))
  subst e; exact ⟨Z', h', hca, q⟩
theorem ct_185_56_le13 {l : Launch} {D : va_G} {b0 : Nat} {ad : Nat → Nat} {Hb : Heap} {tau : Nat → Int64} {d n s : Nat} {S : Nat → xS} {Z : xZ} {h : mx_H} (hx : XH n s S Z h) (hG : GB n S Z) {x0 x1 x2 : Int} (p0 : 0 ≤ x0 ∧ x0 ≤ 13) (p1 : 0 ≤ x1 ∧ x1 ≤ 18) (p2 : 0 ≤ x2 ∧ x2 ≤ 18) (k0 : Z 56 18 + wy (x0 * 19 + x1) ≤ 385) (k1 : x2 + x0 ≤ 18) : ∃ (Z' : xZ) (h' : mx_H), mx_Ca (tB l D b0 ad Hb tau) (d + 14) 185 [.ref 56, xI x0, xI x1, xI x2] h (none, h') ∧ XH n s S Z' h' ∧ GB n S Z' ∧ fr' [(56, 18), (61, (-1)), (63, (-1))] Z Z' ∧ (Z' 56 18 = Z 56 18 + wy (x0 * 19 + x1)) := by
  have hc : x0 = 0 ∨ x0 = 1 ∨ x0 = 2 ∨ x0 = 3 ∨ x0 = 4 ∨ x0 = 5 ∨ x0 = 6 ∨ x0 = 7 ∨ x0 = 8 ∨ x0 = 9 ∨ x0 = 10 ∨ x0 = 11 ∨ x0 = 12 ∨ x0 = 13 := by omega
  rcases hc with hc | hc | hc | hc | hc | hc | hc | hc | hc | hc | hc | hc | hc | hc
  · subst hc
    obtain ⟨Z', h', hca, q1, q2, q3, q4⟩ := ct_185_56_i0 (d := d + 13) (l := l) (D := D) (b0 := b0) (ad := ad) (Hb := Hb) (tau := tau) hx hG p1 p2 k0 k1
    exact ⟨Z', h', hca, q1, q2, fr_tr (M1 := []) fr_rf q3 rfl rfl, q4⟩
  · subst hc
    obtain ⟨Z', h', hca, q1, q2, q3, q4⟩ := ct_185_56_i1 (d := d + 12) (l := l) (D := D) (b0 := b0) (ad := ad) (Hb := Hb) (tau := tau) hx hG p1 p2 k0 k1
    exact ⟨Z', h', hca, q1, q2, fr_tr (M1 := []) fr_rf q3 rfl rfl, q4⟩
  · subst hc
    obtain ⟨Z', h', hca, q1, q2, q3, q4⟩ := ct_185_56_i2 (d := d + 11) (l := l) (D := D) (b0 := b0) (ad := ad) (Hb := Hb) (tau := tau) hx hG p1 p2 k0 k1
    exact ⟨Z', h', hca, q1, q2, fr_tr (M1 := []) fr_rf q3 rfl rfl, q4⟩
  · subst hc
    obtain ⟨Z', h', hca, q1, q2, q3, q4⟩ := ct_185_56_i3 (d := d + 10) (l := l) (D := D) (b0 := b0) (ad := ad) (Hb := Hb) (tau := tau) hx hG p1 p2 k0 k1
    exact ⟨Z', h', hca, q1, q2, fr_tr (M1 := []) fr_rf q3 rfl rfl, q4⟩
  · subst hc
    obtain ⟨Z', h', hca, q1, q2, q3, q4⟩ := ct_185_56_i4 (d := d + 9) (l := l) (D := D) (b0 := b0) (ad := ad) (Hb := Hb) (tau := tau) hx hG p1 p2 k0 k1
    exact ⟨Z', h', hca, q1, q2, fr_tr (M1 := []) fr_rf q3 rfl rfl, q4⟩
  · subst hc
    obtain ⟨Z', h', hca, q1, q2, q3, q4⟩ := ct_185_56_i5 (d := d + 8) (l := l) (D := D) (b0 := b0) (ad := ad) (Hb := Hb) (tau := tau) hx hG p1 p2 k0 k1
    exact ⟨Z', h', hca, q1, q2, fr_tr (M1 := []) fr_rf q3 rfl rfl, q4⟩
  · subst hc
    obtain ⟨Z', h', hca, q1, q2, q3, q4⟩ := ct_185_56_i6 (d := d + 7) (l := l) (D := D) (b0 := b0) (ad := ad) (Hb := Hb) (tau := tau) hx hG p1 p2 k0 k1
    exact ⟨Z', h', hca, q1, q2, fr_tr (M1 := []) fr_rf q3 rfl rfl, q4⟩
  · subst hc
    obtain ⟨Z', h', hca, q1, q2, q3, q4⟩ := ct_185_56_i7 (d := d + 6) (l := l) (D := D) (b0 := b0) (ad := ad) (Hb := Hb) (tau := tau) hx hG p1 p2 k0 k1
    exact ⟨Z', h', hca, q1, q2, fr_tr (M1 := []) fr_rf q3 rfl rfl, q4⟩
  · subst hc
    obtain ⟨Z', h', hca, q1, q2, q3, q4⟩ := ct_185_56_i8 (d := d + 5) (l := l) (D := D) (b0 := b0) (ad := ad) (Hb := Hb) (tau := tau) hx hG p1 p2 k0 k1
    exact ⟨Z', h', hca, q1, q2, fr_tr (M1 := []) fr_rf q3 rfl rfl, q4⟩
  · subst hc
    obtain ⟨Z', h', hca, q1, q2, q3, q4⟩ := ct_185_56_i9 (d := d + 4) (l := l) (D := D) (b0 := b0) (ad := ad) (Hb := Hb) (tau := tau) hx hG p1 p2 k0 k1
    exact ⟨Z', h', hca, q1, q2, fr_tr (M1 := []) fr_rf q3 rfl rfl, q4⟩
  · subst hc
    obtain ⟨Z', h', hca, q1, q2, q3, q4⟩ := ct_185_56_i10 (d := d + 3) (l := l) (D := D) (b0 := b0) (ad := ad) (Hb := Hb) (tau := tau) hx hG p1 p2 k0 k1
    exact ⟨Z', h', hca, q1, q2, fr_tr (M1 := []) fr_rf q3 rfl rfl, q4⟩
  · subst hc
    obtain ⟨Z', h', hca, q1, q2, q3, q4⟩ := ct_185_56_i11 (d := d + 2) (l := l) (D := D) (b0 := b0) (ad := ad) (Hb := Hb) (tau := tau) hx hG p1 p2 k0 k1
    exact ⟨Z', h', hca, q1, q2, fr_tr (M1 := []) fr_rf q3 rfl rfl, q4⟩
  · subst hc
    obtain ⟨Z', h', hca, q1, q2, q3, q4⟩ := ct_185_56_i12 (d := d + 1) (l := l) (D := D) (b0 := b0) (ad := ad) (Hb := Hb) (tau := tau) hx hG p1 p2 k0 k1
    exact ⟨Z', h', hca, q1, q2, fr_tr (M1 := []) fr_rf q3 rfl rfl, q4⟩
  · subst hc
    obtain ⟨Z', h', hca, q1, q2, q3, q4⟩ := ct_185_56_i13 (d := d + 0) (l := l) (D := D) (b0 := b0) (ad := ad) (Hb := Hb) (tau := tau) hx hG p1 p2 k0 k1
    exact ⟨Z', h', hca, q1, q2, fr_tr (M1 := []) fr_rf q3 rfl rfl, q4⟩
set_option maxRecDepth 100000 in
theorem cw_185_56_i14 {l : Launch} {D : va_G} {b0 : Nat} {ad : Nat → Nat} {Hb : Heap} {tau : Nat → Int64} {d n s : Nat} {S : Nat → xS} {Z : xZ} {h : mx_H} {Post : mx_R → Prop} (hx : XH n s S Z h) (hG : GB n S Z)  {x1 x2 : Int} (p1 : 0 ≤ x1 ∧ x1 ≤ 18) (p2 : 0 ≤ x2 ∧ x2 ≤ 18) (k0 : Z 56 18 + wy (14 * 19 + x1) ≤ 385) (k1 : x2 + 14 ≤ 18) (hP : ∀ (Z' : xZ) (h' : mx_H), XH n s S Z' h' → GB n S Z' → fr' [(56, 18), (61, (-1)), (63, (-1))] Z Z' → Z' 56 18 = Z 56 18 + wy (14 * 19 + x1) → Post (none, h')) : mx_J (tB l D b0 ad Hb tau) mt_185 (d + 14) 0 [some (.ref 56), some (xI 14), some (xI x1), some (xI x2), none] [] h Post := by
    have a56 : 56 < n := lt83 (GB_n hG) rfl
    have s56 : S 56 = .inl (12, [0, 2, 2, 2, 2, 0, 0, 0, 0, 0, 0, 0, 0, 0, 0, 2, 2, 2, 0, 2, 2, 2, 0, 0, 2, 2, 2, 2, 2, 2, 0, 0, 2, 2, 2, 2, 2, 2, 2, 2, 2, 2]) := GB_s hG 56 rfl
    have a63 : 63 < n := lt83 (GB_n hG) rfl
    have s63 : S 63 = .inr (.int, 18, 0) := GB_s hG 63 rfl
    refine mx_J.step (sn_185 0) (fun _ _ => rfl) ?_
    refine Jif_ne (show mx_Sn _ _ 1 (mx_if_ne 63 4) from sn_185 1) (by omega) (fun q1 => ?_) (fun q1 => ?_)
    · skip
      refine mx_J.step (sn_185 63) (fun _ _ => rfl) ?_
      refine mx_J.step (sn_185 64) (fun _ _ => rfl) ?_
      have c73 : ∀ (k2_0 : Int), 0 ≤ k2_0 ∧ k2_0 ≤ 14 → (wy (14 * 19 + k2_0) = wy (14 * 19 + x1) ∧ k2_0 ≤ 14) → mx_J (tB l D b0 ad Hb tau) mt_185 (d + 14) 73 [some (.ref 56), some (xI 14), some (xI x1), some (xI x2), none] [xI k2_0] h Post := by
        intro k2_0 f2_0 f2_1
        refine mx_J.step (ls2 := [some (.ref 56), some (xI 14), some (xI x1), some (xI x2), some (xI k2_0)]) (sn_185 73) (fun _ _ => rfl) ?_
        have c75 : ∀ (m3 : Nat) (w3_4 : Int) (Z4 : xZ) (h4 : mx_H), w3_4 - 0 < (m3 : Int) → 0 ≤ w3_4 ∧ w3_4 ≤ 14 → (Z4 56 18 + wy (14 * 19 + w3_4) = Z 56 18 + wy (14 * 19 + x1)) → XH n s S Z4 h4 → GB n S Z4 → fr' [(56, 18), (61, (-1)), (63, (-1))] Z Z4 → mx_J (tB l D b0 ad Hb tau) mt_185 (d + 14) 75 [some (.ref 56), some (xI 14), some (xI x1), some (xI x2), some (xI w3_4)] [] h4 Post := by
          intro m3
          induction m3 with
          | zero => intro w3_4 Z4 h4 q3 f3_0 f3_1 hx4 hG4 hf4; exact absurd q3 (by omega)
          | succ m3 ih3 =>
            intro w3_4 Z4 h4 q3 f3_0 f3_1 hx4 hG4 hf4
            have b5 : 0 ≤ Z4 56 18 ∧ Z4 56 18 ≤ 385 := hG4.pr 56 18
            refine mx_J.step (sn_185 75) (fun _ _ => rfl) ?_
            refine Jif_le (show mx_Sn _ _ 77 (mx_if_le 107 80) from sn_185 77) (by omega) (fun q6 => ?_) (fun q6 => ?_)
            · skip
              have w0 : wy (14 * 19 + w3_4) = 0 := by rw [show w3_4 = 0 by omega]; exact Wy0 (by omega)
              exact mx_J.ret (sn_185 107) (fun _ _ => rfl) (hP Z4 h4 hx4 hG4 (fr_tr (M := [(56, 18), (61, (-1)), (63, (-1))]) fr_rf (hf4) (M1 := []) rfl rfl) (by omega))
            · skip
              refine mx_J.step (sn_185 80) (fun _ _ => rfl) ?_
              refine JgetR (g := 17) (b := 63) hx4 (show mx_Sn _ _ 81 (mx_getf 12 17 84) from sn_185 81) a56 s56 rfl rfl (hG4.prr 56 17 rfl) ?_
              refine mx_J.step (sn_185 84) (fun _ _ => rfl) ?_
              refine mx_J.step (sn_185 85) (fun _ _ => rfl) ?_
              refine JiastI hx4 (show mx_Sn _ _ 87 (mx_iast 1 88) from sn_185 87) a63 s63 rfl (by omega) (fun Z8 h8 hx8 hE8 => ?_)
              have hG8 := GB_up hG4 hE8 (show 0 ≤ w3_4 ∧ w3_4 ≤ 18 by omega) trivial rfl
              have wr := WRr (n := 14) (m := w3_4) (by omega) (by omega)
              refine mx_J.step (sn_185 88) (fun _ _ => rfl) ?_
              refine mx_J.step (sn_185 89) (fun _ _ => rfl) ?_
              refine mx_J.step (sn_185 90) (fun _ _ => rfl) ?_
              refine Jisub (show mx_Sn _ _ 92 (mx_isub 93) from sn_185 92) ?_
              refine mx_J.step (sn_185 93) (fun _ _ => rfl) ?_
              refine mx_J.step (sn_185 95) (fun _ _ => rfl) ?_
              refine JcI (z := 1) (show mx_Sn _ _ 96 (mx_const (.int 1) 97) from sn_185 96) rfl ?_
              refine Jiadd (show mx_Sn _ _ 97 (mx_iadd 98) from sn_185 97) ?_
              have eq10 : Z8 56 18 = Z4 56 18 := (up_nk hE8 rfl)
              obtain ⟨Z9, h9, hc9, hx9, hG9, hf9, b9⟩ := ct_185_56_le13 (d := d + 0) (l := l) (D := D) (b0 := b0) (ad := ad) (Hb := Hb) (tau := tau) hx8 hG8 (show 0 ≤ 14 - w3_4 ∧ 14 - w3_4 ≤ 13 by omega) (show 0 ≤ w3_4 ∧ w3_4 ≤ 18 by omega) (show 0 ≤ x2 + 1 ∧ x2 + 1 ≤ 18 by omega) (show Z8 56 18 + wy ((14 - w3_4) * 19 + w3_4) ≤ 385 by first | omega | (simp only [eq10]; omega)) (show (x2 + 1) + (14 - w3_4) ≤ 18 by first | omega | (simp only [eq10]; omega))
              try rw [eq10] at b9
              have b11 : 0 ≤ Z9 56 18 ∧ Z9 56 18 ≤ 385 := hG9.pr 56 18
              refine Jcv0 hx8 (show mx_Sn _ _ 98 (mx_callv 185 4 12 101) from sn_185 98) a56 s56 hc9 rfl rfl rfl ?_
              refine Jiinc (z := w3_4) (cz := (-1)) (ls2 := [some (.ref 56), some (xI 14), some (xI x1), some (xI x2), some (xI (w3_4 + (-1)))]) (show mx_Sn _ _ 101 (mx_iinc 4 (-1) 104) from sn_185 101) rfl rfl rfl rfl ?_
              refine mx_J.step (sn_185 104) (fun _ _ => rfl) ?_
              exact ih3 (w3_4 + (-1)) Z9 h9 (by omega) (by omega) (by omega) hx9 hG9 (fr_tr (M := [(56, 18), (61, (-1)), (63, (-1))]) (fr_tr (M := [(56, 18), (61, (-1)), (63, (-1))]) (fr_tr (M := [(56, 18), (61, (-1)), (63, (-1))]) fr_rf (hf4) (M1 := []) rfl rfl) (fr_ua hE8) rfl rfl) (hf9) rfl rfl)
        have b12 : 0 ≤ Z 56 18 ∧ Z 56 18 ≤ 385 := hG.pr 56 18
        exact c75 (Int.toNat (k2_0 - 0) + 1) k2_0 Z h (by omega) (by omega) (by omega) hx hG fr_rf
      refine Jicmp_ge (show mx_Sn _ _ 65 (mx_icmp_ge 72 68) from sn_185 65) (by omega) (by omega) (fun q13 => ?_) (fun q13 => ?_)
      · skip
        refine mx_J.step (sn_185 72) (fun _ _ => rfl) ?_
        exact c73 14 (by omega) (by first | exact ⟨rfl, by omega⟩ | exact ⟨WSs (n := 14) (by omega) (by omega), by omega⟩)
      · skip
        refine mx_J.step (sn_185 68) (fun _ _ => rfl) ?_
        refine mx_J.step (sn_185 69) (fun _ _ => rfl) ?_
        exact c73 x1 (by omega) (by first | exact ⟨rfl, by omega⟩ | exact ⟨WSs (n := 14) (by omega) (by omega), by omega⟩)
    · skip
      exfalso; omega
theorem ct_185_56_i14 {l : Launch} {D : va_G} {b0 : Nat} {ad : Nat → Nat} {Hb : Heap} {tau : Nat → Int64} {d n s : Nat} {S : Nat → xS} {Z : xZ} {h : mx_H} (hx : XH n s S Z h) (hG : GB n S Z)  {x1 x2 : Int} (p1 : 0 ≤ x1 ∧ x1 ≤ 18) (p2 : 0 ≤ x2 ∧ x2 ≤ 18) (k0 : Z 56 18 + wy (14 * 19 + x1) ≤ 385) (k1 : x2 + 14 ≤ 18) : ∃ (Z' : xZ) (h' : mx_H), mx_Ca (tB l D b0 ad Hb tau) (d + 15) 185 [.ref 56, xI 14, xI x1, xI x2] h (none, h') ∧ XH n s S Z' h' ∧ GB n S Z' ∧ fr' [(56, 18), (61, (-1)), (63, (-1))] Z Z' ∧ (Z' 56 18 = Z 56 18 + wy (14 * 19 + x1)) := by
  obtain ⟨r, hca, Z', h', e, q⟩ := Jmt (B := tB l D b0 ad Hb tau) (M := mt_185) (mi := 185) (as := [.ref 56, xI 14, xI x1, xI x2]) (d := d + 14) (ls := [some (.ref 56), some (xI 14), some (xI x1), some (xI x2), none]) rfl rfl rfl rfl rfl rfl (cw_185_56_i14 (l := l) (D := D) (b0 := b0) (ad := ad) (Hb := Hb) (tau := tau) (d := d) (Post := fun r => ∃ (Z' : xZ) (h' : mx_H), r = (none, h') ∧ XH n s S Z' h' ∧ GB n S Z' ∧ fr' [(56, 18), (61, (-1)), (63, (-1))] Z Z' ∧ (Z' 56 18 = Z 56 18 + wy (14 * 19 + x1))) hx hG p1 p2 k0 k1 (fun Z' h' q1 q2 q3 q4 => ⟨Z', h', rfl, q1, q2, q3, q4⟩))
  subst e; exact ⟨Z', h', hca, q⟩
theorem ct_185_56_le14 {l : Launch} {D : va_G} {b0 : Nat} {ad : Nat → Nat} {Hb : Heap} {tau : Nat → Int64} {d n s : Nat} {S : Nat → xS} {Z : xZ} {h : mx_H} (hx : XH n s S Z h) (hG : GB n S Z) {x0 x1 x2 : Int} (p0 : 0 ≤ x0 ∧ x0 ≤ 14) (p1 : 0 ≤ x1 ∧ x1 ≤ 18) (p2 : 0 ≤ x2 ∧ x2 ≤ 18) (k0 : Z 56 18 + wy (x0 * 19 + x1) ≤ 385) (k1 : x2 + x0 ≤ 18) : ∃ (Z' : xZ) (h' : mx_H), mx_Ca (tB l D b0 ad Hb tau) (d + 15) 185 [.ref 56, xI x0, xI x1, xI x2] h (none, h') ∧ XH n s S Z' h' ∧ GB n S Z' ∧ fr' [(56, 18), (61, (-1)), (63, (-1))] Z Z' ∧ (Z' 56 18 = Z 56 18 + wy (x0 * 19 + x1)) := by
  have hc : x0 = 0 ∨ x0 = 1 ∨ x0 = 2 ∨ x0 = 3 ∨ x0 = 4 ∨ x0 = 5 ∨ x0 = 6 ∨ x0 = 7 ∨ x0 = 8 ∨ x0 = 9 ∨ x0 = 10 ∨ x0 = 11 ∨ x0 = 12 ∨ x0 = 13 ∨ x0 = 14 := by omega
  rcases hc with hc | hc | hc | hc | hc | hc | hc | hc | hc | hc | hc | hc | hc | hc | hc
  · subst hc
    obtain ⟨Z', h', hca, q1, q2, q3, q4⟩ := ct_185_56_i0 (d := d + 14) (l := l) (D := D) (b0 := b0) (ad := ad) (Hb := Hb) (tau := tau) hx hG p1 p2 k0 k1
    exact ⟨Z', h', hca, q1, q2, fr_tr (M1 := []) fr_rf q3 rfl rfl, q4⟩
  · subst hc
    obtain ⟨Z', h', hca, q1, q2, q3, q4⟩ := ct_185_56_i1 (d := d + 13) (l := l) (D := D) (b0 := b0) (ad := ad) (Hb := Hb) (tau := tau) hx hG p1 p2 k0 k1
    exact ⟨Z', h', hca, q1, q2, fr_tr (M1 := []) fr_rf q3 rfl rfl, q4⟩
  · subst hc
    obtain ⟨Z', h', hca, q1, q2, q3, q4⟩ := ct_185_56_i2 (d := d + 12) (l := l) (D := D) (b0 := b0) (ad := ad) (Hb := Hb) (tau := tau) hx hG p1 p2 k0 k1
    exact ⟨Z', h', hca, q1, q2, fr_tr (M1 := []) fr_rf q3 rfl rfl, q4⟩
  · subst hc
    obtain ⟨Z', h', hca, q1, q2, q3, q4⟩ := ct_185_56_i3 (d := d + 11) (l := l) (D := D) (b0 := b0) (ad := ad) (Hb := Hb) (tau := tau) hx hG p1 p2 k0 k1
    exact ⟨Z', h', hca, q1, q2, fr_tr (M1 := []) fr_rf q3 rfl rfl, q4⟩
  · subst hc
    obtain ⟨Z', h', hca, q1, q2, q3, q4⟩ := ct_185_56_i4 (d := d + 10) (l := l) (D := D) (b0 := b0) (ad := ad) (Hb := Hb) (tau := tau) hx hG p1 p2 k0 k1
    exact ⟨Z', h', hca, q1, q2, fr_tr (M1 := []) fr_rf q3 rfl rfl, q4⟩
  · subst hc
    obtain ⟨Z', h', hca, q1, q2, q3, q4⟩ := ct_185_56_i5 (d := d + 9) (l := l) (D := D) (b0 := b0) (ad := ad) (Hb := Hb) (tau := tau) hx hG p1 p2 k0 k1
    exact ⟨Z', h', hca, q1, q2, fr_tr (M1 := []) fr_rf q3 rfl rfl, q4⟩
  · subst hc
    obtain ⟨Z', h', hca, q1, q2, q3, q4⟩ := ct_185_56_i6 (d := d + 8) (l := l) (D := D) (b0 := b0) (ad := ad) (Hb := Hb) (tau := tau) hx hG p1 p2 k0 k1
    exact ⟨Z', h', hca, q1, q2, fr_tr (M1 := []) fr_rf q3 rfl rfl, q4⟩
  · subst hc
    obtain ⟨Z', h', hca, q1, q2, q3, q4⟩ := ct_185_56_i7 (d := d + 7) (l := l) (D := D) (b0 := b0) (ad := ad) (Hb := Hb) (tau := tau) hx hG p1 p2 k0 k1
    exact ⟨Z', h', hca, q1, q2, fr_tr (M1 := []) fr_rf q3 rfl rfl, q4⟩
  · subst hc
    obtain ⟨Z', h', hca, q1, q2, q3, q4⟩ := ct_185_56_i8 (d := d + 6) (l := l) (D := D) (b0 := b0) (ad := ad) (Hb := Hb) (tau := tau) hx hG p1 p2 k0 k1
    exact ⟨Z', h', hca, q1, q2, fr_tr (M1 := []) fr_rf q3 rfl rfl, q4⟩
  · subst hc
    obtain ⟨Z', h', hca, q1, q2, q3, q4⟩ := ct_185_56_i9 (d := d + 5) (l := l) (D := D) (b0 := b0) (ad := ad) (Hb := Hb) (tau := tau) hx hG p1 p2 k0 k1
    exact ⟨Z', h', hca, q1, q2, fr_tr (M1 := []) fr_rf q3 rfl rfl, q4⟩
  · subst hc
    obtain ⟨Z', h', hca, q1, q2, q3, q4⟩ := ct_185_56_i10 (d := d + 4) (l := l) (D := D) (b0 := b0) (ad := ad) (Hb := Hb) (tau := tau) hx hG p1 p2 k0 k1
    exact ⟨Z', h', hca, q1, q2, fr_tr (M1 := []) fr_rf q3 rfl rfl, q4⟩
  · subst hc
    obtain ⟨Z', h', hca, q1, q2, q3, q4⟩ := ct_185_56_i11 (d := d + 3) (l := l) (D := D) (b0 := b0) (ad := ad) (Hb := Hb) (tau := tau) hx hG p1 p2 k0 k1
    exact ⟨Z', h', hca, q1, q2, fr_tr (M1 := []) fr_rf q3 rfl rfl, q4⟩
  · subst hc
    obtain ⟨Z', h', hca, q1, q2, q3, q4⟩ := ct_185_56_i12 (d := d + 2) (l := l) (D := D) (b0 := b0) (ad := ad) (Hb := Hb) (tau := tau) hx hG p1 p2 k0 k1
    exact ⟨Z', h', hca, q1, q2, fr_tr (M1 := []) fr_rf q3 rfl rfl, q4⟩
  · subst hc
    obtain ⟨Z', h', hca, q1, q2, q3, q4⟩ := ct_185_56_i13 (d := d + 1) (l := l) (D := D) (b0 := b0) (ad := ad) (Hb := Hb) (tau := tau) hx hG p1 p2 k0 k1
    exact ⟨Z', h', hca, q1, q2, fr_tr (M1 := []) fr_rf q3 rfl rfl, q4⟩
  · subst hc
    obtain ⟨Z', h', hca, q1, q2, q3, q4⟩ := ct_185_56_i14 (d := d + 0) (l := l) (D := D) (b0 := b0) (ad := ad) (Hb := Hb) (tau := tau) hx hG p1 p2 k0 k1
    exact ⟨Z', h', hca, q1, q2, fr_tr (M1 := []) fr_rf q3 rfl rfl, q4⟩
set_option maxRecDepth 100000 in
theorem cw_185_56_i15 {l : Launch} {D : va_G} {b0 : Nat} {ad : Nat → Nat} {Hb : Heap} {tau : Nat → Int64} {d n s : Nat} {S : Nat → xS} {Z : xZ} {h : mx_H} {Post : mx_R → Prop} (hx : XH n s S Z h) (hG : GB n S Z)  {x1 x2 : Int} (p1 : 0 ≤ x1 ∧ x1 ≤ 18) (p2 : 0 ≤ x2 ∧ x2 ≤ 18) (k0 : Z 56 18 + wy (15 * 19 + x1) ≤ 385) (k1 : x2 + 15 ≤ 18) (hP : ∀ (Z' : xZ) (h' : mx_H), XH n s S Z' h' → GB n S Z' → fr' [(56, 18), (61, (-1)), (63, (-1))] Z Z' → Z' 56 18 = Z 56 18 + wy (15 * 19 + x1) → Post (none, h')) : mx_J (tB l D b0 ad Hb tau) mt_185 (d + 15) 0 [some (.ref 56), some (xI 15), some (xI x1), some (xI x2), none] [] h Post := by
    have a56 : 56 < n := lt83 (GB_n hG) rfl
    have s56 : S 56 = .inl (12, [0, 2, 2, 2, 2, 0, 0, 0, 0, 0, 0, 0, 0, 0, 0, 2, 2, 2, 0, 2, 2, 2, 0, 0, 2, 2, 2, 2, 2, 2, 0, 0, 2, 2, 2, 2, 2, 2, 2, 2, 2, 2]) := GB_s hG 56 rfl
    have a63 : 63 < n := lt83 (GB_n hG) rfl
    have s63 : S 63 = .inr (.int, 18, 0) := GB_s hG 63 rfl
    refine mx_J.step (sn_185 0) (fun _ _ => rfl) ?_
    refine Jif_ne (show mx_Sn _ _ 1 (mx_if_ne 63 4) from sn_185 1) (by omega) (fun q1 => ?_) (fun q1 => ?_)
    · skip
      refine mx_J.step (sn_185 63) (fun _ _ => rfl) ?_
      refine mx_J.step (sn_185 64) (fun _ _ => rfl) ?_
      have c73 : ∀ (k2_0 : Int), 0 ≤ k2_0 ∧ k2_0 ≤ 15 → (wy (15 * 19 + k2_0) = wy (15 * 19 + x1) ∧ k2_0 ≤ 15) → mx_J (tB l D b0 ad Hb tau) mt_185 (d + 15) 73 [some (.ref 56), some (xI 15), some (xI x1), some (xI x2), none] [xI k2_0] h Post := by
        intro k2_0 f2_0 f2_1
        refine mx_J.step (ls2 := [some (.ref 56), some (xI 15), some (xI x1), some (xI x2), some (xI k2_0)]) (sn_185 73) (fun _ _ => rfl) ?_
        have c75 : ∀ (m3 : Nat) (w3_4 : Int) (Z4 : xZ) (h4 : mx_H), w3_4 - 0 < (m3 : Int) → 0 ≤ w3_4 ∧ w3_4 ≤ 15 → (Z4 56 18 + wy (15 * 19 + w3_4) = Z 56 18 + wy (15 * 19 + x1)) → XH n s S Z4 h4 → GB n S Z4 → fr' [(56, 18), (61, (-1)), (63, (-1))] Z Z4 → mx_J (tB l D b0 ad Hb tau) mt_185 (d + 15) 75 [some (.ref 56), some (xI 15), some (xI x1), some (xI x2), some (xI w3_4)] [] h4 Post := by
          intro m3
          induction m3 with
          | zero => intro w3_4 Z4 h4 q3 f3_0 f3_1 hx4 hG4 hf4; exact absurd q3 (by omega)
          | succ m3 ih3 =>
            intro w3_4 Z4 h4 q3 f3_0 f3_1 hx4 hG4 hf4
            have b5 : 0 ≤ Z4 56 18 ∧ Z4 56 18 ≤ 385 := hG4.pr 56 18
            refine mx_J.step (sn_185 75) (fun _ _ => rfl) ?_
            refine Jif_le (show mx_Sn _ _ 77 (mx_if_le 107 80) from sn_185 77) (by omega) (fun q6 => ?_) (fun q6 => ?_)
            · skip
              have w0 : wy (15 * 19 + w3_4) = 0 := by rw [show w3_4 = 0 by omega]; exact Wy0 (by omega)
              exact mx_J.ret (sn_185 107) (fun _ _ => rfl) (hP Z4 h4 hx4 hG4 (fr_tr (M := [(56, 18), (61, (-1)), (63, (-1))]) fr_rf (hf4) (M1 := []) rfl rfl) (by omega))
            · skip
              refine mx_J.step (sn_185 80) (fun _ _ => rfl) ?_
              refine JgetR (g := 17) (b := 63) hx4 (show mx_Sn _ _ 81 (mx_getf 12 17 84) from sn_185 81) a56 s56 rfl rfl (hG4.prr 56 17 rfl) ?_
              refine mx_J.step (sn_185 84) (fun _ _ => rfl) ?_
              refine mx_J.step (sn_185 85) (fun _ _ => rfl) ?_
              refine JiastI hx4 (show mx_Sn _ _ 87 (mx_iast 1 88) from sn_185 87) a63 s63 rfl (by omega) (fun Z8 h8 hx8 hE8 => ?_)
              have hG8 := GB_up hG4 hE8 (show 0 ≤ w3_4 ∧ w3_4 ≤ 18 by omega) trivial rfl
              have wr := WRr (n := 15) (m := w3_4) (by omega) (by omega)
              refine mx_J.step (sn_185 88) (fun _ _ => rfl) ?_
              refine mx_J.step (sn_185 89) (fun _ _ => rfl) ?_
              refine mx_J.step (sn_185 90) (fun _ _ => rfl) ?_
              refine Jisub (show mx_Sn _ _ 92 (mx_isub 93) from sn_185 92) ?_
              refine mx_J.step (sn_185 93) (fun _ _ => rfl) ?_
              refine mx_J.step (sn_185 95) (fun _ _ => rfl) ?_
              refine JcI (z := 1) (show mx_Sn _ _ 96 (mx_const (.int 1) 97) from sn_185 96) rfl ?_
              refine Jiadd (show mx_Sn _ _ 97 (mx_iadd 98) from sn_185 97) ?_
              have eq10 : Z8 56 18 = Z4 56 18 := (up_nk hE8 rfl)
              obtain ⟨Z9, h9, hc9, hx9, hG9, hf9, b9⟩ := ct_185_56_le14 (d := d + 0) (l := l) (D := D) (b0 := b0) (ad := ad) (Hb := Hb) (tau := tau) hx8 hG8 (show 0 ≤ 15 - w3_4 ∧ 15 - w3_4 ≤ 14 by omega) (show 0 ≤ w3_4 ∧ w3_4 ≤ 18 by omega) (show 0 ≤ x2 + 1 ∧ x2 + 1 ≤ 18 by omega) (show Z8 56 18 + wy ((15 - w3_4) * 19 + w3_4) ≤ 385 by first | omega | (simp only [eq10]; omega)) (show (x2 + 1) + (15 - w3_4) ≤ 18 by first | omega | (simp only [eq10]; omega))
              try rw [eq10] at b9
              have b11 : 0 ≤ Z9 56 18 ∧ Z9 56 18 ≤ 385 := hG9.pr 56 18
              refine Jcv0 hx8 (show mx_Sn _ _ 98 (mx_callv 185 4 12 101) from sn_185 98) a56 s56 hc9 rfl rfl rfl ?_
              refine Jiinc (z := w3_4) (cz := (-1)) (ls2 := [some (.ref 56), some (xI 15), some (xI x1), some (xI x2), some (xI (w3_4 + (-1)))]) (show mx_Sn _ _ 101 (mx_iinc 4 (-1) 104) from sn_185 101) rfl rfl rfl rfl ?_
              refine mx_J.step (sn_185 104) (fun _ _ => rfl) ?_
              exact ih3 (w3_4 + (-1)) Z9 h9 (by omega) (by omega) (by omega) hx9 hG9 (fr_tr (M := [(56, 18), (61, (-1)), (63, (-1))]) (fr_tr (M := [(56, 18), (61, (-1)), (63, (-1))]) (fr_tr (M := [(56, 18), (61, (-1)), (63, (-1))]) fr_rf (hf4) (M1 := []) rfl rfl) (fr_ua hE8) rfl rfl) (hf9) rfl rfl)
        have b12 : 0 ≤ Z 56 18 ∧ Z 56 18 ≤ 385 := hG.pr 56 18
        exact c75 (Int.toNat (k2_0 - 0) + 1) k2_0 Z h (by omega) (by omega) (by omega) hx hG fr_rf
      refine Jicmp_ge (show mx_Sn _ _ 65 (mx_icmp_ge 72 68) from sn_185 65) (by omega) (by omega) (fun q13 => ?_) (fun q13 => ?_)
      · skip
        refine mx_J.step (sn_185 72) (fun _ _ => rfl) ?_
        exact c73 15 (by omega) (by first | exact ⟨rfl, by omega⟩ | exact ⟨WSs (n := 15) (by omega) (by omega), by omega⟩)
      · skip
        refine mx_J.step (sn_185 68) (fun _ _ => rfl) ?_
        refine mx_J.step (sn_185 69) (fun _ _ => rfl) ?_
        exact c73 x1 (by omega) (by first | exact ⟨rfl, by omega⟩ | exact ⟨WSs (n := 15) (by omega) (by omega), by omega⟩)
    · skip
      exfalso; omega
theorem ct_185_56_i15 {l : Launch} {D : va_G} {b0 : Nat} {ad : Nat → Nat} {Hb : Heap} {tau : Nat → Int64} {d n s : Nat} {S : Nat → xS} {Z : xZ} {h : mx_H} (hx : XH n s S Z h) (hG : GB n S Z)  {x1 x2 : Int} (p1 : 0 ≤ x1 ∧ x1 ≤ 18) (p2 : 0 ≤ x2 ∧ x2 ≤ 18) (k0 : Z 56 18 + wy (15 * 19 + x1) ≤ 385) (k1 : x2 + 15 ≤ 18) : ∃ (Z' : xZ) (h' : mx_H), mx_Ca (tB l D b0 ad Hb tau) (d + 16) 185 [.ref 56, xI 15, xI x1, xI x2] h (none, h') ∧ XH n s S Z' h' ∧ GB n S Z' ∧ fr' [(56, 18), (61, (-1)), (63, (-1))] Z Z' ∧ (Z' 56 18 = Z 56 18 + wy (15 * 19 + x1)) := by
  obtain ⟨r, hca, Z', h', e, q⟩ := Jmt (B := tB l D b0 ad Hb tau) (M := mt_185) (mi := 185) (as := [.ref 56, xI 15, xI x1, xI x2]) (d := d + 15) (ls := [some (.ref 56), some (xI 15), some (xI x1), some (xI x2), none]) rfl rfl rfl rfl rfl rfl (cw_185_56_i15 (l := l) (D := D) (b0 := b0) (ad := ad) (Hb := Hb) (tau := tau) (d := d) (Post := fun r => ∃ (Z' : xZ) (h' : mx_H), r = (none, h') ∧ XH n s S Z' h' ∧ GB n S Z' ∧ fr' [(56, 18), (61, (-1)), (63, (-1))] Z Z' ∧ (Z' 56 18 = Z 56 18 + wy (15 * 19 + x1))) hx hG p1 p2 k0 k1 (fun Z' h' q1 q2 q3 q4 => ⟨Z', h', rfl, q1, q2, q3, q4⟩))
  subst e; exact ⟨Z', h', hca, q⟩
theorem ct_185_56_le15 {l : Launch} {D : va_G} {b0 : Nat} {ad : Nat → Nat} {Hb : Heap} {tau : Nat → Int64} {d n s : Nat} {S : Nat → xS} {Z : xZ} {h : mx_H} (hx : XH n s S Z h) (hG : GB n S Z) {x0 x1 x2 : Int} (p0 : 0 ≤ x0 ∧ x0 ≤ 15) (p1 : 0 ≤ x1 ∧ x1 ≤ 18) (p2 : 0 ≤ x2 ∧ x2 ≤ 18) (k0 : Z 56 18 + wy (x0 * 19 + x1) ≤ 385) (k1 : x2 + x0 ≤ 18) : ∃ (Z' : xZ) (h' : mx_H), mx_Ca (tB l D b0 ad Hb tau) (d + 16) 185 [.ref 56, xI x0, xI x1, xI x2] h (none, h') ∧ XH n s S Z' h' ∧ GB n S Z' ∧ fr' [(56, 18), (61, (-1)), (63, (-1))] Z Z' ∧ (Z' 56 18 = Z 56 18 + wy (x0 * 19 + x1)) := by
  have hc : x0 = 0 ∨ x0 = 1 ∨ x0 = 2 ∨ x0 = 3 ∨ x0 = 4 ∨ x0 = 5 ∨ x0 = 6 ∨ x0 = 7 ∨ x0 = 8 ∨ x0 = 9 ∨ x0 = 10 ∨ x0 = 11 ∨ x0 = 12 ∨ x0 = 13 ∨ x0 = 14 ∨ x0 = 15 := by omega
  rcases hc with hc | hc | hc | hc | hc | hc | hc | hc | hc | hc | hc | hc | hc | hc | hc | hc
  · subst hc
    obtain ⟨Z', h', hca, q1, q2, q3, q4⟩ := ct_185_56_i0 (d := d + 15) (l := l) (D := D) (b0 := b0) (ad := ad) (Hb := Hb) (tau := tau) hx hG p1 p2 k0 k1
    exact ⟨Z', h', hca, q1, q2, fr_tr (M1 := []) fr_rf q3 rfl rfl, q4⟩
  · subst hc
    obtain ⟨Z', h', hca, q1, q2, q3, q4⟩ := ct_185_56_i1 (d := d + 14) (l := l) (D := D) (b0 := b0) (ad := ad) (Hb := Hb) (tau := tau) hx hG p1 p2 k0 k1
    exact ⟨Z', h', hca, q1, q2, fr_tr (M1 := []) fr_rf q3 rfl rfl, q4⟩
  · subst hc
    obtain ⟨Z', h', hca, q1, q2, q3, q4⟩ := ct_185_56_i2 (d := d + 13) (l := l) (D := D) (b0 := b0) (ad := ad) (Hb := Hb) (tau := tau) hx hG p1 p2 k0 k1
    exact ⟨Z', h', hca, q1, q2, fr_tr (M1 := []) fr_rf q3 rfl rfl, q4⟩
  · subst hc
    obtain ⟨Z', h', hca, q1, q2, q3, q4⟩ := ct_185_56_i3 (d := d + 12) (l := l) (D := D) (b0 := b0) (ad := ad) (Hb := Hb) (tau := tau) hx hG p1 p2 k0 k1
    exact ⟨Z', h', hca, q1, q2, fr_tr (M1 := []) fr_rf q3 rfl rfl, q4⟩
  · subst hc
    obtain ⟨Z', h', hca, q1, q2, q3, q4⟩ := ct_185_56_i4 (d := d + 11) (l := l) (D := D) (b0 := b0) (ad := ad) (Hb := Hb) (tau := tau) hx hG p1 p2 k0 k1
    exact ⟨Z', h', hca, q1, q2, fr_tr (M1 := []) fr_rf q3 rfl rfl, q4⟩
  · subst hc
    obtain ⟨Z', h', hca, q1, q2, q3, q4⟩ := ct_185_56_i5 (d := d + 10) (l := l) (D := D) (b0 := b0) (ad := ad) (Hb := Hb) (tau := tau) hx hG p1 p2 k0 k1
    exact ⟨Z', h', hca, q1, q2, fr_tr (M1 := []) fr_rf q3 rfl rfl, q4⟩
  · subst hc
    obtain ⟨Z', h', hca, q1, q2, q3, q4⟩ := ct_185_56_i6 (d := d + 9) (l := l) (D := D) (b0 := b0) (ad := ad) (Hb := Hb) (tau := tau) hx hG p1 p2 k0 k1
    exact ⟨Z', h', hca, q1, q2, fr_tr (M1 := []) fr_rf q3 rfl rfl, q4⟩
  · subst hc
    obtain ⟨Z', h', hca, q1, q2, q3, q4⟩ := ct_185_56_i7 (d := d + 8) (l := l) (D := D) (b0 := b0) (ad := ad) (Hb := Hb) (tau := tau) hx hG p1 p2 k0 k1
    exact ⟨Z', h', hca, q1, q2, fr_tr (M1 := []) fr_rf q3 rfl rfl, q4⟩
  · subst hc
    obtain ⟨Z', h', hca, q1, q2, q3, q4⟩ := ct_185_56_i8 (d := d + 7) (l := l) (D := D) (b0 := b0) (ad := ad) (Hb := Hb) (tau := tau) hx hG p1 p2 k0 k1
    exact ⟨Z', h', hca, q1, q2, fr_tr (M1 := []) fr_rf q3 rfl rfl, q4⟩
  · subst hc
    obtain ⟨Z', h', hca, q1, q2, q3, q4⟩ := ct_185_56_i9 (d := d + 6) (l := l) (D := D) (b0 := b0) (ad := ad) (Hb := Hb) (tau := tau) hx hG p1 p2 k0 k1
    exact ⟨Z', h', hca, q1, q2, fr_tr (M1 := []) fr_rf q3 rfl rfl, q4⟩
  · subst hc
    obtain ⟨Z', h', hca, q1, q2, q3, q4⟩ := ct_185_56_i10 (d := d + 5) (l := l) (D := D) (b0 := b0) (ad := ad) (Hb := Hb) (tau := tau) hx hG p1 p2 k0 k1
    exact ⟨Z', h', hca, q1, q2, fr_tr (M1 := []) fr_rf q3 rfl rfl, q4⟩
  · subst hc
    obtain ⟨Z', h', hca, q1, q2, q3, q4⟩ := ct_185_56_i11 (d := d + 4) (l := l) (D := D) (b0 := b0) (ad := ad) (Hb := Hb) (tau := tau) hx hG p1 p2 k0 k1
    exact ⟨Z', h', hca, q1, q2, fr_tr (M1 := []) fr_rf q3 rfl rfl, q4⟩
  · subst hc
    obtain ⟨Z', h', hca, q1, q2, q3, q4⟩ := ct_185_56_i12 (d := d + 3) (l := l) (D := D) (b0 := b0) (ad := ad) (Hb := Hb) (tau := tau) hx hG p1 p2 k0 k1
    exact ⟨Z', h', hca, q1, q2, fr_tr (M1 := []) fr_rf q3 rfl rfl, q4⟩
  · subst hc
    obtain ⟨Z', h', hca, q1, q2, q3, q4⟩ := ct_185_56_i13 (d := d + 2) (l := l) (D := D) (b0 := b0) (ad := ad) (Hb := Hb) (tau := tau) hx hG p1 p2 k0 k1
    exact ⟨Z', h', hca, q1, q2, fr_tr (M1 := []) fr_rf q3 rfl rfl, q4⟩
  · subst hc
    obtain ⟨Z', h', hca, q1, q2, q3, q4⟩ := ct_185_56_i14 (d := d + 1) (l := l) (D := D) (b0 := b0) (ad := ad) (Hb := Hb) (tau := tau) hx hG p1 p2 k0 k1
    exact ⟨Z', h', hca, q1, q2, fr_tr (M1 := []) fr_rf q3 rfl rfl, q4⟩
  · subst hc
    obtain ⟨Z', h', hca, q1, q2, q3, q4⟩ := ct_185_56_i15 (d := d + 0) (l := l) (D := D) (b0 := b0) (ad := ad) (Hb := Hb) (tau := tau) hx hG p1 p2 k0 k1
    exact ⟨Z', h', hca, q1, q2, fr_tr (M1 := []) fr_rf q3 rfl rfl, q4⟩
set_option maxRecDepth 100000 in
theorem cw_185_56_i16 {l : Launch} {D : va_G} {b0 : Nat} {ad : Nat → Nat} {Hb : Heap} {tau : Nat → Int64} {d n s : Nat} {S : Nat → xS} {Z : xZ} {h : mx_H} {Post : mx_R → Prop} (hx : XH n s S Z h) (hG : GB n S Z)  {x1 x2 : Int} (p1 : 0 ≤ x1 ∧ x1 ≤ 18) (p2 : 0 ≤ x2 ∧ x2 ≤ 18) (k0 : Z 56 18 + wy (16 * 19 + x1) ≤ 385) (k1 : x2 + 16 ≤ 18) (hP : ∀ (Z' : xZ) (h' : mx_H), XH n s S Z' h' → GB n S Z' → fr' [(56, 18), (61, (-1)), (63, (-1))] Z Z' → Z' 56 18 = Z 56 18 + wy (16 * 19 + x1) → Post (none, h')) : mx_J (tB l D b0 ad Hb tau) mt_185 (d + 16) 0 [some (.ref 56), some (xI 16), some (xI x1), some (xI x2), none] [] h Post := by
    have a56 : 56 < n := lt83 (GB_n hG) rfl
    have s56 : S 56 = .inl (12, [0, 2, 2, 2, 2, 0, 0, 0, 0, 0, 0, 0, 0, 0, 0, 2, 2, 2, 0, 2, 2, 2, 0, 0, 2, 2, 2, 2, 2, 2, 0, 0, 2, 2, 2, 2, 2, 2, 2, 2, 2, 2]) := GB_s hG 56 rfl
    have a63 : 63 < n := lt83 (GB_n hG) rfl
    have s63 : S 63 = .inr (.int, 18, 0) := GB_s hG 63 rfl
    refine mx_J.step (sn_185 0) (fun _ _ => rfl) ?_
    refine Jif_ne (show mx_Sn _ _ 1 (mx_if_ne 63 4) from sn_185 1) (by omega) (fun q1 => ?_) (fun q1 => ?_)
    · skip
      refine mx_J.step (sn_185 63) (fun _ _ => rfl) ?_
      refine mx_J.step (sn_185 64) (fun _ _ => rfl) ?_
      have c73 : ∀ (k2_0 : Int), 0 ≤ k2_0 ∧ k2_0 ≤ 16 → (wy (16 * 19 + k2_0) = wy (16 * 19 + x1) ∧ k2_0 ≤ 16) → mx_J (tB l D b0 ad Hb tau) mt_185 (d + 16) 73 [some (.ref 56), some (xI 16), some (xI x1), some (xI x2), none] [xI k2_0] h Post := by
        intro k2_0 f2_0 f2_1
        refine mx_J.step (ls2 := [some (.ref 56), some (xI 16), some (xI x1), some (xI x2), some (xI k2_0)]) (sn_185 73) (fun _ _ => rfl) ?_
        have c75 : ∀ (m3 : Nat) (w3_4 : Int) (Z4 : xZ) (h4 : mx_H), w3_4 - 0 < (m3 : Int) → 0 ≤ w3_4 ∧ w3_4 ≤ 16 → (Z4 56 18 + wy (16 * 19 + w3_4) = Z 56 18 + wy (16 * 19 + x1)) → XH n s S Z4 h4 → GB n S Z4 → fr' [(56, 18), (61, (-1)), (63, (-1))] Z Z4 → mx_J (tB l D b0 ad Hb tau) mt_185 (d + 16) 75 [some (.ref 56), some (xI 16), some (xI x1), some (xI x2), some (xI w3_4)] [] h4 Post := by
          intro m3
          induction m3 with
          | zero => intro w3_4 Z4 h4 q3 f3_0 f3_1 hx4 hG4 hf4; exact absurd q3 (by omega)
          | succ m3 ih3 =>
            intro w3_4 Z4 h4 q3 f3_0 f3_1 hx4 hG4 hf4
            have b5 : 0 ≤ Z4 56 18 ∧ Z4 56 18 ≤ 385 := hG4.pr 56 18
            refine mx_J.step (sn_185 75) (fun _ _ => rfl) ?_
            refine Jif_le (show mx_Sn _ _ 77 (mx_if_le 107 80) from sn_185 77) (by omega) (fun q6 => ?_) (fun q6 => ?_)
            · skip
              have w0 : wy (16 * 19 + w3_4) = 0 := by rw [show w3_4 = 0 by omega]; exact Wy0 (by omega)
              exact mx_J.ret (sn_185 107) (fun _ _ => rfl) (hP Z4 h4 hx4 hG4 (fr_tr (M := [(56, 18), (61, (-1)), (63, (-1))]) fr_rf (hf4) (M1 := []) rfl rfl) (by omega))
            · skip
              refine mx_J.step (sn_185 80) (fun _ _ => rfl) ?_
              refine JgetR (g := 17) (b := 63) hx4 (show mx_Sn _ _ 81 (mx_getf 12 17 84) from sn_185 81) a56 s56 rfl rfl (hG4.prr 56 17 rfl) ?_
              refine mx_J.step (sn_185 84) (fun _ _ => rfl) ?_
              refine mx_J.step (sn_185 85) (fun _ _ => rfl) ?_
              refine JiastI hx4 (show mx_Sn _ _ 87 (mx_iast 1 88) from sn_185 87) a63 s63 rfl (by omega) (fun Z8 h8 hx8 hE8 => ?_)
              have hG8 := GB_up hG4 hE8 (show 0 ≤ w3_4 ∧ w3_4 ≤ 18 by omega) trivial rfl
              have wr := WRr (n := 16) (m := w3_4) (by omega) (by omega)
              refine mx_J.step (sn_185 88) (fun _ _ => rfl) ?_
              refine mx_J.step (sn_185 89) (fun _ _ => rfl) ?_
              refine mx_J.step (sn_185 90) (fun _ _ => rfl) ?_
              refine Jisub (show mx_Sn _ _ 92 (mx_isub 93) from sn_185 92) ?_
              refine mx_J.step (sn_185 93) (fun _ _ => rfl) ?_
              refine mx_J.step (sn_185 95) (fun _ _ => rfl) ?_
              refine JcI (z := 1) (show mx_Sn _ _ 96 (mx_const (.int 1) 97) from sn_185 96) rfl ?_
              refine Jiadd (show mx_Sn _ _ 97 (mx_iadd 98) from sn_185 97) ?_
              have eq10 : Z8 56 18 = Z4 56 18 := (up_nk hE8 rfl)
              obtain ⟨Z9, h9, hc9, hx9, hG9, hf9, b9⟩ := ct_185_56_le15 (d := d + 0) (l := l) (D := D) (b0 := b0) (ad := ad) (Hb := Hb) (tau := tau) hx8 hG8 (show 0 ≤ 16 - w3_4 ∧ 16 - w3_4 ≤ 15 by omega) (show 0 ≤ w3_4 ∧ w3_4 ≤ 18 by omega) (show 0 ≤ x2 + 1 ∧ x2 + 1 ≤ 18 by omega) (show Z8 56 18 + wy ((16 - w3_4) * 19 + w3_4) ≤ 385 by first | omega | (simp only [eq10]; omega)) (show (x2 + 1) + (16 - w3_4) ≤ 18 by first | omega | (simp only [eq10]; omega))
              try rw [eq10] at b9
              have b11 : 0 ≤ Z9 56 18 ∧ Z9 56 18 ≤ 385 := hG9.pr 56 18
              refine Jcv0 hx8 (show mx_Sn _ _ 98 (mx_callv 185 4 12 101) from sn_185 98) a56 s56 hc9 rfl rfl rfl ?_
              refine Jiinc (z := w3_4) (cz := (-1)) (ls2 := [some (.ref 56), some (xI 16), some (xI x1), some (xI x2), some (xI (w3_4 + (-1)))]) (show mx_Sn _ _ 101 (mx_iinc 4 (-1) 104) from sn_185 101) rfl rfl rfl rfl ?_
              refine mx_J.step (sn_185 104) (fun _ _ => rfl) ?_
              exact ih3 (w3_4 + (-1)) Z9 h9 (by omega) (by omega) (by omega) hx9 hG9 (fr_tr (M := [(56, 18), (61, (-1)), (63, (-1))]) (fr_tr (M := [(56, 18), (61, (-1)), (63, (-1))]) (fr_tr (M := [(56, 18), (61, (-1)), (63, (-1))]) fr_rf (hf4) (M1 := []) rfl rfl) (fr_ua hE8) rfl rfl) (hf9) rfl rfl)
        have b12 : 0 ≤ Z 56 18 ∧ Z 56 18 ≤ 385 := hG.pr 56 18
        exact c75 (Int.toNat (k2_0 - 0) + 1) k2_0 Z h (by omega) (by omega) (by omega) hx hG fr_rf
      refine Jicmp_ge (show mx_Sn _ _ 65 (mx_icmp_ge 72 68) from sn_185 65) (by omega) (by omega) (fun q13 => ?_) (fun q13 => ?_)
      · skip
        refine mx_J.step (sn_185 72) (fun _ _ => rfl) ?_
        exact c73 16 (by omega) (by first | exact ⟨rfl, by omega⟩ | exact ⟨WSs (n := 16) (by omega) (by omega), by omega⟩)
      · skip
        refine mx_J.step (sn_185 68) (fun _ _ => rfl) ?_
        refine mx_J.step (sn_185 69) (fun _ _ => rfl) ?_
        exact c73 x1 (by omega) (by first | exact ⟨rfl, by omega⟩ | exact ⟨WSs (n := 16) (by omega) (by omega), by omega⟩)
    · skip
      exfalso; omega
theorem ct_185_56_i16 {l : Launch} {D : va_G} {b0 : Nat} {ad : Nat → Nat} {Hb : Heap} {tau : Nat → Int64} {d n s : Nat} {S : Nat → xS} {Z : xZ} {h : mx_H} (hx : XH n s S Z h) (hG : GB n S Z)  {x1 x2 : Int} (p1 : 0 ≤ x1 ∧ x1 ≤ 18) (p2 : 0 ≤ x2 ∧ x2 ≤ 18) (k0 : Z 56 18 + wy (16 * 19 + x1) ≤ 385) (k1 : x2 + 16 ≤ 18) : ∃ (Z' : xZ) (h' : mx_H), mx_Ca (tB l D b0 ad Hb tau) (d + 17) 185 [.ref 56, xI 16, xI x1, xI x2] h (none, h') ∧ XH n s S Z' h' ∧ GB n S Z' ∧ fr' [(56, 18), (61, (-1)), (63, (-1))] Z Z' ∧ (Z' 56 18 = Z 56 18 + wy (16 * 19 + x1)) := by
  obtain ⟨r, hca, Z', h', e, q⟩ := Jmt (B := tB l D b0 ad Hb tau) (M := mt_185) (mi := 185) (as := [.ref 56, xI 16, xI x1, xI x2]) (d := d + 16) (ls := [some (.ref 56), some (xI 16), some (xI x1), some (xI x2), none]) rfl rfl rfl rfl rfl rfl (cw_185_56_i16 (l := l) (D := D) (b0 := b0) (ad := ad) (Hb := Hb) (tau := tau) (d := d) (Post := fun r => ∃ (Z' : xZ) (h' : mx_H), r = (none, h') ∧ XH n s S Z' h' ∧ GB n S Z' ∧ fr' [(56, 18), (61, (-1)), (63, (-1))] Z Z' ∧ (Z' 56 18 = Z 56 18 + wy (16 * 19 + x1))) hx hG p1 p2 k0 k1 (fun Z' h' q1 q2 q3 q4 => ⟨Z', h', rfl, q1, q2, q3, q4⟩))
  subst e; exact ⟨Z', h', hca, q⟩
theorem ct_185_56_le16 {l : Launch} {D : va_G} {b0 : Nat} {ad : Nat → Nat} {Hb : Heap} {tau : Nat → Int64} {d n s : Nat} {S : Nat → xS} {Z : xZ} {h : mx_H} (hx : XH n s S Z h) (hG : GB n S Z) {x0 x1 x2 : Int} (p0 : 0 ≤ x0 ∧ x0 ≤ 16) (p1 : 0 ≤ x1 ∧ x1 ≤ 18) (p2 : 0 ≤ x2 ∧ x2 ≤ 18) (k0 : Z 56 18 + wy (x0 * 19 + x1) ≤ 385) (k1 : x2 + x0 ≤ 18) : ∃ (Z' : xZ) (h' : mx_H), mx_Ca (tB l D b0 ad Hb tau) (d + 17) 185 [.ref 56, xI x0, xI x1, xI x2] h (none, h') ∧ XH n s S Z' h' ∧ GB n S Z' ∧ fr' [(56, 18), (61, (-1)), (63, (-1))] Z Z' ∧ (Z' 56 18 = Z 56 18 + wy (x0 * 19 + x1)) := by
  have hc : x0 = 0 ∨ x0 = 1 ∨ x0 = 2 ∨ x0 = 3 ∨ x0 = 4 ∨ x0 = 5 ∨ x0 = 6 ∨ x0 = 7 ∨ x0 = 8 ∨ x0 = 9 ∨ x0 = 10 ∨ x0 = 11 ∨ x0 = 12 ∨ x0 = 13 ∨ x0 = 14 ∨ x0 = 15 ∨ x0 = 16 := by omega
  rcases hc with hc | hc | hc | hc | hc | hc | hc | hc | hc | hc | hc | hc | hc | hc | hc | hc | hc
  · subst hc
    obtain ⟨Z', h', hca, q1, q2, q3, q4⟩ := ct_185_56_i0 (d := d + 16) (l := l) (D := D) (b0 := b0) (ad := ad) (Hb := Hb) (tau := tau) hx hG p1 p2 k0 k1
    exact ⟨Z', h', hca, q1, q2, fr_tr (M1 := []) fr_rf q3 rfl rfl, q4⟩
  · subst hc
    obtain ⟨Z', h', hca, q1, q2, q3, q4⟩ := ct_185_56_i1 (d := d + 15) (l := l) (D := D) (b0 := b0) (ad := ad) (Hb := Hb) (tau := tau) hx hG p1 p2 k0 k1
    exact ⟨Z', h', hca, q1, q2, fr_tr (M1 := []) fr_rf q3 rfl rfl, q4⟩
  · subst hc
    obtain ⟨Z', h', hca, q1, q2, q3, q4⟩ := ct_185_56_i2 (d := d + 14) (l := l) (D := D) (b0 := b0) (ad := ad) (Hb := Hb) (tau := tau) hx hG p1 p2 k0 k1
    exact ⟨Z', h', hca, q1, q2, fr_tr (M1 := []) fr_rf q3 rfl rfl, q4⟩
  · subst hc
    obtain ⟨Z', h', hca, q1, q2, q3, q4⟩ := ct_185_56_i3 (d := d + 13) (l := l) (D := D) (b0 := b0) (ad := ad) (Hb := Hb) (tau := tau) hx hG p1 p2 k0 k1
    exact ⟨Z', h', hca, q1, q2, fr_tr (M1 := []) fr_rf q3 rfl rfl, q4⟩
  · subst hc
    obtain ⟨Z', h', hca, q1, q2, q3, q4⟩ := ct_185_56_i4 (d := d + 12) (l := l) (D := D) (b0 := b0) (ad := ad) (Hb := Hb) (tau := tau) hx hG p1 p2 k0 k1
    exact ⟨Z', h', hca, q1, q2, fr_tr (M1 := []) fr_rf q3 rfl rfl, q4⟩
  · subst hc
    obtain ⟨Z', h', hca, q1, q2, q3, q4⟩ := ct_185_56_i5 (d := d + 11) (l := l) (D := D) (b0 := b0) (ad := ad) (Hb := Hb) (tau := tau) hx hG p1 p2 k0 k1
    exact ⟨Z', h', hca, q1, q2, fr_tr (M1 := []) fr_rf q3 rfl rfl, q4⟩
  · subst hc
    obtain ⟨Z', h', hca, q1, q2, q3, q4⟩ := ct_185_56_i6 (d := d + 10) (l := l) (D := D) (b0 := b0) (ad := ad) (Hb := Hb) (tau := tau) hx hG p1 p2 k0 k1
    exact ⟨Z', h', hca, q1, q2, fr_tr (M1 := []) fr_rf q3 rfl rfl, q4⟩
  · subst hc
    obtain ⟨Z', h', hca, q1, q2, q3, q4⟩ := ct_185_56_i7 (d := d + 9) (l := l) (D := D) (b0 := b0) (ad := ad) (Hb := Hb) (tau := tau) hx hG p1 p2 k0 k1
    exact ⟨Z', h', hca, q1, q2, fr_tr (M1 := []) fr_rf q3 rfl rfl, q4⟩
  · subst hc
    obtain ⟨Z', h', hca, q1, q2, q3, q4⟩ := ct_185_56_i8 (d := d + 8) (l := l) (D := D) (b0 := b0) (ad := ad) (Hb := Hb) (tau := tau) hx hG p1 p2 k0 k1
    exact ⟨Z', h', hca, q1, q2, fr_tr (M1 := []) fr_rf q3 rfl rfl, q4⟩
  · subst hc
    obtain ⟨Z', h', hca, q1, q2, q3, q4⟩ := ct_185_56_i9 (d := d + 7) (l := l) (D := D) (b0 := b0) (ad := ad) (Hb := Hb) (tau := tau) hx hG p1 p2 k0 k1
    exact ⟨Z', h', hca, q1, q2, fr_tr (M1 := []) fr_rf q3 rfl rfl, q4⟩
  · subst hc
    obtain ⟨Z', h', hca, q1, q2, q3, q4⟩ := ct_185_56_i10 (d := d + 6) (l := l) (D := D) (b0 := b0) (ad := ad) (Hb := Hb) (tau := tau) hx hG p1 p2 k0 k1
    exact ⟨Z', h', hca, q1, q2, fr_tr (M1 := []) fr_rf q3 rfl rfl, q4⟩
  · subst hc
    obtain ⟨Z', h', hca, q1, q2, q3, q4⟩ := ct_185_56_i11 (d := d + 5) (l := l) (D := D) (b0 := b0) (ad := ad) (Hb := Hb) (tau := tau) hx hG p1 p2 k0 k1
    exact ⟨Z', h', hca, q1, q2, fr_tr (M1 := []) fr_rf q3 rfl rfl, q4⟩
  · subst hc
    obtain ⟨Z', h', hca, q1, q2, q3, q4⟩ := ct_185_56_i12 (d := d + 4) (l := l) (D := D) (b0 := b0) (ad := ad) (Hb := Hb) (tau := tau) hx hG p1 p2 k0 k1
    exact ⟨Z', h', hca, q1, q2, fr_tr (M1 := []) fr_rf q3 rfl rfl, q4⟩
  · subst hc
    obtain ⟨Z', h', hca, q1, q2, q3, q4⟩ := ct_185_56_i13 (d := d + 3) (l := l) (D := D) (b0 := b0) (ad := ad) (Hb := Hb) (tau := tau) hx hG p1 p2 k0 k1
    exact ⟨Z', h', hca, q1, q2, fr_tr (M1 := []) fr_rf q3 rfl rfl, q4⟩
  · subst hc
    obtain ⟨Z', h', hca, q1, q2, q3, q4⟩ := ct_185_56_i14 (d := d + 2) (l := l) (D := D) (b0 := b0) (ad := ad) (Hb := Hb) (tau := tau) hx hG p1 p2 k0 k1
    exact ⟨Z', h', hca, q1, q2, fr_tr (M1 := []) fr_rf q3 rfl rfl, q4⟩
  · subst hc
    obtain ⟨Z', h', hca, q1, q2, q3, q4⟩ := ct_185_56_i15 (d := d + 1) (l := l) (D := D) (b0 := b0) (ad := ad) (Hb := Hb) (tau := tau) hx hG p1 p2 k0 k1
    exact ⟨Z', h', hca, q1, q2, fr_tr (M1 := []) fr_rf q3 rfl rfl, q4⟩
  · subst hc
    obtain ⟨Z', h', hca, q1, q2, q3, q4⟩ := ct_185_56_i16 (d := d + 0) (l := l) (D := D) (b0 := b0) (ad := ad) (Hb := Hb) (tau := tau) hx hG p1 p2 k0 k1
    exact ⟨Z', h', hca, q1, q2, fr_tr (M1 := []) fr_rf q3 rfl rfl, q4⟩
set_option maxRecDepth 100000 in
theorem cw_185_56_i17 {l : Launch} {D : va_G} {b0 : Nat} {ad : Nat → Nat} {Hb : Heap} {tau : Nat → Int64} {d n s : Nat} {S : Nat → xS} {Z : xZ} {h : mx_H} {Post : mx_R → Prop} (hx : XH n s S Z h) (hG : GB n S Z)  {x1 x2 : Int} (p1 : 0 ≤ x1 ∧ x1 ≤ 18) (p2 : 0 ≤ x2 ∧ x2 ≤ 18) (k0 : Z 56 18 + wy (17 * 19 + x1) ≤ 385) (k1 : x2 + 17 ≤ 18) (hP : ∀ (Z' : xZ) (h' : mx_H), XH n s S Z' h' → GB n S Z' → fr' [(56, 18), (61, (-1)), (63, (-1))] Z Z' → Z' 56 18 = Z 56 18 + wy (17 * 19 + x1) → Post (none, h')) : mx_J (tB l D b0 ad Hb tau) mt_185 (d + 17) 0 [some (.ref 56), some (xI 17), some (xI x1), some (xI x2), none] [] h Post := by
    have a56 : 56 < n := lt83 (GB_n hG) rfl
    have s56 : S 56 = .inl (12, [0, 2, 2, 2, 2, 0, 0, 0, 0, 0, 0, 0, 0, 0, 0, 2, 2, 2, 0, 2, 2, 2, 0, 0, 2, 2, 2, 2, 2, 2, 0, 0, 2, 2, 2, 2, 2, 2, 2, 2, 2, 2]) := GB_s hG 56 rfl
    have a63 : 63 < n := lt83 (GB_n hG) rfl
    have s63 : S 63 = .inr (.int, 18, 0) := GB_s hG 63 rfl
    refine mx_J.step (sn_185 0) (fun _ _ => rfl) ?_
    refine Jif_ne (show mx_Sn _ _ 1 (mx_if_ne 63 4) from sn_185 1) (by omega) (fun q1 => ?_) (fun q1 => ?_)
    · skip
      refine mx_J.step (sn_185 63) (fun _ _ => rfl) ?_
      refine mx_J.step (sn_185 64) (fun _ _ => rfl) ?_
      have c73 : ∀ (k2_0 : Int), 0 ≤ k2_0 ∧ k2_0 ≤ 17 → (wy (17 * 19 + k2_0) = wy (17 * 19 + x1) ∧ k2_0 ≤ 17) → mx_J (tB l D b0 ad Hb tau) mt_185 (d + 17) 73 [some (.ref 56), some (xI 17), some (xI x1), some (xI x2), none] [xI k2_0] h Post := by
        intro k2_0 f2_0 f2_1
        refine mx_J.step (ls2 := [some (.ref 56), some (xI 17), some (xI x1), some (xI x2), some (xI k2_0)]) (sn_185 73) (fun _ _ => rfl) ?_
        have c75 : ∀ (m3 : Nat) (w3_4 : Int) (Z4 : xZ) (h4 : mx_H), w3_4 - 0 < (m3 : Int) → 0 ≤ w3_4 ∧ w3_4 ≤ 17 → (Z4 56 18 + wy (17 * 19 + w3_4) = Z 56 18 + wy (17 * 19 + x1)) → XH n s S Z4 h4 → GB n S Z4 → fr' [(56, 18), (61, (-1)), (63, (-1))] Z Z4 → mx_J (tB l D b0 ad Hb tau) mt_185 (d + 17) 75 [some (.ref 56), some (xI 17), some (xI x1), some (xI x2), some (xI w3_4)] [] h4 Post := by
          intro m3
          induction m3 with
          | zero => intro w3_4 Z4 h4 q3 f3_0 f3_1 hx4 hG4 hf4; exact absurd q3 (by omega)
          | succ m3 ih3 =>
            intro w3_4 Z4 h4 q3 f3_0 f3_1 hx4 hG4 hf4
            have b5 : 0 ≤ Z4 56 18 ∧ Z4 56 18 ≤ 385 := hG4.pr 56 18
            refine mx_J.step (sn_185 75) (fun _ _ => rfl) ?_
            refine Jif_le (show mx_Sn _ _ 77 (mx_if_le 107 80) from sn_185 77) (by omega) (fun q6 => ?_) (fun q6 => ?_)
            · skip
              have w0 : wy (17 * 19 + w3_4) = 0 := by rw [show w3_4 = 0 by omega]; exact Wy0 (by omega)
              exact mx_J.ret (sn_185 107) (fun _ _ => rfl) (hP Z4 h4 hx4 hG4 (fr_tr (M := [(56, 18), (61, (-1)), (63, (-1))]) fr_rf (hf4) (M1 := []) rfl rfl) (by omega))
            · skip
              refine mx_J.step (sn_185 80) (fun _ _ => rfl) ?_
              refine JgetR (g := 17) (b := 63) hx4 (show mx_Sn _ _ 81 (mx_getf 12 17 84) from sn_185 81) a56 s56 rfl rfl (hG4.prr 56 17 rfl) ?_
              refine mx_J.step (sn_185 84) (fun _ _ => rfl) ?_
              refine mx_J.step (sn_185 85) (fun _ _ => rfl) ?_
              refine JiastI hx4 (show mx_Sn _ _ 87 (mx_iast 1 88) from sn_185 87) a63 s63 rfl (by omega) (fun Z8 h8 hx8 hE8 => ?_)
              have hG8 := GB_up hG4 hE8 (show 0 ≤ w3_4 ∧ w3_4 ≤ 18 by omega) trivial rfl
              have wr := WRr (n := 17) (m := w3_4) (by omega) (by omega)
              refine mx_J.step (sn_185 88) (fun _ _ => rfl) ?_
              refine mx_J.step (sn_185 89) (fun _ _ => rfl) ?_
              refine mx_J.step (sn_185 90) (fun _ _ => rfl) ?_
              refine Jisub (show mx_Sn _ _ 92 (mx_isub 93) from sn_185 92) ?_
              refine mx_J.step (sn_185 93) (fun _ _ => rfl) ?_
              refine mx_J.step (sn_185 95) (fun _ _ => rfl) ?_
              refine JcI (z := 1) (show mx_Sn _ _ 96 (mx_const (.int 1) 97) from sn_185 96) rfl ?_
              refine Jiadd (show mx_Sn _ _ 97 (mx_iadd 98) from sn_185 97) ?_
              have eq10 : Z8 56 18 = Z4 56 18 := (up_nk hE8 rfl)
              obtain ⟨Z9, h9, hc9, hx9, hG9, hf9, b9⟩ := ct_185_56_le16 (d := d + 0) (l := l) (D := D) (b0 := b0) (ad := ad) (Hb := Hb) (tau := tau) hx8 hG8 (show 0 ≤ 17 - w3_4 ∧ 17 - w3_4 ≤ 16 by omega) (show 0 ≤ w3_4 ∧ w3_4 ≤ 18 by omega) (show 0 ≤ x2 + 1 ∧ x2 + 1 ≤ 18 by omega) (show Z8 56 18 + wy ((17 - w3_4) * 19 + w3_4) ≤ 385 by first | omega | (simp only [eq10]; omega)) (show (x2 + 1) + (17 - w3_4) ≤ 18 by first | omega | (simp only [eq10]; omega))
              try rw [eq10] at b9
              have b11 : 0 ≤ Z9 56 18 ∧ Z9 56 18 ≤ 385 := hG9.pr 56 18
              refine Jcv0 hx8 (show mx_Sn _ _ 98 (mx_callv 185 4 12 101) from sn_185 98) a56 s56 hc9 rfl rfl rfl ?_
              refine Jiinc (z := w3_4) (cz := (-1)) (ls2 := [some (.ref 56), some (xI 17), some (xI x1), some (xI x2), some (xI (w3_4 + (-1)))]) (show mx_Sn _ _ 101 (mx_iinc 4 (-1) 104) from sn_185 101) rfl rfl rfl rfl ?_
              refine mx_J.step (sn_185 104) (fun _ _ => rfl) ?_
              exact ih3 (w3_4 + (-1)) Z9 h9 (by omega) (by omega) (by omega) hx9 hG9 (fr_tr (M := [(56, 18), (61, (-1)), (63, (-1))]) (fr_tr (M := [(56, 18), (61, (-1)), (63, (-1))]) (fr_tr (M := [(56, 18), (61, (-1)), (63, (-1))]) fr_rf (hf4) (M1 := []) rfl rfl) (fr_ua hE8) rfl rfl) (hf9) rfl rfl)
        have b12 : 0 ≤ Z 56 18 ∧ Z 56 18 ≤ 385 := hG.pr 56 18
        exact c75 (Int.toNat (k2_0 - 0) + 1) k2_0 Z h (by omega) (by omega) (by omega) hx hG fr_rf
      refine Jicmp_ge (show mx_Sn _ _ 65 (mx_icmp_ge 72 68) from sn_185 65) (by omega) (by omega) (fun q13 => ?_) (fun q13 => ?_)
      · skip
        refine mx_J.step (sn_185 72) (fun _ _ => rfl) ?_
        exact c73 17 (by omega) (by first | exact ⟨rfl, by omega⟩ | exact ⟨WSs (n := 17) (by omega) (by omega), by omega⟩)
      · skip
        refine mx_J.step (sn_185 68) (fun _ _ => rfl) ?_
        refine mx_J.step (sn_185 69) (fun _ _ => rfl) ?_
        exact c73 x1 (by omega) (by first | exact ⟨rfl, by omega⟩ | exact ⟨WSs (n := 17) (by omega) (by omega), by omega⟩)
    · skip
      exfalso; omega
theorem ct_185_56_i17 {l : Launch} {D : va_G} {b0 : Nat} {ad : Nat → Nat} {Hb : Heap} {tau : Nat → Int64} {d n s : Nat} {S : Nat → xS} {Z : xZ} {h : mx_H} (hx : XH n s S Z h) (hG : GB n S Z)  {x1 x2 : Int} (p1 : 0 ≤ x1 ∧ x1 ≤ 18) (p2 : 0 ≤ x2 ∧ x2 ≤ 18) (k0 : Z 56 18 + wy (17 * 19 + x1) ≤ 385) (k1 : x2 + 17 ≤ 18) : ∃ (Z' : xZ) (h' : mx_H), mx_Ca (tB l D b0 ad Hb tau) (d + 18) 185 [.ref 56, xI 17, xI x1, xI x2] h (none, h') ∧ XH n s S Z' h' ∧ GB n S Z' ∧ fr' [(56, 18), (61, (-1)), (63, (-1))] Z Z' ∧ (Z' 56 18 = Z 56 18 + wy (17 * 19 + x1)) := by
  obtain ⟨r, hca, Z', h', e, q⟩ := Jmt (B := tB l D b0 ad Hb tau) (M := mt_185) (mi := 185) (as := [.ref 56, xI 17, xI x1, xI x2]) (d := d + 17) (ls := [some (.ref 56), some (xI 17), some (xI x1), some (xI x2), none]) rfl rfl rfl rfl rfl rfl (cw_185_56_i17 (l := l) (D := D) (b0 := b0) (ad := ad) (Hb := Hb) (tau := tau) (d := d) (Post := fun r => ∃ (Z' : xZ) (h' : mx_H), r = (none, h') ∧ XH n s S Z' h' ∧ GB n S Z' ∧ fr' [(56, 18), (61, (-1)), (63, (-1))] Z Z' ∧ (Z' 56 18 = Z 56 18 + wy (17 * 19 + x1))) hx hG p1 p2 k0 k1 (fun Z' h' q1 q2 q3 q4 => ⟨Z', h', rfl, q1, q2, q3, q4⟩))
  subst e; exact ⟨Z', h', hca, q⟩
theorem ct_185_56_le17 {l : Launch} {D : va_G} {b0 : Nat} {ad : Nat → Nat} {Hb : Heap} {tau : Nat → Int64} {d n s : Nat} {S : Nat → xS} {Z : xZ} {h : mx_H} (hx : XH n s S Z h) (hG : GB n S Z) {x0 x1 x2 : Int} (p0 : 0 ≤ x0 ∧ x0 ≤ 17) (p1 : 0 ≤ x1 ∧ x1 ≤ 18) (p2 : 0 ≤ x2 ∧ x2 ≤ 18) (k0 : Z 56 18 + wy (x0 * 19 + x1) ≤ 385) (k1 : x2 + x0 ≤ 18) : ∃ (Z' : xZ) (h' : mx_H), mx_Ca (tB l D b0 ad Hb tau) (d + 18) 185 [.ref 56, xI x0, xI x1, xI x2] h (none, h') ∧ XH n s S Z' h' ∧ GB n S Z' ∧ fr' [(56, 18), (61, (-1)), (63, (-1))] Z Z' ∧ (Z' 56 18 = Z 56 18 + wy (x0 * 19 + x1)) := by
  have hc : x0 = 0 ∨ x0 = 1 ∨ x0 = 2 ∨ x0 = 3 ∨ x0 = 4 ∨ x0 = 5 ∨ x0 = 6 ∨ x0 = 7 ∨ x0 = 8 ∨ x0 = 9 ∨ x0 = 10 ∨ x0 = 11 ∨ x0 = 12 ∨ x0 = 13 ∨ x0 = 14 ∨ x0 = 15 ∨ x0 = 16 ∨ x0 = 17 := by omega
  rcases hc with hc | hc | hc | hc | hc | hc | hc | hc | hc | hc | hc | hc | hc | hc | hc | hc | hc | hc
  · subst hc
    obtain ⟨Z', h', hca, q1, q2, q3, q4⟩ := ct_185_56_i0 (d := d + 17) (l := l) (D := D) (b0 := b0) (ad := ad) (Hb := Hb) (tau := tau) hx hG p1 p2 k0 k1
    exact ⟨Z', h', hca, q1, q2, fr_tr (M1 := []) fr_rf q3 rfl rfl, q4⟩
  · subst hc
    obtain ⟨Z', h', hca, q1, q2, q3, q4⟩ := ct_185_56_i1 (d := d + 16) (l := l) (D := D) (b0 := b0) (ad := ad) (Hb := Hb) (tau := tau) hx hG p1 p2 k0 k1
    exact ⟨Z', h', hca, q1, q2, fr_tr (M1 := []) fr_rf q3 rfl rfl, q4⟩
  · subst hc
    obtain ⟨Z', h', hca, q1, q2, q3, q4⟩ := ct_185_56_i2 (d := d + 15) (l := l) (D := D) (b0 := b0) (ad := ad) (Hb := Hb) (tau := tau) hx hG p1 p2 k0 k1
    exact ⟨Z', h', hca, q1, q2, fr_tr (M1 := []) fr_rf q3 rfl rfl, q4⟩
  · subst hc
    obtain ⟨Z', h', hca, q1, q2, q3, q4⟩ := ct_185_56_i3 (d := d + 14) (l := l) (D := D) (b0 := b0) (ad := ad) (Hb := Hb) (tau := tau) hx hG p1 p2 k0 k1
    exact ⟨Z', h', hca, q1, q2, fr_tr (M1 := []) fr_rf q3 rfl rfl, q4⟩
  · subst hc
    obtain ⟨Z', h', hca, q1, q2, q3, q4⟩ := ct_185_56_i4 (d := d + 13) (l := l) (D := D) (b0 := b0) (ad := ad) (Hb := Hb) (tau := tau) hx hG p1 p2 k0 k1
    exact ⟨Z', h', hca, q1, q2, fr_tr (M1 := []) fr_rf q3 rfl rfl, q4⟩
  · subst hc
    obtain ⟨Z', h', hca, q1, q2, q3, q4⟩ := ct_185_56_i5 (d := d + 12) (l := l) (D := D) (b0 := b0) (ad := ad) (Hb := Hb) (tau := tau) hx hG p1 p2 k0 k1
    exact ⟨Z', h', hca, q1, q2, fr_tr (M1 := []) fr_rf q3 rfl rfl, q4⟩
  · subst hc
    obtain ⟨Z', h', hca, q1, q2, q3, q4⟩ := ct_185_56_i6 (d := d + 11) (l := l) (D := D) (b0 := b0) (ad := ad) (Hb := Hb) (tau := tau) hx hG p1 p2 k0 k1
    exact ⟨Z', h', hca, q1, q2, fr_tr (M1 := []) fr_rf q3 rfl rfl, q4⟩
  · subst hc
    obtain ⟨Z', h', hca, q1, q2, q3, q4⟩ := ct_185_56_i7 (d := d + 10) (l := l) (D := D) (b0 := b0) (ad := ad) (Hb := Hb) (tau := tau) hx hG p1 p2 k0 k1
    exact ⟨Z', h', hca, q1, q2, fr_tr (M1 := []) fr_rf q3 rfl rfl, q4⟩
  · subst hc
    obtain ⟨Z', h', hca, q1, q2, q3, q4⟩ := ct_185_56_i8 (d := d + 9) (l := l) (D := D) (b0 := b0) (ad := ad) (Hb := Hb) (tau := tau) hx hG p1 p2 k0 k1
    exact ⟨Z', h', hca, q1, q2, fr_tr (M1 := []) fr_rf q3 rfl rfl, q4⟩
  · subst hc
    obtain ⟨Z', h', hca, q1, q2, q3, q4⟩ := ct_185_56_i9 (d := d + 8) (l := l) (D := D) (b0 := b0) (ad := ad) (Hb := Hb) (tau := tau) hx hG p1 p2 k0 k1
    exact ⟨Z', h', hca, q1, q2, fr_tr (M1 := []) fr_rf q3 rfl rfl, q4⟩
  · subst hc
    obtain ⟨Z', h', hca, q1, q2, q3, q4⟩ := ct_185_56_i10 (d := d + 7) (l := l) (D := D) (b0 := b0) (ad := ad) (Hb := Hb) (tau := tau) hx hG p1 p2 k0 k1
    exact ⟨Z', h', hca, q1, q2, fr_tr (M1 := []) fr_rf q3 rfl rfl, q4⟩
  · subst hc
    obtain ⟨Z', h', hca, q1, q2, q3, q4⟩ := ct_185_56_i11 (d := d + 6) (l := l) (D := D) (b0 := b0) (ad := ad) (Hb := Hb) (tau := tau) hx hG p1 p2 k0 k1
    exact ⟨Z', h', hca, q1, q2, fr_tr (M1 := []) fr_rf q3 rfl rfl, q4⟩
  · subst hc
    obtain ⟨Z', h', hca, q1, q2, q3, q4⟩ := ct_185_56_i12 (d := d + 5) (l := l) (D := D) (b0 := b0) (ad := ad) (Hb := Hb) (tau := tau) hx hG p1 p2 k0 k1
    exact ⟨Z', h', hca, q1, q2, fr_tr (M1 := []) fr_rf q3 rfl rfl, q4⟩
  · subst hc
    obtain ⟨Z', h', hca, q1, q2, q3, q4⟩ := ct_185_56_i13 (d := d + 4) (l := l) (D := D) (b0 := b0) (ad := ad) (Hb := Hb) (tau := tau) hx hG p1 p2 k0 k1
    exact ⟨Z', h', hca, q1, q2, fr_tr (M1 := []) fr_rf q3 rfl rfl, q4⟩
  · subst hc
    obtain ⟨Z', h', hca, q1, q2, q3, q4⟩ := ct_185_56_i14 (d := d + 3) (l := l) (D := D) (b0 := b0) (ad := ad) (Hb := Hb) (tau := tau) hx hG p1 p2 k0 k1
    exact ⟨Z', h', hca, q1, q2, fr_tr (M1 := []) fr_rf q3 rfl rfl, q4⟩
  · subst hc
    obtain ⟨Z', h', hca, q1, q2, q3, q4⟩ := ct_185_56_i15 (d := d + 2) (l := l) (D := D) (b0 := b0) (ad := ad) (Hb := Hb) (tau := tau) hx hG p1 p2 k0 k1
    exact ⟨Z', h', hca, q1, q2, fr_tr (M1 := []) fr_rf q3 rfl rfl, q4⟩
  · subst hc
    obtain ⟨Z', h', hca, q1, q2, q3, q4⟩ := ct_185_56_i16 (d := d + 1) (l := l) (D := D) (b0 := b0) (ad := ad) (Hb := Hb) (tau := tau) hx hG p1 p2 k0 k1
    exact ⟨Z', h', hca, q1, q2, fr_tr (M1 := []) fr_rf q3 rfl rfl, q4⟩
  · subst hc
    obtain ⟨Z', h', hca, q1, q2, q3, q4⟩ := ct_185_56_i17 (d := d + 0) (l := l) (D := D) (b0 := b0) (ad := ad) (Hb := Hb) (tau := tau) hx hG p1 p2 k0 k1
    exact ⟨Z', h', hca, q1, q2, fr_tr (M1 := []) fr_rf q3 rfl rfl, q4⟩
set_option maxRecDepth 100000 in
theorem cw_185_56_i18 {l : Launch} {D : va_G} {b0 : Nat} {ad : Nat → Nat} {Hb : Heap} {tau : Nat → Int64} {d n s : Nat} {S : Nat → xS} {Z : xZ} {h : mx_H} {Post : mx_R → Prop} (hx : XH n s S Z h) (hG : GB n S Z)  {x1 x2 : Int} (p1 : 0 ≤ x1 ∧ x1 ≤ 18) (p2 : 0 ≤ x2 ∧ x2 ≤ 18) (k0 : Z 56 18 + wy (18 * 19 + x1) ≤ 385) (k1 : x2 + 18 ≤ 18) (hP : ∀ (Z' : xZ) (h' : mx_H), XH n s S Z' h' → GB n S Z' → fr' [(56, 18), (61, (-1)), (63, (-1))] Z Z' → Z' 56 18 = Z 56 18 + wy (18 * 19 + x1) → Post (none, h')) : mx_J (tB l D b0 ad Hb tau) mt_185 (d + 18) 0 [some (.ref 56), some (xI 18), some (xI x1), some (xI x2), none] [] h Post := by
    have a56 : 56 < n := lt83 (GB_n hG) rfl
    have s56 : S 56 = .inl (12, [0, 2, 2, 2, 2, 0, 0, 0, 0, 0, 0, 0, 0, 0, 0, 2, 2, 2, 0, 2, 2, 2, 0, 0, 2, 2, 2, 2, 2, 2, 0, 0, 2, 2, 2, 2, 2, 2, 2, 2, 2, 2]) := GB_s hG 56 rfl
    have a63 : 63 < n := lt83 (GB_n hG) rfl
    have s63 : S 63 = .inr (.int, 18, 0) := GB_s hG 63 rfl
    refine mx_J.step (sn_185 0) (fun _ _ => rfl) ?_
    refine Jif_ne (show mx_Sn _ _ 1 (mx_if_ne 63 4) from sn_185 1) (by omega) (fun q1 => ?_) (fun q1 => ?_)
    · skip
      refine mx_J.step (sn_185 63) (fun _ _ => rfl) ?_
      refine mx_J.step (sn_185 64) (fun _ _ => rfl) ?_
      have c73 : ∀ (k2_0 : Int), 0 ≤ k2_0 ∧ k2_0 ≤ 18 → (wy (18 * 19 + k2_0) = wy (18 * 19 + x1) ∧ k2_0 ≤ 18) → mx_J (tB l D b0 ad Hb tau) mt_185 (d + 18) 73 [some (.ref 56), some (xI 18), some (xI x1), some (xI x2), none] [xI k2_0] h Post := by
        intro k2_0 f2_0 f2_1
        refine mx_J.step (ls2 := [some (.ref 56), some (xI 18), some (xI x1), some (xI x2), some (xI k2_0)]) (sn_185 73) (fun _ _ => rfl) ?_
        have c75 : ∀ (m3 : Nat) (w3_4 : Int) (Z4 : xZ) (h4 : mx_H), w3_4 - 0 < (m3 : Int) → 0 ≤ w3_4 ∧ w3_4 ≤ 18 → (Z4 56 18 + wy (18 * 19 + w3_4) = Z 56 18 + wy (18 * 19 + x1)) → XH n s S Z4 h4 → GB n S Z4 → fr' [(56, 18), (61, (-1)), (63, (-1))] Z Z4 → mx_J (tB l D b0 ad Hb tau) mt_185 (d + 18) 75 [some (.ref 56), some (xI 18), some (xI x1), some (xI x2), some (xI w3_4)] [] h4 Post := by
          intro m3
          induction m3 with
          | zero => intro w3_4 Z4 h4 q3 f3_0 f3_1 hx4 hG4 hf4; exact absurd q3 (by omega)
          | succ m3 ih3 =>
            intro w3_4 Z4 h4 q3 f3_0 f3_1 hx4 hG4 hf4
            have b5 : 0 ≤ Z4 56 18 ∧ Z4 56 18 ≤ 385 := hG4.pr 56 18
            refine mx_J.step (sn_185 75) (fun _ _ => rfl) ?_
            refine Jif_le (show mx_Sn _ _ 77 (mx_if_le 107 80) from sn_185 77) (by omega) (fun q6 => ?_) (fun q6 => ?_)
            · skip
              have w0 : wy (18 * 19 + w3_4) = 0 := by rw [show w3_4 = 0 by omega]; exact Wy0 (by omega)
              exact mx_J.ret (sn_185 107) (fun _ _ => rfl) (hP Z4 h4 hx4 hG4 (fr_tr (M := [(56, 18), (61, (-1)), (63, (-1))]) fr_rf (hf4) (M1 := []) rfl rfl) (by omega))
            · skip
              refine mx_J.step (sn_185 80) (fun _ _ => rfl) ?_
              refine JgetR (g := 17) (b := 63) hx4 (show mx_Sn _ _ 81 (mx_getf 12 17 84) from sn_185 81) a56 s56 rfl rfl (hG4.prr 56 17 rfl) ?_
              refine mx_J.step (sn_185 84) (fun _ _ => rfl) ?_
              refine mx_J.step (sn_185 85) (fun _ _ => rfl) ?_
              refine JiastI hx4 (show mx_Sn _ _ 87 (mx_iast 1 88) from sn_185 87) a63 s63 rfl (by omega) (fun Z8 h8 hx8 hE8 => ?_)
              have hG8 := GB_up hG4 hE8 (show 0 ≤ w3_4 ∧ w3_4 ≤ 18 by omega) trivial rfl
              have wr := WRr (n := 18) (m := w3_4) (by omega) (by omega)
              refine mx_J.step (sn_185 88) (fun _ _ => rfl) ?_
              refine mx_J.step (sn_185 89) (fun _ _ => rfl) ?_
              refine mx_J.step (sn_185 90) (fun _ _ => rfl) ?_
              refine Jisub (show mx_Sn _ _ 92 (mx_isub 93) from sn_185 92) ?_
              refine mx_J.step (sn_185 93) (fun _ _ => rfl) ?_
              refine mx_J.step (sn_185 95) (fun _ _ => rfl) ?_
              refine JcI (z := 1) (show mx_Sn _ _ 96 (mx_const (.int 1) 97) from sn_185 96) rfl ?_
              refine Jiadd (show mx_Sn _ _ 97 (mx_iadd 98) from sn_185 97) ?_
              have eq10 : Z8 56 18 = Z4 56 18 := (up_nk hE8 rfl)
              obtain ⟨Z9, h9, hc9, hx9, hG9, hf9, b9⟩ := ct_185_56_le17 (d := d + 0) (l := l) (D := D) (b0 := b0) (ad := ad) (Hb := Hb) (tau := tau) hx8 hG8 (show 0 ≤ 18 - w3_4 ∧ 18 - w3_4 ≤ 17 by omega) (show 0 ≤ w3_4 ∧ w3_4 ≤ 18 by omega) (show 0 ≤ x2 + 1 ∧ x2 + 1 ≤ 18 by omega) (show Z8 56 18 + wy ((18 - w3_4) * 19 + w3_4) ≤ 385 by first | omega | (simp only [eq10]; omega)) (show (x2 + 1) + (18 - w3_4) ≤ 18 by first | omega | (simp only [eq10]; omega))
              try rw [eq10] at b9
              have b11 : 0 ≤ Z9 56 18 ∧ Z9 56 18 ≤ 385 := hG9.pr 56 18
              refine Jcv0 hx8 (show mx_Sn _ _ 98 (mx_callv 185 4 12 101) from sn_185 98) a56 s56 hc9 rfl rfl rfl ?_
              refine Jiinc (z := w3_4) (cz := (-1)) (ls2 := [some (.ref 56), some (xI 18), some (xI x1), some (xI x2), some (xI (w3_4 + (-1)))]) (show mx_Sn _ _ 101 (mx_iinc 4 (-1) 104) from sn_185 101) rfl rfl rfl rfl ?_
              refine mx_J.step (sn_185 104) (fun _ _ => rfl) ?_
              exact ih3 (w3_4 + (-1)) Z9 h9 (by omega) (by omega) (by omega) hx9 hG9 (fr_tr (M := [(56, 18), (61, (-1)), (63, (-1))]) (fr_tr (M := [(56, 18), (61, (-1)), (63, (-1))]) (fr_tr (M := [(56, 18), (61, (-1)), (63, (-1))]) fr_rf (hf4) (M1 := []) rfl rfl) (fr_ua hE8) rfl rfl) (hf9) rfl rfl)
        have b12 : 0 ≤ Z 56 18 ∧ Z 56 18 ≤ 385 := hG.pr 56 18
        exact c75 (Int.toNat (k2_0 - 0) + 1) k2_0 Z h (by omega) (by omega) (by omega) hx hG fr_rf
      refine Jicmp_ge (show mx_Sn _ _ 65 (mx_icmp_ge 72 68) from sn_185 65) (by omega) (by omega) (fun q13 => ?_) (fun q13 => ?_)
      · skip
        refine mx_J.step (sn_185 72) (fun _ _ => rfl) ?_
        exact c73 18 (by omega) (by first | exact ⟨rfl, by omega⟩ | exact ⟨WSs (n := 18) (by omega) (by omega), by omega⟩)
      · skip
        refine mx_J.step (sn_185 68) (fun _ _ => rfl) ?_
        refine mx_J.step (sn_185 69) (fun _ _ => rfl) ?_
        exact c73 x1 (by omega) (by first | exact ⟨rfl, by omega⟩ | exact ⟨WSs (n := 18) (by omega) (by omega), by omega⟩)
    · skip
      exfalso; omega
theorem ct_185_56_i18 {l : Launch} {D : va_G} {b0 : Nat} {ad : Nat → Nat} {Hb : Heap} {tau : Nat → Int64} {d n s : Nat} {S : Nat → xS} {Z : xZ} {h : mx_H} (hx : XH n s S Z h) (hG : GB n S Z)  {x1 x2 : Int} (p1 : 0 ≤ x1 ∧ x1 ≤ 18) (p2 : 0 ≤ x2 ∧ x2 ≤ 18) (k0 : Z 56 18 + wy (18 * 19 + x1) ≤ 385) (k1 : x2 + 18 ≤ 18) : ∃ (Z' : xZ) (h' : mx_H), mx_Ca (tB l D b0 ad Hb tau) (d + 19) 185 [.ref 56, xI 18, xI x1, xI x2] h (none, h') ∧ XH n s S Z' h' ∧ GB n S Z' ∧ fr' [(56, 18), (61, (-1)), (63, (-1))] Z Z' ∧ (Z' 56 18 = Z 56 18 + wy (18 * 19 + x1)) := by
  obtain ⟨r, hca, Z', h', e, q⟩ := Jmt (B := tB l D b0 ad Hb tau) (M := mt_185) (mi := 185) (as := [.ref 56, xI 18, xI x1, xI x2]) (d := d + 18) (ls := [some (.ref 56), some (xI 18), some (xI x1), some (xI x2), none]) rfl rfl rfl rfl rfl rfl (cw_185_56_i18 (l := l) (D := D) (b0 := b0) (ad := ad) (Hb := Hb) (tau := tau) (d := d) (Post := fun r => ∃ (Z' : xZ) (h' : mx_H), r = (none, h') ∧ XH n s S Z' h' ∧ GB n S Z' ∧ fr' [(56, 18), (61, (-1)), (63, (-1))] Z Z' ∧ (Z' 56 18 = Z 56 18 + wy (18 * 19 + x1))) hx hG p1 p2 k0 k1 (fun Z' h' q1 q2 q3 q4 => ⟨Z', h', rfl, q1, q2, q3, q4⟩))
  subst e; exact ⟨Z', h', hca, q⟩
theorem ct_185_56_le18 {l : Launch} {D : va_G} {b0 : Nat} {ad : Nat → Nat} {Hb : Heap} {tau : Nat → Int64} {d n s : Nat} {S : Nat → xS} {Z : xZ} {h : mx_H} (hx : XH n s S Z h) (hG : GB n S Z) {x0 x1 x2 : Int} (p0 : 0 ≤ x0 ∧ x0 ≤ 18) (p1 : 0 ≤ x1 ∧ x1 ≤ 18) (p2 : 0 ≤ x2 ∧ x2 ≤ 18) (k0 : Z 56 18 + wy (x0 * 19 + x1) ≤ 385) (k1 : x2 + x0 ≤ 18) : ∃ (Z' : xZ) (h' : mx_H), mx_Ca (tB l D b0 ad Hb tau) (d + 19) 185 [.ref 56, xI x0, xI x1, xI x2] h (none, h') ∧ XH n s S Z' h' ∧ GB n S Z' ∧ fr' [(56, 18), (61, (-1)), (63, (-1))] Z Z' ∧ (Z' 56 18 = Z 56 18 + wy (x0 * 19 + x1)) := by
  have hc : x0 = 0 ∨ x0 = 1 ∨ x0 = 2 ∨ x0 = 3 ∨ x0 = 4 ∨ x0 = 5 ∨ x0 = 6 ∨ x0 = 7 ∨ x0 = 8 ∨ x0 = 9 ∨ x0 = 10 ∨ x0 = 11 ∨ x0 = 12 ∨ x0 = 13 ∨ x0 = 14 ∨ x0 = 15 ∨ x0 = 16 ∨ x0 = 17 ∨ x0 = 18 := by omega
  rcases hc with hc | hc | hc | hc | hc | hc | hc | hc | hc | hc | hc | hc | hc | hc | hc | hc | hc | hc | hc
  · subst hc
    obtain ⟨Z', h', hca, q1, q2, q3, q4⟩ := ct_185_56_i0 (d := d + 18) (l := l) (D := D) (b0 := b0) (ad := ad) (Hb := Hb) (tau := tau) hx hG p1 p2 k0 k1
    exact ⟨Z', h', hca, q1, q2, fr_tr (M1 := []) fr_rf q3 rfl rfl, q4⟩
  · subst hc
    obtain ⟨Z', h', hca, q1, q2, q3, q4⟩ := ct_185_56_i1 (d := d + 17) (l := l) (D := D) (b0 := b0) (ad := ad) (Hb := Hb) (tau := tau) hx hG p1 p2 k0 k1
    exact ⟨Z', h', hca, q1, q2, fr_tr (M1 := []) fr_rf q3 rfl rfl, q4⟩
  · subst hc
    obtain ⟨Z', h', hca, q1, q2, q3, q4⟩ := ct_185_56_i2 (d := d + 16) (l := l) (D := D) (b0 := b0) (ad := ad) (Hb := Hb) (tau := tau) hx hG p1 p2 k0 k1
    exact ⟨Z', h', hca, q1, q2, fr_tr (M1 := []) fr_rf q3 rfl rfl, q4⟩
  · subst hc
    obtain ⟨Z', h', hca, q1, q2, q3, q4⟩ := ct_185_56_i3 (d := d + 15) (l := l) (D := D) (b0 := b0) (ad := ad) (Hb := Hb) (tau := tau) hx hG p1 p2 k0 k1
    exact ⟨Z', h', hca, q1, q2, fr_tr (M1 := []) fr_rf q3 rfl rfl, q4⟩
  · subst hc
    obtain ⟨Z', h', hca, q1, q2, q3, q4⟩ := ct_185_56_i4 (d := d + 14) (l := l) (D := D) (b0 := b0) (ad := ad) (Hb := Hb) (tau := tau) hx hG p1 p2 k0 k1
    exact ⟨Z', h', hca, q1, q2, fr_tr (M1 := []) fr_rf q3 rfl rfl, q4⟩
  · subst hc
    obtain ⟨Z', h', hca, q1, q2, q3, q4⟩ := ct_185_56_i5 (d := d + 13) (l := l) (D := D) (b0 := b0) (ad := ad) (Hb := Hb) (tau := tau) hx hG p1 p2 k0 k1
    exact ⟨Z', h', hca, q1, q2, fr_tr (M1 := []) fr_rf q3 rfl rfl, q4⟩
  · subst hc
    obtain ⟨Z', h', hca, q1, q2, q3, q4⟩ := ct_185_56_i6 (d := d + 12) (l := l) (D := D) (b0 := b0) (ad := ad) (Hb := Hb) (tau := tau) hx hG p1 p2 k0 k1
    exact ⟨Z', h', hca, q1, q2, fr_tr (M1 := []) fr_rf q3 rfl rfl, q4⟩
  · subst hc
    obtain ⟨Z', h', hca, q1, q2, q3, q4⟩ := ct_185_56_i7 (d := d + 11) (l := l) (D := D) (b0 := b0) (ad := ad) (Hb := Hb) (tau := tau) hx hG p1 p2 k0 k1
    exact ⟨Z', h', hca, q1, q2, fr_tr (M1 := []) fr_rf q3 rfl rfl, q4⟩
  · subst hc
    obtain ⟨Z', h', hca, q1, q2, q3, q4⟩ := ct_185_56_i8 (d := d + 10) (l := l) (D := D) (b0 := b0) (ad := ad) (Hb := Hb) (tau := tau) hx hG p1 p2 k0 k1
    exact ⟨Z', h', hca, q1, q2, fr_tr (M1 := []) fr_rf q3 rfl rfl, q4⟩
  · subst hc
    obtain ⟨Z', h', hca, q1, q2, q3, q4⟩ := ct_185_56_i9 (d := d + 9) (l := l) (D := D) (b0 := b0) (ad := ad) (Hb := Hb) (tau := tau) hx hG p1 p2 k0 k1
    exact ⟨Z', h', hca, q1, q2, fr_tr (M1 := []) fr_rf q3 rfl rfl, q4⟩
  · subst hc
    obtain ⟨Z', h', hca, q1, q2, q3, q4⟩ := ct_185_56_i10 (d := d + 8) (l := l) (D := D) (b0 := b0) (ad := ad) (Hb := Hb) (tau := tau) hx hG p1 p2 k0 k1
    exact ⟨Z', h', hca, q1, q2, fr_tr (M1 := []) fr_rf q3 rfl rfl, q4⟩
  · subst hc
    obtain ⟨Z', h', hca, q1, q2, q3, q4⟩ := ct_185_56_i11 (d := d + 7) (l := l) (D := D) (b0 := b0) (ad := ad) (Hb := Hb) (tau := tau) hx hG p1 p2 k0 k1
    exact ⟨Z', h', hca, q1, q2, fr_tr (M1 := []) fr_rf q3 rfl rfl, q4⟩
  · subst hc
    obtain ⟨Z', h', hca, q1, q2, q3, q4⟩ := ct_185_56_i12 (d := d + 6) (l := l) (D := D) (b0 := b0) (ad := ad) (Hb := Hb) (tau := tau) hx hG p1 p2 k0 k1
    exact ⟨Z', h', hca, q1, q2, fr_tr (M1 := []) fr_rf q3 rfl rfl, q4⟩
  · subst hc
    obtain ⟨Z', h', hca, q1, q2, q3, q4⟩ := ct_185_56_i13 (d := d + 5) (l := l) (D := D) (b0 := b0) (ad := ad) (Hb := Hb) (tau := tau) hx hG p1 p2 k0 k1
    exact ⟨Z', h', hca, q1, q2, fr_tr (M1 := []) fr_rf q3 rfl rfl, q4⟩
  · subst hc
    obtain ⟨Z', h', hca, q1, q2, q3, q4⟩ := ct_185_56_i14 (d := d + 4) (l := l) (D := D) (b0 := b0) (ad := ad) (Hb := Hb) (tau := tau) hx hG p1 p2 k0 k1
    exact ⟨Z', h', hca, q1, q2, fr_tr (M1 := []) fr_rf q3 rfl rfl, q4⟩
  · subst hc
    obtain ⟨Z', h', hca, q1, q2, q3, q4⟩ := ct_185_56_i15 (d := d + 3) (l := l) (D := D) (b0 := b0) (ad := ad) (Hb := Hb) (tau := tau) hx hG p1 p2 k0 k1
    exact ⟨Z', h', hca, q1, q2, fr_tr (M1 := []) fr_rf q3 rfl rfl, q4⟩
  · subst hc
    obtain ⟨Z', h', hca, q1, q2, q3, q4⟩ := ct_185_56_i16 (d := d + 2) (l := l) (D := D) (b0 := b0) (ad := ad) (Hb := Hb) (tau := tau) hx hG p1 p2 k0 k1
    exact ⟨Z', h', hca, q1, q2, fr_tr (M1 := []) fr_rf q3 rfl rfl, q4⟩
  · subst hc
    obtain ⟨Z', h', hca, q1, q2, q3, q4⟩ := ct_185_56_i17 (d := d + 1) (l := l) (D := D) (b0 := b0) (ad := ad) (Hb := Hb) (tau := tau) hx hG p1 p2 k0 k1
    exact ⟨Z', h', hca, q1, q2, fr_tr (M1 := []) fr_rf q3 rfl rfl, q4⟩
  · subst hc
    obtain ⟨Z', h', hca, q1, q2, q3, q4⟩ := ct_185_56_i18 (d := d + 0) (l := l) (D := D) (b0 := b0) (ad := ad) (Hb := Hb) (tau := tau) hx hG p1 p2 k0 k1
    exact ⟨Z', h', hca, q1, q2, fr_tr (M1 := []) fr_rf q3 rfl rfl, q4⟩
set_option maxRecDepth 100000 in
theorem cw_184_56 {l : Launch} {D : va_G} {b0 : Nat} {ad : Nat → Nat} {Hb : Heap} {tau : Nat → Int64} {d n s : Nat} {S : Nat → xS} {Z : xZ} {h : mx_H} {Post : mx_R → Prop} (hx : XH n s S Z h) (hG : GB n S Z)   (hP : ∀ (Z' : xZ) (h' : mx_H), XH n s S Z' h' → GB n S Z' → fr' [(56, 18), (61, (-1)), (63, (-1))] Z Z' → Z' 56 18 = wy (Z 57 1 * 19 + Z 57 1) → Post (none, h')) : mx_J (tB l D b0 ad Hb tau) mt_184 (d + 19) 0 [some (.ref 56)] [] h Post := by
    have a56 : 56 < n := lt83 (GB_n hG) rfl
    have s56 : S 56 = .inl (12, [0, 2, 2, 2, 2, 0, 0, 0, 0, 0, 0, 0, 0, 0, 0, 2, 2, 2, 0, 2, 2, 2, 0, 0, 2, 2, 2, 2, 2, 2, 0, 0, 2, 2, 2, 2, 2, 2, 2, 2, 2, 2]) := GB_s hG 56 rfl
    have a57 : 57 < n := lt83 (GB_n hG) rfl
    have s57 : S 57 = .inr (.int, 2886, 0) := GB_s hG 57 rfl
    refine mx_J.step (sn_184 0) (fun _ _ => rfl) ?_
    refine JcI (z := 0) (show mx_Sn _ _ 1 (mx_const (.int 0) 2) from sn_184 1) rfl ?_
    refine JputI (g := 18) hx (show mx_Sn _ _ 2 (mx_putf 1 12 18 (.int) 5) from sn_184 2) a56 s56 rfl rfl rfl rfl (fun Z1 h1 hx1 hE1 => ?_)
    have hG1 := GB_up hG hE1 (show 0 ≤ 0 ∧ 0 ≤ 385 by omega) trivial rfl
    refine mx_J.step (sn_184 5) (fun _ _ => rfl) ?_
    refine mx_J.step (sn_184 6) (fun _ _ => rfl) ?_
    refine JgetR (g := 1) (b := 57) hx1 (show mx_Sn _ _ 7 (mx_getf 12 1 10) from sn_184 7) a56 s56 rfl rfl (hG1.prr 56 1 rfl) ?_
    refine JcI (z := 1) (show mx_Sn _ _ 10 (mx_const (.int 1) 11) from sn_184 10) rfl ?_
    have b3 : 0 ≤ Z 57 1 ∧ Z 57 1 ≤ 18 := by have hq := GB_ex hG 57 1; replace hq : f57 (1 % 962) (Z 57 1) := hq; unfold f57 at hq; omega
    have b4 : (-2147483648) ≤ Z 57 1 ∧ Z 57 1 ≤ 2147483647 := hG.pr 57 1
    refine JialdI (z := Z 57 1) hx1 (show mx_Sn _ _ 11 (mx_iald 12) from sn_184 11) a57 s57 (by omega) (up_nk hE1 rfl) ?_
    have w0 := W0 (n := (Z 57 1)) (by omega)
    refine mx_J.step (sn_184 12) (fun _ _ => rfl) ?_
    refine JgetR (g := 1) (b := 57) hx1 (show mx_Sn _ _ 13 (mx_getf 12 1 16) from sn_184 13) a56 s56 rfl rfl (hG1.prr 56 1 rfl) ?_
    refine JcI (z := 1) (show mx_Sn _ _ 16 (mx_const (.int 1) 17) from sn_184 16) rfl ?_
    refine JialdI (z := Z 57 1) hx1 (show mx_Sn _ _ 17 (mx_iald 18) from sn_184 17) a57 s57 (by omega) (up_nk hE1 rfl) ?_
    refine JcI (z := 0) (show mx_Sn _ _ 18 (mx_const (.int 0) 19) from sn_184 18) rfl ?_
    have eq7 : Z1 56 18 = 0 := (up_at hE1)
    obtain ⟨Z6, h6, hc6, hx6, hG6, hf6, b6⟩ := ct_185_56_le18 (d := d + 0) (l := l) (D := D) (b0 := b0) (ad := ad) (Hb := Hb) (tau := tau) hx1 hG1 (show 0 ≤ Z 57 1 ∧ Z 57 1 ≤ 18 by omega) (show 0 ≤ Z 57 1 ∧ Z 57 1 ≤ 18 by omega) (show 0 ≤ 0 ∧ 0 ≤ 18 by omega) (show Z1 56 18 + wy ((Z 57 1) * 19 + (Z 57 1)) ≤ 385 by first | omega | (simp only [eq7]; omega)) (show 0 + (Z 57 1) ≤ 18 by first | omega | (simp only [eq7]; omega))
    try rw [eq7] at b6
    have b8 : 0 ≤ Z6 56 18 ∧ Z6 56 18 ≤ 385 := hG6.pr 56 18
    refine Jcv0 hx1 (show mx_Sn _ _ 19 (mx_callv 185 4 12 22) from sn_184 19) a56 s56 hc6 rfl rfl rfl ?_
    have eq9 : Z6 57 1 = Z 57 1 := ((hf6 57 1 rfl).trans (up_nk hE1 rfl))
    exact mx_J.ret (sn_184 22) (fun _ _ => rfl) (hP Z6 h6 hx6 hG6 (fr_tr (M := [(56, 18), (61, (-1)), (63, (-1))]) (fr_tr (M := [(56, 18), (61, (-1)), (63, (-1))]) fr_rf (fr_up hE1) (M1 := []) rfl rfl) (hf6) rfl rfl) (by omega))
theorem ct_184_56 {l : Launch} {D : va_G} {b0 : Nat} {ad : Nat → Nat} {Hb : Heap} {tau : Nat → Int64} {d n s : Nat} {S : Nat → xS} {Z : xZ} {h : mx_H} (hx : XH n s S Z h) (hG : GB n S Z)   : ∃ (Z' : xZ) (h' : mx_H), mx_Ca (tB l D b0 ad Hb tau) (d + 20) 184 [.ref 56] h (none, h') ∧ XH n s S Z' h' ∧ GB n S Z' ∧ fr' [(56, 18), (61, (-1)), (63, (-1))] Z Z' ∧ (Z' 56 18 = wy (Z 57 1 * 19 + Z 57 1)) := by
  obtain ⟨r, hca, Z', h', e, q⟩ := Jmt (B := tB l D b0 ad Hb tau) (M := mt_184) (mi := 184) (as := [.ref 56]) (d := d + 19) (ls := [some (.ref 56)]) rfl rfl rfl rfl rfl rfl (cw_184_56 (l := l) (D := D) (b0 := b0) (ad := ad) (Hb := Hb) (tau := tau) (d := d) (Post := fun r => ∃ (Z' : xZ) (h' : mx_H), r = (none, h') ∧ XH n s S Z' h' ∧ GB n S Z' ∧ fr' [(56, 18), (61, (-1)), (63, (-1))] Z Z' ∧ (Z' 56 18 = wy (Z 57 1 * 19 + Z 57 1))) hx hG  (fun Z' h' q1 q2 q3 q4 => ⟨Z', h', rfl, q1, q2, q3, q4⟩))
  subst e; exact ⟨Z', h', hca, q⟩
set_option maxRecDepth 100000 in
theorem cw_157_56 {l : Launch} {D : va_G} {b0 : Nat} {ad : Nat → Nat} {Hb : Heap} {tau : Nat → Int64} {d n s : Nat} {S : Nat → xS} {Z : xZ} {h : mx_H} {Post : mx_R → Prop} (hx : XH n s S Z h) (hG : GI n S Z)  {x0 x1 x2 x3 x4 : Int} (p0 : (-2147483648) ≤ x0 ∧ x0 ≤ 2147483647) (p1 : (-2147483648) ≤ x1 ∧ x1 ≤ 2147483647) (p2 : (-2147483648) ≤ x2 ∧ x2 ≤ 2147483647) (p3 : (-2147483648) ≤ x3 ∧ x3 ≤ 2147483647) (p4 : (-2147483648) ≤ x4 ∧ x4 ≤ 2147483647) (hP : ∀ (z : Int) (Z' : xZ) (h' : mx_H), XH n s S Z' h' → GI n S Z' → fr' [(56, 0), (56, 5), (59, (-1))] Z Z' → (Z 56 5 ≤ 880 → FBm Z Z' (Z 56 5) x0 x1 x2 x3 x4) ∧ (880 < Z 56 5 → ∀ i, Z' 59 i = Z 59 i) ∧ (-5) ≤ z ∧ z ≤ 900 ∧ ((880 < Z 56 5 → z = -5 ∧ Z' 56 5 = Z 56 5) ∧ (Z 56 5 ≤ 880 → Z' 56 5 = Z 56 5 + 20 ∧ z = Z 56 5 + 20)) → Post (some (xI z), h')) : mx_J (tB l D b0 ad Hb tau) mt_157 (d + 0) 0 [some (.ref 56), some (xI x0), some (xI x1), some (xI x2), some (xI x3), some (xI x4), none, none] [] h Post := by
    have a56 : 56 < n := lt83 (GI_n hG) rfl
    have s56 : S 56 = .inl (12, [0, 2, 2, 2, 2, 0, 0, 0, 0, 0, 0, 0, 0, 0, 0, 2, 2, 2, 0, 2, 2, 2, 0, 0, 2, 2, 2, 2, 2, 2, 0, 0, 2, 2, 2, 2, 2, 2, 2, 2, 2, 2]) := GI_s hG 56 rfl
    have a59 : 59 < n := lt83 (GI_n hG) rfl
    have s59 : S 59 = .inr (.int, 900, 0) := GI_s hG 59 rfl
    refine mx_J.step (sn_157 0) (fun _ _ => rfl) ?_
    refine JcI (z := 0) (show mx_Sn _ _ 1 (mx_const (.int 0) 2) from sn_157 1) rfl ?_
    refine JputI (g := 0) hx (show mx_Sn _ _ 2 (mx_putf 1 12 0 (.int) 5) from sn_157 2) a56 s56 rfl rfl rfl rfl (fun Z1 h1 hx1 hE1 => ?_)
    have hG1 := GI_up hG hE1 (show (-2147483648) ≤ 0 ∧ 0 ≤ 2147483647 by omega) trivial rfl
    refine mx_J.step (sn_157 5) (fun _ _ => rfl) ?_
    have b3 : 0 ≤ Z 56 5 ∧ Z 56 5 ≤ 900 := hG.pr 56 5
    refine JgetI (g := 5) (z := Z 56 5) hx1 (show mx_Sn _ _ 6 (mx_getf 12 5 9) from sn_157 6) a56 s56 rfl rfl (up_ni hE1 (by decide)) ?_
    refine JcI (z := 20) (show mx_Sn _ _ 9 (mx_const (.int 20) 11) from sn_157 9) rfl ?_
    refine Jiadd (show mx_Sn _ _ 11 (mx_iadd 12) from sn_157 11) ?_
    refine JcI (z := 900) (show mx_Sn _ _ 12 (mx_const (.int 900) 15) from sn_157 12) rfl ?_
    refine Jicmp_le (show mx_Sn _ _ 15 (mx_icmp_le 21 18) from sn_157 15) (by omega) (by omega) (fun q4 => ?_) (fun q4 => ?_)
    · skip
      refine JcI (z := 0) (show mx_Sn _ _ 21 (mx_const (.int 0) 22) from sn_157 21) rfl ?_
      refine mx_J.step (ls2 := [some (.ref 56), some (xI x0), some (xI x1), some (xI x2), some (xI x3), some (xI x4), some (xI 0), none]) (sn_157 22) (fun _ _ => rfl) ?_
      have c24 : ∀ (m5 : Nat) (w5_6 : Int) (u5_7 : Option Value) (Z6 : xZ) (h6 : mx_H), 20 - w5_6 < (m5 : Int) → 0 ≤ w5_6 ∧ w5_6 ≤ 20 → (Z6 56 5 = Z 56 5 + w5_6 ∧ Z 56 5 ≤ 880) → FG Z Z6 (Z 56 5) w5_6 x0 x1 x2 x3 x4 → XH n s S Z6 h6 → GI n S Z6 → fr' [(56, 5), (59, (-1))] Z1 Z6 → mx_J (tB l D b0 ad Hb tau) mt_157 (d + 0) 24 [some (.ref 56), some (xI x0), some (xI x1), some (xI x2), some (xI x3), some (xI x4), some (xI w5_6), u5_7] [] h6 Post := by
        intro m5
        induction m5 with
        | zero => intro w5_6 u5_7 Z6 h6 q5 f5_0 f5_1 f5_2 hx6 hG6 hf6; exact absurd q5 (by omega)
        | succ m5 ih5 =>
          intro w5_6 u5_7 Z6 h6 q5 f5_0 f5_1 f5_2 hx6 hG6 hf6
          have b7 : 0 ≤ Z6 56 5 ∧ Z6 56 5 ≤ 900 := hG6.pr 56 5
          refine mx_J.step (sn_157 24) (fun _ _ => rfl) ?_
          refine JcI (z := 20) (show mx_Sn _ _ 26 (mx_const (.int 20) 28) from sn_157 26) rfl ?_
          refine Jicmp_ge (show mx_Sn _ _ 28 (mx_icmp_ge 121 31) from sn_157 28) (by omega) (by omega) (fun q8 => ?_) (fun q8 => ?_)
          · skip
            refine mx_J.step (sn_157 121) (fun _ _ => rfl) ?_
            refine JgetI (g := 5) (z := Z6 56 5) hx6 (show mx_Sn _ _ 122 (mx_getf 12 5 125) from sn_157 122) a56 s56 rfl rfl rfl ?_
            exact mx_J.ret (sn_157 125) (fun _ _ => rfl) (hP (Z6 56 5) Z6 h6 hx6 hG6 (fr_tr (M := [(56, 0), (56, 5), (59, (-1))]) (fr_tr (M := [(56, 0), (56, 5), (59, (-1))]) fr_rf (fr_up hE1) (M1 := []) rfl rfl) (hf6) rfl rfl) ⟨(fun _ => FG_e ((show w5_6 = (20 : Int) by omega) ▸ (by assumption))), (fun q => absurd q (by omega)), by omega⟩)
          · skip
            refine mx_J.step (sn_157 31) (fun _ _ => rfl) ?_
            refine JcI (z := 4) (show mx_Sn _ _ 33 (mx_const (.int 4) 34) from sn_157 33) rfl ?_
            have c77 : ∀ (k10_0 : Int), (-2147483648) ≤ k10_0 ∧ k10_0 ≤ 2147483647 → k10_0 = fsel x0 x1 x2 x3 x4 w5_6 → mx_J (tB l D b0 ad Hb tau) mt_157 (d + 0) 77 [some (.ref 56), some (xI x0), some (xI x1), some (xI x2), some (xI x3), some (xI x4), some (xI w5_6), u5_7] [xI k10_0] h6 Post := by
              intro k10_0 f10_0 f10_1
              refine mx_J.step (ls2 := [some (.ref 56), some (xI x0), some (xI x1), some (xI x2), some (xI x3), some (xI x4), some (xI w5_6), some (xI k10_0)]) (sn_157 77) (fun _ _ => rfl) ?_
              refine mx_J.step (sn_157 79) (fun _ _ => rfl) ?_
              refine JgetR (g := 3) (b := 59) hx6 (show mx_Sn _ _ 80 (mx_getf 12 3 83) from sn_157 80) a56 s56 rfl rfl (hG6.prr 56 3 rfl) ?_
              refine mx_J.step (sn_157 83) (fun _ _ => rfl) ?_
              refine JgetI (g := 5) (z := Z6 56 5) hx6 (show mx_Sn _ _ 84 (mx_getf 12 5 87) from sn_157 84) a56 s56 rfl rfl rfl ?_
              refine mx_J.step (sn_157 87) (fun _ _ => rfl) ?_
              refine JcI (z := 24) (show mx_Sn _ _ 89 (mx_const (.int 24) 91) from sn_157 89) rfl ?_
              refine JcI (z := 8) (show mx_Sn _ _ 91 (mx_const (.int 8) 93) from sn_157 91) rfl ?_
              refine mx_J.step (sn_157 93) (fun _ _ => rfl) ?_
              refine JcI (z := 4) (show mx_Sn _ _ 95 (mx_const (.int 4) 96) from sn_157 95) rfl ?_
              refine Jirem (show mx_Sn _ _ 96 (mx_irem 97) from sn_157 96) (by omega) (by omega) ?_
              refine Jimul (show mx_Sn _ _ 97 (mx_imul 98) from sn_157 97) ?_
              refine Jisub (show mx_Sn _ _ 98 (mx_isub 99) from sn_157 98) ?_
              refine JishrB (r := w5_6 % 4) (show mx_Sn _ _ 99 (mx_ishr 100) from sn_157 99) (by omega) (by omega) (by omega) ?_
              refine JcI (z := 255) (show mx_Sn _ _ 100 (mx_const (.int 255) 103) from sn_157 100) rfl ?_
              refine JiandM (q := 256) 8 (show mx_Sn _ _ 103 (mx_iand 104) from sn_157 103) rfl rfl rfl ?_
              refine JiastI hx6 (show mx_Sn _ _ 104 (mx_iast 1 105) from sn_157 104) a59 s59 rfl (by omega) (fun Z13 h13 hx13 hE13 => ?_)
              have hG13 := GI_up hG6 hE13 (show 0 ≤ (btq k10_0 (w5_6 % 4)) % 256 ∧ (btq k10_0 (w5_6 % 4)) % 256 ≤ 255 by omega) trivial rfl
              refine mx_J.step (sn_157 105) (fun _ _ => rfl) ?_
              refine mx_J.step (sn_157 106) (fun _ _ => rfl) ?_
              refine JgetI (g := 5) (z := Z6 56 5) hx13 (show mx_Sn _ _ 107 (mx_getf 12 5 110) from sn_157 107) a56 s56 rfl rfl (up_nk hE13 rfl) ?_
              refine JcI (z := 1) (show mx_Sn _ _ 110 (mx_const (.int 1) 111) from sn_157 110) rfl ?_
              refine Jiadd (show mx_Sn _ _ 111 (mx_iadd 112) from sn_157 111) ?_
              refine JputI (g := 5) hx13 (show mx_Sn _ _ 112 (mx_putf 1 12 5 (.int) 115) from sn_157 112) a56 s56 rfl rfl rfl rfl (fun Z15 h15 hx15 hE15 => ?_)
              have hG15 := GI_up hG13 hE15 (show 0 ≤ (Z6 56 5) + 1 ∧ (Z6 56 5) + 1 ≤ 900 by omega) trivial rfl
              refine Jiinc (z := w5_6) (cz := 1) (ls2 := [some (.ref 56), some (xI x0), some (xI x1), some (xI x2), some (xI x3), some (xI x4), some (xI (w5_6 + 1)), some (xI k10_0)]) (show mx_Sn _ _ 115 (mx_iinc 6 1 118) from sn_157 115) rfl rfl rfl rfl ?_
              refine mx_J.step (sn_157 118) (fun _ _ => rfl) ?_
              have eq16 : Z15 56 5 = (Z6 56 5) + 1 := (up_at hE15)
              exact ih5 (w5_6 + 1) (some (xI k10_0)) Z15 h15 (by omega) (by omega) (by omega) (FG_s (by assumption) hE13 hE15 (by omega) (by omega) (by assumption) (by omega)) hx15 hG15 (fr_tr (M := [(56, 5), (59, (-1))]) (fr_tr (M := [(56, 5), (59, (-1))]) (fr_tr (M := [(56, 5), (59, (-1))]) fr_rf (hf6) (M1 := []) rfl rfl) (fr_ua hE13) rfl rfl) (fr_up hE15) rfl rfl)
            refine Jicmp_ge (show mx_Sn _ _ 34 (mx_icmp_ge 41 37) from sn_157 34) (by omega) (by omega) (fun q17 => ?_) (fun q17 => ?_)
            · skip
              refine mx_J.step (sn_157 41) (fun _ _ => rfl) ?_
              refine JcI (z := 8) (show mx_Sn _ _ 43 (mx_const (.int 8) 45) from sn_157 43) rfl ?_
              refine Jicmp_ge (show mx_Sn _ _ 45 (mx_icmp_ge 52 48) from sn_157 45) (by omega) (by omega) (fun q18 => ?_) (fun q18 => ?_)
              · skip
                refine mx_J.step (sn_157 52) (fun _ _ => rfl) ?_
                refine JcI (z := 12) (show mx_Sn _ _ 54 (mx_const (.int 12) 56) from sn_157 54) rfl ?_
                refine Jicmp_ge (show mx_Sn _ _ 56 (mx_icmp_ge 63 59) from sn_157 56) (by omega) (by omega) (fun q19 => ?_) (fun q19 => ?_)
                · skip
                  refine mx_J.step (sn_157 63) (fun _ _ => rfl) ?_
                  refine JcI (z := 16) (show mx_Sn _ _ 65 (mx_const (.int 16) 67) from sn_157 65) rfl ?_
                  refine Jicmp_ge (show mx_Sn _ _ 67 (mx_icmp_ge 75 70) from sn_157 67) (by omega) (by omega) (fun q20 => ?_) (fun q20 => ?_)
                  · skip
                    refine mx_J.step (sn_157 75) (fun _ _ => rfl) ?_
                    exact c77 x4 (by omega) (fsl_4 (by omega))
                  · skip
                    refine mx_J.step (sn_157 70) (fun _ _ => rfl) ?_
                    refine mx_J.step (sn_157 72) (fun _ _ => rfl) ?_
                    exact c77 x3 (by omega) (fsl_3 (by omega))
                · skip
                  refine mx_J.step (sn_157 59) (fun _ _ => rfl) ?_
                  refine mx_J.step (sn_157 60) (fun _ _ => rfl) ?_
                  exact c77 x2 (by omega) (fsl_2 (by omega))
              · skip
                refine mx_J.step (sn_157 48) (fun _ _ => rfl) ?_
                refine mx_J.step (sn_157 49) (fun _ _ => rfl) ?_
                exact c77 x1 (by omega) (fsl_1 (by omega))
            · skip
              refine mx_J.step (sn_157 37) (fun _ _ => rfl) ?_
              refine mx_J.step (sn_157 38) (fun _ _ => rfl) ?_
              exact c77 x0 (by omega) (fsl_0 (by omega))
      have eq21 : Z1 56 5 = Z 56 5 := (up_ni hE1 (by decide))
      exact c24 (Int.toNat (20 - 0) + 1) 0 none Z1 h1 (by omega) (by omega) (by omega) (FG_0 (fun i => (up_nk hE1 rfl))) hx1 hG1 fr_rf
    · skip
      refine JcI (z := (-5)) (show mx_Sn _ _ 18 (mx_const (.int (-5)) 20) from sn_157 18) rfl ?_
      have eq22 : Z1 56 5 = Z 56 5 := (up_ni hE1 (by decide))
      have eq23 : Z1 56 5 = Z 56 5 := (up_ni hE1 (by decide))
      exact mx_J.ret (sn_157 20) (fun _ _ => rfl) (hP (-5) Z1 h1 hx1 hG1 (fr_tr (M := [(56, 0), (56, 5), (59, (-1))]) fr_rf (fr_up hE1) (M1 := []) rfl rfl) ⟨(fun q => absurd q (by omega)), (fun _ => (fun i => (up_nk hE1 rfl))), by omega⟩)
theorem ct_157_56 {l : Launch} {D : va_G} {b0 : Nat} {ad : Nat → Nat} {Hb : Heap} {tau : Nat → Int64} {d n s : Nat} {S : Nat → xS} {Z : xZ} {h : mx_H} (hx : XH n s S Z h) (hG : GI n S Z)  {x0 x1 x2 x3 x4 : Int} (p0 : (-2147483648) ≤ x0 ∧ x0 ≤ 2147483647) (p1 : (-2147483648) ≤ x1 ∧ x1 ≤ 2147483647) (p2 : (-2147483648) ≤ x2 ∧ x2 ≤ 2147483647) (p3 : (-2147483648) ≤ x3 ∧ x3 ≤ 2147483647) (p4 : (-2147483648) ≤ x4 ∧ x4 ≤ 2147483647) : ∃ (z : Int) (Z' : xZ) (h' : mx_H), mx_Ca (tB l D b0 ad Hb tau) (d + 1) 157 [.ref 56, xI x0, xI x1, xI x2, xI x3, xI x4] h (some (xI z), h') ∧ XH n s S Z' h' ∧ GI n S Z' ∧ fr' [(56, 0), (56, 5), (59, (-1))] Z Z' ∧ ((Z 56 5 ≤ 880 → FBm Z Z' (Z 56 5) x0 x1 x2 x3 x4) ∧ (880 < Z 56 5 → ∀ i, Z' 59 i = Z 59 i) ∧ (-5) ≤ z ∧ z ≤ 900 ∧ ((880 < Z 56 5 → z = -5 ∧ Z' 56 5 = Z 56 5) ∧ (Z 56 5 ≤ 880 → Z' 56 5 = Z 56 5 + 20 ∧ z = Z 56 5 + 20))) := by
  obtain ⟨r, hca, z, Z', h', e, q⟩ := Jmt (B := tB l D b0 ad Hb tau) (M := mt_157) (mi := 157) (as := [.ref 56, xI x0, xI x1, xI x2, xI x3, xI x4]) (d := d + 0) (ls := [some (.ref 56), some (xI x0), some (xI x1), some (xI x2), some (xI x3), some (xI x4), none, none]) rfl rfl rfl rfl rfl rfl (cw_157_56 (l := l) (D := D) (b0 := b0) (ad := ad) (Hb := Hb) (tau := tau) (d := d) (Post := fun r => ∃ (z : Int) (Z' : xZ) (h' : mx_H), r = (some (xI z), h') ∧ XH n s S Z' h' ∧ GI n S Z' ∧ fr' [(56, 0), (56, 5), (59, (-1))] Z Z' ∧ ((Z 56 5 ≤ 880 → FBm Z Z' (Z 56 5) x0 x1 x2 x3 x4) ∧ (880 < Z 56 5 → ∀ i, Z' 59 i = Z 59 i) ∧ (-5) ≤ z ∧ z ≤ 900 ∧ ((880 < Z 56 5 → z = -5 ∧ Z' 56 5 = Z 56 5) ∧ (Z 56 5 ≤ 880 → Z' 56 5 = Z 56 5 + 20 ∧ z = Z 56 5 + 20)))) hx hG p0 p1 p2 p3 p4 (fun z Z' h' q1 q2 q3 q4 => ⟨z, Z', h', rfl, q1, q2, q3, q4⟩))
  subst e; exact ⟨z, Z', h', hca, q⟩
set_option maxRecDepth 100000 in
theorem cw_281_56 {l : Launch} {D : va_G} {b0 : Nat} {ad : Nat → Nat} {Hb : Heap} {tau : Nat → Int64} {d n s : Nat} {S : Nat → xS} {Z : xZ} {h : mx_H} {Post : mx_R → Prop} (hx : XH n s S Z h) (hG : GI n S Z)  {x0 : Int} (p0 : (-2147483648) ≤ x0 ∧ x0 ≤ 2147483647) (hP : ∀ (z : Int) (Z' : xZ) (h' : mx_H), XH n s S Z' h' → GI n S Z' → fr' [(56, 0), (57, (-1)), (58, (-1))] Z Z' → (-2) ≤ z ∧ z ≤ 0 ∧ (((x0 < 0 ∨ 1 < x0) → z = -2) ∧ (¬ (x0 < 0 ∨ 1 < x0) → z = 0) ∧ (¬ x0 = 0 → Z' 58 0 = Z 58 0) ∧ (¬ x0 = 1 → Z' 58 1 = Z 58 1) ∧ (x0 = 0 → Z' 58 0 = 1) ∧ (x0 = 1 → Z' 58 1 = 1)) → Post (some (xI z), h')) : mx_J (tB l D b0 ad Hb tau) mt_281 (d + 1) 0 [some (.ref 56), some (xI x0), none] [] h Post := by
    have a56 : 56 < n := lt83 (GI_n hG) rfl
    have s56 : S 56 = .inl (12, [0, 2, 2, 2, 2, 0, 0, 0, 0, 0, 0, 0, 0, 0, 0, 2, 2, 2, 0, 2, 2, 2, 0, 0, 2, 2, 2, 2, 2, 2, 0, 0, 2, 2, 2, 2, 2, 2, 2, 2, 2, 2]) := GI_s hG 56 rfl
    have a57 : 57 < n := lt83 (GI_n hG) rfl
    have s57 : S 57 = .inr (.int, 2886, 0) := GI_s hG 57 rfl
    have a58 : 58 < n := lt83 (GI_n hG) rfl
    have s58 : S 58 = .inr (.boolean, 2, 0) := GI_s hG 58 rfl
    refine mx_J.step (sn_281 0) (fun _ _ => rfl) ?_
    refine JcI (z := 0) (show mx_Sn _ _ 1 (mx_const (.int 0) 2) from sn_281 1) rfl ?_
    refine JputI (g := 0) hx (show mx_Sn _ _ 2 (mx_putf 1 12 0 (.int) 5) from sn_281 2) a56 s56 rfl rfl rfl rfl (fun Z1 h1 hx1 hE1 => ?_)
    have hG1 := GI_up hG hE1 (show (-2147483648) ≤ 0 ∧ 0 ≤ 2147483647 by omega) trivial rfl
    refine mx_J.step (sn_281 5) (fun _ _ => rfl) ?_
    refine Ji2l (show mx_Sn _ _ 6 (mx_i2l 7) from sn_281 6) (by omega) ?_
    refine JcL (z := 0) (show mx_Sn _ _ 7 (mx_const (.long 0) 8) from sn_281 7) rfl ?_
    refine JcL (z := 1) (show mx_Sn _ _ 8 (mx_const (.long 1) 9) from sn_281 8) rfl ?_
    obtain ⟨z2, hc2, b2⟩ := ct_154_ (d := d + 0) (l := l) (D := D) (b0 := b0) (ad := ad) (Hb := Hb) (tau := tau) hx1 hG1 (show (-9223372036854775808) ≤ x0 ∧ x0 ≤ 9223372036854775807 by omega) (show (-9223372036854775808) ≤ 0 ∧ 0 ≤ 9223372036854775807 by omega) (show (-9223372036854775808) ≤ 1 ∧ 1 ≤ 9223372036854775807 by omega)
    refine Jcs (show mx_Sn _ _ 9 (mx_calls 154 3 12) from sn_281 9) hc2 rfl rfl rfl ?_
    refine Jif_ne (show mx_Sn _ _ 12 (mx_if_ne 18 15) from sn_281 12) (by omega) (fun q3 => ?_) (fun q3 => ?_)
    · skip
      have hGo : GI n S Z1 := hG1
      have hG1 := GI_gb hGo
      refine JcI (z := 0) (show mx_Sn _ _ 18 (mx_const (.int 0) 19) from sn_281 18) rfl ?_
      refine mx_J.step (ls2 := [some (.ref 56), some (xI x0), some (xI 0)]) (sn_281 19) (fun _ _ => rfl) ?_
      have c20 : ∀ (m4 : Nat) (w4_2 : Int) (Z5 : xZ) (h5 : mx_H), 962 - w4_2 < (m4 : Int) → 0 ≤ w4_2 ∧ w4_2 ≤ 962 → CP Z5 Z1 (962 * (x0 + 1)) w4_2 → XH n s S Z5 h5 → GB n S Z5 → fr' [(57, (-1))] Z1 Z5 → mx_J (tB l D b0 ad Hb tau) mt_281 (d + 1) 20 [some (.ref 56), some (xI x0), some (xI w4_2)] [] h5 Post := by
        intro m4
        induction m4 with
        | zero => intro w4_2 Z5 h5 q4 f4_0 f4_1 hx5 hG5 hf5; exact absurd q4 (by omega)
        | succ m4 ih4 =>
          intro w4_2 Z5 h5 q4 f4_0 f4_1 hx5 hG5 hf5
          refine mx_J.step (sn_281 20) (fun _ _ => rfl) ?_
          refine JcI (z := 962) (show mx_Sn _ _ 21 (mx_const (.int 962) 24) from sn_281 21) rfl ?_
          refine Jicmp_ge (show mx_Sn _ _ 24 (mx_icmp_ge 53 27) from sn_281 24) (by omega) (by omega) (fun q6 => ?_) (fun q6 => ?_)
          · skip
            have cz : CP Z5 Z1 (962 * (x0 + 1)) 962 := (show w4_2 = (962 : Int) by omega) ▸ (by assumption : CP Z5 Z1 (962 * (x0 + 1)) w4_2)
            refine mx_J.step (sn_281 53) (fun _ _ => rfl) ?_
            refine JgetR (g := 2) (b := 58) hx5 (show mx_Sn _ _ 54 (mx_getf 12 2 57) from sn_281 54) a56 s56 rfl rfl (hG5.prr 56 2 rfl) ?_
            refine mx_J.step (sn_281 57) (fun _ _ => rfl) ?_
            refine JcI (z := 1) (show mx_Sn _ _ 58 (mx_const (.int 1) 59) from sn_281 58) rfl ?_
            have eq8 : Z5 58 0 = Z 58 0 := ((hf5 58 0 rfl).trans (up_nk hE1 rfl))
            have b9 : 0 ≤ Z 58 0 ∧ Z 58 0 ≤ 1 := (GI_gb hG).pr 58 0
            have eq10 : Z5 58 1 = Z 58 1 := ((hf5 58 1 rfl).trans (up_nk hE1 rfl))
            have b11 : 0 ≤ Z 58 1 ∧ Z 58 1 ≤ 1 := (GI_gb hG).pr 58 1
            refine JzastI hx5 (show mx_Sn _ _ 59 (mx_zast 1 60) from sn_281 59) a58 s58 rfl (by omega) (by omega) (fun Z12 h12 hx12 hE12 => ?_)
            have hG12 := GB_up hG5 hE12 (show 0 ≤ 1 ∧ 1 ≤ 1 by omega) trivial rfl
            have i0 : x0 = 0 → Z12 58 0 = 1 := fun e => by have q := up_at hE12; rw [e] at q; exact q
            have i1 : x0 = 1 → Z12 58 1 = 1 := fun e => by have q := up_at hE12; rw [e] at q; exact q
            have j0 : ¬ x0 = 0 → Z12 58 0 = Z5 58 0 := fun e => up_ni hE12 (fun q => e q.symm)
            have j1 : ¬ x0 = 1 → Z12 58 1 = Z5 58 1 := fun e => up_ni hE12 (fun q => e q.symm)
            have eq13 : Z1 58 0 = Z 58 0 := (up_nk hE1 rfl)
            have eq14 : Z1 58 1 = Z 58 1 := (up_nk hE1 rfl)
            have hGx15 : GI n S Z12 := ⟨hG12, im_fin hGo (off := 962 * (x0 + 1)) (by omega) (cp_c cz (fun i => up_nk hE12 rfl)) ((fr_tr (M := [(56, 0), (57, (-1)), (58, (-1))]) (fr_tr (M := [(56, 0), (57, (-1)), (58, (-1))]) fr_rf (hf5) (M1 := []) rfl rfl) (fr_ua hE12) rfl rfl) 7 5 rfl) (fun i => (fr_tr (M := [(56, 0), (57, (-1)), (58, (-1))]) (fr_tr (M := [(56, 0), (57, (-1)), (58, (-1))]) fr_rf (hf5) (M1 := []) rfl rfl) (fr_ua hE12) rfl rfl) 9 i rfl) (fun i => (fr_tr (M := [(56, 0), (57, (-1)), (58, (-1))]) (fr_tr (M := [(56, 0), (57, (-1)), (58, (-1))]) fr_rf (hf5) (M1 := []) rfl rfl) (fr_ua hE12) rfl rfl) 10 i rfl) ((fr_tr (M := [(56, 0), (57, (-1)), (58, (-1))]) (fr_tr (M := [(56, 0), (57, (-1)), (58, (-1))]) fr_rf (hf5) (M1 := []) rfl rfl) (fr_ua hE12) rfl rfl) 56 18 rfl)⟩
            have hG12 := hGx15
            refine JcI (z := 0) (show mx_Sn _ _ 60 (mx_const (.int 0) 61) from sn_281 60) rfl ?_
            have b16 : 0 ≤ Z12 58 0 ∧ Z12 58 0 ≤ 1 := hG12.pr 58 0
            have b17 : 0 ≤ Z12 58 1 ∧ Z12 58 1 ≤ 1 := hG12.pr 58 1
            exact mx_J.ret (sn_281 61) (fun _ _ => rfl) (hP 0 Z12 h12 hx12 hG12 (fr_tr (M := [(56, 0), (57, (-1)), (58, (-1))]) (fr_tr (M := [(56, 0), (57, (-1)), (58, (-1))]) (fr_tr (M := [(56, 0), (57, (-1)), (58, (-1))]) fr_rf (fr_up hE1) (M1 := []) rfl rfl) (hf5) rfl rfl) (fr_ua hE12) rfl rfl) (by omega))
          · skip
            refine mx_J.step (sn_281 27) (fun _ _ => rfl) ?_
            refine JgetR (g := 1) (b := 57) hx5 (show mx_Sn _ _ 28 (mx_getf 12 1 31) from sn_281 28) a56 s56 rfl rfl (hG5.prr 56 1 rfl) ?_
            refine JcI (z := 962) (show mx_Sn _ _ 31 (mx_const (.int 962) 34) from sn_281 31) rfl ?_
            refine mx_J.step (sn_281 34) (fun _ _ => rfl) ?_
            refine JcI (z := 1) (show mx_Sn _ _ 35 (mx_const (.int 1) 36) from sn_281 35) rfl ?_
            refine Jiadd (show mx_Sn _ _ 36 (mx_iadd 37) from sn_281 36) ?_
            refine Jimul (show mx_Sn _ _ 37 (mx_imul 38) from sn_281 37) ?_
            refine mx_J.step (sn_281 38) (fun _ _ => rfl) ?_
            refine Jiadd (show mx_Sn _ _ 39 (mx_iadd 40) from sn_281 39) ?_
            refine mx_J.step (sn_281 40) (fun _ _ => rfl) ?_
            refine JgetR (g := 1) (b := 57) hx5 (show mx_Sn _ _ 41 (mx_getf 12 1 44) from sn_281 41) a56 s56 rfl rfl (hG5.prr 56 1 rfl) ?_
            refine mx_J.step (sn_281 44) (fun _ _ => rfl) ?_
            have b20 : f57 ((w4_2) % 962) (Z5 57 w4_2) := GB_ex hG5 57 w4_2
            have b21 : (-2147483648) ≤ Z5 57 w4_2 ∧ Z5 57 w4_2 ≤ 2147483647 := hG5.pr 57 w4_2
            refine JialdI (z := Z5 57 w4_2) hx5 (show mx_Sn _ _ 45 (mx_iald 46) from sn_281 45) a57 s57 (by omega) rfl ?_
            refine JiastI hx5 (show mx_Sn _ _ 46 (mx_iast 1 47) from sn_281 46) a57 s57 rfl (by omega) (fun Z22 h22 hx22 hE22 => ?_)
            have hG22 := GB_up hG5 hE22 (show (-2147483648) ≤ Z5 57 w4_2 ∧ Z5 57 w4_2 ≤ 2147483647 by omega) (show f57 (((962 * (x0 + 1)) + w4_2) % 962) (Z5 57 w4_2) by first | (have hq := GB_ex hG5 57 w4_2; replace hq : f57 (w4_2 % 962) (Z5 57 w4_2) := hq; rw [Int.emod_eq_of_lt (a := w4_2) (by omega) (by omega)] at hq; rw [Int.emod_eq_of_lt (a := (962 * (x0 + 1)) + w4_2) (by omega) (by omega)]; unfold f57 at hq; unfold f57; omega) | (rw [Int.emod_eq_of_lt (by omega) (by omega)]; unfold f57; omega) | (rw [show (962 * (x0 + 1) + w4_2) % 962 = w4_2 % 962 by omega]; assumption) | assumption | (unfold f57; omega) | (unfold f57 at *; omega)) rfl
            have cs : CP Z22 Z1 (962 * (x0 + 1)) (w4_2 + 1) := cp_s (by assumption) hE22 rfl rfl (by omega)
            refine Jiinc (z := w4_2) (cz := 1) (ls2 := [some (.ref 56), some (xI x0), some (xI (w4_2 + 1))]) (show mx_Sn _ _ 47 (mx_iinc 2 1 50) from sn_281 47) rfl rfl rfl rfl ?_
            refine mx_J.step (sn_281 50) (fun _ _ => rfl) ?_
            exact ih4 (w4_2 + 1) Z22 h22 (by omega) (by omega) (by first | exact cp_0 | assumption) hx22 hG22 (fr_tr (M := [(57, (-1))]) (fr_tr (M := [(57, (-1))]) fr_rf (hf5) (M1 := []) rfl rfl) (fr_ua hE22) rfl rfl)
      exact c20 (Int.toNat (962 - 0) + 1) 0 Z1 h1 (by omega) (by omega) (by first | exact cp_0 | assumption) hx1 hG1 fr_rf
    · skip
      refine JcI (z := (-2)) (show mx_Sn _ _ 15 (mx_const (.int (-2)) 17) from sn_281 15) rfl ?_
      have eq23 : Z1 58 0 = Z 58 0 := (up_nk hE1 rfl)
      have b24 : 0 ≤ Z 58 0 ∧ Z 58 0 ≤ 1 := hG.pr 58 0
      have eq25 : Z1 58 1 = Z 58 1 := (up_nk hE1 rfl)
      have b26 : 0 ≤ Z 58 1 ∧ Z 58 1 ≤ 1 := hG.pr 58 1
      have eq27 : Z1 58 0 = Z 58 0 := (up_nk hE1 rfl)
      have eq28 : Z1 58 1 = Z 58 1 := (up_nk hE1 rfl)
      exact mx_J.ret (sn_281 17) (fun _ _ => rfl) (hP (-2) Z1 h1 hx1 hG1 (fr_tr (M := [(56, 0), (57, (-1)), (58, (-1))]) fr_rf (fr_up hE1) (M1 := []) rfl rfl) (by omega))
theorem ct_281_56 {l : Launch} {D : va_G} {b0 : Nat} {ad : Nat → Nat} {Hb : Heap} {tau : Nat → Int64} {d n s : Nat} {S : Nat → xS} {Z : xZ} {h : mx_H} (hx : XH n s S Z h) (hG : GI n S Z)  {x0 : Int} (p0 : (-2147483648) ≤ x0 ∧ x0 ≤ 2147483647) : ∃ (z : Int) (Z' : xZ) (h' : mx_H), mx_Ca (tB l D b0 ad Hb tau) (d + 2) 281 [.ref 56, xI x0] h (some (xI z), h') ∧ XH n s S Z' h' ∧ GI n S Z' ∧ fr' [(56, 0), (57, (-1)), (58, (-1))] Z Z' ∧ ((-2) ≤ z ∧ z ≤ 0 ∧ (((x0 < 0 ∨ 1 < x0) → z = -2) ∧ (¬ (x0 < 0 ∨ 1 < x0) → z = 0) ∧ (¬ x0 = 0 → Z' 58 0 = Z 58 0) ∧ (¬ x0 = 1 → Z' 58 1 = Z 58 1) ∧ (x0 = 0 → Z' 58 0 = 1) ∧ (x0 = 1 → Z' 58 1 = 1))) := by
  obtain ⟨r, hca, z, Z', h', e, q⟩ := Jmt (B := tB l D b0 ad Hb tau) (M := mt_281) (mi := 281) (as := [.ref 56, xI x0]) (d := d + 1) (ls := [some (.ref 56), some (xI x0), none]) rfl rfl rfl rfl rfl rfl (cw_281_56 (l := l) (D := D) (b0 := b0) (ad := ad) (Hb := Hb) (tau := tau) (d := d) (Post := fun r => ∃ (z : Int) (Z' : xZ) (h' : mx_H), r = (some (xI z), h') ∧ XH n s S Z' h' ∧ GI n S Z' ∧ fr' [(56, 0), (57, (-1)), (58, (-1))] Z Z' ∧ ((-2) ≤ z ∧ z ≤ 0 ∧ (((x0 < 0 ∨ 1 < x0) → z = -2) ∧ (¬ (x0 < 0 ∨ 1 < x0) → z = 0) ∧ (¬ x0 = 0 → Z' 58 0 = Z 58 0) ∧ (¬ x0 = 1 → Z' 58 1 = Z 58 1) ∧ (x0 = 0 → Z' 58 0 = 1) ∧ (x0 = 1 → Z' 58 1 = 1)))) hx hG p0 (fun z Z' h' q1 q2 q3 q4 => ⟨z, Z', h', rfl, q1, q2, q3, q4⟩))
  subst e; exact ⟨z, Z', h', hca, q⟩
set_option maxRecDepth 100000 in
theorem cw_282_56 {l : Launch} {D : va_G} {b0 : Nat} {ad : Nat → Nat} {Hb : Heap} {tau : Nat → Int64} {d n s : Nat} {S : Nat → xS} {Z : xZ} {h : mx_H} {Post : mx_R → Prop} (hx : XH n s S Z h) (hG : GI n S Z)  {x0 : Int} (p0 : (-2147483648) ≤ x0 ∧ x0 ≤ 2147483647) (hP : ∀ (z : Int) (Z' : xZ) (h' : mx_H), XH n s S Z' h' → GI n S Z' → fr' [(56, 0), (56, 18), (57, (-1)), (61, (-1)), (63, (-1))] Z Z' → (-5) ≤ z ∧ z ≤ 0 ∧ (((x0 < 0 ∨ 1 < x0) → z = -2) ∧ (x0 = 0 → (Z 58 0 = 0 → z = -5) ∧ (¬ Z 58 0 = 0 → z = 0)) ∧ (x0 = 1 → (Z 58 1 = 0 → z = -5) ∧ (¬ Z 58 1 = 0 → z = 0))) → Post (some (xI z), h')) : mx_J (tB l D b0 ad Hb tau) mt_282 (d + 20) 0 [some (.ref 56), some (xI x0), none] [] h Post := by
    have a56 : 56 < n := lt83 (GI_n hG) rfl
    have s56 : S 56 = .inl (12, [0, 2, 2, 2, 2, 0, 0, 0, 0, 0, 0, 0, 0, 0, 0, 2, 2, 2, 0, 2, 2, 2, 0, 0, 2, 2, 2, 2, 2, 2, 0, 0, 2, 2, 2, 2, 2, 2, 2, 2, 2, 2]) := GI_s hG 56 rfl
    have a57 : 57 < n := lt83 (GI_n hG) rfl
    have s57 : S 57 = .inr (.int, 2886, 0) := GI_s hG 57 rfl
    have a58 : 58 < n := lt83 (GI_n hG) rfl
    have s58 : S 58 = .inr (.boolean, 2, 0) := GI_s hG 58 rfl
    refine mx_J.step (sn_282 0) (fun _ _ => rfl) ?_
    refine JcI (z := 0) (show mx_Sn _ _ 1 (mx_const (.int 0) 2) from sn_282 1) rfl ?_
    refine JputI (g := 0) hx (show mx_Sn _ _ 2 (mx_putf 1 12 0 (.int) 5) from sn_282 2) a56 s56 rfl rfl rfl rfl (fun Z1 h1 hx1 hE1 => ?_)
    have hG1 := GI_up hG hE1 (show (-2147483648) ≤ 0 ∧ 0 ≤ 2147483647 by omega) trivial rfl
    refine mx_J.step (sn_282 5) (fun _ _ => rfl) ?_
    refine Ji2l (show mx_Sn _ _ 6 (mx_i2l 7) from sn_282 6) (by omega) ?_
    refine JcL (z := 0) (show mx_Sn _ _ 7 (mx_const (.long 0) 8) from sn_282 7) rfl ?_
    refine JcL (z := 1) (show mx_Sn _ _ 8 (mx_const (.long 1) 9) from sn_282 8) rfl ?_
    obtain ⟨z2, hc2, b2⟩ := ct_154_ (d := d + 19) (l := l) (D := D) (b0 := b0) (ad := ad) (Hb := Hb) (tau := tau) hx1 hG1 (show (-9223372036854775808) ≤ x0 ∧ x0 ≤ 9223372036854775807 by omega) (show (-9223372036854775808) ≤ 0 ∧ 0 ≤ 9223372036854775807 by omega) (show (-9223372036854775808) ≤ 1 ∧ 1 ≤ 9223372036854775807 by omega)
    refine Jcs (show mx_Sn _ _ 9 (mx_calls 154 3 12) from sn_282 9) hc2 rfl rfl rfl ?_
    refine Jif_ne (show mx_Sn _ _ 12 (mx_if_ne 18 15) from sn_282 12) (by omega) (fun q3 => ?_) (fun q3 => ?_)
    · skip
      refine mx_J.step (sn_282 18) (fun _ _ => rfl) ?_
      refine JgetR (g := 2) (b := 58) hx1 (show mx_Sn _ _ 19 (mx_getf 12 2 22) from sn_282 19) a56 s56 rfl rfl (hG1.prr 56 2 rfl) ?_
      refine mx_J.step (sn_282 22) (fun _ _ => rfl) ?_
      have b5 : 0 ≤ Z 58 x0 ∧ Z 58 x0 ≤ 1 := hG.pr 58 x0
      refine JzaldI (z := Z 58 x0) hx1 (show mx_Sn _ _ 23 (mx_zald 24) from sn_282 23) a58 s58 (by omega) (up_nk hE1 rfl) ?_
      have r0 : x0 = 0 → (Z 58 x0) = (Z 58 0) := fun e => by rw [e]
      have r1 : x0 = 1 → (Z 58 x0) = (Z 58 1) := fun e => by rw [e]
      refine Jif_ne (show mx_Sn _ _ 24 (mx_if_ne 30 27) from sn_282 24) (by omega) (fun q6 => ?_) (fun q6 => ?_)
      · skip
        have hGo : GI n S Z1 := hG1
        have hG1 := GI_gb hGo
        refine JcI (z := 0) (show mx_Sn _ _ 30 (mx_const (.int 0) 31) from sn_282 30) rfl ?_
        refine mx_J.step (ls2 := [some (.ref 56), some (xI x0), some (xI 0)]) (sn_282 31) (fun _ _ => rfl) ?_
        have c32 : ∀ (m7 : Nat) (w7_2 : Int) (Z8 : xZ) (h8 : mx_H), 962 - w7_2 < (m7 : Int) → 0 ≤ w7_2 ∧ w7_2 ≤ 962 → CR Z8 Z1 (962 * (x0 + 1)) w7_2 → XH n s S Z8 h8 → GB n S Z8 → fr' [(57, (-1))] Z1 Z8 → mx_J (tB l D b0 ad Hb tau) mt_282 (d + 20) 32 [some (.ref 56), some (xI x0), some (xI w7_2)] [] h8 Post := by
          intro m7
          induction m7 with
          | zero => intro w7_2 Z8 h8 q7 f7_0 f7_1 hx8 hG8 hf8; exact absurd q7 (by omega)
          | succ m7 ih7 =>
            intro w7_2 Z8 h8 q7 f7_0 f7_1 hx8 hG8 hf8
            refine mx_J.step (sn_282 32) (fun _ _ => rfl) ?_
            refine JcI (z := 962) (show mx_Sn _ _ 33 (mx_const (.int 962) 36) from sn_282 33) rfl ?_
            refine Jicmp_ge (show mx_Sn _ _ 36 (mx_icmp_ge 65 39) from sn_282 36) (by omega) (by omega) (fun q9 => ?_) (fun q9 => ?_)
            · skip
              have cz : CR Z8 Z1 (962 * (x0 + 1)) 962 := (show w7_2 = (962 : Int) by omega) ▸ (by assumption : CR Z8 Z1 (962 * (x0 + 1)) w7_2)
              refine mx_J.step (sn_282 65) (fun _ _ => rfl) ?_
              refine JgetR (g := 1) (b := 57) hx8 (show mx_Sn _ _ 66 (mx_getf 12 1 69) from sn_282 66) a56 s56 rfl rfl (hG8.prr 56 1 rfl) ?_
              refine JcI (z := 30) (show mx_Sn _ _ 69 (mx_const (.int 30) 71) from sn_282 69) rfl ?_
              refine JcI (z := 0) (show mx_Sn _ _ 71 (mx_const (.int 0) 72) from sn_282 71) rfl ?_
              refine JiastI hx8 (show mx_Sn _ _ 72 (mx_iast 1 73) from sn_282 72) a57 s57 rfl (by omega) (fun Z11 h11 hx11 hE11 => ?_)
              have hG11 := GB_up hG8 hE11 (show (-2147483648) ≤ 0 ∧ 0 ≤ 2147483647 by omega) (show f57 ((30) % 962) (0) by first | assumption | (unfold f57; omega) | (unfold f57 at *; omega)) rfl
              have c30 : ∀ i, ¬ i = 30 → Z11 57 i = Z8 57 i := fun i hi => up_ni hE11 hi
              refine mx_J.step (sn_282 73) (fun _ _ => rfl) ?_
              have eq13 : Z11 57 1 = Z8 57 1 := (up_ni hE11 (by decide))
              have b14 : 0 ≤ Z8 57 1 ∧ Z8 57 1 ≤ 18 := by have hq := GB_ex hG8 57 1; replace hq : f57 (1 % 962) (Z8 57 1) := hq; unfold f57 at hq; omega
              have b15 : (-2147483648) ≤ Z8 57 1 ∧ Z8 57 1 ≤ 2147483647 := hG8.pr 57 1
              obtain ⟨Z12, h12, hc12, hx12, hG12, hf12, b12⟩ := ct_184_56 (d := d + 0) (l := l) (D := D) (b0 := b0) (ad := ad) (Hb := Hb) (tau := tau) hx11 hG11 
              try rw [eq13] at b12
              have b16 : 0 ≤ Z12 56 18 ∧ Z12 56 18 ≤ 385 := hG12.pr 56 18
              refine Jcv0 hx11 (show mx_Sn _ _ 74 (mx_callv 184 1 12 77) from sn_282 74) a56 s56 hc12 rfl rfl rfl ?_
              have eq17 : Z12 57 1 = Z8 57 1 := ((hf12 57 1 rfl).trans (up_ni hE11 (by decide)))
              have hGx18 : GI n S Z12 := ⟨hG12, re_fin hGo (off := 962 * (x0 + 1)) (by omega) cz (fun i hi => (hf12 57 i rfl).trans (c30 i hi)) ((fr_tr (M := [(56, 0), (56, 18), (57, (-1)), (61, (-1)), (63, (-1))]) (fr_tr (M := [(56, 0), (56, 18), (57, (-1)), (61, (-1)), (63, (-1))]) (fr_tr (M := [(56, 0), (56, 18), (57, (-1)), (61, (-1)), (63, (-1))]) fr_rf (hf8) (M1 := []) rfl rfl) (fr_ua hE11) rfl rfl) (hf12) rfl rfl) 7 5 rfl) (fun i => (fr_tr (M := [(56, 0), (56, 18), (57, (-1)), (61, (-1)), (63, (-1))]) (fr_tr (M := [(56, 0), (56, 18), (57, (-1)), (61, (-1)), (63, (-1))]) (fr_tr (M := [(56, 0), (56, 18), (57, (-1)), (61, (-1)), (63, (-1))]) fr_rf (hf8) (M1 := []) rfl rfl) (fr_ua hE11) rfl rfl) (hf12) rfl rfl) 9 i rfl) (fun i => (fr_tr (M := [(56, 0), (56, 18), (57, (-1)), (61, (-1)), (63, (-1))]) (fr_tr (M := [(56, 0), (56, 18), (57, (-1)), (61, (-1)), (63, (-1))]) (fr_tr (M := [(56, 0), (56, 18), (57, (-1)), (61, (-1)), (63, (-1))]) fr_rf (hf8) (M1 := []) rfl rfl) (fr_ua hE11) rfl rfl) (hf12) rfl rfl) 10 i rfl) (by have e9 : Z12 57 1 = (Z8 57 1) := (by omega); rw [e9]; exact b12)⟩
              have hG12 := hGx18
              refine JcI (z := 0) (show mx_Sn _ _ 77 (mx_const (.int 0) 78) from sn_282 77) rfl ?_
              have eq19 : Z12 58 0 = Z 58 0 := ((hf12 58 0 rfl).trans ((up_nk hE11 rfl).trans ((hf8 58 0 rfl).trans (up_nk hE1 rfl))))
              have b20 : 0 ≤ Z 58 0 ∧ Z 58 0 ≤ 1 := hG.pr 58 0
              have eq21 : Z12 58 1 = Z 58 1 := ((hf12 58 1 rfl).trans ((up_nk hE11 rfl).trans ((hf8 58 1 rfl).trans (up_nk hE1 rfl))))
              have b22 : 0 ≤ Z 58 1 ∧ Z 58 1 ≤ 1 := hG.pr 58 1
              exact mx_J.ret (sn_282 78) (fun _ _ => rfl) (hP 0 Z12 h12 hx12 hG12 (fr_tr (M := [(56, 0), (56, 18), (57, (-1)), (61, (-1)), (63, (-1))]) (fr_tr (M := [(56, 0), (56, 18), (57, (-1)), (61, (-1)), (63, (-1))]) (fr_tr (M := [(56, 0), (56, 18), (57, (-1)), (61, (-1)), (63, (-1))]) (fr_tr (M := [(56, 0), (56, 18), (57, (-1)), (61, (-1)), (63, (-1))]) fr_rf (fr_up hE1) (M1 := []) rfl rfl) (hf8) rfl rfl) (fr_ua hE11) rfl rfl) (hf12) rfl rfl) (by omega))
            · skip
              refine mx_J.step (sn_282 39) (fun _ _ => rfl) ?_
              refine JgetR (g := 1) (b := 57) hx8 (show mx_Sn _ _ 40 (mx_getf 12 1 43) from sn_282 40) a56 s56 rfl rfl (hG8.prr 56 1 rfl) ?_
              refine mx_J.step (sn_282 43) (fun _ _ => rfl) ?_
              refine mx_J.step (sn_282 44) (fun _ _ => rfl) ?_
              refine JgetR (g := 1) (b := 57) hx8 (show mx_Sn _ _ 45 (mx_getf 12 1 48) from sn_282 45) a56 s56 rfl rfl (hG8.prr 56 1 rfl) ?_
              refine JcI (z := 962) (show mx_Sn _ _ 48 (mx_const (.int 962) 51) from sn_282 48) rfl ?_
              refine mx_J.step (sn_282 51) (fun _ _ => rfl) ?_
              refine JcI (z := 1) (show mx_Sn _ _ 52 (mx_const (.int 1) 53) from sn_282 52) rfl ?_
              refine Jiadd (show mx_Sn _ _ 53 (mx_iadd 54) from sn_282 53) ?_
              refine Jimul (show mx_Sn _ _ 54 (mx_imul 55) from sn_282 54) ?_
              refine mx_J.step (sn_282 55) (fun _ _ => rfl) ?_
              refine Jiadd (show mx_Sn _ _ 56 (mx_iadd 57) from sn_282 56) ?_
              have b25 : f57 (((962 * (x0 + 1)) + w7_2) % 962) (Z8 57 ((962 * (x0 + 1)) + w7_2)) := GB_ex hG8 57 ((962 * (x0 + 1)) + w7_2)
              have b26 : (-2147483648) ≤ Z8 57 ((962 * (x0 + 1)) + w7_2) ∧ Z8 57 ((962 * (x0 + 1)) + w7_2) ≤ 2147483647 := hG8.pr 57 ((962 * (x0 + 1)) + w7_2)
              refine JialdI (z := Z8 57 ((962 * (x0 + 1)) + w7_2)) hx8 (show mx_Sn _ _ 57 (mx_iald 58) from sn_282 57) a57 s57 (by omega) rfl ?_
              refine JiastI hx8 (show mx_Sn _ _ 58 (mx_iast 1 59) from sn_282 58) a57 s57 rfl (by omega) (fun Z27 h27 hx27 hE27 => ?_)
              have hG27 := GB_up hG8 hE27 (show (-2147483648) ≤ Z8 57 ((962 * (x0 + 1)) + w7_2) ∧ Z8 57 ((962 * (x0 + 1)) + w7_2) ≤ 2147483647 by omega) (show f57 ((w7_2) % 962) (Z8 57 ((962 * (x0 + 1)) + w7_2)) by first | (have hq := GB_ex hG8 57 ((962 * (x0 + 1)) + w7_2); replace hq : f57 (((962 * (x0 + 1)) + w7_2) % 962) (Z8 57 ((962 * (x0 + 1)) + w7_2)) := hq; rw [Int.emod_eq_of_lt (a := ((962 * (x0 + 1)) + w7_2)) (by omega) (by omega)] at hq; rw [Int.emod_eq_of_lt (a := w7_2) (by omega) (by omega)]; unfold f57 at hq; unfold f57; omega) | (rw [Int.emod_eq_of_lt (by omega) (by omega)]; unfold f57; omega) | (rw [show w7_2 % 962 = (962 * (x0 + 1) + w7_2) % 962 by omega]; assumption) | assumption | (unfold f57; omega) | (unfold f57 at *; omega)) rfl
              have cs : CR Z27 Z1 (962 * (x0 + 1)) (w7_2 + 1) := crx_s (by assumption) hE27 rfl rfl (by omega)
              refine Jiinc (z := w7_2) (cz := 1) (ls2 := [some (.ref 56), some (xI x0), some (xI (w7_2 + 1))]) (show mx_Sn _ _ 59 (mx_iinc 2 1 62) from sn_282 59) rfl rfl rfl rfl ?_
              refine mx_J.step (sn_282 62) (fun _ _ => rfl) ?_
              exact ih7 (w7_2 + 1) Z27 h27 (by omega) (by omega) (by first | exact crx_0 | assumption) hx27 hG27 (fr_tr (M := [(57, (-1))]) (fr_tr (M := [(57, (-1))]) fr_rf (hf8) (M1 := []) rfl rfl) (fr_ua hE27) rfl rfl)
        exact c32 (Int.toNat (962 - 0) + 1) 0 Z1 h1 (by omega) (by omega) (by first | exact crx_0 | assumption) hx1 hG1 fr_rf
      · skip
        refine JcI (z := (-5)) (show mx_Sn _ _ 27 (mx_const (.int (-5)) 29) from sn_282 27) rfl ?_
        have eq28 : Z1 58 0 = Z 58 0 := (up_nk hE1 rfl)
        have b29 : 0 ≤ Z 58 0 ∧ Z 58 0 ≤ 1 := hG.pr 58 0
        have eq30 : Z1 58 1 = Z 58 1 := (up_nk hE1 rfl)
        have b31 : 0 ≤ Z 58 1 ∧ Z 58 1 ≤ 1 := hG.pr 58 1
        exact mx_J.ret (sn_282 29) (fun _ _ => rfl) (hP (-5) Z1 h1 hx1 hG1 (fr_tr (M := [(56, 0), (56, 18), (57, (-1)), (61, (-1)), (63, (-1))]) fr_rf (fr_up hE1) (M1 := []) rfl rfl) (by omega))
    · skip
      refine JcI (z := (-2)) (show mx_Sn _ _ 15 (mx_const (.int (-2)) 17) from sn_282 15) rfl ?_
      have eq32 : Z1 58 0 = Z 58 0 := (up_nk hE1 rfl)
      have b33 : 0 ≤ Z 58 0 ∧ Z 58 0 ≤ 1 := hG.pr 58 0
      have eq34 : Z1 58 1 = Z 58 1 := (up_nk hE1 rfl)
      have b35 : 0 ≤ Z 58 1 ∧ Z 58 1 ≤ 1 := hG.pr 58 1
      exact mx_J.ret (sn_282 17) (fun _ _ => rfl) (hP (-2) Z1 h1 hx1 hG1 (fr_tr (M := [(56, 0), (56, 18), (57, (-1)), (61, (-1)), (63, (-1))]) fr_rf (fr_up hE1) (M1 := []) rfl rfl) (by omega))
theorem ct_282_56 {l : Launch} {D : va_G} {b0 : Nat} {ad : Nat → Nat} {Hb : Heap} {tau : Nat → Int64} {d n s : Nat} {S : Nat → xS} {Z : xZ} {h : mx_H} (hx : XH n s S Z h) (hG : GI n S Z)  {x0 : Int} (p0 : (-2147483648) ≤ x0 ∧ x0 ≤ 2147483647) : ∃ (z : Int) (Z' : xZ) (h' : mx_H), mx_Ca (tB l D b0 ad Hb tau) (d + 21) 282 [.ref 56, xI x0] h (some (xI z), h') ∧ XH n s S Z' h' ∧ GI n S Z' ∧ fr' [(56, 0), (56, 18), (57, (-1)), (61, (-1)), (63, (-1))] Z Z' ∧ ((-5) ≤ z ∧ z ≤ 0 ∧ (((x0 < 0 ∨ 1 < x0) → z = -2) ∧ (x0 = 0 → (Z 58 0 = 0 → z = -5) ∧ (¬ Z 58 0 = 0 → z = 0)) ∧ (x0 = 1 → (Z 58 1 = 0 → z = -5) ∧ (¬ Z 58 1 = 0 → z = 0)))) := by
  obtain ⟨r, hca, z, Z', h', e, q⟩ := Jmt (B := tB l D b0 ad Hb tau) (M := mt_282) (mi := 282) (as := [.ref 56, xI x0]) (d := d + 20) (ls := [some (.ref 56), some (xI x0), none]) rfl rfl rfl rfl rfl rfl (cw_282_56 (l := l) (D := D) (b0 := b0) (ad := ad) (Hb := Hb) (tau := tau) (d := d) (Post := fun r => ∃ (z : Int) (Z' : xZ) (h' : mx_H), r = (some (xI z), h') ∧ XH n s S Z' h' ∧ GI n S Z' ∧ fr' [(56, 0), (56, 18), (57, (-1)), (61, (-1)), (63, (-1))] Z Z' ∧ ((-5) ≤ z ∧ z ≤ 0 ∧ (((x0 < 0 ∨ 1 < x0) → z = -2) ∧ (x0 = 0 → (Z 58 0 = 0 → z = -5) ∧ (¬ Z 58 0 = 0 → z = 0)) ∧ (x0 = 1 → (Z 58 1 = 0 → z = -5) ∧ (¬ Z 58 1 = 0 → z = 0))))) hx hG p0 (fun z Z' h' q1 q2 q3 q4 => ⟨z, Z', h', rfl, q1, q2, q3, q4⟩))
  subst e; exact ⟨z, Z', h', hca, q⟩
set_option maxRecDepth 100000 in
theorem cw_290_4100 {l : Launch} {D : va_G} {b0 : Nat} {ad : Nat → Nat} {Hb : Heap} {tau : Nat → Int64} {d n s : Nat} {S : Nat → xS} {Z : xZ} {h : mx_H} {Post : mx_R → Prop} (hx : XH n s S Z h) (hG : GI n S Z)   (hP : ∀ z : Int, 0 ≤ z ∧ z ≤ 0 → Post (some (xI z), h)) : mx_J (tB l D b0 ad Hb tau) mt_290 (d + 0) 0 [some (.ref 4100)] [] h Post := by
    refine JcI (z := 1) (show mx_Sn _ _ 0 (mx_const (.int 1) 3) from sn_290 0) rfl ?_
    refine Jif_eq (show mx_Sn _ _ 3 (mx_if_eq 13 6) from sn_290 3) (by omega) (fun q1 => ?_) (fun q1 => ?_)
    · skip
      exfalso; omega
    · skip
      refine mx_J.step (sn_290 6) (fun _ _ => rfl) ?_
      refine Jscod (L := sb_2) (show mx_Sn _ _ 7 (mx_scod 10) from sn_290 7) rfl ?_
      refine mx_J.step (sn_290 10) (fun _ _ => rfl) ?_
      exact mx_J.ret (show mx_Sn _ _ 14 (mx_nret .byte) from sn_290 14) (fun _ _ => nr_ok_byte (by omega)) (hP 0 (by omega))
theorem ct_290_4100 {l : Launch} {D : va_G} {b0 : Nat} {ad : Nat → Nat} {Hb : Heap} {tau : Nat → Int64} {d n s : Nat} {S : Nat → xS} {Z : xZ} {h : mx_H} (hx : XH n s S Z h) (hG : GI n S Z)   : ∃ z : Int, mx_Ca (tB l D b0 ad Hb tau) (d + 1) 290 [.ref 4100] h (some (xI z), h) ∧ (0 ≤ z ∧ z ≤ 0) := by
  obtain ⟨r, hca, z, e, hp⟩ := Jmt (B := tB l D b0 ad Hb tau) (M := mt_290) (mi := 290) (as := [.ref 4100]) (d := d + 0) (ls := [some (.ref 4100)]) rfl rfl rfl rfl rfl rfl (cw_290_4100 (l := l) (D := D) (b0 := b0) (ad := ad) (Hb := Hb) (tau := tau) (d := d) (Post := fun r => ∃ z : Int, r = (some (xI z), h) ∧ (0 ≤ z ∧ z ≤ 0)) hx hG  (fun z hz => ⟨z, rfl, hz⟩))
  subst e; exact ⟨z, hca, hp⟩
set_option maxRecDepth 100000 in
theorem cw_289_4100 {l : Launch} {D : va_G} {b0 : Nat} {ad : Nat → Nat} {Hb : Heap} {tau : Nat → Int64} {d n s : Nat} {S : Nat → xS} {Z : xZ} {h : mx_H} {Post : mx_R → Prop} (hx : XH n s S Z h) (hG : GI n S Z)   (hP : ∀ z : Int, 1 ≤ z ∧ z ≤ 1 → Post (some (xI z), h)) : mx_J (tB l D b0 ad Hb tau) mt_289 (d + 0) 0 [some (.ref 4100)] [] h Post := by
    refine JcI (z := 1) (show mx_Sn _ _ 0 (mx_const (.int 1) 3) from sn_289 0) rfl ?_
    refine Jif_eq (show mx_Sn _ _ 3 (mx_if_eq 17 6) from sn_289 3) (by omega) (fun q1 => ?_) (fun q1 => ?_)
    · skip
      exfalso; omega
    · skip
      refine mx_J.step (sn_289 6) (fun _ _ => rfl) ?_
      refine Jscod (L := sb_2) (show mx_Sn _ _ 7 (mx_scod 10) from sn_289 7) rfl ?_
      refine Jif_ne (show mx_Sn _ _ 10 (mx_if_ne 17 13) from sn_289 10) (by omega) (fun q2 => ?_) (fun q2 => ?_)
      · skip
        exfalso; omega
      · skip
        refine JcI (z := 1) (show mx_Sn _ _ 13 (mx_const (.int 1) 14) from sn_289 13) rfl ?_
        refine mx_J.step (sn_289 14) (fun _ _ => rfl) ?_
        exact mx_J.ret (show mx_Sn _ _ 18 (mx_zret) from sn_289 18) (fun _ _ => zr_ok (by omega)) (hP 1 (by omega))
theorem ct_289_4100 {l : Launch} {D : va_G} {b0 : Nat} {ad : Nat → Nat} {Hb : Heap} {tau : Nat → Int64} {d n s : Nat} {S : Nat → xS} {Z : xZ} {h : mx_H} (hx : XH n s S Z h) (hG : GI n S Z)   : ∃ z : Int, mx_Ca (tB l D b0 ad Hb tau) (d + 1) 289 [.ref 4100] h (some (xI z), h) ∧ (1 ≤ z ∧ z ≤ 1) := by
  obtain ⟨r, hca, z, e, hp⟩ := Jmt (B := tB l D b0 ad Hb tau) (M := mt_289) (mi := 289) (as := [.ref 4100]) (d := d + 0) (ls := [some (.ref 4100)]) rfl rfl rfl rfl rfl rfl (cw_289_4100 (l := l) (D := D) (b0 := b0) (ad := ad) (Hb := Hb) (tau := tau) (d := d) (Post := fun r => ∃ z : Int, r = (some (xI z), h) ∧ (1 ≤ z ∧ z ≤ 1)) hx hG  (fun z hz => ⟨z, rfl, hz⟩))
  subst e; exact ⟨z, hca, hp⟩
set_option maxRecDepth 100000 in
theorem cw_291_4100 {l : Launch} {D : va_G} {b0 : Nat} {ad : Nat → Nat} {Hb : Heap} {tau : Nat → Int64} {d n s : Nat} {S : Nat → xS} {Z : xZ} {h : mx_H} {Post : mx_R → Prop} (hx : XH n s S Z h) (hG : GI n S Z)   (hP : ∀ z : Int, 77 ≤ z ∧ z ≤ 77 → Post (some (xI z), h)) : mx_J (tB l D b0 ad Hb tau) mt_291 (d + 1) 0 [some (.ref 4100)] [] h Post := by
    refine mx_J.step (sn_291 0) (fun _ _ => rfl) ?_
    refine mx_J.step (sn_291 1) (fun _ _ => rfl) ?_
    refine Jsalen (L := sb_2) (z := 77) (show mx_Sn _ _ 4 (mx_salen 5) from sn_291 4) rfl rfl ?_
    refine mx_J.step (sn_291 5) (fun _ _ => rfl) ?_
    obtain ⟨z1, hc1, b1⟩ := ct_290_4100 (d := d + 0) (l := l) (D := D) (b0 := b0) (ad := ad) (Hb := Hb) (tau := tau) hx hG 
    refine Jck (show mx_Sn _ _ 6 (mx_callk 290 1 9) from sn_291 6) rfl hc1 rfl rfl rfl ?_
    refine Jishr0 (show mx_Sn _ _ 9 (mx_ishr 10) from sn_291 9) (by omega) ?_
    exact mx_J.ret (sn_291 10) (fun _ _ => rfl) (hP 77 (by omega))
theorem ct_291_4100 {l : Launch} {D : va_G} {b0 : Nat} {ad : Nat → Nat} {Hb : Heap} {tau : Nat → Int64} {d n s : Nat} {S : Nat → xS} {Z : xZ} {h : mx_H} (hx : XH n s S Z h) (hG : GI n S Z)   : ∃ z : Int, mx_Ca (tB l D b0 ad Hb tau) (d + 2) 291 [.ref 4100] h (some (xI z), h) ∧ (77 ≤ z ∧ z ≤ 77) := by
  obtain ⟨r, hca, z, e, hp⟩ := Jmt (B := tB l D b0 ad Hb tau) (M := mt_291) (mi := 291) (as := [.ref 4100]) (d := d + 1) (ls := [some (.ref 4100)]) rfl rfl rfl rfl rfl rfl (cw_291_4100 (l := l) (D := D) (b0 := b0) (ad := ad) (Hb := Hb) (tau := tau) (d := d) (Post := fun r => ∃ z : Int, r = (some (xI z), h) ∧ (77 ≤ z ∧ z ≤ 77)) hx hG  (fun z hz => ⟨z, rfl, hz⟩))
  subst e; exact ⟨z, hca, hp⟩
set_option maxRecDepth 100000 in
theorem cw_288_4101 {l : Launch} {D : va_G} {b0 : Nat} {ad : Nat → Nat} {Hb : Heap} {tau : Nat → Int64} {d n s : Nat} {S : Nat → xS} {Z : xZ} {h : mx_H} {Post : mx_R → Prop} (hx : XH n s S Z h) (hG : GI n S Z)  {x0 : Int} (p0 : 0 ≤ x0 ∧ x0 ≤ 76) (hP : ∀ z : Int, 32 ≤ z ∧ z ≤ 122 ∧ z = cw2 x0 ∧ (z = 32 ∨ x0 ≤ 75) → Post (some (xI z), h)) : mx_J (tB l D b0 ad Hb tau) mt_288 (d + 2) 0 [some (.ref 4101), some (xI x0)] [] h Post := by
    refine mx_J.step (sn_288 0) (fun _ _ => rfl) ?_
    refine mx_J.step (sn_288 1) (fun _ _ => rfl) ?_
    refine Jsalen (L := sb_2) (z := 77) (show mx_Sn _ _ 2 (mx_salen 3) from sn_288 2) rfl rfl ?_
    have hc1 := ct_287_ (d := d + 0) (l := l) (D := D) (b0 := b0) (ad := ad) (Hb := Hb) (tau := tau) hx hG (show 0 ≤ x0 ∧ x0 ≤ 100 by omega) (show 0 ≤ 77 ∧ 77 ≤ 100 by omega) (show x0 < 77 by omega)
    refine Jcs0 (show mx_Sn _ _ 3 (mx_calls 287 2 6) from sn_288 3) hc1 rfl rfl rfl ?_
    refine mx_J.step (sn_288 6) (fun _ _ => rfl) ?_
    refine mx_J.step (sn_288 7) (fun _ _ => rfl) ?_
    refine Jsw_2 (show mx_Sn _ _ 8 (mx_sbald 9) from sn_288 8) rfl (by omega) (fun hy2 => ?_)
    refine JcI (z := 255) (show mx_Sn _ _ 9 (mx_const (.int 255) 12) from sn_288 9) rfl ?_
    refine JiandM (q := 256) 8 (show mx_Sn _ _ 12 (mx_iand 13) from sn_288 12) rfl rfl rfl ?_
    refine Ji2c (show mx_Sn _ _ 13 (mx_i2c 14) from sn_288 13) (by omega) ?_
    exact mx_J.ret (show mx_Sn _ _ 14 (mx_nret .char) from sn_288 14) (fun _ _ => nr_ok_char (by omega)) (hP ((cw2 x0) % 256) (by omega))
theorem ct_288_4101 {l : Launch} {D : va_G} {b0 : Nat} {ad : Nat → Nat} {Hb : Heap} {tau : Nat → Int64} {d n s : Nat} {S : Nat → xS} {Z : xZ} {h : mx_H} (hx : XH n s S Z h) (hG : GI n S Z)  {x0 : Int} (p0 : 0 ≤ x0 ∧ x0 ≤ 76) : ∃ z : Int, mx_Ca (tB l D b0 ad Hb tau) (d + 3) 288 [.ref 4101, xI x0] h (some (xI z), h) ∧ (32 ≤ z ∧ z ≤ 122 ∧ z = cw2 x0 ∧ (z = 32 ∨ x0 ≤ 75)) := by
  obtain ⟨r, hca, z, e, hp⟩ := Jmt (B := tB l D b0 ad Hb tau) (M := mt_288) (mi := 288) (as := [.ref 4101, xI x0]) (d := d + 2) (ls := [some (.ref 4101), some (xI x0)]) rfl rfl rfl rfl rfl rfl (cw_288_4101 (l := l) (D := D) (b0 := b0) (ad := ad) (Hb := Hb) (tau := tau) (d := d) (Post := fun r => ∃ z : Int, r = (some (xI z), h) ∧ (32 ≤ z ∧ z ≤ 122 ∧ z = cw2 x0 ∧ (z = 32 ∨ x0 ≤ 75))) hx hG p0 (fun z hz => ⟨z, rfl, hz⟩))
  subst e; exact ⟨z, hca, hp⟩
set_option maxRecDepth 100000 in
theorem cw_292_4100 {l : Launch} {D : va_G} {b0 : Nat} {ad : Nat → Nat} {Hb : Heap} {tau : Nat → Int64} {d n s : Nat} {S : Nat → xS} {Z : xZ} {h : mx_H} {Post : mx_R → Prop} (hx : XH n s S Z h) (hG : GI n S Z)  {x0 : Int} (p0 : 0 ≤ x0 ∧ x0 ≤ 76) (hP : ∀ z : Int, 32 ≤ z ∧ z ≤ 122 ∧ z = cw2 x0 ∧ (z = 32 ∨ x0 ≤ 75) → Post (some (xI z), h)) : mx_J (tB l D b0 ad Hb tau) mt_292 (d + 3) 0 [some (.ref 4100), some (xI x0)] [] h Post := by
    refine mx_J.step (sn_292 0) (fun _ _ => rfl) ?_
    obtain ⟨z1, hc1, b1⟩ := ct_289_4100 (d := d + 2) (l := l) (D := D) (b0 := b0) (ad := ad) (Hb := Hb) (tau := tau) hx hG 
    refine Jck (show mx_Sn _ _ 1 (mx_callk 289 1 4) from sn_292 1) rfl hc1 rfl rfl rfl ?_
    refine Jif_eq (show mx_Sn _ _ 4 (mx_if_eq 16 7) from sn_292 4) (by omega) (fun q2 => ?_) (fun q2 => ?_)
    · skip
      exfalso; omega
    · skip
      refine mx_J.step (sn_292 7) (fun _ _ => rfl) ?_
      refine mx_J.step (sn_292 8) (fun _ _ => rfl) ?_
      refine mx_J.step (sn_292 11) (fun _ _ => rfl) ?_
      obtain ⟨z3, hc3, b3⟩ := ct_288_4101 (d := d + 0) (l := l) (D := D) (b0 := b0) (ad := ad) (Hb := Hb) (tau := tau) hx hG (show 0 ≤ x0 ∧ x0 ≤ 76 by omega)
      refine Jcs (show mx_Sn _ _ 12 (mx_calls 288 2 15) from sn_292 12) hc3 rfl rfl rfl ?_
      exact mx_J.ret (show mx_Sn _ _ 15 (mx_nret .char) from sn_292 15) (fun _ _ => nr_ok_char (by omega)) (hP z3 (by omega))
theorem ct_292_4100 {l : Launch} {D : va_G} {b0 : Nat} {ad : Nat → Nat} {Hb : Heap} {tau : Nat → Int64} {d n s : Nat} {S : Nat → xS} {Z : xZ} {h : mx_H} (hx : XH n s S Z h) (hG : GI n S Z)  {x0 : Int} (p0 : 0 ≤ x0 ∧ x0 ≤ 76) : ∃ z : Int, mx_Ca (tB l D b0 ad Hb tau) (d + 4) 292 [.ref 4100, xI x0] h (some (xI z), h) ∧ (32 ≤ z ∧ z ≤ 122 ∧ z = cw2 x0 ∧ (z = 32 ∨ x0 ≤ 75)) := by
  obtain ⟨r, hca, z, e, hp⟩ := Jmt (B := tB l D b0 ad Hb tau) (M := mt_292) (mi := 292) (as := [.ref 4100, xI x0]) (d := d + 3) (ls := [some (.ref 4100), some (xI x0)]) rfl rfl rfl rfl rfl rfl (cw_292_4100 (l := l) (D := D) (b0 := b0) (ad := ad) (Hb := Hb) (tau := tau) (d := d) (Post := fun r => ∃ z : Int, r = (some (xI z), h) ∧ (32 ≤ z ∧ z ≤ 122 ∧ z = cw2 x0 ∧ (z = 32 ∨ x0 ≤ 75))) hx hG p0 (fun z hz => ⟨z, rfl, hz⟩))
  subst e; exact ⟨z, hca, hp⟩
set_option maxRecDepth 100000 in
theorem cw_290_4102 {l : Launch} {D : va_G} {b0 : Nat} {ad : Nat → Nat} {Hb : Heap} {tau : Nat → Int64} {d n s : Nat} {S : Nat → xS} {Z : xZ} {h : mx_H} {Post : mx_R → Prop} (hx : XH n s S Z h) (hG : GI n S Z)   (hP : ∀ z : Int, 0 ≤ z ∧ z ≤ 0 → Post (some (xI z), h)) : mx_J (tB l D b0 ad Hb tau) mt_290 (d + 0) 0 [some (.ref 4102)] [] h Post := by
    refine JcI (z := 1) (show mx_Sn _ _ 0 (mx_const (.int 1) 3) from sn_290 0) rfl ?_
    refine Jif_eq (show mx_Sn _ _ 3 (mx_if_eq 13 6) from sn_290 3) (by omega) (fun q1 => ?_) (fun q1 => ?_)
    · skip
      exfalso; omega
    · skip
      refine mx_J.step (sn_290 6) (fun _ _ => rfl) ?_
      refine Jscod (L := sb_1) (show mx_Sn _ _ 7 (mx_scod 10) from sn_290 7) rfl ?_
      refine mx_J.step (sn_290 10) (fun _ _ => rfl) ?_
      exact mx_J.ret (show mx_Sn _ _ 14 (mx_nret .byte) from sn_290 14) (fun _ _ => nr_ok_byte (by omega)) (hP 0 (by omega))
theorem ct_290_4102 {l : Launch} {D : va_G} {b0 : Nat} {ad : Nat → Nat} {Hb : Heap} {tau : Nat → Int64} {d n s : Nat} {S : Nat → xS} {Z : xZ} {h : mx_H} (hx : XH n s S Z h) (hG : GI n S Z)   : ∃ z : Int, mx_Ca (tB l D b0 ad Hb tau) (d + 1) 290 [.ref 4102] h (some (xI z), h) ∧ (0 ≤ z ∧ z ≤ 0) := by
  obtain ⟨r, hca, z, e, hp⟩ := Jmt (B := tB l D b0 ad Hb tau) (M := mt_290) (mi := 290) (as := [.ref 4102]) (d := d + 0) (ls := [some (.ref 4102)]) rfl rfl rfl rfl rfl rfl (cw_290_4102 (l := l) (D := D) (b0 := b0) (ad := ad) (Hb := Hb) (tau := tau) (d := d) (Post := fun r => ∃ z : Int, r = (some (xI z), h) ∧ (0 ≤ z ∧ z ≤ 0)) hx hG  (fun z hz => ⟨z, rfl, hz⟩))
  subst e; exact ⟨z, hca, hp⟩
set_option maxRecDepth 100000 in
theorem cw_289_4102 {l : Launch} {D : va_G} {b0 : Nat} {ad : Nat → Nat} {Hb : Heap} {tau : Nat → Int64} {d n s : Nat} {S : Nat → xS} {Z : xZ} {h : mx_H} {Post : mx_R → Prop} (hx : XH n s S Z h) (hG : GI n S Z)   (hP : ∀ z : Int, 1 ≤ z ∧ z ≤ 1 → Post (some (xI z), h)) : mx_J (tB l D b0 ad Hb tau) mt_289 (d + 0) 0 [some (.ref 4102)] [] h Post := by
    refine JcI (z := 1) (show mx_Sn _ _ 0 (mx_const (.int 1) 3) from sn_289 0) rfl ?_
    refine Jif_eq (show mx_Sn _ _ 3 (mx_if_eq 17 6) from sn_289 3) (by omega) (fun q1 => ?_) (fun q1 => ?_)
    · skip
      exfalso; omega
    · skip
      refine mx_J.step (sn_289 6) (fun _ _ => rfl) ?_
      refine Jscod (L := sb_1) (show mx_Sn _ _ 7 (mx_scod 10) from sn_289 7) rfl ?_
      refine Jif_ne (show mx_Sn _ _ 10 (mx_if_ne 17 13) from sn_289 10) (by omega) (fun q2 => ?_) (fun q2 => ?_)
      · skip
        exfalso; omega
      · skip
        refine JcI (z := 1) (show mx_Sn _ _ 13 (mx_const (.int 1) 14) from sn_289 13) rfl ?_
        refine mx_J.step (sn_289 14) (fun _ _ => rfl) ?_
        exact mx_J.ret (show mx_Sn _ _ 18 (mx_zret) from sn_289 18) (fun _ _ => zr_ok (by omega)) (hP 1 (by omega))
theorem ct_289_4102 {l : Launch} {D : va_G} {b0 : Nat} {ad : Nat → Nat} {Hb : Heap} {tau : Nat → Int64} {d n s : Nat} {S : Nat → xS} {Z : xZ} {h : mx_H} (hx : XH n s S Z h) (hG : GI n S Z)   : ∃ z : Int, mx_Ca (tB l D b0 ad Hb tau) (d + 1) 289 [.ref 4102] h (some (xI z), h) ∧ (1 ≤ z ∧ z ≤ 1) := by
  obtain ⟨r, hca, z, e, hp⟩ := Jmt (B := tB l D b0 ad Hb tau) (M := mt_289) (mi := 289) (as := [.ref 4102]) (d := d + 0) (ls := [some (.ref 4102)]) rfl rfl rfl rfl rfl rfl (cw_289_4102 (l := l) (D := D) (b0 := b0) (ad := ad) (Hb := Hb) (tau := tau) (d := d) (Post := fun r => ∃ z : Int, r = (some (xI z), h) ∧ (1 ≤ z ∧ z ≤ 1)) hx hG  (fun z hz => ⟨z, rfl, hz⟩))
  subst e; exact ⟨z, hca, hp⟩
set_option maxRecDepth 100000 in
theorem cw_291_4102 {l : Launch} {D : va_G} {b0 : Nat} {ad : Nat → Nat} {Hb : Heap} {tau : Nat → Int64} {d n s : Nat} {S : Nat → xS} {Z : xZ} {h : mx_H} {Post : mx_R → Prop} (hx : XH n s S Z h) (hG : GI n S Z)   (hP : ∀ z : Int, 12 ≤ z ∧ z ≤ 12 → Post (some (xI z), h)) : mx_J (tB l D b0 ad Hb tau) mt_291 (d + 1) 0 [some (.ref 4102)] [] h Post := by
    refine mx_J.step (sn_291 0) (fun _ _ => rfl) ?_
    refine mx_J.step (sn_291 1) (fun _ _ => rfl) ?_
    refine Jsalen (L := sb_1) (z := 12) (show mx_Sn _ _ 4 (mx_salen 5) from sn_291 4) rfl rfl ?_
    refine mx_J.step (sn_291 5) (fun _ _ => rfl) ?_
    obtain ⟨z1, hc1, b1⟩ := ct_290_4102 (d := d + 0) (l := l) (D := D) (b0 := b0) (ad := ad) (Hb := Hb) (tau := tau) hx hG 
    refine Jck (show mx_Sn _ _ 6 (mx_callk 290 1 9) from sn_291 6) rfl hc1 rfl rfl rfl ?_
    refine Jishr0 (show mx_Sn _ _ 9 (mx_ishr 10) from sn_291 9) (by omega) ?_
    exact mx_J.ret (sn_291 10) (fun _ _ => rfl) (hP 12 (by omega))
theorem ct_291_4102 {l : Launch} {D : va_G} {b0 : Nat} {ad : Nat → Nat} {Hb : Heap} {tau : Nat → Int64} {d n s : Nat} {S : Nat → xS} {Z : xZ} {h : mx_H} (hx : XH n s S Z h) (hG : GI n S Z)   : ∃ z : Int, mx_Ca (tB l D b0 ad Hb tau) (d + 2) 291 [.ref 4102] h (some (xI z), h) ∧ (12 ≤ z ∧ z ≤ 12) := by
  obtain ⟨r, hca, z, e, hp⟩ := Jmt (B := tB l D b0 ad Hb tau) (M := mt_291) (mi := 291) (as := [.ref 4102]) (d := d + 1) (ls := [some (.ref 4102)]) rfl rfl rfl rfl rfl rfl (cw_291_4102 (l := l) (D := D) (b0 := b0) (ad := ad) (Hb := Hb) (tau := tau) (d := d) (Post := fun r => ∃ z : Int, r = (some (xI z), h) ∧ (12 ≤ z ∧ z ≤ 12)) hx hG  (fun z hz => ⟨z, rfl, hz⟩))
  subst e; exact ⟨z, hca, hp⟩
set_option maxRecDepth 100000 in
theorem cw_288_4103 {l : Launch} {D : va_G} {b0 : Nat} {ad : Nat → Nat} {Hb : Heap} {tau : Nat → Int64} {d n s : Nat} {S : Nat → xS} {Z : xZ} {h : mx_H} {Post : mx_R → Prop} (hx : XH n s S Z h) (hG : GI n S Z)  {x0 : Int} (p0 : 0 ≤ x0 ∧ x0 ≤ 11) (hP : ∀ z : Int, 32 ≤ z ∧ z ≤ 122 ∧ z = cw1 x0 → Post (some (xI z), h)) : mx_J (tB l D b0 ad Hb tau) mt_288 (d + 2) 0 [some (.ref 4103), some (xI x0)] [] h Post := by
    refine mx_J.step (sn_288 0) (fun _ _ => rfl) ?_
    refine mx_J.step (sn_288 1) (fun _ _ => rfl) ?_
    refine Jsalen (L := sb_1) (z := 12) (show mx_Sn _ _ 2 (mx_salen 3) from sn_288 2) rfl rfl ?_
    have hc1 := ct_287_ (d := d + 0) (l := l) (D := D) (b0 := b0) (ad := ad) (Hb := Hb) (tau := tau) hx hG (show 0 ≤ x0 ∧ x0 ≤ 100 by omega) (show 0 ≤ 12 ∧ 12 ≤ 100 by omega) (show x0 < 12 by omega)
    refine Jcs0 (show mx_Sn _ _ 3 (mx_calls 287 2 6) from sn_288 3) hc1 rfl rfl rfl ?_
    refine mx_J.step (sn_288 6) (fun _ _ => rfl) ?_
    refine mx_J.step (sn_288 7) (fun _ _ => rfl) ?_
    refine Jsw_1 (show mx_Sn _ _ 8 (mx_sbald 9) from sn_288 8) rfl (by omega) (fun hy2 => ?_)
    refine JcI (z := 255) (show mx_Sn _ _ 9 (mx_const (.int 255) 12) from sn_288 9) rfl ?_
    refine JiandM (q := 256) 8 (show mx_Sn _ _ 12 (mx_iand 13) from sn_288 12) rfl rfl rfl ?_
    refine Ji2c (show mx_Sn _ _ 13 (mx_i2c 14) from sn_288 13) (by omega) ?_
    exact mx_J.ret (show mx_Sn _ _ 14 (mx_nret .char) from sn_288 14) (fun _ _ => nr_ok_char (by omega)) (hP ((cw1 x0) % 256) (by omega))
theorem ct_288_4103 {l : Launch} {D : va_G} {b0 : Nat} {ad : Nat → Nat} {Hb : Heap} {tau : Nat → Int64} {d n s : Nat} {S : Nat → xS} {Z : xZ} {h : mx_H} (hx : XH n s S Z h) (hG : GI n S Z)  {x0 : Int} (p0 : 0 ≤ x0 ∧ x0 ≤ 11) : ∃ z : Int, mx_Ca (tB l D b0 ad Hb tau) (d + 3) 288 [.ref 4103, xI x0] h (some (xI z), h) ∧ (32 ≤ z ∧ z ≤ 122 ∧ z = cw1 x0) := by
  obtain ⟨r, hca, z, e, hp⟩ := Jmt (B := tB l D b0 ad Hb tau) (M := mt_288) (mi := 288) (as := [.ref 4103, xI x0]) (d := d + 2) (ls := [some (.ref 4103), some (xI x0)]) rfl rfl rfl rfl rfl rfl (cw_288_4103 (l := l) (D := D) (b0 := b0) (ad := ad) (Hb := Hb) (tau := tau) (d := d) (Post := fun r => ∃ z : Int, r = (some (xI z), h) ∧ (32 ≤ z ∧ z ≤ 122 ∧ z = cw1 x0)) hx hG p0 (fun z hz => ⟨z, rfl, hz⟩))
  subst e; exact ⟨z, hca, hp⟩
set_option maxRecDepth 100000 in
theorem cw_292_4102 {l : Launch} {D : va_G} {b0 : Nat} {ad : Nat → Nat} {Hb : Heap} {tau : Nat → Int64} {d n s : Nat} {S : Nat → xS} {Z : xZ} {h : mx_H} {Post : mx_R → Prop} (hx : XH n s S Z h) (hG : GI n S Z)  {x0 : Int} (p0 : 0 ≤ x0 ∧ x0 ≤ 11) (hP : ∀ z : Int, 32 ≤ z ∧ z ≤ 122 ∧ z = cw1 x0 → Post (some (xI z), h)) : mx_J (tB l D b0 ad Hb tau) mt_292 (d + 3) 0 [some (.ref 4102), some (xI x0)] [] h Post := by
    refine mx_J.step (sn_292 0) (fun _ _ => rfl) ?_
    obtain ⟨z1, hc1, b1⟩ := ct_289_4102 (d := d + 2) (l := l) (D := D) (b0 := b0) (ad := ad) (Hb := Hb) (tau := tau) hx hG 
    refine Jck (show mx_Sn _ _ 1 (mx_callk 289 1 4) from sn_292 1) rfl hc1 rfl rfl rfl ?_
    refine Jif_eq (show mx_Sn _ _ 4 (mx_if_eq 16 7) from sn_292 4) (by omega) (fun q2 => ?_) (fun q2 => ?_)
    · skip
      exfalso; omega
    · skip
      refine mx_J.step (sn_292 7) (fun _ _ => rfl) ?_
      refine mx_J.step (sn_292 8) (fun _ _ => rfl) ?_
      refine mx_J.step (sn_292 11) (fun _ _ => rfl) ?_
      obtain ⟨z3, hc3, b3⟩ := ct_288_4103 (d := d + 0) (l := l) (D := D) (b0 := b0) (ad := ad) (Hb := Hb) (tau := tau) hx hG (show 0 ≤ x0 ∧ x0 ≤ 11 by omega)
      refine Jcs (show mx_Sn _ _ 12 (mx_calls 288 2 15) from sn_292 12) hc3 rfl rfl rfl ?_
      exact mx_J.ret (show mx_Sn _ _ 15 (mx_nret .char) from sn_292 15) (fun _ _ => nr_ok_char (by omega)) (hP z3 (by omega))
theorem ct_292_4102 {l : Launch} {D : va_G} {b0 : Nat} {ad : Nat → Nat} {Hb : Heap} {tau : Nat → Int64} {d n s : Nat} {S : Nat → xS} {Z : xZ} {h : mx_H} (hx : XH n s S Z h) (hG : GI n S Z)  {x0 : Int} (p0 : 0 ≤ x0 ∧ x0 ≤ 11) : ∃ z : Int, mx_Ca (tB l D b0 ad Hb tau) (d + 4) 292 [.ref 4102, xI x0] h (some (xI z), h) ∧ (32 ≤ z ∧ z ≤ 122 ∧ z = cw1 x0) := by
  obtain ⟨r, hca, z, e, hp⟩ := Jmt (B := tB l D b0 ad Hb tau) (M := mt_292) (mi := 292) (as := [.ref 4102, xI x0]) (d := d + 3) (ls := [some (.ref 4102), some (xI x0)]) rfl rfl rfl rfl rfl rfl (cw_292_4102 (l := l) (D := D) (b0 := b0) (ad := ad) (Hb := Hb) (tau := tau) (d := d) (Post := fun r => ∃ z : Int, r = (some (xI z), h) ∧ (32 ≤ z ∧ z ≤ 122 ∧ z = cw1 x0)) hx hG p0 (fun z hz => ⟨z, rfl, hz⟩))
  subst e; exact ⟨z, hca, hp⟩
set_option maxRecDepth 100000 in
theorem cw_158_56 {l : Launch} {D : va_G} {b0 : Nat} {ad : Nat → Nat} {Hb : Heap} {tau : Nat → Int64} {d n s : Nat} {S : Nat → xS} {Z : xZ} {h : mx_H} {Post : mx_R → Prop} (hx : XH n s S Z h) (hG : GI n S Z)  {x0 : Int} (p0 : 0 ≤ x0 ∧ x0 ≤ 901) (hP : ∀ z : Int, (-1) ≤ z ∧ z ≤ 255 ∧ ((x0 < Z 56 8 → z = Z 59 x0) ∧ (Z 56 8 ≤ x0 → z = -1)) → Post (some (xI z), h)) : mx_J (tB l D b0 ad Hb tau) mt_158 (d + 0) 0 [some (.ref 56), some (xI x0)] [] h Post := by
    have a56 : 56 < n := lt83 (GI_n hG) rfl
    have s56 : S 56 = .inl (12, [0, 2, 2, 2, 2, 0, 0, 0, 0, 0, 0, 0, 0, 0, 0, 2, 2, 2, 0, 2, 2, 2, 0, 0, 2, 2, 2, 2, 2, 2, 0, 0, 2, 2, 2, 2, 2, 2, 2, 2, 2, 2]) := GI_s hG 56 rfl
    have a59 : 59 < n := lt83 (GI_n hG) rfl
    have s59 : S 59 = .inr (.int, 900, 0) := GI_s hG 59 rfl
    refine mx_J.step (sn_158 0) (fun _ _ => rfl) ?_
    refine mx_J.step (sn_158 1) (fun _ _ => rfl) ?_
    have b2 : 0 ≤ Z 56 8 ∧ Z 56 8 ≤ 900 := hG.pr 56 8
    refine JgetI (g := 8) (z := Z 56 8) hx (show mx_Sn _ _ 2 (mx_getf 12 8 5) from sn_158 2) a56 s56 rfl rfl rfl ?_
    have c18 : ∀ (k3_0 : Int), (-1) ≤ k3_0 ∧ k3_0 ≤ 255 → ((x0 < Z 56 8 → k3_0 = Z 59 x0) ∧ (Z 56 8 ≤ x0 → k3_0 = -1)) → mx_J (tB l D b0 ad Hb tau) mt_158 (d + 0) 18 [some (.ref 56), some (xI x0)] [xI k3_0] h Post := by
      intro k3_0 f3_0 f3_1
      have b4 : 0 ≤ Z 59 x0 ∧ Z 59 x0 ≤ 255 := hG.pr 59 x0
      exact mx_J.ret (sn_158 18) (fun _ _ => rfl) (hP k3_0 (by omega))
    refine Jicmp_ge (show mx_Sn _ _ 5 (mx_icmp_ge 17 8) from sn_158 5) (by omega) (by omega) (fun q5 => ?_) (fun q5 => ?_)
    · skip
      refine JcI (z := (-1)) (show mx_Sn _ _ 17 (mx_const (.int (-1)) 18) from sn_158 17) rfl ?_
      exact c18 (-1) (by omega) (by omega)
    · skip
      refine mx_J.step (sn_158 8) (fun _ _ => rfl) ?_
      refine JgetR (g := 3) (b := 59) hx (show mx_Sn _ _ 9 (mx_getf 12 3 12) from sn_158 9) a56 s56 rfl rfl (hG.prr 56 3 rfl) ?_
      refine mx_J.step (sn_158 12) (fun _ _ => rfl) ?_
      have b7 : 0 ≤ Z 59 x0 ∧ Z 59 x0 ≤ 255 := hG.pr 59 x0
      refine JialdI (z := Z 59 x0) hx (show mx_Sn _ _ 13 (mx_iald 14) from sn_158 13) a59 s59 (by omega) rfl ?_
      refine mx_J.step (sn_158 14) (fun _ _ => rfl) ?_
      exact c18 (Z 59 x0) (by omega) (by omega)
theorem ct_158_56 {l : Launch} {D : va_G} {b0 : Nat} {ad : Nat → Nat} {Hb : Heap} {tau : Nat → Int64} {d n s : Nat} {S : Nat → xS} {Z : xZ} {h : mx_H} (hx : XH n s S Z h) (hG : GI n S Z)  {x0 : Int} (p0 : 0 ≤ x0 ∧ x0 ≤ 901) : ∃ z : Int, mx_Ca (tB l D b0 ad Hb tau) (d + 1) 158 [.ref 56, xI x0] h (some (xI z), h) ∧ ((-1) ≤ z ∧ z ≤ 255 ∧ ((x0 < Z 56 8 → z = Z 59 x0) ∧ (Z 56 8 ≤ x0 → z = -1))) := by
  obtain ⟨r, hca, z, e, hp⟩ := Jmt (B := tB l D b0 ad Hb tau) (M := mt_158) (mi := 158) (as := [.ref 56, xI x0]) (d := d + 0) (ls := [some (.ref 56), some (xI x0)]) rfl rfl rfl rfl rfl rfl (cw_158_56 (l := l) (D := D) (b0 := b0) (ad := ad) (Hb := Hb) (tau := tau) (d := d) (Post := fun r => ∃ z : Int, r = (some (xI z), h) ∧ ((-1) ≤ z ∧ z ≤ 255 ∧ ((x0 < Z 56 8 → z = Z 59 x0) ∧ (Z 56 8 ≤ x0 → z = -1)))) hx hG p0 (fun z hz => ⟨z, rfl, hz⟩))
  subst e; exact ⟨z, hca, hp⟩
set_option maxRecDepth 100000 in
theorem cw_159_ {l : Launch} {D : va_G} {b0 : Nat} {ad : Nat → Nat} {Hb : Heap} {tau : Nat → Int64} {d n s : Nat} {S : Nat → xS} {Z : xZ} {h : mx_H} {Post : mx_R → Prop} (hx : XH n s S Z h) (hG : GI n S Z)  {x0 : Int} (p0 : (-2147483648) ≤ x0 ∧ x0 ≤ 2147483647) (hP : ∀ z : Int, 0 ≤ z ∧ z ≤ 1 ∧ ((z = 1 ∧ 97 ≤ x0 ∧ x0 ≤ 122) ∨ (z = 0 ∧ ¬ (97 ≤ x0 ∧ x0 ≤ 122))) → Post (some (xI z), h)) : mx_J (tB l D b0 ad Hb tau) mt_159 (d + 0) 0 [some (xI x0)] [] h Post := by
    refine mx_J.step (sn_159 0) (fun _ _ => rfl) ?_
    refine JcI (z := 97) (show mx_Sn _ _ 1 (mx_const (.int 97) 3) from sn_159 1) rfl ?_
    have c17 : ∀ (k1_0 : Int), 0 ≤ k1_0 ∧ k1_0 ≤ 1 → ((k1_0 = 1 ∧ 97 ≤ x0 ∧ x0 ≤ 122) ∨ (k1_0 = 0 ∧ ¬ (97 ≤ x0 ∧ x0 ≤ 122))) → mx_J (tB l D b0 ad Hb tau) mt_159 (d + 0) 17 [some (xI x0)] [xI k1_0] h Post := by
      intro k1_0 f1_0 f1_1
      exact mx_J.ret (show mx_Sn _ _ 17 (mx_zret) from sn_159 17) (fun _ _ => zr_ok (by omega)) (hP k1_0 (by omega))
    have c16 : ¬ (97 ≤ x0 ∧ x0 ≤ 122) → mx_J (tB l D b0 ad Hb tau) mt_159 (d + 0) 16 [some (xI x0)] [] h Post := by
      intro f2_0
      refine JcI (z := 0) (show mx_Sn _ _ 16 (mx_const (.int 0) 17) from sn_159 16) rfl ?_
      exact c17 0 (by omega) (by omega)
    refine Jicmp_lt (show mx_Sn _ _ 3 (mx_icmp_lt 16 6) from sn_159 3) (by omega) (by omega) (fun q3 => ?_) (fun q3 => ?_)
    · skip
      exact c16 (by omega)
    · skip
      refine mx_J.step (sn_159 6) (fun _ _ => rfl) ?_
      refine JcI (z := 122) (show mx_Sn _ _ 7 (mx_const (.int 122) 9) from sn_159 7) rfl ?_
      refine Jicmp_gt (show mx_Sn _ _ 9 (mx_icmp_gt 16 12) from sn_159 9) (by omega) (by omega) (fun q4 => ?_) (fun q4 => ?_)
      · skip
        exact c16 (by omega)
      · skip
        refine JcI (z := 1) (show mx_Sn _ _ 12 (mx_const (.int 1) 13) from sn_159 12) rfl ?_
        refine mx_J.step (sn_159 13) (fun _ _ => rfl) ?_
        exact c17 1 (by omega) (by omega)
theorem ct_159_ {l : Launch} {D : va_G} {b0 : Nat} {ad : Nat → Nat} {Hb : Heap} {tau : Nat → Int64} {d n s : Nat} {S : Nat → xS} {Z : xZ} {h : mx_H} (hx : XH n s S Z h) (hG : GI n S Z)  {x0 : Int} (p0 : (-2147483648) ≤ x0 ∧ x0 ≤ 2147483647) : ∃ z : Int, mx_Ca (tB l D b0 ad Hb tau) (d + 1) 159 [xI x0] h (some (xI z), h) ∧ (0 ≤ z ∧ z ≤ 1 ∧ ((z = 1 ∧ 97 ≤ x0 ∧ x0 ≤ 122) ∨ (z = 0 ∧ ¬ (97 ≤ x0 ∧ x0 ≤ 122)))) := by
  obtain ⟨r, hca, z, e, hp⟩ := Jmt (B := tB l D b0 ad Hb tau) (M := mt_159) (mi := 159) (as := [xI x0]) (d := d + 0) (ls := [some (xI x0)]) rfl rfl rfl rfl rfl rfl (cw_159_ (l := l) (D := D) (b0 := b0) (ad := ad) (Hb := Hb) (tau := tau) (d := d) (Post := fun r => ∃ z : Int, r = (some (xI z), h) ∧ (0 ≤ z ∧ z ≤ 1 ∧ ((z = 1 ∧ 97 ≤ x0 ∧ x0 ≤ 122) ∨ (z = 0 ∧ ¬ (97 ≤ x0 ∧ x0 ≤ 122))))) hx hG p0 (fun z hz => ⟨z, rfl, hz⟩))
  subst e; exact ⟨z, hca, hp⟩
set_option maxRecDepth 100000 in
theorem cw_160_ {l : Launch} {D : va_G} {b0 : Nat} {ad : Nat → Nat} {Hb : Heap} {tau : Nat → Int64} {d n s : Nat} {S : Nat → xS} {Z : xZ} {h : mx_H} {Post : mx_R → Prop} (hx : XH n s S Z h) (hG : GI n S Z)  {x0 : Int} (p0 : (-2147483648) ≤ x0 ∧ x0 ≤ 2147483647) (hP : ∀ z : Int, 0 ≤ z ∧ z ≤ 1 ∧ ((z = 1 ∧ 48 ≤ x0 ∧ x0 ≤ 57) ∨ (z = 0 ∧ ¬ (48 ≤ x0 ∧ x0 ≤ 57))) → Post (some (xI z), h)) : mx_J (tB l D b0 ad Hb tau) mt_160 (d + 0) 0 [some (xI x0)] [] h Post := by
    refine mx_J.step (sn_160 0) (fun _ _ => rfl) ?_
    refine JcI (z := 48) (show mx_Sn _ _ 1 (mx_const (.int 48) 3) from sn_160 1) rfl ?_
    have c17 : ∀ (k1_0 : Int), 0 ≤ k1_0 ∧ k1_0 ≤ 1 → ((k1_0 = 1 ∧ 48 ≤ x0 ∧ x0 ≤ 57) ∨ (k1_0 = 0 ∧ ¬ (48 ≤ x0 ∧ x0 ≤ 57))) → mx_J (tB l D b0 ad Hb tau) mt_160 (d + 0) 17 [some (xI x0)] [xI k1_0] h Post := by
      intro k1_0 f1_0 f1_1
      exact mx_J.ret (show mx_Sn _ _ 17 (mx_zret) from sn_160 17) (fun _ _ => zr_ok (by omega)) (hP k1_0 (by omega))
    have c16 : ¬ (48 ≤ x0 ∧ x0 ≤ 57) → mx_J (tB l D b0 ad Hb tau) mt_160 (d + 0) 16 [some (xI x0)] [] h Post := by
      intro f2_0
      refine JcI (z := 0) (show mx_Sn _ _ 16 (mx_const (.int 0) 17) from sn_160 16) rfl ?_
      exact c17 0 (by omega) (by omega)
    refine Jicmp_lt (show mx_Sn _ _ 3 (mx_icmp_lt 16 6) from sn_160 3) (by omega) (by omega) (fun q3 => ?_) (fun q3 => ?_)
    · skip
      exact c16 (by omega)
    · skip
      refine mx_J.step (sn_160 6) (fun _ _ => rfl) ?_
      refine JcI (z := 57) (show mx_Sn _ _ 7 (mx_const (.int 57) 9) from sn_160 7) rfl ?_
      refine Jicmp_gt (show mx_Sn _ _ 9 (mx_icmp_gt 16 12) from sn_160 9) (by omega) (by omega) (fun q4 => ?_) (fun q4 => ?_)
      · skip
        exact c16 (by omega)
      · skip
        refine JcI (z := 1) (show mx_Sn _ _ 12 (mx_const (.int 1) 13) from sn_160 12) rfl ?_
        refine mx_J.step (sn_160 13) (fun _ _ => rfl) ?_
        exact c17 1 (by omega) (by omega)
theorem ct_160_ {l : Launch} {D : va_G} {b0 : Nat} {ad : Nat → Nat} {Hb : Heap} {tau : Nat → Int64} {d n s : Nat} {S : Nat → xS} {Z : xZ} {h : mx_H} (hx : XH n s S Z h) (hG : GI n S Z)  {x0 : Int} (p0 : (-2147483648) ≤ x0 ∧ x0 ≤ 2147483647) : ∃ z : Int, mx_Ca (tB l D b0 ad Hb tau) (d + 1) 160 [xI x0] h (some (xI z), h) ∧ (0 ≤ z ∧ z ≤ 1 ∧ ((z = 1 ∧ 48 ≤ x0 ∧ x0 ≤ 57) ∨ (z = 0 ∧ ¬ (48 ≤ x0 ∧ x0 ≤ 57)))) := by
  obtain ⟨r, hca, z, e, hp⟩ := Jmt (B := tB l D b0 ad Hb tau) (M := mt_160) (mi := 160) (as := [xI x0]) (d := d + 0) (ls := [some (xI x0)]) rfl rfl rfl rfl rfl rfl (cw_160_ (l := l) (D := D) (b0 := b0) (ad := ad) (Hb := Hb) (tau := tau) (d := d) (Post := fun r => ∃ z : Int, r = (some (xI z), h) ∧ (0 ≤ z ∧ z ≤ 1 ∧ ((z = 1 ∧ 48 ≤ x0 ∧ x0 ≤ 57) ∨ (z = 0 ∧ ¬ (48 ≤ x0 ∧ x0 ≤ 57))))) hx hG p0 (fun z hz => ⟨z, rfl, hz⟩))
  subst e; exact ⟨z, hca, hp⟩
set_option maxRecDepth 100000 in
theorem cw_161_56 {l : Launch} {D : va_G} {b0 : Nat} {ad : Nat → Nat} {Hb : Heap} {tau : Nat → Int64} {d n s : Nat} {S : Nat → xS} {Z : xZ} {h : mx_H} {Post : mx_R → Prop} {T : Int → Int} {N : Int} (hx : XH n s S Z h) (hG : GI n S Z)   (k0 : Z 56 7 ≤ Z 56 8) (k1 : TM T N Z) (k2 : Z 56 8 = N) (hP : ∀ z : Int, z = tKey T (Z 56 6) (Z 56 7) ∧ 0 ≤ z ∧ z ≤ 77 → Post (some (xI z), h)) : mx_J (tB l D b0 ad Hb tau) mt_161 (d + 4) 0 [some (.ref 56), none, none, none] [] h Post := by
    have a56 : 56 < n := lt83 (GI_n hG) rfl
    have s56 : S 56 = .inl (12, [0, 2, 2, 2, 2, 0, 0, 0, 0, 0, 0, 0, 0, 0, 0, 2, 2, 2, 0, 2, 2, 2, 0, 0, 2, 2, 2, 2, 2, 2, 0, 0, 2, 2, 2, 2, 2, 2, 2, 2, 2, 2]) := GI_s hG 56 rfl
    have a59 : 59 < n := lt83 (GI_n hG) rfl
    have s59 : S 59 = .inr (.int, 900, 0) := GI_s hG 59 rfl
    refine JcI (z := 0) (show mx_Sn _ _ 0 (mx_const (.int 0) 1) from sn_161 0) rfl ?_
    refine mx_J.step (ls2 := [some (.ref 56), some (xI 0), none, none]) (sn_161 1) (fun _ _ => rfl) ?_
    refine JcI (z := 1) (show mx_Sn _ _ 2 (mx_const (.int 1) 3) from sn_161 2) rfl ?_
    refine mx_J.step (ls2 := [some (.ref 56), some (xI 0), some (xI 1), none]) (sn_161 3) (fun _ _ => rfl) ?_
    have c4 : ∀ (m1 : Nat) (w1_1 : Int) (w1_2 : Int) (u1_3 : Option Value), 77 - w1_1 < (m1 : Int) → 0 ≤ w1_1 ∧ w1_1 ≤ 76 → 1 ≤ w1_2 ∧ w1_2 ≤ 77 → w1_1 < w1_2 → KM T (Z 56 6) (Z 56 7) w1_1 w1_2 → mx_J (tB l D b0 ad Hb tau) mt_161 (d + 4) 4 [some (.ref 56), some (xI w1_1), some (xI w1_2), u1_3] [] h Post := by
      intro m1
      induction m1 with
      | zero => intro w1_1 w1_2 u1_3 q1 f1_0 f1_1 f1_2 f1_3; exact absurd q1 (by omega)
      | succ m1 ih1 =>
        intro w1_1 w1_2 u1_3 q1 f1_0 f1_1 f1_2 f1_3
        refine mx_J.step (sn_161 4) (fun _ _ => rfl) ?_
        refine mx_J.step (sn_161 5) (fun _ _ => rfl) ?_
        obtain ⟨z2, hc2, b2⟩ := ct_291_4100 (d := d + 2) (l := l) (D := D) (b0 := b0) (ad := ad) (Hb := Hb) (tau := tau) hx hG 
        refine Jck (show mx_Sn _ _ 7 (mx_callk 291 1 10) from sn_161 7) rfl hc2 rfl rfl rfl ?_
        refine Jicmp_ge (show mx_Sn _ _ 10 (mx_icmp_ge 123 13) from sn_161 10) (by omega) (by omega) (fun q3 => ?_) (fun q3 => ?_)
        · skip
          refine JcI (z := 22) (show mx_Sn _ _ 123 (mx_const (.int 22) 125) from sn_161 123) rfl ?_
          have b4 : 0 ≤ Z 56 6 ∧ Z 56 6 ≤ 900 := hG.pr 56 6
          have b5 : 0 ≤ Z 56 7 ∧ Z 56 7 ≤ 900 := hG.pr 56 7
          have b6 : 0 ≤ Z 56 8 ∧ Z 56 8 ≤ 900 := hG.pr 56 8
          exact mx_J.ret (sn_161 125) (fun _ _ => rfl) (hP 22 ⟨(KM_e (by assumption) (by omega)), by omega⟩)
        · skip
          refine JcI (z := 0) (show mx_Sn _ _ 13 (mx_const (.int 0) 14) from sn_161 13) rfl ?_
          refine mx_J.step (ls2 := [some (.ref 56), some (xI w1_1), some (xI w1_2), some (xI 0)]) (sn_161 14) (fun _ _ => rfl) ?_
          have c15 : ∀ (m7 : Nat) (w7_3 : Int), 75 - w7_3 < (m7 : Int) → 0 ≤ w7_3 ∧ w7_3 ≤ 75 → w1_2 + w7_3 ≤ 76 → KI T (Z 56 6) (Z 56 7) w1_1 w1_2 w7_3 → mx_J (tB l D b0 ad Hb tau) mt_161 (d + 4) 15 [some (.ref 56), some (xI w1_1), some (xI w1_2), some (xI w7_3)] [] h Post := by
            intro m7
            induction m7 with
            | zero => intro w7_3 q7 f7_0 f7_1 f7_2; exact absurd q7 (by omega)
            | succ m7 ih7 =>
              intro w7_3 q7 f7_0 f7_1 f7_2
              refine mx_J.step (sn_161 15) (fun _ _ => rfl) ?_
              refine mx_J.step (sn_161 17) (fun _ _ => rfl) ?_
              refine mx_J.step (sn_161 18) (fun _ _ => rfl) ?_
              refine Jiadd (show mx_Sn _ _ 19 (mx_iadd 20) from sn_161 19) ?_
              obtain ⟨z8, hc8, b8⟩ := ct_292_4100 (d := d + 0) (l := l) (D := D) (b0 := b0) (ad := ad) (Hb := Hb) (tau := tau) hx hG (show 0 ≤ w1_2 + w7_3 ∧ w1_2 + w7_3 ≤ 76 by omega)
              refine Jck (show mx_Sn _ _ 20 (mx_callk 292 2 23) from sn_161 20) rfl hc8 rfl rfl rfl ?_
              refine JcI (z := 32) (show mx_Sn _ _ 23 (mx_const (.int 32) 25) from sn_161 23) rfl ?_
              have c69 : w1_2 + w7_3 ≤ 76 → ¬ (¬ cw2 (w1_2 + w7_3) = 32 ∧ Z 56 6 + w7_3 < Z 56 7 ∧ T (Z 56 6 + w7_3) = cw2 (w1_2 + w7_3)) → mx_J (tB l D b0 ad Hb tau) mt_161 (d + 4) 69 [some (.ref 56), some (xI w1_1), some (xI w1_2), some (xI w7_3)] [] h Post := by
                intro f9_0 f9_1
                refine mx_J.step (sn_161 69) (fun _ _ => rfl) ?_
                refine mx_J.step (sn_161 71) (fun _ _ => rfl) ?_
                refine mx_J.step (sn_161 72) (fun _ _ => rfl) ?_
                refine Jiadd (show mx_Sn _ _ 73 (mx_iadd 74) from sn_161 73) ?_
                obtain ⟨z10, hc10, b10⟩ := ct_292_4100 (d := d + 0) (l := l) (D := D) (b0 := b0) (ad := ad) (Hb := Hb) (tau := tau) hx hG (show 0 ≤ w1_2 + w7_3 ∧ w1_2 + w7_3 ≤ 76 by omega)
                refine Jck (show mx_Sn _ _ 74 (mx_callk 292 2 77) from sn_161 74) rfl hc10 rfl rfl rfl ?_
                refine JcI (z := 32) (show mx_Sn _ _ 77 (mx_const (.int 32) 79) from sn_161 77) rfl ?_
                have c97 : ∀ (m11 : Nat) (w11_2 : Int), 76 - w11_2 < (m11 : Int) → 1 ≤ w11_2 ∧ w11_2 ≤ 76 → w1_1 < w11_2 → KZ T (Z 56 6) (Z 56 7) w1_1 w11_2 → mx_J (tB l D b0 ad Hb tau) mt_161 (d + 4) 97 [some (.ref 56), some (xI w1_1), some (xI w11_2), some (xI w7_3)] [] h Post := by
                  intro m11
                  induction m11 with
                  | zero => intro w11_2 q11 f11_0 f11_1 f11_2; exact absurd q11 (by omega)
                  | succ m11 ih11 =>
                    intro w11_2 q11 f11_0 f11_1 f11_2
                    refine mx_J.step (sn_161 97) (fun _ _ => rfl) ?_
                    refine mx_J.step (sn_161 99) (fun _ _ => rfl) ?_
                    obtain ⟨z12, hc12, b12⟩ := ct_292_4100 (d := d + 0) (l := l) (D := D) (b0 := b0) (ad := ad) (Hb := Hb) (tau := tau) hx hG (show 0 ≤ w11_2 ∧ w11_2 ≤ 76 by omega)
                    refine Jck (show mx_Sn _ _ 100 (mx_callk 292 2 103) from sn_161 100) rfl hc12 rfl rfl rfl ?_
                    refine JcI (z := 32) (show mx_Sn _ _ 103 (mx_const (.int 32) 105) from sn_161 103) rfl ?_
                    refine Jicmp_eq (show mx_Sn _ _ 105 (mx_icmp_eq 114 108) from sn_161 105) (by omega) (by omega) (fun q13 => ?_) (fun q13 => ?_)
                    · skip
                      refine Jiinc (z := w11_2) (cz := 1) (ls2 := [some (.ref 56), some (xI w1_1), some (xI (w11_2 + 1)), some (xI w7_3)]) (show mx_Sn _ _ 114 (mx_iinc 2 1 117) from sn_161 114) rfl rfl rfl rfl ?_
                      refine Jiinc (z := w1_1) (cz := 1) (ls2 := [some (.ref 56), some (xI (w1_1 + 1)), some (xI (w11_2 + 1)), some (xI w7_3)]) (show mx_Sn _ _ 117 (mx_iinc 1 1 120) from sn_161 117) rfl rfl rfl rfl ?_
                      refine mx_J.step (sn_161 120) (fun _ _ => rfl) ?_
                      exact ih1 (w1_1 + 1) (w11_2 + 1) (some (xI w7_3)) (by omega) (by omega) (by omega) (by omega) (KZ_e (by assumption) (by omega))
                    · skip
                      refine Jiinc (z := w11_2) (cz := 1) (ls2 := [some (.ref 56), some (xI w1_1), some (xI (w11_2 + 1)), some (xI w7_3)]) (show mx_Sn _ _ 108 (mx_iinc 2 1 111) from sn_161 108) rfl rfl rfl rfl ?_
                      refine mx_J.step (sn_161 111) (fun _ _ => rfl) ?_
                      exact ih11 (w11_2 + 1) (by omega) (by omega) (by omega) (KZ_s (by assumption) (by omega))
                refine Jicmp_ne (show mx_Sn _ _ 79 (mx_icmp_ne 97 82) from sn_161 79) (by omega) (by omega) (fun q14 => ?_) (fun q14 => ?_)
                · skip
                  exact c97 (Int.toNat (76 - w1_2) + 1) w1_2 (by omega) (by omega) (by omega) (KI_f (by assumption) (by assumption) (by omega))
                · skip
                  refine mx_J.step (sn_161 82) (fun _ _ => rfl) ?_
                  have b16 : 0 ≤ Z 56 6 ∧ Z 56 6 ≤ 900 := hG.pr 56 6
                  refine JgetI (g := 6) (z := Z 56 6) hx (show mx_Sn _ _ 83 (mx_getf 12 6 86) from sn_161 83) a56 s56 rfl rfl rfl ?_
                  refine mx_J.step (sn_161 86) (fun _ _ => rfl) ?_
                  refine Jiadd (show mx_Sn _ _ 87 (mx_iadd 88) from sn_161 87) ?_
                  refine mx_J.step (sn_161 88) (fun _ _ => rfl) ?_
                  have b18 : 0 ≤ Z 56 7 ∧ Z 56 7 ≤ 900 := hG.pr 56 7
                  refine JgetI (g := 7) (z := Z 56 7) hx (show mx_Sn _ _ 89 (mx_getf 12 7 92) from sn_161 89) a56 s56 rfl rfl rfl ?_
                  refine Jicmp_ne (show mx_Sn _ _ 92 (mx_icmp_ne 97 95) from sn_161 92) (by omega) (by omega) (fun q19 => ?_) (fun q19 => ?_)
                  · skip
                    exact c97 (Int.toNat (76 - w1_2) + 1) w1_2 (by omega) (by omega) (by omega) (KI_f (by assumption) (by assumption) (by omega))
                  · skip
                    refine mx_J.step (sn_161 95) (fun _ _ => rfl) ?_
                    have b20 : 0 ≤ Z 56 8 ∧ Z 56 8 ≤ 900 := hG.pr 56 8
                    exact mx_J.ret (sn_161 96) (fun _ _ => rfl) (hP w1_1 ⟨(KI_r (by assumption) (by omega) (by omega)), by omega⟩)
              refine Jicmp_eq (show mx_Sn _ _ 25 (mx_icmp_eq 69 28) from sn_161 25) (by omega) (by omega) (fun q21 => ?_) (fun q21 => ?_)
              · skip
                exact c69 (by omega) (by omega)
              · skip
                refine mx_J.step (sn_161 28) (fun _ _ => rfl) ?_
                have b23 : 0 ≤ Z 56 6 ∧ Z 56 6 ≤ 900 := hG.pr 56 6
                refine JgetI (g := 6) (z := Z 56 6) hx (show mx_Sn _ _ 29 (mx_getf 12 6 32) from sn_161 29) a56 s56 rfl rfl rfl ?_
                refine mx_J.step (sn_161 32) (fun _ _ => rfl) ?_
                refine Jiadd (show mx_Sn _ _ 33 (mx_iadd 34) from sn_161 33) ?_
                refine mx_J.step (sn_161 34) (fun _ _ => rfl) ?_
                have b25 : 0 ≤ Z 56 7 ∧ Z 56 7 ≤ 900 := hG.pr 56 7
                refine JgetI (g := 7) (z := Z 56 7) hx (show mx_Sn _ _ 35 (mx_getf 12 7 38) from sn_161 35) a56 s56 rfl rfl rfl ?_
                refine Jicmp_ge (show mx_Sn _ _ 38 (mx_icmp_ge 69 41) from sn_161 38) (by omega) (by omega) (fun q26 => ?_) (fun q26 => ?_)
                · skip
                  exact c69 (by omega) (by omega)
                · skip
                  have tj : T (Z 56 6 + w7_3) = Z 59 (Z 56 6 + w7_3) := TM_i k1 (by omega) (by omega)
                  refine mx_J.step (sn_161 41) (fun _ _ => rfl) ?_
                  refine JgetR (g := 3) (b := 59) hx (show mx_Sn _ _ 42 (mx_getf 12 3 45) from sn_161 42) a56 s56 rfl rfl (hG.prr 56 3 rfl) ?_
                  refine mx_J.step (sn_161 45) (fun _ _ => rfl) ?_
                  refine JgetI (g := 6) (z := Z 56 6) hx (show mx_Sn _ _ 46 (mx_getf 12 6 49) from sn_161 46) a56 s56 rfl rfl rfl ?_
                  refine mx_J.step (sn_161 49) (fun _ _ => rfl) ?_
                  refine Jiadd (show mx_Sn _ _ 50 (mx_iadd 51) from sn_161 50) ?_
                  have b29 : 0 ≤ Z 59 ((Z 56 6) + w7_3) ∧ Z 59 ((Z 56 6) + w7_3) ≤ 255 := hG.pr 59 ((Z 56 6) + w7_3)
                  refine JialdI (z := Z 59 ((Z 56 6) + w7_3)) hx (show mx_Sn _ _ 51 (mx_iald 52) from sn_161 51) a59 s59 (by omega) rfl ?_
                  refine mx_J.step (sn_161 52) (fun _ _ => rfl) ?_
                  refine mx_J.step (sn_161 54) (fun _ _ => rfl) ?_
                  refine mx_J.step (sn_161 55) (fun _ _ => rfl) ?_
                  refine Jiadd (show mx_Sn _ _ 56 (mx_iadd 57) from sn_161 56) ?_
                  obtain ⟨z30, hc30, b30⟩ := ct_292_4100 (d := d + 0) (l := l) (D := D) (b0 := b0) (ad := ad) (Hb := Hb) (tau := tau) hx hG (show 0 ≤ w1_2 + w7_3 ∧ w1_2 + w7_3 ≤ 76 by omega)
                  refine Jck (show mx_Sn _ _ 57 (mx_callk 292 2 60) from sn_161 57) rfl hc30 rfl rfl rfl ?_
                  refine Jicmp_ne (show mx_Sn _ _ 60 (mx_icmp_ne 69 63) from sn_161 60) (by omega) (by omega) (fun q31 => ?_) (fun q31 => ?_)
                  · skip
                    exact c69 (by omega) (by omega)
                  · skip
                    refine Jiinc (z := w7_3) (cz := 1) (ls2 := [some (.ref 56), some (xI w1_1), some (xI w1_2), some (xI (w7_3 + 1))]) (show mx_Sn _ _ 63 (mx_iinc 3 1 66) from sn_161 63) rfl rfl rfl rfl ?_
                    refine mx_J.step (sn_161 66) (fun _ _ => rfl) ?_
                    exact ih7 (w7_3 + 1) (by omega) (by omega) (by omega) (KI_s (by assumption) (by omega) (by omega) (by omega))
          exact c15 (Int.toNat (75 - 0) + 1) 0 (by omega) (by omega) (by omega) (KI_0 (by assumption) (by omega))
    exact c4 (Int.toNat (77 - 0) + 1) 0 1 none (by omega) (by omega) (by omega) (by omega) (KM_0)
theorem ct_161_56 {l : Launch} {D : va_G} {b0 : Nat} {ad : Nat → Nat} {Hb : Heap} {tau : Nat → Int64} {d n s : Nat} {S : Nat → xS} {Z : xZ} {h : mx_H} {T : Int → Int} {N : Int} (hx : XH n s S Z h) (hG : GI n S Z)   (k0 : Z 56 7 ≤ Z 56 8) (k1 : TM T N Z) (k2 : Z 56 8 = N) : ∃ z : Int, mx_Ca (tB l D b0 ad Hb tau) (d + 5) 161 [.ref 56] h (some (xI z), h) ∧ (z = tKey T (Z 56 6) (Z 56 7) ∧ 0 ≤ z ∧ z ≤ 77) := by
  obtain ⟨r, hca, z, e, hp⟩ := Jmt (B := tB l D b0 ad Hb tau) (M := mt_161) (mi := 161) (as := [.ref 56]) (d := d + 4) (ls := [some (.ref 56), none, none, none]) rfl rfl rfl rfl rfl rfl (cw_161_56 (l := l) (D := D) (b0 := b0) (ad := ad) (Hb := Hb) (tau := tau) (d := d) (Post := fun r => ∃ z : Int, r = (some (xI z), h) ∧ (z = tKey T (Z 56 6) (Z 56 7) ∧ 0 ≤ z ∧ z ≤ 77)) hx hG k0 k1 k2 (fun z hz => ⟨z, rfl, hz⟩))
  subst e; exact ⟨z, hca, hp⟩
set_option maxRecDepth 100000 in
theorem cw_162_56 {l : Launch} {D : va_G} {b0 : Nat} {ad : Nat → Nat} {Hb : Heap} {tau : Nat → Int64} {d n s : Nat} {S : Nat → xS} {Z : xZ} {h : mx_H} {Post : mx_R → Prop} {T : Int → Int} {N : Int} (hx : XH n s S Z h) (hG : GI n S Z)   (k0 : Z 56 7 ≤ Z 56 8) (k1 : TM T N Z) (k2 : Z 56 8 = N) (hP : ∀ (Z' : xZ) (h' : mx_H), XH n s S Z' h' → GI n S Z' → fr' [(56, 6), (56, 7), (56, 9), (56, 10)] Z Z' → AW T N Z Z' ∧ ((Z' 56 6 ≤ Z' 56 7 ∧ Z' 56 7 ≤ Z 56 8 ∧ (Z' 56 9 = 24 ∨ Z' 56 6 < Z' 56 7)) ∧ Z 56 7 ≤ Z' 56 6) → Post (none, h')) : mx_J (tB l D b0 ad Hb tau) mt_162 (d + 5) 0 [some (.ref 56), none] [] h Post := by
    have a56 : 56 < n := lt83 (GI_n hG) rfl
    have s56 : S 56 = .inl (12, [0, 2, 2, 2, 2, 0, 0, 0, 0, 0, 0, 0, 0, 0, 0, 2, 2, 2, 0, 2, 2, 2, 0, 0, 2, 2, 2, 2, 2, 2, 0, 0, 2, 2, 2, 2, 2, 2, 2, 2, 2, 2]) := GI_s hG 56 rfl
    refine mx_J.step (sn_162 0) (fun _ _ => rfl) ?_
    refine mx_J.step (sn_162 1) (fun _ _ => rfl) ?_
    have b2 : 0 ≤ Z 56 7 ∧ Z 56 7 ≤ 900 := hG.pr 56 7
    refine JgetI (g := 7) (z := Z 56 7) hx (show mx_Sn _ _ 2 (mx_getf 12 7 5) from sn_162 2) a56 s56 rfl rfl rfl ?_
    refine JputI (g := 6) hx (show mx_Sn _ _ 5 (mx_putf 1 12 6 (.int) 8) from sn_162 5) a56 s56 rfl rfl rfl rfl (fun Z3 h3 hx3 hE3 => ?_)
    have hG3 := GI_up hG hE3 (show 0 ≤ Z 56 7 ∧ Z 56 7 ≤ 900 by omega) trivial rfl
    have c8 : ∀ (m4 : Nat)  (Z5 : xZ) (h5 : mx_H), Z 56 8 - Z5 56 6 < (m4 : Int) → (Z5 56 6 ≤ Z 56 8 ∧ Z 56 7 ≤ Z5 56 6) → tBg T N (Z5 56 6) = tBg T N (Z 56 7) → XH n s S Z5 h5 → GI n S Z5 → fr' [(56, 6)] Z3 Z5 → mx_J (tB l D b0 ad Hb tau) mt_162 (d + 5) 8 [some (.ref 56), none] [] h5 Post := by
      intro m4
      induction m4 with
      | zero => intro Z5 h5 q4 f4_0 f4_1 hx5 hG5 hf5; exact absurd q4 (by omega)
      | succ m4 ih4 =>
        intro Z5 h5 q4 f4_0 f4_1 hx5 hG5 hf5
        have b6 : 0 ≤ Z5 56 6 ∧ Z5 56 6 ≤ 900 := hG5.pr 56 6
        have tx : (Z5 56 6) < N → T (Z5 56 6) = Z 59 (Z5 56 6) := fun q => TM_i k1 (by omega) q
        refine mx_J.step (sn_162 8) (fun _ _ => rfl) ?_
        refine mx_J.step (sn_162 9) (fun _ _ => rfl) ?_
        refine JgetI (g := 6) (z := Z5 56 6) hx5 (show mx_Sn _ _ 10 (mx_getf 12 6 13) from sn_162 10) a56 s56 rfl rfl rfl ?_
        have eq9 : Z5 56 8 = Z 56 8 := ((hf5 56 8 rfl).trans (up_ni hE3 (by decide)))
        have b10 : 0 ≤ Z 56 8 ∧ Z 56 8 ≤ 900 := hG.pr 56 8
        have eq11 : Z5 59 (Z5 56 6) = Z 59 (Z5 56 6) := ((hf5 59 (Z5 56 6) rfl).trans (up_nk hE3 rfl))
        have b12 : 0 ≤ Z 59 (Z5 56 6) ∧ Z 59 (Z5 56 6) ≤ 255 := hG.pr 59 (Z5 56 6)
        obtain ⟨z8, hc8, b8⟩ := ct_158_56 (d := d + 4) (l := l) (D := D) (b0 := b0) (ad := ad) (Hb := Hb) (tau := tau) hx5 hG5 (show 0 ≤ Z5 56 6 ∧ Z5 56 6 ≤ 901 by omega)
        try rw [eq9] at b8
        try rw [eq11] at b8
        refine Jcv hx5 (show mx_Sn _ _ 13 (mx_callv 158 2 12 16) from sn_162 13) a56 s56 hc8 rfl rfl rfl ?_
        refine JcI (z := 10) (show mx_Sn _ _ 16 (mx_const (.int 10) 18) from sn_162 16) rfl ?_
        have c34 : ((Z5 56 6) < Z 56 8 ∧ (Z 59 (Z5 56 6) = 10 ∨ Z 59 (Z5 56 6) = 32)) → mx_J (tB l D b0 ad Hb tau) mt_162 (d + 5) 34 [some (.ref 56), none] [] h5 Post := by
          intro f13_0
          have tb := (tBg_e (T := T) (N := N) (Z5 56 6)).1 (by omega) (by have := tx (by omega); omega)
          refine mx_J.step (sn_162 34) (fun _ _ => rfl) ?_
          refine mx_J.step (sn_162 35) (fun _ _ => rfl) ?_
          refine JgetI (g := 6) (z := Z5 56 6) hx5 (show mx_Sn _ _ 36 (mx_getf 12 6 39) from sn_162 36) a56 s56 rfl rfl rfl ?_
          refine JcI (z := 1) (show mx_Sn _ _ 39 (mx_const (.int 1) 40) from sn_162 39) rfl ?_
          refine Jiadd (show mx_Sn _ _ 40 (mx_iadd 41) from sn_162 40) ?_
          refine JputI (g := 6) hx5 (show mx_Sn _ _ 41 (mx_putf 1 12 6 (.int) 44) from sn_162 41) a56 s56 rfl rfl rfl rfl (fun Z15 h15 hx15 hE15 => ?_)
          have hG15 := GI_up hG5 hE15 (show 0 ≤ (Z5 56 6) + 1 ∧ (Z5 56 6) + 1 ≤ 900 by omega) trivial rfl
          refine mx_J.step (sn_162 44) (fun _ _ => rfl) ?_
          have eq16 : Z15 56 6 = (Z5 56 6) + 1 := (up_at hE15)
          have eq17 : Z15 56 6 = (Z5 56 6) + 1 := (up_at hE15)
          exact ih4 Z15 h15 (by omega) (by omega) (by rw [(show Z15 56 6 = (Z5 56 6) + 1 from (up_at hE15))]; exact tb.symm.trans (by assumption)) hx15 hG15 (fr_tr (M := [(56, 6)]) (fr_tr (M := [(56, 6)]) fr_rf (hf5) (M1 := []) rfl rfl) (fr_up hE15) rfl rfl)
        refine Jicmp_eq (show mx_Sn _ _ 18 (mx_icmp_eq 34 21) from sn_162 18) (by omega) (by omega) (fun q18 => ?_) (fun q18 => ?_)
        · skip
          exact c34 (by omega)
        · skip
          refine mx_J.step (sn_162 21) (fun _ _ => rfl) ?_
          refine mx_J.step (sn_162 22) (fun _ _ => rfl) ?_
          refine JgetI (g := 6) (z := Z5 56 6) hx5 (show mx_Sn _ _ 23 (mx_getf 12 6 26) from sn_162 23) a56 s56 rfl rfl rfl ?_
          have eq21 : Z5 56 8 = Z 56 8 := ((hf5 56 8 rfl).trans (up_ni hE3 (by decide)))
          have eq22 : Z5 59 (Z5 56 6) = Z 59 (Z5 56 6) := ((hf5 59 (Z5 56 6) rfl).trans (up_nk hE3 rfl))
          obtain ⟨z20, hc20, b20⟩ := ct_158_56 (d := d + 4) (l := l) (D := D) (b0 := b0) (ad := ad) (Hb := Hb) (tau := tau) hx5 hG5 (show 0 ≤ Z5 56 6 ∧ Z5 56 6 ≤ 901 by omega)
          try rw [eq21] at b20
          try rw [eq22] at b20
          refine Jcv hx5 (show mx_Sn _ _ 26 (mx_callv 158 2 12 29) from sn_162 26) a56 s56 hc20 rfl rfl rfl ?_
          refine JcI (z := 32) (show mx_Sn _ _ 29 (mx_const (.int 32) 31) from sn_162 29) rfl ?_
          refine Jicmp_ne (show mx_Sn _ _ 31 (mx_icmp_ne 47 34) from sn_162 31) (by omega) (by omega) (fun q23 => ?_) (fun q23 => ?_)
          · skip
            have tb : (Z5 56 6) = tBg T N (Z 56 7) := ((tBg_e (T := T) (N := N) (Z5 56 6)).2.1 (fun q => by have := tx q.1; omega)).symm.trans (by assumption)
            refine mx_J.step (sn_162 47) (fun _ _ => rfl) ?_
            refine mx_J.step (sn_162 48) (fun _ _ => rfl) ?_
            refine JgetI (g := 6) (z := Z5 56 6) hx5 (show mx_Sn _ _ 49 (mx_getf 12 6 52) from sn_162 49) a56 s56 rfl rfl rfl ?_
            refine JputI (g := 7) hx5 (show mx_Sn _ _ 52 (mx_putf 1 12 7 (.int) 55) from sn_162 52) a56 s56 rfl rfl rfl rfl (fun Z25 h25 hx25 hE25 => ?_)
            have hG25 := GI_up hG5 hE25 (show 0 ≤ Z5 56 6 ∧ Z5 56 6 ≤ 900 by omega) trivial rfl
            refine mx_J.step (sn_162 55) (fun _ _ => rfl) ?_
            refine JgetI (g := 6) (z := Z5 56 6) hx25 (show mx_Sn _ _ 56 (mx_getf 12 6 59) from sn_162 56) a56 s56 rfl rfl (up_ni hE25 (by decide)) ?_
            refine mx_J.step (sn_162 59) (fun _ _ => rfl) ?_
            refine JgetI (g := 8) (z := Z 56 8) hx25 (show mx_Sn _ _ 60 (mx_getf 12 8 63) from sn_162 60) a56 s56 rfl rfl ((up_ni hE25 (by decide)).trans ((hf5 56 8 rfl).trans (up_ni hE3 (by decide)))) ?_
            refine Jicmp_lt (show mx_Sn _ _ 63 (mx_icmp_lt 75 66) from sn_162 63) (by omega) (by omega) (fun q28 => ?_) (fun q28 => ?_)
            · skip
              refine mx_J.step (sn_162 75) (fun _ _ => rfl) ?_
              refine mx_J.step (sn_162 76) (fun _ _ => rfl) ?_
              refine JgetI (g := 6) (z := Z5 56 6) hx25 (show mx_Sn _ _ 77 (mx_getf 12 6 80) from sn_162 77) a56 s56 rfl rfl (up_ni hE25 (by decide)) ?_
              have eq31 : Z25 56 8 = Z 56 8 := ((up_ni hE25 (by decide)).trans ((hf5 56 8 rfl).trans (up_ni hE3 (by decide))))
              have eq32 : Z25 59 (Z5 56 6) = Z 59 (Z5 56 6) := ((up_nk hE25 rfl).trans ((hf5 59 (Z5 56 6) rfl).trans (up_nk hE3 rfl)))
              obtain ⟨z30, hc30, b30⟩ := ct_158_56 (d := d + 4) (l := l) (D := D) (b0 := b0) (ad := ad) (Hb := Hb) (tau := tau) hx25 hG25 (show 0 ≤ Z5 56 6 ∧ Z5 56 6 ≤ 901 by omega)
              try rw [eq31] at b30
              try rw [eq32] at b30
              refine Jcv hx25 (show mx_Sn _ _ 80 (mx_callv 158 2 12 83) from sn_162 80) a56 s56 hc30 rfl rfl rfl ?_
              obtain ⟨z33, hc33, b33⟩ := ct_159_ (d := d + 4) (l := l) (D := D) (b0 := b0) (ad := ad) (Hb := Hb) (tau := tau) hx25 hG25 (show (-2147483648) ≤ z30 ∧ z30 ≤ 2147483647 by omega)
              refine Jcs (show mx_Sn _ _ 83 (mx_calls 159 1 86) from sn_162 83) hc33 rfl rfl rfl ?_
              refine Jif_eq (show mx_Sn _ _ 86 (mx_if_eq 127 89) from sn_162 86) (by omega) (fun q34 => ?_) (fun q34 => ?_)
              · skip
                refine mx_J.step (sn_162 127) (fun _ _ => rfl) ?_
                refine mx_J.step (sn_162 128) (fun _ _ => rfl) ?_
                refine JgetI (g := 6) (z := Z5 56 6) hx25 (show mx_Sn _ _ 129 (mx_getf 12 6 132) from sn_162 129) a56 s56 rfl rfl (up_ni hE25 (by decide)) ?_
                have eq37 : Z25 56 8 = Z 56 8 := ((up_ni hE25 (by decide)).trans ((hf5 56 8 rfl).trans (up_ni hE3 (by decide))))
                have eq38 : Z25 59 (Z5 56 6) = Z 59 (Z5 56 6) := ((up_nk hE25 rfl).trans ((hf5 59 (Z5 56 6) rfl).trans (up_nk hE3 rfl)))
                obtain ⟨z36, hc36, b36⟩ := ct_158_56 (d := d + 4) (l := l) (D := D) (b0 := b0) (ad := ad) (Hb := Hb) (tau := tau) hx25 hG25 (show 0 ≤ Z5 56 6 ∧ Z5 56 6 ≤ 901 by omega)
                try rw [eq37] at b36
                try rw [eq38] at b36
                refine Jcv hx25 (show mx_Sn _ _ 132 (mx_callv 158 2 12 135) from sn_162 132) a56 s56 hc36 rfl rfl rfl ?_
                obtain ⟨z39, hc39, b39⟩ := ct_160_ (d := d + 4) (l := l) (D := D) (b0 := b0) (ad := ad) (Hb := Hb) (tau := tau) hx25 hG25 (show (-2147483648) ≤ z36 ∧ z36 ≤ 2147483647 by omega)
                refine Jcs (show mx_Sn _ _ 135 (mx_calls 160 1 138) from sn_162 135) hc39 rfl rfl rfl ?_
                refine Jif_eq (show mx_Sn _ _ 138 (mx_if_eq 236 141) from sn_162 138) (by omega) (fun q40 => ?_) (fun q40 => ?_)
                · skip
                  have kd := tKd_sig (T := T) (N := N) (p := Z 56 7) (by omega) (by rw [← tb]; have := tx (by omega); omega) (by rw [← tb]; have := tx (by omega); omega)
                  have sb := tSg_b (T (tBg T N (Z 56 7)))
                  refine mx_J.step (sn_162 236) (fun _ _ => rfl) ?_
                  refine mx_J.step (sn_162 237) (fun _ _ => rfl) ?_
                  refine JgetI (g := 7) (z := Z5 56 6) hx25 (show mx_Sn _ _ 238 (mx_getf 12 7 241) from sn_162 238) a56 s56 rfl rfl (up_at hE25) ?_
                  refine JcI (z := 1) (show mx_Sn _ _ 241 (mx_const (.int 1) 242) from sn_162 241) rfl ?_
                  refine Jiadd (show mx_Sn _ _ 242 (mx_iadd 243) from sn_162 242) ?_
                  refine JputI (g := 7) hx25 (show mx_Sn _ _ 243 (mx_putf 1 12 7 (.int) 246) from sn_162 243) a56 s56 rfl rfl rfl rfl (fun Z42 h42 hx42 hE42 => ?_)
                  have hG42 := GI_up hG25 hE42 (show 0 ≤ (Z5 56 6) + 1 ∧ (Z5 56 6) + 1 ≤ 900 by omega) trivial rfl
                  refine mx_J.step (sn_162 246) (fun _ _ => rfl) ?_
                  refine JcI (z := 25) (show mx_Sn _ _ 247 (mx_const (.int 25) 249) from sn_162 247) rfl ?_
                  refine JputI (g := 9) hx42 (show mx_Sn _ _ 249 (mx_putf 1 12 9 (.int) 252) from sn_162 249) a56 s56 rfl rfl rfl rfl (fun Z43 h43 hx43 hE43 => ?_)
                  have hG43 := GI_up hG42 hE43 (show 0 ≤ 25 ∧ 25 ≤ 100 by omega) trivial rfl
                  refine JcI (z := 0) (show mx_Sn _ _ 252 (mx_const (.int 0) 253) from sn_162 252) rfl ?_
                  refine mx_J.step (ls2 := [some (.ref 56), some (xI 0)]) (sn_162 253) (fun _ _ => rfl) ?_
                  have c254 : ∀ (m44 : Nat) (w44_1 : Int) (Z45 : xZ) (h45 : mx_H), 12 - w44_1 < (m44 : Int) → 0 ≤ w44_1 ∧ w44_1 ≤ 12 → SI (Z 59 (Z5 56 6)) w44_1 (Z45 56 9) → XH n s S Z45 h45 → GI n S Z45 → fr' [(56, 9)] Z43 Z45 → mx_J (tB l D b0 ad Hb tau) mt_162 (d + 5) 254 [some (.ref 56), some (xI w44_1)] [] h45 Post := by
                    intro m44
                    induction m44 with
                    | zero => intro w44_1 Z45 h45 q44 f44_0 f44_1 hx45 hG45 hf45; exact absurd q44 (by omega)
                    | succ m44 ih44 =>
                      intro w44_1 Z45 h45 q44 f44_0 f44_1 hx45 hG45 hf45
                      refine mx_J.step (sn_162 254) (fun _ _ => rfl) ?_
                      refine mx_J.step (sn_162 255) (fun _ _ => rfl) ?_
                      obtain ⟨z46, hc46, b46⟩ := ct_291_4102 (d := d + 3) (l := l) (D := D) (b0 := b0) (ad := ad) (Hb := Hb) (tau := tau) hx45 hG45 
                      refine Jck (show mx_Sn _ _ 257 (mx_callk 291 1 260) from sn_162 257) rfl hc46 rfl rfl rfl ?_
                      refine Jicmp_ge (show mx_Sn _ _ 260 (mx_icmp_ge 294 263) from sn_162 260) (by omega) (by omega) (fun q47 => ?_) (fun q47 => ?_)
                      · skip
                        have av : AW T N Z Z45 := by first | assumption | exact ⟨((hf45 56 6 rfl).trans ((up_ni hE43 (by decide)).trans ((up_ni hE42 (by decide)).trans (up_ni hE25 (by decide))))).trans tb, (by have e := ((hf45 56 7 rfl).trans ((up_ni hE43 (by decide)).trans (up_at hE42))); omega), (by rw [kd.1, ← tb, tx (by omega)]; exact SI_e ((show w44_1 = (12 : Int) by omega) ▸ (by assumption))), fun q => by omega⟩
                        have eq48 : Z45 56 6 = Z5 56 6 := ((hf45 56 6 rfl).trans ((up_ni hE43 (by decide)).trans ((up_ni hE42 (by decide)).trans (up_ni hE25 (by decide)))))
                        have eq49 : Z45 56 7 = (Z5 56 6) + 1 := ((hf45 56 7 rfl).trans ((up_ni hE43 (by decide)).trans (up_at hE42)))
                        have b50 : 0 ≤ Z45 56 9 ∧ Z45 56 9 ≤ 100 := hG45.pr 56 9
                        have eq51 : Z45 56 7 = (Z5 56 6) + 1 := ((hf45 56 7 rfl).trans ((up_ni hE43 (by decide)).trans (up_at hE42)))
                        have eq52 : Z45 56 8 = Z 56 8 := ((hf45 56 8 rfl).trans ((up_ni hE43 (by decide)).trans ((up_ni hE42 (by decide)).trans ((up_ni hE25 (by decide)).trans ((hf5 56 8 rfl).trans (up_ni hE3 (by decide)))))))
                        exact mx_J.ret (sn_162 294) (fun _ _ => rfl) (hP Z45 h45 hx45 hG45 (fr_tr (M := [(56, 6), (56, 7), (56, 9), (56, 10)]) (fr_tr (M := [(56, 6), (56, 7), (56, 9), (56, 10)]) (fr_tr (M := [(56, 6), (56, 7), (56, 9), (56, 10)]) (fr_tr (M := [(56, 6), (56, 7), (56, 9), (56, 10)]) (fr_tr (M := [(56, 6), (56, 7), (56, 9), (56, 10)]) (fr_tr (M := [(56, 6), (56, 7), (56, 9), (56, 10)]) fr_rf (fr_up hE3) (M1 := []) rfl rfl) (hf5) rfl rfl) (fr_up hE25) rfl rfl) (fr_up hE42) rfl rfl) (fr_up hE43) rfl rfl) (hf45) rfl rfl) ⟨(av), by omega⟩)
                      · skip
                        refine mx_J.step (sn_162 263) (fun _ _ => rfl) ?_
                        refine mx_J.step (sn_162 264) (fun _ _ => rfl) ?_
                        refine JgetI (g := 6) (z := Z5 56 6) hx45 (show mx_Sn _ _ 265 (mx_getf 12 6 268) from sn_162 265) a56 s56 rfl rfl ((hf45 56 6 rfl).trans ((up_ni hE43 (by decide)).trans ((up_ni hE42 (by decide)).trans (up_ni hE25 (by decide))))) ?_
                        have eq55 : Z45 56 8 = Z 56 8 := ((hf45 56 8 rfl).trans ((up_ni hE43 (by decide)).trans ((up_ni hE42 (by decide)).trans ((up_ni hE25 (by decide)).trans ((hf5 56 8 rfl).trans (up_ni hE3 (by decide)))))))
                        have eq56 : Z45 59 (Z5 56 6) = Z 59 (Z5 56 6) := ((hf45 59 (Z5 56 6) rfl).trans ((up_nk hE43 rfl).trans ((up_nk hE42 rfl).trans ((up_nk hE25 rfl).trans ((hf5 59 (Z5 56 6) rfl).trans (up_nk hE3 rfl))))))
                        obtain ⟨z54, hc54, b54⟩ := ct_158_56 (d := d + 4) (l := l) (D := D) (b0 := b0) (ad := ad) (Hb := Hb) (tau := tau) hx45 hG45 (show 0 ≤ Z5 56 6 ∧ Z5 56 6 ≤ 901 by omega)
                        try rw [eq55] at b54
                        try rw [eq56] at b54
                        refine Jcv hx45 (show mx_Sn _ _ 268 (mx_callv 158 2 12 271) from sn_162 268) a56 s56 hc54 rfl rfl rfl ?_
                        refine mx_J.step (sn_162 271) (fun _ _ => rfl) ?_
                        refine mx_J.step (sn_162 273) (fun _ _ => rfl) ?_
                        obtain ⟨z57, hc57, b57⟩ := ct_292_4102 (d := d + 1) (l := l) (D := D) (b0 := b0) (ad := ad) (Hb := Hb) (tau := tau) hx45 hG45 (show 0 ≤ w44_1 ∧ w44_1 ≤ 11 by omega)
                        refine Jck (show mx_Sn _ _ 274 (mx_callk 292 2 277) from sn_162 274) rfl hc57 rfl rfl rfl ?_
                        have c288 : ∀  (Z59 : xZ) (h59 : mx_H), SI (Z 59 (Z5 56 6)) (w44_1 + 1) (Z59 56 9) → XH n s S Z59 h59 → GI n S Z59 → fr' [(56, 9)] Z45 Z59 → mx_J (tB l D b0 ad Hb tau) mt_162 (d + 5) 288 [some (.ref 56), some (xI w44_1)] [] h59 Post := by
                          intro Z59 h59 f58_0 hx59 hG59 hf59
                          refine Jiinc (z := w44_1) (cz := 1) (ls2 := [some (.ref 56), some (xI (w44_1 + 1))]) (show mx_Sn _ _ 288 (mx_iinc 1 1 291) from sn_162 288) rfl rfl rfl rfl ?_
                          refine mx_J.step (sn_162 291) (fun _ _ => rfl) ?_
                          exact ih44 (w44_1 + 1) Z59 h59 (by omega) (by omega) (by assumption) hx59 hG59 (fr_tr (M := [(56, 9)]) (fr_tr (M := [(56, 9)]) fr_rf (hf45) (M1 := []) rfl rfl) (hf59) rfl rfl)
                        refine Jicmp_ne (show mx_Sn _ _ 277 (mx_icmp_ne 288 280) from sn_162 277) (by omega) (by omega) (fun q60 => ?_) (fun q60 => ?_)
                        · skip
                          exact c288 Z45 h45 (SI_n (by assumption) (by omega) (by omega)) hx45 hG45 fr_rf
                        · skip
                          refine mx_J.step (sn_162 280) (fun _ _ => rfl) ?_
                          refine JcI (z := 30) (show mx_Sn _ _ 281 (mx_const (.int 30) 283) from sn_162 281) rfl ?_
                          refine mx_J.step (sn_162 283) (fun _ _ => rfl) ?_
                          refine Jiadd (show mx_Sn _ _ 284 (mx_iadd 285) from sn_162 284) ?_
                          refine JputI (g := 9) hx45 (show mx_Sn _ _ 285 (mx_putf 1 12 9 (.int) 288) from sn_162 285) a56 s56 rfl rfl rfl rfl (fun Z61 h61 hx61 hE61 => ?_)
                          have hG61 := GI_up hG45 hE61 (show 0 ≤ 30 + w44_1 ∧ 30 + w44_1 ≤ 100 by omega) trivial rfl
                          exact c288 Z61 h61 (by rw [(show Z61 56 9 = 30 + w44_1 from (up_at hE61))]; exact SI_y (by omega) (by omega)) hx61 hG61 (fr_tr (M := [(56, 9)]) fr_rf (fr_up hE61) (M1 := []) rfl rfl)
                  exact c254 (Int.toNat (12 - 0) + 1) 0 Z43 h43 (by omega) (by omega) (by rw [(show Z43 56 9 = 25 from (up_at hE43))]; exact SI_0) hx43 hG43 fr_rf
                · skip
                  refine mx_J.step (sn_162 141) (fun _ _ => rfl) ?_
                  refine JcI (z := 0) (show mx_Sn _ _ 142 (mx_const (.int 0) 143) from sn_162 142) rfl ?_
                  refine JputI (g := 10) hx25 (show mx_Sn _ _ 143 (mx_putf 1 12 10 (.int) 146) from sn_162 143) a56 s56 rfl rfl rfl rfl (fun Z62 h62 hx62 hE62 => ?_)
                  have hG62 := GI_up hG25 hE62 (show 0 ≤ 0 ∧ 0 ≤ 999 by omega) trivial rfl
                  have c146 : ∀ (m63 : Nat)  (Z64 : xZ) (h64 : mx_H), Z 56 8 - Z64 56 7 < (m63 : Int) → (Z64 56 6 ≤ Z64 56 7 ∧ Z64 56 7 ≤ Z 56 8 ∧ (Z64 56 6 < Z64 56 7 ∨ (48 ≤ Z 59 (Z5 56 6) ∧ Z 59 (Z5 56 6) ≤ 57)) ∧ (Z64 56 7 = Z64 56 6 → Z64 56 10 = 0) ∧ (Z64 56 7 ≤ Z64 56 6 + 1 → Z64 56 10 ≤ 9) ∧ (Z64 56 7 ≤ Z64 56 6 + 2 → Z64 56 10 ≤ 99)) → tDe T N (Z64 56 7) = tDe T N (Z5 56 6) → Z64 56 10 = tNv T (Z5 56 6) (Z64 56 7) → XH n s S Z64 h64 → GI n S Z64 → fr' [(56, 7), (56, 10)] Z62 Z64 → mx_J (tB l D b0 ad Hb tau) mt_162 (d + 5) 146 [some (.ref 56), none] [] h64 Post := by
                    intro m63
                    induction m63 with
                    | zero => intro Z64 h64 q63 f63_0 f63_1 f63_2 hx64 hG64 hf64; exact absurd q63 (by omega)
                    | succ m63 ih63 =>
                      intro Z64 h64 q63 f63_0 f63_1 f63_2 hx64 hG64 hf64
                      have eq65 : Z64 56 6 = Z5 56 6 := ((hf64 56 6 rfl).trans ((up_ni hE62 (by decide)).trans (up_ni hE25 (by decide))))
                      have b66 : 0 ≤ Z64 56 7 ∧ Z64 56 7 ≤ 900 := hG64.pr 56 7
                      have b67 : 0 ≤ Z64 56 10 ∧ Z64 56 10 ≤ 999 := hG64.pr 56 10
                      have tx2 : (Z64 56 7) < N → T (Z64 56 7) = Z 59 (Z64 56 7) := fun q => TM_i k1 (by omega) q
                      refine mx_J.step (sn_162 146) (fun _ _ => rfl) ?_
                      refine mx_J.step (sn_162 147) (fun _ _ => rfl) ?_
                      refine JgetI (g := 7) (z := Z64 56 7) hx64 (show mx_Sn _ _ 148 (mx_getf 12 7 151) from sn_162 148) a56 s56 rfl rfl rfl ?_
                      have eq70 : Z64 56 8 = Z 56 8 := ((hf64 56 8 rfl).trans ((up_ni hE62 (by decide)).trans ((up_ni hE25 (by decide)).trans ((hf5 56 8 rfl).trans (up_ni hE3 (by decide))))))
                      have eq71 : Z64 59 (Z64 56 7) = Z 59 (Z64 56 7) := ((hf64 59 (Z64 56 7) rfl).trans ((up_nk hE62 rfl).trans ((up_nk hE25 rfl).trans ((hf5 59 (Z64 56 7) rfl).trans (up_nk hE3 rfl)))))
                      have b72 : 0 ≤ Z 59 (Z64 56 7) ∧ Z 59 (Z64 56 7) ≤ 255 := hG.pr 59 (Z64 56 7)
                      obtain ⟨z69, hc69, b69⟩ := ct_158_56 (d := d + 4) (l := l) (D := D) (b0 := b0) (ad := ad) (Hb := Hb) (tau := tau) hx64 hG64 (show 0 ≤ Z64 56 7 ∧ Z64 56 7 ≤ 901 by omega)
                      try rw [eq70] at b69
                      try rw [eq71] at b69
                      refine Jcv hx64 (show mx_Sn _ _ 151 (mx_callv 158 2 12 154) from sn_162 151) a56 s56 hc69 rfl rfl rfl ?_
                      have cg64 : (Z64 56 7) = (Z5 56 6) → Z 59 (Z64 56 7) = Z 59 (Z5 56 6) := fun e => by rw [e]
                      obtain ⟨z73, hc73, b73⟩ := ct_160_ (d := d + 4) (l := l) (D := D) (b0 := b0) (ad := ad) (Hb := Hb) (tau := tau) hx64 hG64 (show (-2147483648) ≤ z69 ∧ z69 ≤ 2147483647 by omega)
                      refine Jcs (show mx_Sn _ _ 154 (mx_calls 160 1 157) from sn_162 154) hc73 rfl rfl rfl ?_
                      refine Jif_eq (show mx_Sn _ _ 157 (mx_if_eq 209 160) from sn_162 157) (by omega) (fun q74 => ?_) (fun q74 => ?_)
                      · skip
                        have ew : (Z64 56 7) = tDe T N (Z5 56 6) := ((tDe_e (T := T) (N := N) (Z64 56 7)).2.1 (fun q => by have := tx2 q.1; omega)).symm.trans (by assumption)
                        have en : (Z64 56 10) = tNv T (tBg T N (Z 56 7)) (tDe T N (tBg T N (Z 56 7))) := (by assumption : (Z64 56 10) = tNv T (Z5 56 6) (Z64 56 7)).trans (by rw [ew, tb])
                        have kd := tKd_dig (T := T) (N := N) (p := Z 56 7) (by omega) (by rw [← tb]; have := tx (by omega); omega)
                        have ed := congrArg (tDe T N) tb
                        refine mx_J.step (sn_162 209) (fun _ _ => rfl) ?_
                        refine mx_J.step (sn_162 210) (fun _ _ => rfl) ?_
                        refine JgetI (g := 7) (z := Z64 56 7) hx64 (show mx_Sn _ _ 211 (mx_getf 12 7 214) from sn_162 211) a56 s56 rfl rfl rfl ?_
                        refine mx_J.step (sn_162 214) (fun _ _ => rfl) ?_
                        refine JgetI (g := 6) (z := Z5 56 6) hx64 (show mx_Sn _ _ 215 (mx_getf 12 6 218) from sn_162 215) a56 s56 rfl rfl ((hf64 56 6 rfl).trans ((up_ni hE62 (by decide)).trans (up_ni hE25 (by decide)))) ?_
                        refine Jisub (show mx_Sn _ _ 218 (mx_isub 219) from sn_162 218) ?_
                        refine JcI (z := 3) (show mx_Sn _ _ 219 (mx_const (.int 3) 220) from sn_162 219) rfl ?_
                        refine Jicmp_le (show mx_Sn _ _ 220 (mx_icmp_le 228 223) from sn_162 220) (by omega) (by omega) (fun q77 => ?_) (fun q77 => ?_)
                        · skip
                          refine JcI (z := 23) (show mx_Sn _ _ 228 (mx_const (.int 23) 230) from sn_162 228) rfl ?_
                          refine JputI (g := 9) hx64 (show mx_Sn _ _ 230 (mx_putf 1 12 9 (.int) 233) from sn_162 230) a56 s56 rfl rfl rfl rfl (fun Z78 h78 hx78 hE78 => ?_)
                          have hG78 := GI_up hG64 hE78 (show 0 ≤ 23 ∧ 23 ≤ 100 by omega) trivial rfl
                          have e9 : Z78 56 9 = _ := (up_at hE78)
                          have av3 : Z78 56 9 = tKd T N (Z 56 7) := (Decidable.em (3 < tDe T N (tBg T N (Z 56 7)) - tBg T N (Z 56 7))).elim (fun q3 => by rw [kd.1 q3]; omega) (fun q3 => by rw [kd.2.1 q3]; omega)
                          have av5 : Z78 56 10 = tVl T N (Z 56 7) := (up_ni hE78 (by decide)).trans (en.trans (by unfold tVl; rw [kd.2.2]))
                          have av : AW T N Z Z78 := ⟨((up_ni hE78 (by decide)).trans ((hf64 56 6 rfl).trans ((up_ni hE62 (by decide)).trans (up_ni hE25 (by decide))))).trans tb, (up_ni hE78 (by decide)).trans (ew.trans (ed.trans kd.2.2.symm)), av3, fun _ => av5⟩
                          refine mx_J.step (sn_162 233) (fun _ _ => rfl) ?_
                          have av : AW T N Z Z78 := by first | assumption | exact ⟨((up_ni hE78 (by decide)).trans ((hf64 56 6 rfl).trans ((up_ni hE62 (by decide)).trans (up_ni hE25 (by decide))))).trans tb, (by have e := (up_ni hE78 (by decide)); omega), (by rw [kd.1, ← tb, tx (by omega)]; exact SI_e ((show (0 : Int) = (12 : Int) by omega) ▸ (by assumption))), fun q => by omega⟩
                          have eq79 : Z78 56 6 = Z5 56 6 := ((up_ni hE78 (by decide)).trans ((hf64 56 6 rfl).trans ((up_ni hE62 (by decide)).trans (up_ni hE25 (by decide)))))
                          have eq80 : Z78 56 7 = Z64 56 7 := (up_ni hE78 (by decide))
                          have eq81 : Z78 56 9 = 23 := (up_at hE78)
                          have eq82 : Z78 56 7 = Z64 56 7 := (up_ni hE78 (by decide))
                          have eq83 : Z78 56 8 = Z 56 8 := ((up_ni hE78 (by decide)).trans ((hf64 56 8 rfl).trans ((up_ni hE62 (by decide)).trans ((up_ni hE25 (by decide)).trans ((hf5 56 8 rfl).trans (up_ni hE3 (by decide)))))))
                          exact mx_J.ret (sn_162 294) (fun _ _ => rfl) (hP Z78 h78 hx78 hG78 (fr_tr (M := [(56, 6), (56, 7), (56, 9), (56, 10)]) (fr_tr (M := [(56, 6), (56, 7), (56, 9), (56, 10)]) (fr_tr (M := [(56, 6), (56, 7), (56, 9), (56, 10)]) (fr_tr (M := [(56, 6), (56, 7), (56, 9), (56, 10)]) (fr_tr (M := [(56, 6), (56, 7), (56, 9), (56, 10)]) (fr_tr (M := [(56, 6), (56, 7), (56, 9), (56, 10)]) fr_rf (fr_up hE3) (M1 := []) rfl rfl) (hf5) rfl rfl) (fr_up hE25) rfl rfl) (fr_up hE62) rfl rfl) (hf64) rfl rfl) (fr_up hE78) rfl rfl) ⟨(av), by omega⟩)
                        · skip
                          refine JcI (z := 25) (show mx_Sn _ _ 223 (mx_const (.int 25) 225) from sn_162 223) rfl ?_
                          refine mx_J.step (sn_162 225) (fun _ _ => rfl) ?_
                          refine JputI (g := 9) hx64 (show mx_Sn _ _ 230 (mx_putf 1 12 9 (.int) 233) from sn_162 230) a56 s56 rfl rfl rfl rfl (fun Z84 h84 hx84 hE84 => ?_)
                          have hG84 := GI_up hG64 hE84 (show 0 ≤ 25 ∧ 25 ≤ 100 by omega) trivial rfl
                          have e9 : Z84 56 9 = _ := (up_at hE84)
                          have av3 : Z84 56 9 = tKd T N (Z 56 7) := (Decidable.em (3 < tDe T N (tBg T N (Z 56 7)) - tBg T N (Z 56 7))).elim (fun q3 => by rw [kd.1 q3]; omega) (fun q3 => by rw [kd.2.1 q3]; omega)
                          have av5 : Z84 56 10 = tVl T N (Z 56 7) := (up_ni hE84 (by decide)).trans (en.trans (by unfold tVl; rw [kd.2.2]))
                          have av : AW T N Z Z84 := ⟨((up_ni hE84 (by decide)).trans ((hf64 56 6 rfl).trans ((up_ni hE62 (by decide)).trans (up_ni hE25 (by decide))))).trans tb, (up_ni hE84 (by decide)).trans (ew.trans (ed.trans kd.2.2.symm)), av3, fun _ => av5⟩
                          refine mx_J.step (sn_162 233) (fun _ _ => rfl) ?_
                          have av : AW T N Z Z84 := by first | assumption | exact ⟨((up_ni hE84 (by decide)).trans ((hf64 56 6 rfl).trans ((up_ni hE62 (by decide)).trans (up_ni hE25 (by decide))))).trans tb, (by have e := (up_ni hE84 (by decide)); omega), (by rw [kd.1, ← tb, tx (by omega)]; exact SI_e ((show (0 : Int) = (12 : Int) by omega) ▸ (by assumption))), fun q => by omega⟩
                          have eq85 : Z84 56 6 = Z5 56 6 := ((up_ni hE84 (by decide)).trans ((hf64 56 6 rfl).trans ((up_ni hE62 (by decide)).trans (up_ni hE25 (by decide)))))
                          have eq86 : Z84 56 7 = Z64 56 7 := (up_ni hE84 (by decide))
                          have eq87 : Z84 56 9 = 25 := (up_at hE84)
                          have eq88 : Z84 56 7 = Z64 56 7 := (up_ni hE84 (by decide))
                          have eq89 : Z84 56 8 = Z 56 8 := ((up_ni hE84 (by decide)).trans ((hf64 56 8 rfl).trans ((up_ni hE62 (by decide)).trans ((up_ni hE25 (by decide)).trans ((hf5 56 8 rfl).trans (up_ni hE3 (by decide)))))))
                          exact mx_J.ret (sn_162 294) (fun _ _ => rfl) (hP Z84 h84 hx84 hG84 (fr_tr (M := [(56, 6), (56, 7), (56, 9), (56, 10)]) (fr_tr (M := [(56, 6), (56, 7), (56, 9), (56, 10)]) (fr_tr (M := [(56, 6), (56, 7), (56, 9), (56, 10)]) (fr_tr (M := [(56, 6), (56, 7), (56, 9), (56, 10)]) (fr_tr (M := [(56, 6), (56, 7), (56, 9), (56, 10)]) (fr_tr (M := [(56, 6), (56, 7), (56, 9), (56, 10)]) fr_rf (fr_up hE3) (M1 := []) rfl rfl) (hf5) rfl rfl) (fr_up hE25) rfl rfl) (fr_up hE62) rfl rfl) (hf64) rfl rfl) (fr_up hE84) rfl rfl) ⟨(av), by omega⟩)
                      · skip
                        have td := (tDe_e (T := T) (N := N) (Z64 56 7)).1 (by omega) (by have := tx2 (by omega); omega) (by have := tx2 (by omega); omega)
                        refine mx_J.step (sn_162 160) (fun _ _ => rfl) ?_
                        refine JgetI (g := 7) (z := Z64 56 7) hx64 (show mx_Sn _ _ 161 (mx_getf 12 7 164) from sn_162 161) a56 s56 rfl rfl rfl ?_
                        refine mx_J.step (sn_162 164) (fun _ _ => rfl) ?_
                        refine JgetI (g := 6) (z := Z5 56 6) hx64 (show mx_Sn _ _ 165 (mx_getf 12 6 168) from sn_162 165) a56 s56 rfl rfl ((hf64 56 6 rfl).trans ((up_ni hE62 (by decide)).trans (up_ni hE25 (by decide)))) ?_
                        refine Jisub (show mx_Sn _ _ 168 (mx_isub 169) from sn_162 168) ?_
                        refine JcI (z := 3) (show mx_Sn _ _ 169 (mx_const (.int 3) 170) from sn_162 169) rfl ?_
                        have c196 : ∀  (Z93 : xZ) (h93 : mx_H), ((Z93 56 7 ≤ Z93 56 6 → Z93 56 10 ≤ 9) ∧ (Z93 56 7 ≤ Z93 56 6 + 1 → Z93 56 10 ≤ 99) ∧ Z93 56 7 < Z 56 8) → Z93 56 10 = tNv T (Z5 56 6) ((Z64 56 7) + 1) → XH n s S Z93 h93 → GI n S Z93 → fr' [(56, 10)] Z64 Z93 → mx_J (tB l D b0 ad Hb tau) mt_162 (d + 5) 196 [some (.ref 56), none] [] h93 Post := by
                          intro Z93 h93 f92_0 f92_1 hx93 hG93 hf93
                          have eq94 : Z93 56 6 = Z5 56 6 := ((hf93 56 6 rfl).trans ((hf64 56 6 rfl).trans ((up_ni hE62 (by decide)).trans (up_ni hE25 (by decide)))))
                          have eq95 : Z93 56 7 = Z64 56 7 := (hf93 56 7 rfl)
                          have b96 : 0 ≤ Z93 56 10 ∧ Z93 56 10 ≤ 999 := hG93.pr 56 10
                          refine mx_J.step (sn_162 196) (fun _ _ => rfl) ?_
                          refine mx_J.step (sn_162 197) (fun _ _ => rfl) ?_
                          refine JgetI (g := 7) (z := Z64 56 7) hx93 (show mx_Sn _ _ 198 (mx_getf 12 7 201) from sn_162 198) a56 s56 rfl rfl (hf93 56 7 rfl) ?_
                          refine JcI (z := 1) (show mx_Sn _ _ 201 (mx_const (.int 1) 202) from sn_162 201) rfl ?_
                          refine Jiadd (show mx_Sn _ _ 202 (mx_iadd 203) from sn_162 202) ?_
                          refine JputI (g := 7) hx93 (show mx_Sn _ _ 203 (mx_putf 1 12 7 (.int) 206) from sn_162 203) a56 s56 rfl rfl rfl rfl (fun Z98 h98 hx98 hE98 => ?_)
                          have hG98 := GI_up hG93 hE98 (show 0 ≤ (Z64 56 7) + 1 ∧ (Z64 56 7) + 1 ≤ 900 by omega) trivial rfl
                          refine mx_J.step (sn_162 206) (fun _ _ => rfl) ?_
                          have eq99 : Z98 56 6 = Z5 56 6 := ((up_ni hE98 (by decide)).trans ((hf93 56 6 rfl).trans ((hf64 56 6 rfl).trans ((up_ni hE62 (by decide)).trans (up_ni hE25 (by decide))))))
                          have eq100 : Z98 56 7 = (Z64 56 7) + 1 := (up_at hE98)
                          have eq101 : Z98 56 10 = Z93 56 10 := (up_ni hE98 (by decide))
                          have eq102 : Z98 56 7 = (Z64 56 7) + 1 := (up_at hE98)
                          exact ih63 Z98 h98 (by omega) (by omega) (by rw [(show Z98 56 7 = (Z64 56 7) + 1 from (up_at hE98))]; exact td.symm.trans (by assumption)) (by rw [(show Z98 56 7 = (Z64 56 7) + 1 from (up_at hE98)), (show Z98 56 10 = Z93 56 10 from (up_ni hE98 (by decide)))]; assumption) hx98 hG98 (fr_tr (M := [(56, 7), (56, 10)]) (fr_tr (M := [(56, 7), (56, 10)]) (fr_tr (M := [(56, 7), (56, 10)]) fr_rf (hf64) (M1 := []) rfl rfl) (hf93) rfl rfl) (fr_up hE98) rfl rfl)
                        refine Jicmp_ge (show mx_Sn _ _ 170 (mx_icmp_ge 196 173) from sn_162 170) (by omega) (by omega) (fun q103 => ?_) (fun q103 => ?_)
                        · skip
                          have eq104 : Z64 56 6 = Z5 56 6 := ((hf64 56 6 rfl).trans ((up_ni hE62 (by decide)).trans (up_ni hE25 (by decide))))
                          exact c196 Z64 h64 (by omega) ((by assumption : Z64 56 10 = tNv T (Z5 56 6) (Z64 56 7)).trans (tNv_m (by omega)).symm) hx64 hG64 fr_rf
                        · skip
                          refine mx_J.step (sn_162 173) (fun _ _ => rfl) ?_
                          refine JcI (z := 10) (show mx_Sn _ _ 174 (mx_const (.int 10) 176) from sn_162 174) rfl ?_
                          refine mx_J.step (sn_162 176) (fun _ _ => rfl) ?_
                          refine JgetI (g := 10) (z := Z64 56 10) hx64 (show mx_Sn _ _ 177 (mx_getf 12 10 180) from sn_162 177) a56 s56 rfl rfl rfl ?_
                          refine Jimul (show mx_Sn _ _ 180 (mx_imul 181) from sn_162 180) ?_
                          refine mx_J.step (sn_162 181) (fun _ _ => rfl) ?_
                          refine mx_J.step (sn_162 182) (fun _ _ => rfl) ?_
                          refine JgetI (g := 7) (z := Z64 56 7) hx64 (show mx_Sn _ _ 183 (mx_getf 12 7 186) from sn_162 183) a56 s56 rfl rfl rfl ?_
                          have eq108 : Z64 56 8 = Z 56 8 := ((hf64 56 8 rfl).trans ((up_ni hE62 (by decide)).trans ((up_ni hE25 (by decide)).trans ((hf5 56 8 rfl).trans (up_ni hE3 (by decide))))))
                          have eq109 : Z64 59 (Z64 56 7) = Z 59 (Z64 56 7) := ((hf64 59 (Z64 56 7) rfl).trans ((up_nk hE62 rfl).trans ((up_nk hE25 rfl).trans ((hf5 59 (Z64 56 7) rfl).trans (up_nk hE3 rfl)))))
                          obtain ⟨z107, hc107, b107⟩ := ct_158_56 (d := d + 4) (l := l) (D := D) (b0 := b0) (ad := ad) (Hb := Hb) (tau := tau) hx64 hG64 (show 0 ≤ Z64 56 7 ∧ Z64 56 7 ≤ 901 by omega)
                          try rw [eq108] at b107
                          try rw [eq109] at b107
                          refine Jcv hx64 (show mx_Sn _ _ 186 (mx_callv 158 2 12 189) from sn_162 186) a56 s56 hc107 rfl rfl rfl ?_
                          refine Jiadd (show mx_Sn _ _ 189 (mx_iadd 190) from sn_162 189) ?_
                          refine JcI (z := 48) (show mx_Sn _ _ 190 (mx_const (.int 48) 192) from sn_162 190) rfl ?_
                          refine Jisub (show mx_Sn _ _ 192 (mx_isub 193) from sn_162 192) ?_
                          refine JputI (g := 10) hx64 (show mx_Sn _ _ 193 (mx_putf 1 12 10 (.int) 196) from sn_162 193) a56 s56 rfl rfl rfl rfl (fun Z110 h110 hx110 hE110 => ?_)
                          have hG110 := GI_up hG64 hE110 (show 0 ≤ ((10 * (Z64 56 10)) + z107) - 48 ∧ ((10 * (Z64 56 10)) + z107) - 48 ≤ 999 by omega) trivial rfl
                          have eq111 : Z110 56 6 = Z5 56 6 := ((up_ni hE110 (by decide)).trans ((hf64 56 6 rfl).trans ((up_ni hE62 (by decide)).trans (up_ni hE25 (by decide)))))
                          have eq112 : Z110 56 7 = Z64 56 7 := (up_ni hE110 (by decide))
                          have eq113 : Z110 56 10 = ((10 * (Z64 56 10)) + z107) - 48 := (up_at hE110)
                          exact c196 Z110 h110 (by omega) (by have t1 := tNv_s (T := T) (b := (Z5 56 6)) (e := (Z64 56 7)) (by omega) (by omega); have t2 := tx2 (by omega); have t3 : Z110 56 10 = _ := (up_at hE110); omega) hx110 hG110 (fr_tr (M := [(56, 10)]) fr_rf (fr_up hE110) (M1 := []) rfl rfl)
                  have eq114 : Z62 56 6 = Z5 56 6 := ((up_ni hE62 (by decide)).trans (up_ni hE25 (by decide)))
                  have eq115 : Z62 56 7 = Z5 56 6 := ((up_ni hE62 (by decide)).trans (up_at hE25))
                  have eq116 : Z62 56 10 = 0 := (up_at hE62)
                  have eq117 : Z62 56 7 = Z5 56 6 := ((up_ni hE62 (by decide)).trans (up_at hE25))
                  exact c146 (Int.toNat (Z 56 8 - Z62 56 7) + 1) Z62 h62 (by omega) (by omega) (by rw [(show Z62 56 7 = Z5 56 6 from ((up_ni hE62 (by decide)).trans (up_at hE25)))]) (by rw [(show Z62 56 7 = Z5 56 6 from ((up_ni hE62 (by decide)).trans (up_at hE25))), (show Z62 56 10 = 0 from (up_at hE62)), tNv_0 rfl]) hx62 hG62 fr_rf
              · skip
                have c89 : ∀ (m118 : Nat)  (Z119 : xZ) (h119 : mx_H), Z 56 8 - Z119 56 7 < (m118 : Int) → (Z119 56 6 ≤ Z119 56 7 ∧ Z119 56 7 ≤ Z 56 8 ∧ (Z119 56 6 < Z119 56 7 ∨ (97 ≤ Z 59 (Z5 56 6) ∧ Z 59 (Z5 56 6) ≤ 122))) → tWe T N (Z119 56 7) = tWe T N (Z5 56 6) → XH n s S Z119 h119 → GI n S Z119 → fr' [(56, 7)] Z25 Z119 → mx_J (tB l D b0 ad Hb tau) mt_162 (d + 5) 89 [some (.ref 56), none] [] h119 Post := by
                  intro m118
                  induction m118 with
                  | zero => intro Z119 h119 q118 f118_0 f118_1 hx119 hG119 hf119; exact absurd q118 (by omega)
                  | succ m118 ih118 =>
                    intro Z119 h119 q118 f118_0 f118_1 hx119 hG119 hf119
                    have eq120 : Z119 56 6 = Z5 56 6 := ((hf119 56 6 rfl).trans (up_ni hE25 (by decide)))
                    have b121 : 0 ≤ Z119 56 7 ∧ Z119 56 7 ≤ 900 := hG119.pr 56 7
                    have tx2 : (Z119 56 7) < N → T (Z119 56 7) = Z 59 (Z119 56 7) := fun q => TM_i k1 (by omega) q
                    refine mx_J.step (sn_162 89) (fun _ _ => rfl) ?_
                    refine mx_J.step (sn_162 90) (fun _ _ => rfl) ?_
                    refine JgetI (g := 7) (z := Z119 56 7) hx119 (show mx_Sn _ _ 91 (mx_getf 12 7 94) from sn_162 91) a56 s56 rfl rfl rfl ?_
                    have eq124 : Z119 56 8 = Z 56 8 := ((hf119 56 8 rfl).trans ((up_ni hE25 (by decide)).trans ((hf5 56 8 rfl).trans (up_ni hE3 (by decide)))))
                    have eq125 : Z119 59 (Z119 56 7) = Z 59 (Z119 56 7) := ((hf119 59 (Z119 56 7) rfl).trans ((up_nk hE25 rfl).trans ((hf5 59 (Z119 56 7) rfl).trans (up_nk hE3 rfl))))
                    have b126 : 0 ≤ Z 59 (Z119 56 7) ∧ Z 59 (Z119 56 7) ≤ 255 := hG.pr 59 (Z119 56 7)
                    obtain ⟨z123, hc123, b123⟩ := ct_158_56 (d := d + 4) (l := l) (D := D) (b0 := b0) (ad := ad) (Hb := Hb) (tau := tau) hx119 hG119 (show 0 ≤ Z119 56 7 ∧ Z119 56 7 ≤ 901 by omega)
                    try rw [eq124] at b123
                    try rw [eq125] at b123
                    refine Jcv hx119 (show mx_Sn _ _ 94 (mx_callv 158 2 12 97) from sn_162 94) a56 s56 hc123 rfl rfl rfl ?_
                    have cg119 : (Z119 56 7) = (Z5 56 6) → Z 59 (Z119 56 7) = Z 59 (Z5 56 6) := fun e => by rw [e]
                    obtain ⟨z127, hc127, b127⟩ := ct_159_ (d := d + 4) (l := l) (D := D) (b0 := b0) (ad := ad) (Hb := Hb) (tau := tau) hx119 hG119 (show (-2147483648) ≤ z123 ∧ z123 ≤ 2147483647 by omega)
                    refine Jcs (show mx_Sn _ _ 97 (mx_calls 159 1 100) from sn_162 97) hc127 rfl rfl rfl ?_
                    refine Jif_eq (show mx_Sn _ _ 100 (mx_if_eq 116 103) from sn_162 100) (by omega) (fun q128 => ?_) (fun q128 => ?_)
                    · skip
                      have ew : (Z119 56 7) = tWe T N (Z5 56 6) := ((tWe_e (T := T) (N := N) (Z119 56 7)).2.1 (fun q => by have := tx2 q.1; omega)).symm.trans (by assumption)
                      have kd := tKd_let (T := T) (N := N) (p := Z 56 7) (by omega) (by rw [← tb]; have := tx (by omega); omega)
                      have eq129 : Z119 56 6 = Z5 56 6 := ((hf119 56 6 rfl).trans (up_ni hE25 (by decide)))
                      have eq130 : Z119 56 9 = Z 56 9 := ((hf119 56 9 rfl).trans ((up_ni hE25 (by decide)).trans ((hf5 56 9 rfl).trans (up_ni hE3 (by decide)))))
                      have b131 : 0 ≤ Z 56 9 ∧ Z 56 9 ≤ 100 := hG.pr 56 9
                      refine mx_J.step (sn_162 116) (fun _ _ => rfl) ?_
                      refine mx_J.step (sn_162 117) (fun _ _ => rfl) ?_
                      have eq133 : Z119 56 6 = Z5 56 6 := ((hf119 56 6 rfl).trans (up_ni hE25 (by decide)))
                      have eq134 : Z119 56 8 = Z 56 8 := ((hf119 56 8 rfl).trans ((up_ni hE25 (by decide)).trans ((hf5 56 8 rfl).trans (up_ni hE3 (by decide)))))
                      obtain ⟨z132, hc132, b132⟩ := ct_161_56 (T := T) (N := N) (d := d + 0) (l := l) (D := D) (b0 := b0) (ad := ad) (Hb := Hb) (tau := tau) hx119 hG119  (show Z119 56 7 ≤ Z119 56 8 by first | omega | (simp only [eq133, eq134]; omega)) (TM_c k1 ((hf119 56 8 rfl).trans ((up_ni hE25 (by decide)).trans ((hf5 56 8 rfl).trans (up_ni hE3 (by decide))))) (fun i => ((hf119 59 i rfl).trans ((up_nk hE25 rfl).trans ((hf5 59 i rfl).trans (up_nk hE3 rfl)))))) (show Z119 56 8 = N by first | omega | (simp only [eq133, eq134]; omega))
                      try rw [eq133] at b132
                      try rw [eq134] at b132
                      obtain ⟨bs132_0, b132⟩ := b132
                      refine Jcv hx119 (show mx_Sn _ _ 118 (mx_callv 161 1 12 121) from sn_162 118) a56 s56 hc132 rfl rfl rfl ?_
                      refine JputI (g := 9) hx119 (show mx_Sn _ _ 121 (mx_putf 1 12 9 (.int) 124) from sn_162 121) a56 s56 rfl rfl rfl rfl (fun Z135 h135 hx135 hE135 => ?_)
                      have hG135 := GI_up hG119 hE135 (show 0 ≤ z132 ∧ z132 ≤ 100 by omega) trivial rfl
                      have ee : Z119 56 7 = tWe T N (tBg T N (Z 56 7)) := rfl.trans (ew.trans (congrArg (tWe T N) tb))
                      have av3 : z132 = tKd T N (Z 56 7) := bs132_0.trans (by rw [kd.1, ee, tb])
                      have av : AW T N Z Z135 := ⟨((up_ni hE135 (by decide)).trans ((hf119 56 6 rfl).trans (up_ni hE25 (by decide)))).trans tb, (up_ni hE135 (by decide)).trans (ew.trans ((congrArg (tWe T N) tb).trans kd.2.symm)), (up_at hE135).trans av3, fun q => by have := tKey_b (T := T) (b := tBg T N (Z 56 7)) (e := tWe T N (tBg T N (Z 56 7))); omega⟩
                      refine mx_J.step (sn_162 124) (fun _ _ => rfl) ?_
                      have av : AW T N Z Z135 := by first | assumption | exact ⟨((up_ni hE135 (by decide)).trans ((hf119 56 6 rfl).trans (up_ni hE25 (by decide)))).trans tb, (by have e := (up_ni hE135 (by decide)); omega), (by rw [kd.1, ← tb, tx (by omega)]; exact SI_e ((show (0 : Int) = (12 : Int) by omega) ▸ (by assumption))), fun q => by omega⟩
                      have eq136 : Z135 56 6 = Z5 56 6 := ((up_ni hE135 (by decide)).trans ((hf119 56 6 rfl).trans (up_ni hE25 (by decide))))
                      have eq137 : Z135 56 7 = Z119 56 7 := (up_ni hE135 (by decide))
                      have eq138 : Z135 56 9 = z132 := (up_at hE135)
                      have eq139 : Z135 56 7 = Z119 56 7 := (up_ni hE135 (by decide))
                      have eq140 : Z135 56 8 = Z 56 8 := ((up_ni hE135 (by decide)).trans ((hf119 56 8 rfl).trans ((up_ni hE25 (by decide)).trans ((hf5 56 8 rfl).trans (up_ni hE3 (by decide))))))
                      exact mx_J.ret (sn_162 294) (fun _ _ => rfl) (hP Z135 h135 hx135 hG135 (fr_tr (M := [(56, 6), (56, 7), (56, 9), (56, 10)]) (fr_tr (M := [(56, 6), (56, 7), (56, 9), (56, 10)]) (fr_tr (M := [(56, 6), (56, 7), (56, 9), (56, 10)]) (fr_tr (M := [(56, 6), (56, 7), (56, 9), (56, 10)]) (fr_tr (M := [(56, 6), (56, 7), (56, 9), (56, 10)]) fr_rf (fr_up hE3) (M1 := []) rfl rfl) (hf5) rfl rfl) (fr_up hE25) rfl rfl) (hf119) rfl rfl) (fr_up hE135) rfl rfl) ⟨(av), by omega⟩)
                    · skip
                      have tw := (tWe_e (T := T) (N := N) (Z119 56 7)).1 (by omega) (by have := tx2 (by omega); omega) (by have := tx2 (by omega); omega)
                      refine mx_J.step (sn_162 103) (fun _ _ => rfl) ?_
                      refine mx_J.step (sn_162 104) (fun _ _ => rfl) ?_
                      refine JgetI (g := 7) (z := Z119 56 7) hx119 (show mx_Sn _ _ 105 (mx_getf 12 7 108) from sn_162 105) a56 s56 rfl rfl rfl ?_
                      refine JcI (z := 1) (show mx_Sn _ _ 108 (mx_const (.int 1) 109) from sn_162 108) rfl ?_
                      refine Jiadd (show mx_Sn _ _ 109 (mx_iadd 110) from sn_162 109) ?_
                      refine JputI (g := 7) hx119 (show mx_Sn _ _ 110 (mx_putf 1 12 7 (.int) 113) from sn_162 110) a56 s56 rfl rfl rfl rfl (fun Z142 h142 hx142 hE142 => ?_)
                      have hG142 := GI_up hG119 hE142 (show 0 ≤ (Z119 56 7) + 1 ∧ (Z119 56 7) + 1 ≤ 900 by omega) trivial rfl
                      refine mx_J.step (sn_162 113) (fun _ _ => rfl) ?_
                      have eq143 : Z142 56 6 = Z5 56 6 := ((up_ni hE142 (by decide)).trans ((hf119 56 6 rfl).trans (up_ni hE25 (by decide))))
                      have eq144 : Z142 56 7 = (Z119 56 7) + 1 := (up_at hE142)
                      have eq145 : Z142 56 7 = (Z119 56 7) + 1 := (up_at hE142)
                      exact ih118 Z142 h142 (by omega) (by omega) (by rw [(show Z142 56 7 = (Z119 56 7) + 1 from (up_at hE142))]; exact tw.symm.trans (by assumption)) hx142 hG142 (fr_tr (M := [(56, 7)]) (fr_tr (M := [(56, 7)]) fr_rf (hf119) (M1 := []) rfl rfl) (fr_up hE142) rfl rfl)
                have eq146 : Z25 56 6 = Z5 56 6 := (up_ni hE25 (by decide))
                have eq147 : Z25 56 7 = Z5 56 6 := (up_at hE25)
                have eq148 : Z25 56 7 = Z5 56 6 := (up_at hE25)
                exact c89 (Int.toNat (Z 56 8 - Z25 56 7) + 1) Z25 h25 (by omega) (by omega) (by rw [(show Z25 56 7 = Z5 56 6 from (up_at hE25))]) hx25 hG25 fr_rf
            · skip
              have kd := tKd_end (T := T) (N := N) (p := Z 56 7) (by omega)
              refine mx_J.step (sn_162 66) (fun _ _ => rfl) ?_
              refine JcI (z := 24) (show mx_Sn _ _ 67 (mx_const (.int 24) 69) from sn_162 67) rfl ?_
              refine JputI (g := 9) hx25 (show mx_Sn _ _ 69 (mx_putf 1 12 9 (.int) 72) from sn_162 69) a56 s56 rfl rfl rfl rfl (fun Z149 h149 hx149 hE149 => ?_)
              have hG149 := GI_up hG25 hE149 (show 0 ≤ 24 ∧ 24 ≤ 100 by omega) trivial rfl
              have av : AW T N Z Z149 := ⟨((up_ni hE149 (by decide)).trans (up_ni hE25 (by decide))).trans tb, ((up_ni hE149 (by decide)).trans (up_at hE25)).trans (tb.trans kd.2.symm), (up_at hE149).trans kd.1.symm, fun q => absurd (kd.1.symm.trans q) (by decide)⟩
              refine mx_J.step (sn_162 72) (fun _ _ => rfl) ?_
              have av : AW T N Z Z149 := by first | assumption | exact ⟨((up_ni hE149 (by decide)).trans (up_ni hE25 (by decide))).trans tb, (by have e := ((up_ni hE149 (by decide)).trans (up_at hE25)); omega), (by rw [kd.1, ← tb, tx (by omega)]; exact SI_e ((show (0 : Int) = (12 : Int) by omega) ▸ (by assumption))), fun q => by omega⟩
              have eq150 : Z149 56 6 = Z5 56 6 := ((up_ni hE149 (by decide)).trans (up_ni hE25 (by decide)))
              have eq151 : Z149 56 7 = Z5 56 6 := ((up_ni hE149 (by decide)).trans (up_at hE25))
              have eq152 : Z149 56 9 = 24 := (up_at hE149)
              have eq153 : Z149 56 7 = Z5 56 6 := ((up_ni hE149 (by decide)).trans (up_at hE25))
              have eq154 : Z149 56 8 = Z 56 8 := ((up_ni hE149 (by decide)).trans ((up_ni hE25 (by decide)).trans ((hf5 56 8 rfl).trans (up_ni hE3 (by decide)))))
              exact mx_J.ret (sn_162 294) (fun _ _ => rfl) (hP Z149 h149 hx149 hG149 (fr_tr (M := [(56, 6), (56, 7), (56, 9), (56, 10)]) (fr_tr (M := [(56, 6), (56, 7), (56, 9), (56, 10)]) (fr_tr (M := [(56, 6), (56, 7), (56, 9), (56, 10)]) (fr_tr (M := [(56, 6), (56, 7), (56, 9), (56, 10)]) fr_rf (fr_up hE3) (M1 := []) rfl rfl) (hf5) rfl rfl) (fr_up hE25) rfl rfl) (fr_up hE149) rfl rfl) ⟨(av), by omega⟩)
          · skip
            exact c34 (by omega)
    have eq155 : Z3 56 6 = Z 56 7 := (up_at hE3)
    have eq156 : Z3 56 6 = Z 56 7 := (up_at hE3)
    exact c8 (Int.toNat (Z 56 8 - Z3 56 6) + 1) Z3 h3 (by omega) (by omega) (by rw [(show Z3 56 6 = Z 56 7 from (up_at hE3))]) hx3 hG3 fr_rf
theorem ct_162_56 {l : Launch} {D : va_G} {b0 : Nat} {ad : Nat → Nat} {Hb : Heap} {tau : Nat → Int64} {d n s : Nat} {S : Nat → xS} {Z : xZ} {h : mx_H} {T : Int → Int} {N : Int} (hx : XH n s S Z h) (hG : GI n S Z)   (k0 : Z 56 7 ≤ Z 56 8) (k1 : TM T N Z) (k2 : Z 56 8 = N) : ∃ (Z' : xZ) (h' : mx_H), mx_Ca (tB l D b0 ad Hb tau) (d + 6) 162 [.ref 56] h (none, h') ∧ XH n s S Z' h' ∧ GI n S Z' ∧ fr' [(56, 6), (56, 7), (56, 9), (56, 10)] Z Z' ∧ (AW T N Z Z' ∧ ((Z' 56 6 ≤ Z' 56 7 ∧ Z' 56 7 ≤ Z 56 8 ∧ (Z' 56 9 = 24 ∨ Z' 56 6 < Z' 56 7)) ∧ Z 56 7 ≤ Z' 56 6)) := by
  obtain ⟨r, hca, Z', h', e, q⟩ := Jmt (B := tB l D b0 ad Hb tau) (M := mt_162) (mi := 162) (as := [.ref 56]) (d := d + 5) (ls := [some (.ref 56), none]) rfl rfl rfl rfl rfl rfl (cw_162_56 (l := l) (D := D) (b0 := b0) (ad := ad) (Hb := Hb) (tau := tau) (d := d) (Post := fun r => ∃ (Z' : xZ) (h' : mx_H), r = (none, h') ∧ XH n s S Z' h' ∧ GI n S Z' ∧ fr' [(56, 6), (56, 7), (56, 9), (56, 10)] Z Z' ∧ (AW T N Z Z' ∧ ((Z' 56 6 ≤ Z' 56 7 ∧ Z' 56 7 ≤ Z 56 8 ∧ (Z' 56 9 = 24 ∨ Z' 56 6 < Z' 56 7)) ∧ Z 56 7 ≤ Z' 56 6))) hx hG k0 k1 k2 (fun Z' h' q1 q2 q3 q4 => ⟨Z', h', rfl, q1, q2, q3, q4⟩))
  subst e; exact ⟨Z', h', hca, q⟩
theorem ct_162_56r {l : Launch} {D : va_G} {b0 : Nat} {ad : Nat → Nat} {Hb : Heap} {tau : Nat → Int64} {g0 : Int} {T : Int → Int} {N : Int} {sg : SS} {d n s : Nat} {S : Nat → xS} {Z : xZ} {h : mx_H} (hx : XH n s S Z h) (hG : GI n S Z) (k0 : Z 56 7 ≤ Z 56 8) (k1 : Z 56 11 = 0) (hr : RM g0 T N Z sg) : ∃ (Z' : xZ) (h' : mx_H), mx_Ca (tB l D b0 ad Hb tau) (d + 6) 162 [.ref 56] h (none, h') ∧ XH n s S Z' h' ∧ GI n S Z' ∧ fr' [(56, 6), (56, 7), (56, 9), (56, 10)] Z Z' ∧ (RM g0 T N Z' (gAd T N sg) ∧ ((Z' 56 6 ≤ Z' 56 7 ∧ Z' 56 7 ≤ Z 56 8 ∧ (Z' 56 9 = 24 ∨ Z' 56 6 < Z' 56 7)) ∧ Z 56 7 ≤ Z' 56 6)) := by
  obtain ⟨Z', h', hca, q1, q2, q3, q5, q4⟩ := ct_162_56 (T := T) (N := N) (d := d) (l := l) (D := D) (b0 := b0) (ad := ad) (Hb := Hb) (tau := tau) hx hG k0 (RM_t hr) (RM_p hr).2.2.2
  exact ⟨Z', h', hca, q1, q2, q3, RM_ad hr k1 q5 (q3 56 11 rfl) (q3 60 61 rfl) (fun i => q3 60 i rfl) (q3 56 8 rfl) (fun i => q3 59 i rfl), q4⟩
