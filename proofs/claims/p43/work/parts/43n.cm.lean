set_option maxRecDepth 100000 in
theorem cw_185_56_i1 {l : Launch} {D : va_G} {b0 : Nat} {ad : Nat → Nat} {Hb : Heap} {tau : Nat → Int64} {d n s : Nat} {S : Nat → xS} {Z : xZ} {h : mx_H} {Post : mx_R → Prop} (hx : XH n s S Z h) (hG : GB n S Z)  {x1 x2 : Int} (p1 : 0 ≤ x1 ∧ x1 ≤ 18) (p2 : 0 ≤ x2 ∧ x2 ≤ 18) (k0 : Z 56 18 + wy (1 * 19 + x1) ≤ 385) (k1 : x2 + 1 ≤ 18) (hP : ∀ (Z' : xZ) (h' : mx_H), XH n s S Z' h' → GB n S Z' → fr' [(56, 18), (61, (-1)), (63, (-1))] Z Z' → GAp Z Z' 1 x1 x2 ∧ Z' 56 18 = Z 56 18 + wy (1 * 19 + x1) → Post (none, h')) : mx_J (tB l D b0 ad Hb tau) mt_185 (d + 1) 0 [some (.ref 56), some (xI 1), some (xI x1), some (xI x2), none] [] h Post := by
    have a56 : 56 < n := lt83 (GB_n hG) rfl
    have s56 : S 56 = .inl (12, [0, 2, 2, 2, 2, 0, 0, 0, 0, 0, 0, 0, 0, 0, 0, 2, 2, 2, 0, 2, 2, 2, 0, 0, 2, 2, 2, 2, 2, 2, 0, 0, 2, 2, 2, 2, 2, 2, 2, 2, 2, 2]) := GB_s hG 56 rfl
    have a63 : 63 < n := lt83 (GB_n hG) rfl
    have s63 : S 63 = .inr (.int, 18, 0) := GB_s hG 63 rfl
    refine mx_J.step (sn_185 0) (fun _ _ => rfl) ?_
    refine Jif_ne (show mx_Sn _ _ 1 (mx_if_ne 63 4) from sn_185 1) (by omega) (fun q1 => ?_) (fun q1 => ?_)
    · skip
      refine mx_J.step (sn_185 63) (fun _ _ => rfl) ?_
      refine mx_J.step (sn_185 64) (fun _ _ => rfl) ?_
      have c73 : ∀ (k2_0 : Int), 0 ≤ k2_0 ∧ k2_0 ≤ 1 → (wy (1 * 19 + k2_0) = wy (1 * 19 + x1) ∧ k2_0 ≤ 1) → ((x1 < 1 → k2_0 = x1) ∧ (1 ≤ x1 → k2_0 = 1)) → mx_J (tB l D b0 ad Hb tau) mt_185 (d + 1) 73 [some (.ref 56), some (xI 1), some (xI x1), some (xI x2), none] [xI k2_0] h Post := by
        intro k2_0 f2_0 f2_1 f2_2
        refine mx_J.step (ls2 := [some (.ref 56), some (xI 1), some (xI x1), some (xI x2), some (xI k2_0)]) (sn_185 73) (fun _ _ => rfl) ?_
        have c75 : ∀ (m3 : Nat) (w3_4 : Int) (Z4 : xZ) (h4 : mx_H), w3_4 - 0 < (m3 : Int) → 0 ≤ w3_4 ∧ w3_4 ≤ 1 → (Z4 56 18 + wy (1 * 19 + w3_4) = Z 56 18 + wy (1 * 19 + x1)) → GL Z Z4 1 x1 x2 w3_4 → XH n s S Z4 h4 → GB n S Z4 → fr' [(56, 18), (61, (-1)), (63, (-1))] Z Z4 → mx_J (tB l D b0 ad Hb tau) mt_185 (d + 1) 75 [some (.ref 56), some (xI 1), some (xI x1), some (xI x2), some (xI w3_4)] [] h4 Post := by
          intro m3
          induction m3 with
          | zero => intro w3_4 Z4 h4 q3 f3_0 f3_1 f3_2 hx4 hG4 hf4; exact absurd q3 (by omega)
          | succ m3 ih3 =>
            intro w3_4 Z4 h4 q3 f3_0 f3_1 f3_2 hx4 hG4 hf4
            have b5 : 0 ≤ Z4 56 18 ∧ Z4 56 18 ≤ 385 := hG4.pr 56 18
            refine mx_J.step (sn_185 75) (fun _ _ => rfl) ?_
            refine Jif_le (show mx_Sn _ _ 77 (mx_if_le 107 80) from sn_185 77) (by omega) (fun q6 => ?_) (fun q6 => ?_)
            · skip
              have w0 : wy (1 * 19 + w3_4) = 0 := by rw [show w3_4 = 0 by omega]; exact Wy0 (by omega)
              exact mx_J.ret (sn_185 107) (fun _ _ => rfl) (hP Z4 h4 hx4 hG4 (fr_tr (M := [(56, 18), (61, (-1)), (63, (-1))]) fr_rf (hf4) (M1 := []) rfl rfl) ⟨(gl_e (by assumption) (by omega) (by omega)), by omega⟩)
            · skip
              refine mx_J.step (sn_185 80) (fun _ _ => rfl) ?_
              refine JgetR (g := 17) (b := 63) hx4 (show mx_Sn _ _ 81 (mx_getf 12 17 84) from sn_185 81) a56 s56 rfl rfl (hG4.prr 56 17 rfl) ?_
              refine mx_J.step (sn_185 84) (fun _ _ => rfl) ?_
              refine mx_J.step (sn_185 85) (fun _ _ => rfl) ?_
              refine JiastI hx4 (show mx_Sn _ _ 87 (mx_iast 1 88) from sn_185 87) a63 s63 rfl (by omega) (fun Z8 h8 hx8 hE8 => ?_)
              have hG8 := GB_up hG4 hE8 (show 0 ≤ w3_4 ∧ w3_4 ≤ 18 by omega) trivial rfl
              have wr := WRr (n := 1) (m := w3_4) (by omega) (by omega)
              rw [show (1 - w3_4) = (0 : Int) by omega] at wr
              refine mx_J.step (sn_185 88) (fun _ _ => rfl) ?_
              refine mx_J.step (sn_185 89) (fun _ _ => rfl) ?_
              refine mx_J.step (sn_185 90) (fun _ _ => rfl) ?_
              refine Jisub (show mx_Sn _ _ 92 (mx_isub 93) from sn_185 92) ?_
              refine mx_J.step (sn_185 93) (fun _ _ => rfl) ?_
              refine mx_J.step (sn_185 95) (fun _ _ => rfl) ?_
              refine JcI (z := 1) (show mx_Sn _ _ 96 (mx_const (.int 1) 97) from sn_185 96) rfl ?_
              refine Jiadd (show mx_Sn _ _ 97 (mx_iadd 98) from sn_185 97) ?_
              have el9 : 1 - w3_4 = 0 := by omega
              rw [el9]
              have eq10 : Z8 56 18 = Z4 56 18 := (up_nk hE8 rfl)
              obtain ⟨Z9, h9, hc9, hx9, hG9, hf9, b9⟩ := ct_185_56_i0 (d := d + 0) (l := l) (D := D) (b0 := b0) (ad := ad) (Hb := Hb) (tau := tau) hx8 hG8 (show 0 ≤ w3_4 ∧ w3_4 ≤ 18 by omega) (show 0 ≤ x2 + 1 ∧ x2 + 1 ≤ 18 by omega) (show Z8 56 18 + wy (0 * 19 + w3_4) ≤ 385 by first | omega | (simp only [eq10]; omega)) (show (x2 + 1) + 0 ≤ 18 by first | omega | (simp only [eq10]; omega))
              try rw [eq10] at b9
              obtain ⟨bs9_0, b9⟩ := b9
              have b11 : 0 ≤ Z9 56 18 ∧ Z9 56 18 ≤ 385 := hG9.pr 56 18
              refine Jcv0 hx8 (show mx_Sn _ _ 98 (mx_callv 185 4 12 101) from sn_185 98) a56 s56 hc9 rfl rfl rfl ?_
              have bs9 : GAp Z8 Z9 (1 - w3_4) w3_4 (x2 + 1) := by rw [show (1 : Int) - w3_4 = 0 by omega]; exact bs9_0
              have gl1 := gl_s (Z := Z) (left := 1) (most := x1) (n := x2) (its := w3_4) (by assumption) (by omega) (by omega) (by omega) hE8 bs9
              refine Jiinc (z := w3_4) (cz := (-1)) (ls2 := [some (.ref 56), some (xI 1), some (xI x1), some (xI x2), some (xI (w3_4 + (-1)))]) (show mx_Sn _ _ 101 (mx_iinc 4 (-1) 104) from sn_185 101) rfl rfl rfl rfl ?_
              refine mx_J.step (sn_185 104) (fun _ _ => rfl) ?_
              exact ih3 (w3_4 + (-1)) Z9 h9 (by omega) (by omega) (by omega) (gl1) hx9 hG9 (fr_tr (M := [(56, 18), (61, (-1)), (63, (-1))]) (fr_tr (M := [(56, 18), (61, (-1)), (63, (-1))]) (fr_tr (M := [(56, 18), (61, (-1)), (63, (-1))]) fr_rf (hf4) (M1 := []) rfl rfl) (fr_ua hE8) rfl rfl) (hf9) rfl rfl)
        have b12 : 0 ≤ Z 56 18 ∧ Z 56 18 ≤ 385 := hG.pr 56 18
        exact c75 (Int.toNat (k2_0 - 0) + 1) k2_0 Z h (by omega) (by omega) (by omega) (gl_0 (by omega) (by omega) (by omega) (by omega)) hx hG fr_rf
      refine Jicmp_ge (show mx_Sn _ _ 65 (mx_icmp_ge 72 68) from sn_185 65) (by omega) (by omega) (fun q13 => ?_) (fun q13 => ?_)
      · skip
        refine mx_J.step (sn_185 72) (fun _ _ => rfl) ?_
        exact c73 1 (by omega) (by first | exact ⟨rfl, by omega⟩ | exact ⟨WSs (n := 1) (by omega) (by omega), by omega⟩) (by omega)
      · skip
        refine mx_J.step (sn_185 68) (fun _ _ => rfl) ?_
        refine mx_J.step (sn_185 69) (fun _ _ => rfl) ?_
        exact c73 x1 (by omega) (by first | exact ⟨rfl, by omega⟩ | exact ⟨WSs (n := 1) (by omega) (by omega), by omega⟩) (by omega)
    · skip
      exfalso; omega
theorem ct_185_56_i1 {l : Launch} {D : va_G} {b0 : Nat} {ad : Nat → Nat} {Hb : Heap} {tau : Nat → Int64} {d n s : Nat} {S : Nat → xS} {Z : xZ} {h : mx_H} (hx : XH n s S Z h) (hG : GB n S Z)  {x1 x2 : Int} (p1 : 0 ≤ x1 ∧ x1 ≤ 18) (p2 : 0 ≤ x2 ∧ x2 ≤ 18) (k0 : Z 56 18 + wy (1 * 19 + x1) ≤ 385) (k1 : x2 + 1 ≤ 18) : ∃ (Z' : xZ) (h' : mx_H), mx_Ca (tB l D b0 ad Hb tau) (d + 2) 185 [.ref 56, xI 1, xI x1, xI x2] h (none, h') ∧ XH n s S Z' h' ∧ GB n S Z' ∧ fr' [(56, 18), (61, (-1)), (63, (-1))] Z Z' ∧ (GAp Z Z' 1 x1 x2 ∧ Z' 56 18 = Z 56 18 + wy (1 * 19 + x1)) := by
  obtain ⟨r, hca, Z', h', e, q⟩ := Jmt (B := tB l D b0 ad Hb tau) (M := mt_185) (mi := 185) (as := [.ref 56, xI 1, xI x1, xI x2]) (d := d + 1) (ls := [some (.ref 56), some (xI 1), some (xI x1), some (xI x2), none]) rfl rfl rfl rfl rfl rfl (cw_185_56_i1 (l := l) (D := D) (b0 := b0) (ad := ad) (Hb := Hb) (tau := tau) (d := d) (Post := fun r => ∃ (Z' : xZ) (h' : mx_H), r = (none, h') ∧ XH n s S Z' h' ∧ GB n S Z' ∧ fr' [(56, 18), (61, (-1)), (63, (-1))] Z Z' ∧ (GAp Z Z' 1 x1 x2 ∧ Z' 56 18 = Z 56 18 + wy (1 * 19 + x1))) hx hG p1 p2 k0 k1 (fun Z' h' q1 q2 q3 q4 => ⟨Z', h', rfl, q1, q2, q3, q4⟩))
  subst e; exact ⟨Z', h', hca, q⟩
theorem ct_185_56_le1 {l : Launch} {D : va_G} {b0 : Nat} {ad : Nat → Nat} {Hb : Heap} {tau : Nat → Int64} {d n s : Nat} {S : Nat → xS} {Z : xZ} {h : mx_H} (hx : XH n s S Z h) (hG : GB n S Z) {x0 x1 x2 : Int} (p0 : 0 ≤ x0 ∧ x0 ≤ 1) (p1 : 0 ≤ x1 ∧ x1 ≤ 18) (p2 : 0 ≤ x2 ∧ x2 ≤ 18) (k0 : Z 56 18 + wy (x0 * 19 + x1) ≤ 385) (k1 : x2 + x0 ≤ 18) : ∃ (Z' : xZ) (h' : mx_H), mx_Ca (tB l D b0 ad Hb tau) (d + 2) 185 [.ref 56, xI x0, xI x1, xI x2] h (none, h') ∧ XH n s S Z' h' ∧ GB n S Z' ∧ fr' [(56, 18), (61, (-1)), (63, (-1))] Z Z' ∧ (GAp Z Z' x0 x1 x2 ∧ Z' 56 18 = Z 56 18 + wy (x0 * 19 + x1)) := by
  have hc : x0 = 0 ∨ x0 = 1 := by omega
  rcases hc with hc | hc
  · subst hc
    obtain ⟨Z', h', hca, q1, q2, q3, q4⟩ := ct_185_56_i0 (d := d + 1) (l := l) (D := D) (b0 := b0) (ad := ad) (Hb := Hb) (tau := tau) hx hG p1 p2 k0 k1
    exact ⟨Z', h', hca, q1, q2, fr_tr (M1 := []) fr_rf q3 rfl rfl, q4⟩
  · subst hc
    obtain ⟨Z', h', hca, q1, q2, q3, q4⟩ := ct_185_56_i1 (d := d + 0) (l := l) (D := D) (b0 := b0) (ad := ad) (Hb := Hb) (tau := tau) hx hG p1 p2 k0 k1
    exact ⟨Z', h', hca, q1, q2, fr_tr (M1 := []) fr_rf q3 rfl rfl, q4⟩
set_option maxRecDepth 100000 in
theorem cw_185_56_i2 {l : Launch} {D : va_G} {b0 : Nat} {ad : Nat → Nat} {Hb : Heap} {tau : Nat → Int64} {d n s : Nat} {S : Nat → xS} {Z : xZ} {h : mx_H} {Post : mx_R → Prop} (hx : XH n s S Z h) (hG : GB n S Z)  {x1 x2 : Int} (p1 : 0 ≤ x1 ∧ x1 ≤ 18) (p2 : 0 ≤ x2 ∧ x2 ≤ 18) (k0 : Z 56 18 + wy (2 * 19 + x1) ≤ 385) (k1 : x2 + 2 ≤ 18) (hP : ∀ (Z' : xZ) (h' : mx_H), XH n s S Z' h' → GB n S Z' → fr' [(56, 18), (61, (-1)), (63, (-1))] Z Z' → GAp Z Z' 2 x1 x2 ∧ Z' 56 18 = Z 56 18 + wy (2 * 19 + x1) → Post (none, h')) : mx_J (tB l D b0 ad Hb tau) mt_185 (d + 2) 0 [some (.ref 56), some (xI 2), some (xI x1), some (xI x2), none] [] h Post := by
    have a56 : 56 < n := lt83 (GB_n hG) rfl
    have s56 : S 56 = .inl (12, [0, 2, 2, 2, 2, 0, 0, 0, 0, 0, 0, 0, 0, 0, 0, 2, 2, 2, 0, 2, 2, 2, 0, 0, 2, 2, 2, 2, 2, 2, 0, 0, 2, 2, 2, 2, 2, 2, 2, 2, 2, 2]) := GB_s hG 56 rfl
    have a63 : 63 < n := lt83 (GB_n hG) rfl
    have s63 : S 63 = .inr (.int, 18, 0) := GB_s hG 63 rfl
    refine mx_J.step (sn_185 0) (fun _ _ => rfl) ?_
    refine Jif_ne (show mx_Sn _ _ 1 (mx_if_ne 63 4) from sn_185 1) (by omega) (fun q1 => ?_) (fun q1 => ?_)
    · skip
      refine mx_J.step (sn_185 63) (fun _ _ => rfl) ?_
      refine mx_J.step (sn_185 64) (fun _ _ => rfl) ?_
      have c73 : ∀ (k2_0 : Int), 0 ≤ k2_0 ∧ k2_0 ≤ 2 → (wy (2 * 19 + k2_0) = wy (2 * 19 + x1) ∧ k2_0 ≤ 2) → ((x1 < 2 → k2_0 = x1) ∧ (2 ≤ x1 → k2_0 = 2)) → mx_J (tB l D b0 ad Hb tau) mt_185 (d + 2) 73 [some (.ref 56), some (xI 2), some (xI x1), some (xI x2), none] [xI k2_0] h Post := by
        intro k2_0 f2_0 f2_1 f2_2
        refine mx_J.step (ls2 := [some (.ref 56), some (xI 2), some (xI x1), some (xI x2), some (xI k2_0)]) (sn_185 73) (fun _ _ => rfl) ?_
        have c75 : ∀ (m3 : Nat) (w3_4 : Int) (Z4 : xZ) (h4 : mx_H), w3_4 - 0 < (m3 : Int) → 0 ≤ w3_4 ∧ w3_4 ≤ 2 → (Z4 56 18 + wy (2 * 19 + w3_4) = Z 56 18 + wy (2 * 19 + x1)) → GL Z Z4 2 x1 x2 w3_4 → XH n s S Z4 h4 → GB n S Z4 → fr' [(56, 18), (61, (-1)), (63, (-1))] Z Z4 → mx_J (tB l D b0 ad Hb tau) mt_185 (d + 2) 75 [some (.ref 56), some (xI 2), some (xI x1), some (xI x2), some (xI w3_4)] [] h4 Post := by
          intro m3
          induction m3 with
          | zero => intro w3_4 Z4 h4 q3 f3_0 f3_1 f3_2 hx4 hG4 hf4; exact absurd q3 (by omega)
          | succ m3 ih3 =>
            intro w3_4 Z4 h4 q3 f3_0 f3_1 f3_2 hx4 hG4 hf4
            have b5 : 0 ≤ Z4 56 18 ∧ Z4 56 18 ≤ 385 := hG4.pr 56 18
            refine mx_J.step (sn_185 75) (fun _ _ => rfl) ?_
            refine Jif_le (show mx_Sn _ _ 77 (mx_if_le 107 80) from sn_185 77) (by omega) (fun q6 => ?_) (fun q6 => ?_)
            · skip
              have w0 : wy (2 * 19 + w3_4) = 0 := by rw [show w3_4 = 0 by omega]; exact Wy0 (by omega)
              exact mx_J.ret (sn_185 107) (fun _ _ => rfl) (hP Z4 h4 hx4 hG4 (fr_tr (M := [(56, 18), (61, (-1)), (63, (-1))]) fr_rf (hf4) (M1 := []) rfl rfl) ⟨(gl_e (by assumption) (by omega) (by omega)), by omega⟩)
            · skip
              refine mx_J.step (sn_185 80) (fun _ _ => rfl) ?_
              refine JgetR (g := 17) (b := 63) hx4 (show mx_Sn _ _ 81 (mx_getf 12 17 84) from sn_185 81) a56 s56 rfl rfl (hG4.prr 56 17 rfl) ?_
              refine mx_J.step (sn_185 84) (fun _ _ => rfl) ?_
              refine mx_J.step (sn_185 85) (fun _ _ => rfl) ?_
              refine JiastI hx4 (show mx_Sn _ _ 87 (mx_iast 1 88) from sn_185 87) a63 s63 rfl (by omega) (fun Z8 h8 hx8 hE8 => ?_)
              have hG8 := GB_up hG4 hE8 (show 0 ≤ w3_4 ∧ w3_4 ≤ 18 by omega) trivial rfl
              have wr := WRr (n := 2) (m := w3_4) (by omega) (by omega)
              refine mx_J.step (sn_185 88) (fun _ _ => rfl) ?_
              refine mx_J.step (sn_185 89) (fun _ _ => rfl) ?_
              refine mx_J.step (sn_185 90) (fun _ _ => rfl) ?_
              refine Jisub (show mx_Sn _ _ 92 (mx_isub 93) from sn_185 92) ?_
              refine mx_J.step (sn_185 93) (fun _ _ => rfl) ?_
              refine mx_J.step (sn_185 95) (fun _ _ => rfl) ?_
              refine JcI (z := 1) (show mx_Sn _ _ 96 (mx_const (.int 1) 97) from sn_185 96) rfl ?_
              refine Jiadd (show mx_Sn _ _ 97 (mx_iadd 98) from sn_185 97) ?_
              have eq10 : Z8 56 18 = Z4 56 18 := (up_nk hE8 rfl)
              obtain ⟨Z9, h9, hc9, hx9, hG9, hf9, b9⟩ := ct_185_56_le1 (d := d + 0) (l := l) (D := D) (b0 := b0) (ad := ad) (Hb := Hb) (tau := tau) hx8 hG8 (show 0 ≤ 2 - w3_4 ∧ 2 - w3_4 ≤ 1 by omega) (show 0 ≤ w3_4 ∧ w3_4 ≤ 18 by omega) (show 0 ≤ x2 + 1 ∧ x2 + 1 ≤ 18 by omega) (show Z8 56 18 + wy ((2 - w3_4) * 19 + w3_4) ≤ 385 by first | omega | (simp only [eq10]; omega)) (show (x2 + 1) + (2 - w3_4) ≤ 18 by first | omega | (simp only [eq10]; omega))
              try rw [eq10] at b9
              obtain ⟨bs9_0, b9⟩ := b9
              have b11 : 0 ≤ Z9 56 18 ∧ Z9 56 18 ≤ 385 := hG9.pr 56 18
              refine Jcv0 hx8 (show mx_Sn _ _ 98 (mx_callv 185 4 12 101) from sn_185 98) a56 s56 hc9 rfl rfl rfl ?_
              have gl1 := gl_s (Z := Z) (left := 2) (most := x1) (n := x2) (its := w3_4) (by assumption) (by omega) (by omega) (by omega) hE8 bs9_0
              refine Jiinc (z := w3_4) (cz := (-1)) (ls2 := [some (.ref 56), some (xI 2), some (xI x1), some (xI x2), some (xI (w3_4 + (-1)))]) (show mx_Sn _ _ 101 (mx_iinc 4 (-1) 104) from sn_185 101) rfl rfl rfl rfl ?_
              refine mx_J.step (sn_185 104) (fun _ _ => rfl) ?_
              exact ih3 (w3_4 + (-1)) Z9 h9 (by omega) (by omega) (by omega) (gl1) hx9 hG9 (fr_tr (M := [(56, 18), (61, (-1)), (63, (-1))]) (fr_tr (M := [(56, 18), (61, (-1)), (63, (-1))]) (fr_tr (M := [(56, 18), (61, (-1)), (63, (-1))]) fr_rf (hf4) (M1 := []) rfl rfl) (fr_ua hE8) rfl rfl) (hf9) rfl rfl)
        have b12 : 0 ≤ Z 56 18 ∧ Z 56 18 ≤ 385 := hG.pr 56 18
        exact c75 (Int.toNat (k2_0 - 0) + 1) k2_0 Z h (by omega) (by omega) (by omega) (gl_0 (by omega) (by omega) (by omega) (by omega)) hx hG fr_rf
      refine Jicmp_ge (show mx_Sn _ _ 65 (mx_icmp_ge 72 68) from sn_185 65) (by omega) (by omega) (fun q13 => ?_) (fun q13 => ?_)
      · skip
        refine mx_J.step (sn_185 72) (fun _ _ => rfl) ?_
        exact c73 2 (by omega) (by first | exact ⟨rfl, by omega⟩ | exact ⟨WSs (n := 2) (by omega) (by omega), by omega⟩) (by omega)
      · skip
        refine mx_J.step (sn_185 68) (fun _ _ => rfl) ?_
        refine mx_J.step (sn_185 69) (fun _ _ => rfl) ?_
        exact c73 x1 (by omega) (by first | exact ⟨rfl, by omega⟩ | exact ⟨WSs (n := 2) (by omega) (by omega), by omega⟩) (by omega)
    · skip
      exfalso; omega
theorem ct_185_56_i2 {l : Launch} {D : va_G} {b0 : Nat} {ad : Nat → Nat} {Hb : Heap} {tau : Nat → Int64} {d n s : Nat} {S : Nat → xS} {Z : xZ} {h : mx_H} (hx : XH n s S Z h) (hG : GB n S Z)  {x1 x2 : Int} (p1 : 0 ≤ x1 ∧ x1 ≤ 18) (p2 : 0 ≤ x2 ∧ x2 ≤ 18) (k0 : Z 56 18 + wy (2 * 19 + x1) ≤ 385) (k1 : x2 + 2 ≤ 18) : ∃ (Z' : xZ) (h' : mx_H), mx_Ca (tB l D b0 ad Hb tau) (d + 3) 185 [.ref 56, xI 2, xI x1, xI x2] h (none, h') ∧ XH n s S Z' h' ∧ GB n S Z' ∧ fr' [(56, 18), (61, (-1)), (63, (-1))] Z Z' ∧ (GAp Z Z' 2 x1 x2 ∧ Z' 56 18 = Z 56 18 + wy (2 * 19 + x1)) := by
  obtain ⟨r, hca, Z', h', e, q⟩ := Jmt (B := tB l D b0 ad Hb tau) (M := mt_185) (mi := 185) (as := [.ref 56, xI 2, xI x1, xI x2]) (d := d + 2) (ls := [some (.ref 56), some (xI 2), some (xI x1), some (xI x2), none]) rfl rfl rfl rfl rfl rfl (cw_185_56_i2 (l := l) (D := D) (b0 := b0) (ad := ad) (Hb := Hb) (tau := tau) (d := d) (Post := fun r => ∃ (Z' : xZ) (h' : mx_H), r = (none, h') ∧ XH n s S Z' h' ∧ GB n S Z' ∧ fr' [(56, 18), (61, (-1)), (63, (-1))] Z Z' ∧ (GAp Z Z' 2 x1 x2 ∧ Z' 56 18 = Z 56 18 + wy (2 * 19 + x1))) hx hG p1 p2 k0 k1 (fun Z' h' q1 q2 q3 q4 => ⟨Z', h', rfl, q1, q2, q3, q4⟩))
  subst e; exact ⟨Z', h', hca, q⟩
theorem ct_185_56_le2 {l : Launch} {D : va_G} {b0 : Nat} {ad : Nat → Nat} {Hb : Heap} {tau : Nat → Int64} {d n s : Nat} {S : Nat → xS} {Z : xZ} {h : mx_H} (hx : XH n s S Z h) (hG : GB n S Z) {x0 x1 x2 : Int} (p0 : 0 ≤ x0 ∧ x0 ≤ 2) (p1 : 0 ≤ x1 ∧ x1 ≤ 18) (p2 : 0 ≤ x2 ∧ x2 ≤ 18) (k0 : Z 56 18 + wy (x0 * 19 + x1) ≤ 385) (k1 : x2 + x0 ≤ 18) : ∃ (Z' : xZ) (h' : mx_H), mx_Ca (tB l D b0 ad Hb tau) (d + 3) 185 [.ref 56, xI x0, xI x1, xI x2] h (none, h') ∧ XH n s S Z' h' ∧ GB n S Z' ∧ fr' [(56, 18), (61, (-1)), (63, (-1))] Z Z' ∧ (GAp Z Z' x0 x1 x2 ∧ Z' 56 18 = Z 56 18 + wy (x0 * 19 + x1)) := by
  have hc : x0 = 0 ∨ x0 = 1 ∨ x0 = 2 := by omega
  rcases hc with hc | hc | hc
  · subst hc
    obtain ⟨Z', h', hca, q1, q2, q3, q4⟩ := ct_185_56_i0 (d := d + 2) (l := l) (D := D) (b0 := b0) (ad := ad) (Hb := Hb) (tau := tau) hx hG p1 p2 k0 k1
    exact ⟨Z', h', hca, q1, q2, fr_tr (M1 := []) fr_rf q3 rfl rfl, q4⟩
  · subst hc
    obtain ⟨Z', h', hca, q1, q2, q3, q4⟩ := ct_185_56_i1 (d := d + 1) (l := l) (D := D) (b0 := b0) (ad := ad) (Hb := Hb) (tau := tau) hx hG p1 p2 k0 k1
    exact ⟨Z', h', hca, q1, q2, fr_tr (M1 := []) fr_rf q3 rfl rfl, q4⟩
  · subst hc
    obtain ⟨Z', h', hca, q1, q2, q3, q4⟩ := ct_185_56_i2 (d := d + 0) (l := l) (D := D) (b0 := b0) (ad := ad) (Hb := Hb) (tau := tau) hx hG p1 p2 k0 k1
    exact ⟨Z', h', hca, q1, q2, fr_tr (M1 := []) fr_rf q3 rfl rfl, q4⟩
set_option maxRecDepth 100000 in
theorem cw_185_56_i3 {l : Launch} {D : va_G} {b0 : Nat} {ad : Nat → Nat} {Hb : Heap} {tau : Nat → Int64} {d n s : Nat} {S : Nat → xS} {Z : xZ} {h : mx_H} {Post : mx_R → Prop} (hx : XH n s S Z h) (hG : GB n S Z)  {x1 x2 : Int} (p1 : 0 ≤ x1 ∧ x1 ≤ 18) (p2 : 0 ≤ x2 ∧ x2 ≤ 18) (k0 : Z 56 18 + wy (3 * 19 + x1) ≤ 385) (k1 : x2 + 3 ≤ 18) (hP : ∀ (Z' : xZ) (h' : mx_H), XH n s S Z' h' → GB n S Z' → fr' [(56, 18), (61, (-1)), (63, (-1))] Z Z' → GAp Z Z' 3 x1 x2 ∧ Z' 56 18 = Z 56 18 + wy (3 * 19 + x1) → Post (none, h')) : mx_J (tB l D b0 ad Hb tau) mt_185 (d + 3) 0 [some (.ref 56), some (xI 3), some (xI x1), some (xI x2), none] [] h Post := by
    have a56 : 56 < n := lt83 (GB_n hG) rfl
    have s56 : S 56 = .inl (12, [0, 2, 2, 2, 2, 0, 0, 0, 0, 0, 0, 0, 0, 0, 0, 2, 2, 2, 0, 2, 2, 2, 0, 0, 2, 2, 2, 2, 2, 2, 0, 0, 2, 2, 2, 2, 2, 2, 2, 2, 2, 2]) := GB_s hG 56 rfl
    have a63 : 63 < n := lt83 (GB_n hG) rfl
    have s63 : S 63 = .inr (.int, 18, 0) := GB_s hG 63 rfl
    refine mx_J.step (sn_185 0) (fun _ _ => rfl) ?_
    refine Jif_ne (show mx_Sn _ _ 1 (mx_if_ne 63 4) from sn_185 1) (by omega) (fun q1 => ?_) (fun q1 => ?_)
    · skip
      refine mx_J.step (sn_185 63) (fun _ _ => rfl) ?_
      refine mx_J.step (sn_185 64) (fun _ _ => rfl) ?_
      have c73 : ∀ (k2_0 : Int), 0 ≤ k2_0 ∧ k2_0 ≤ 3 → (wy (3 * 19 + k2_0) = wy (3 * 19 + x1) ∧ k2_0 ≤ 3) → ((x1 < 3 → k2_0 = x1) ∧ (3 ≤ x1 → k2_0 = 3)) → mx_J (tB l D b0 ad Hb tau) mt_185 (d + 3) 73 [some (.ref 56), some (xI 3), some (xI x1), some (xI x2), none] [xI k2_0] h Post := by
        intro k2_0 f2_0 f2_1 f2_2
        refine mx_J.step (ls2 := [some (.ref 56), some (xI 3), some (xI x1), some (xI x2), some (xI k2_0)]) (sn_185 73) (fun _ _ => rfl) ?_
        have c75 : ∀ (m3 : Nat) (w3_4 : Int) (Z4 : xZ) (h4 : mx_H), w3_4 - 0 < (m3 : Int) → 0 ≤ w3_4 ∧ w3_4 ≤ 3 → (Z4 56 18 + wy (3 * 19 + w3_4) = Z 56 18 + wy (3 * 19 + x1)) → GL Z Z4 3 x1 x2 w3_4 → XH n s S Z4 h4 → GB n S Z4 → fr' [(56, 18), (61, (-1)), (63, (-1))] Z Z4 → mx_J (tB l D b0 ad Hb tau) mt_185 (d + 3) 75 [some (.ref 56), some (xI 3), some (xI x1), some (xI x2), some (xI w3_4)] [] h4 Post := by
          intro m3
          induction m3 with
          | zero => intro w3_4 Z4 h4 q3 f3_0 f3_1 f3_2 hx4 hG4 hf4; exact absurd q3 (by omega)
          | succ m3 ih3 =>
            intro w3_4 Z4 h4 q3 f3_0 f3_1 f3_2 hx4 hG4 hf4
            have b5 : 0 ≤ Z4 56 18 ∧ Z4 56 18 ≤ 385 := hG4.pr 56 18
            refine mx_J.step (sn_185 75) (fun _ _ => rfl) ?_
            refine Jif_le (show mx_Sn _ _ 77 (mx_if_le 107 80) from sn_185 77) (by omega) (fun q6 => ?_) (fun q6 => ?_)
            · skip
              have w0 : wy (3 * 19 + w3_4) = 0 := by rw [show w3_4 = 0 by omega]; exact Wy0 (by omega)
              exact mx_J.ret (sn_185 107) (fun _ _ => rfl) (hP Z4 h4 hx4 hG4 (fr_tr (M := [(56, 18), (61, (-1)), (63, (-1))]) fr_rf (hf4) (M1 := []) rfl rfl) ⟨(gl_e (by assumption) (by omega) (by omega)), by omega⟩)
            · skip
              refine mx_J.step (sn_185 80) (fun _ _ => rfl) ?_
              refine JgetR (g := 17) (b := 63) hx4 (show mx_Sn _ _ 81 (mx_getf 12 17 84) from sn_185 81) a56 s56 rfl rfl (hG4.prr 56 17 rfl) ?_
              refine mx_J.step (sn_185 84) (fun _ _ => rfl) ?_
              refine mx_J.step (sn_185 85) (fun _ _ => rfl) ?_
              refine JiastI hx4 (show mx_Sn _ _ 87 (mx_iast 1 88) from sn_185 87) a63 s63 rfl (by omega) (fun Z8 h8 hx8 hE8 => ?_)
              have hG8 := GB_up hG4 hE8 (show 0 ≤ w3_4 ∧ w3_4 ≤ 18 by omega) trivial rfl
              have wr := WRr (n := 3) (m := w3_4) (by omega) (by omega)
              refine mx_J.step (sn_185 88) (fun _ _ => rfl) ?_
              refine mx_J.step (sn_185 89) (fun _ _ => rfl) ?_
              refine mx_J.step (sn_185 90) (fun _ _ => rfl) ?_
              refine Jisub (show mx_Sn _ _ 92 (mx_isub 93) from sn_185 92) ?_
              refine mx_J.step (sn_185 93) (fun _ _ => rfl) ?_
              refine mx_J.step (sn_185 95) (fun _ _ => rfl) ?_
              refine JcI (z := 1) (show mx_Sn _ _ 96 (mx_const (.int 1) 97) from sn_185 96) rfl ?_
              refine Jiadd (show mx_Sn _ _ 97 (mx_iadd 98) from sn_185 97) ?_
              have eq10 : Z8 56 18 = Z4 56 18 := (up_nk hE8 rfl)
              obtain ⟨Z9, h9, hc9, hx9, hG9, hf9, b9⟩ := ct_185_56_le2 (d := d + 0) (l := l) (D := D) (b0 := b0) (ad := ad) (Hb := Hb) (tau := tau) hx8 hG8 (show 0 ≤ 3 - w3_4 ∧ 3 - w3_4 ≤ 2 by omega) (show 0 ≤ w3_4 ∧ w3_4 ≤ 18 by omega) (show 0 ≤ x2 + 1 ∧ x2 + 1 ≤ 18 by omega) (show Z8 56 18 + wy ((3 - w3_4) * 19 + w3_4) ≤ 385 by first | omega | (simp only [eq10]; omega)) (show (x2 + 1) + (3 - w3_4) ≤ 18 by first | omega | (simp only [eq10]; omega))
              try rw [eq10] at b9
              obtain ⟨bs9_0, b9⟩ := b9
              have b11 : 0 ≤ Z9 56 18 ∧ Z9 56 18 ≤ 385 := hG9.pr 56 18
              refine Jcv0 hx8 (show mx_Sn _ _ 98 (mx_callv 185 4 12 101) from sn_185 98) a56 s56 hc9 rfl rfl rfl ?_
              have gl1 := gl_s (Z := Z) (left := 3) (most := x1) (n := x2) (its := w3_4) (by assumption) (by omega) (by omega) (by omega) hE8 bs9_0
              refine Jiinc (z := w3_4) (cz := (-1)) (ls2 := [some (.ref 56), some (xI 3), some (xI x1), some (xI x2), some (xI (w3_4 + (-1)))]) (show mx_Sn _ _ 101 (mx_iinc 4 (-1) 104) from sn_185 101) rfl rfl rfl rfl ?_
              refine mx_J.step (sn_185 104) (fun _ _ => rfl) ?_
              exact ih3 (w3_4 + (-1)) Z9 h9 (by omega) (by omega) (by omega) (gl1) hx9 hG9 (fr_tr (M := [(56, 18), (61, (-1)), (63, (-1))]) (fr_tr (M := [(56, 18), (61, (-1)), (63, (-1))]) (fr_tr (M := [(56, 18), (61, (-1)), (63, (-1))]) fr_rf (hf4) (M1 := []) rfl rfl) (fr_ua hE8) rfl rfl) (hf9) rfl rfl)
        have b12 : 0 ≤ Z 56 18 ∧ Z 56 18 ≤ 385 := hG.pr 56 18
        exact c75 (Int.toNat (k2_0 - 0) + 1) k2_0 Z h (by omega) (by omega) (by omega) (gl_0 (by omega) (by omega) (by omega) (by omega)) hx hG fr_rf
      refine Jicmp_ge (show mx_Sn _ _ 65 (mx_icmp_ge 72 68) from sn_185 65) (by omega) (by omega) (fun q13 => ?_) (fun q13 => ?_)
      · skip
        refine mx_J.step (sn_185 72) (fun _ _ => rfl) ?_
        exact c73 3 (by omega) (by first | exact ⟨rfl, by omega⟩ | exact ⟨WSs (n := 3) (by omega) (by omega), by omega⟩) (by omega)
      · skip
        refine mx_J.step (sn_185 68) (fun _ _ => rfl) ?_
        refine mx_J.step (sn_185 69) (fun _ _ => rfl) ?_
        exact c73 x1 (by omega) (by first | exact ⟨rfl, by omega⟩ | exact ⟨WSs (n := 3) (by omega) (by omega), by omega⟩) (by omega)
    · skip
      exfalso; omega
theorem ct_185_56_i3 {l : Launch} {D : va_G} {b0 : Nat} {ad : Nat → Nat} {Hb : Heap} {tau : Nat → Int64} {d n s : Nat} {S : Nat → xS} {Z : xZ} {h : mx_H} (hx : XH n s S Z h) (hG : GB n S Z)  {x1 x2 : Int} (p1 : 0 ≤ x1 ∧ x1 ≤ 18) (p2 : 0 ≤ x2 ∧ x2 ≤ 18) (k0 : Z 56 18 + wy (3 * 19 + x1) ≤ 385) (k1 : x2 + 3 ≤ 18) : ∃ (Z' : xZ) (h' : mx_H), mx_Ca (tB l D b0 ad Hb tau) (d + 4) 185 [.ref 56, xI 3, xI x1, xI x2] h (none, h') ∧ XH n s S Z' h' ∧ GB n S Z' ∧ fr' [(56, 18), (61, (-1)), (63, (-1))] Z Z' ∧ (GAp Z Z' 3 x1 x2 ∧ Z' 56 18 = Z 56 18 + wy (3 * 19 + x1)) := by
  obtain ⟨r, hca, Z', h', e, q⟩ := Jmt (B := tB l D b0 ad Hb tau) (M := mt_185) (mi := 185) (as := [.ref 56, xI 3, xI x1, xI x2]) (d := d + 3) (ls := [some (.ref 56), some (xI 3), some (xI x1), some (xI x2), none]) rfl rfl rfl rfl rfl rfl (cw_185_56_i3 (l := l) (D := D) (b0 := b0) (ad := ad) (Hb := Hb) (tau := tau) (d := d) (Post := fun r => ∃ (Z' : xZ) (h' : mx_H), r = (none, h') ∧ XH n s S Z' h' ∧ GB n S Z' ∧ fr' [(56, 18), (61, (-1)), (63, (-1))] Z Z' ∧ (GAp Z Z' 3 x1 x2 ∧ Z' 56 18 = Z 56 18 + wy (3 * 19 + x1))) hx hG p1 p2 k0 k1 (fun Z' h' q1 q2 q3 q4 => ⟨Z', h', rfl, q1, q2, q3, q4⟩))
  subst e; exact ⟨Z', h', hca, q⟩
theorem ct_185_56_le3 {l : Launch} {D : va_G} {b0 : Nat} {ad : Nat → Nat} {Hb : Heap} {tau : Nat → Int64} {d n s : Nat} {S : Nat → xS} {Z : xZ} {h : mx_H} (hx : XH n s S Z h) (hG : GB n S Z) {x0 x1 x2 : Int} (p0 : 0 ≤ x0 ∧ x0 ≤ 3) (p1 : 0 ≤ x1 ∧ x1 ≤ 18) (p2 : 0 ≤ x2 ∧ x2 ≤ 18) (k0 : Z 56 18 + wy (x0 * 19 + x1) ≤ 385) (k1 : x2 + x0 ≤ 18) : ∃ (Z' : xZ) (h' : mx_H), mx_Ca (tB l D b0 ad Hb tau) (d + 4) 185 [.ref 56, xI x0, xI x1, xI x2] h (none, h') ∧ XH n s S Z' h' ∧ GB n S Z' ∧ fr' [(56, 18), (61, (-1)), (63, (-1))] Z Z' ∧ (GAp Z Z' x0 x1 x2 ∧ Z' 56 18 = Z 56 18 + wy (x0 * 19 + x1)) := by
  have hc : x0 = 0 ∨ x0 = 1 ∨ x0 = 2 ∨ x0 = 3 := by omega
  rcases hc with hc | hc | hc | hc
  · subst hc
    obtain ⟨Z', h', hca, q1, q2, q3, q4⟩ := ct_185_56_i0 (d := d + 3) (l := l) (D := D) (b0 := b0) (ad := ad) (Hb := Hb) (tau := tau) hx hG p1 p2 k0 k1
    exact ⟨Z', h', hca, q1, q2, fr_tr (M1 := []) fr_rf q3 rfl rfl, q4⟩
  · subst hc
    obtain ⟨Z', h', hca, q1, q2, q3, q4⟩ := ct_185_56_i1 (d := d + 2) (l := l) (D := D) (b0 := b0) (ad := ad) (Hb := Hb) (tau := tau) hx hG p1 p2 k0 k1
    exact ⟨Z', h', hca, q1, q2, fr_tr (M1 := []) fr_rf q3 rfl rfl, q4⟩
  · subst hc
    obtain ⟨Z', h', hca, q1, q2, q3, q4⟩ := ct_185_56_i2 (d := d + 1) (l := l) (D := D) (b0 := b0) (ad := ad) (Hb := Hb) (tau := tau) hx hG p1 p2 k0 k1
    exact ⟨Z', h', hca, q1, q2, fr_tr (M1 := []) fr_rf q3 rfl rfl, q4⟩
  · subst hc
    obtain ⟨Z', h', hca, q1, q2, q3, q4⟩ := ct_185_56_i3 (d := d + 0) (l := l) (D := D) (b0 := b0) (ad := ad) (Hb := Hb) (tau := tau) hx hG p1 p2 k0 k1
    exact ⟨Z', h', hca, q1, q2, fr_tr (M1 := []) fr_rf q3 rfl rfl, q4⟩
set_option maxRecDepth 100000 in
theorem cw_185_56_i4 {l : Launch} {D : va_G} {b0 : Nat} {ad : Nat → Nat} {Hb : Heap} {tau : Nat → Int64} {d n s : Nat} {S : Nat → xS} {Z : xZ} {h : mx_H} {Post : mx_R → Prop} (hx : XH n s S Z h) (hG : GB n S Z)  {x1 x2 : Int} (p1 : 0 ≤ x1 ∧ x1 ≤ 18) (p2 : 0 ≤ x2 ∧ x2 ≤ 18) (k0 : Z 56 18 + wy (4 * 19 + x1) ≤ 385) (k1 : x2 + 4 ≤ 18) (hP : ∀ (Z' : xZ) (h' : mx_H), XH n s S Z' h' → GB n S Z' → fr' [(56, 18), (61, (-1)), (63, (-1))] Z Z' → GAp Z Z' 4 x1 x2 ∧ Z' 56 18 = Z 56 18 + wy (4 * 19 + x1) → Post (none, h')) : mx_J (tB l D b0 ad Hb tau) mt_185 (d + 4) 0 [some (.ref 56), some (xI 4), some (xI x1), some (xI x2), none] [] h Post := by
    have a56 : 56 < n := lt83 (GB_n hG) rfl
    have s56 : S 56 = .inl (12, [0, 2, 2, 2, 2, 0, 0, 0, 0, 0, 0, 0, 0, 0, 0, 2, 2, 2, 0, 2, 2, 2, 0, 0, 2, 2, 2, 2, 2, 2, 0, 0, 2, 2, 2, 2, 2, 2, 2, 2, 2, 2]) := GB_s hG 56 rfl
    have a63 : 63 < n := lt83 (GB_n hG) rfl
    have s63 : S 63 = .inr (.int, 18, 0) := GB_s hG 63 rfl
    refine mx_J.step (sn_185 0) (fun _ _ => rfl) ?_
    refine Jif_ne (show mx_Sn _ _ 1 (mx_if_ne 63 4) from sn_185 1) (by omega) (fun q1 => ?_) (fun q1 => ?_)
    · skip
      refine mx_J.step (sn_185 63) (fun _ _ => rfl) ?_
      refine mx_J.step (sn_185 64) (fun _ _ => rfl) ?_
      have c73 : ∀ (k2_0 : Int), 0 ≤ k2_0 ∧ k2_0 ≤ 4 → (wy (4 * 19 + k2_0) = wy (4 * 19 + x1) ∧ k2_0 ≤ 4) → ((x1 < 4 → k2_0 = x1) ∧ (4 ≤ x1 → k2_0 = 4)) → mx_J (tB l D b0 ad Hb tau) mt_185 (d + 4) 73 [some (.ref 56), some (xI 4), some (xI x1), some (xI x2), none] [xI k2_0] h Post := by
        intro k2_0 f2_0 f2_1 f2_2
        refine mx_J.step (ls2 := [some (.ref 56), some (xI 4), some (xI x1), some (xI x2), some (xI k2_0)]) (sn_185 73) (fun _ _ => rfl) ?_
        have c75 : ∀ (m3 : Nat) (w3_4 : Int) (Z4 : xZ) (h4 : mx_H), w3_4 - 0 < (m3 : Int) → 0 ≤ w3_4 ∧ w3_4 ≤ 4 → (Z4 56 18 + wy (4 * 19 + w3_4) = Z 56 18 + wy (4 * 19 + x1)) → GL Z Z4 4 x1 x2 w3_4 → XH n s S Z4 h4 → GB n S Z4 → fr' [(56, 18), (61, (-1)), (63, (-1))] Z Z4 → mx_J (tB l D b0 ad Hb tau) mt_185 (d + 4) 75 [some (.ref 56), some (xI 4), some (xI x1), some (xI x2), some (xI w3_4)] [] h4 Post := by
          intro m3
          induction m3 with
          | zero => intro w3_4 Z4 h4 q3 f3_0 f3_1 f3_2 hx4 hG4 hf4; exact absurd q3 (by omega)
          | succ m3 ih3 =>
            intro w3_4 Z4 h4 q3 f3_0 f3_1 f3_2 hx4 hG4 hf4
            have b5 : 0 ≤ Z4 56 18 ∧ Z4 56 18 ≤ 385 := hG4.pr 56 18
            refine mx_J.step (sn_185 75) (fun _ _ => rfl) ?_
            refine Jif_le (show mx_Sn _ _ 77 (mx_if_le 107 80) from sn_185 77) (by omega) (fun q6 => ?_) (fun q6 => ?_)
            · skip
              have w0 : wy (4 * 19 + w3_4) = 0 := by rw [show w3_4 = 0 by omega]; exact Wy0 (by omega)
              exact mx_J.ret (sn_185 107) (fun _ _ => rfl) (hP Z4 h4 hx4 hG4 (fr_tr (M := [(56, 18), (61, (-1)), (63, (-1))]) fr_rf (hf4) (M1 := []) rfl rfl) ⟨(gl_e (by assumption) (by omega) (by omega)), by omega⟩)
            · skip
              refine mx_J.step (sn_185 80) (fun _ _ => rfl) ?_
              refine JgetR (g := 17) (b := 63) hx4 (show mx_Sn _ _ 81 (mx_getf 12 17 84) from sn_185 81) a56 s56 rfl rfl (hG4.prr 56 17 rfl) ?_
              refine mx_J.step (sn_185 84) (fun _ _ => rfl) ?_
              refine mx_J.step (sn_185 85) (fun _ _ => rfl) ?_
              refine JiastI hx4 (show mx_Sn _ _ 87 (mx_iast 1 88) from sn_185 87) a63 s63 rfl (by omega) (fun Z8 h8 hx8 hE8 => ?_)
              have hG8 := GB_up hG4 hE8 (show 0 ≤ w3_4 ∧ w3_4 ≤ 18 by omega) trivial rfl
              have wr := WRr (n := 4) (m := w3_4) (by omega) (by omega)
              refine mx_J.step (sn_185 88) (fun _ _ => rfl) ?_
              refine mx_J.step (sn_185 89) (fun _ _ => rfl) ?_
              refine mx_J.step (sn_185 90) (fun _ _ => rfl) ?_
              refine Jisub (show mx_Sn _ _ 92 (mx_isub 93) from sn_185 92) ?_
              refine mx_J.step (sn_185 93) (fun _ _ => rfl) ?_
              refine mx_J.step (sn_185 95) (fun _ _ => rfl) ?_
              refine JcI (z := 1) (show mx_Sn _ _ 96 (mx_const (.int 1) 97) from sn_185 96) rfl ?_
              refine Jiadd (show mx_Sn _ _ 97 (mx_iadd 98) from sn_185 97) ?_
              have eq10 : Z8 56 18 = Z4 56 18 := (up_nk hE8 rfl)
              obtain ⟨Z9, h9, hc9, hx9, hG9, hf9, b9⟩ := ct_185_56_le3 (d := d + 0) (l := l) (D := D) (b0 := b0) (ad := ad) (Hb := Hb) (tau := tau) hx8 hG8 (show 0 ≤ 4 - w3_4 ∧ 4 - w3_4 ≤ 3 by omega) (show 0 ≤ w3_4 ∧ w3_4 ≤ 18 by omega) (show 0 ≤ x2 + 1 ∧ x2 + 1 ≤ 18 by omega) (show Z8 56 18 + wy ((4 - w3_4) * 19 + w3_4) ≤ 385 by first | omega | (simp only [eq10]; omega)) (show (x2 + 1) + (4 - w3_4) ≤ 18 by first | omega | (simp only [eq10]; omega))
              try rw [eq10] at b9
              obtain ⟨bs9_0, b9⟩ := b9
              have b11 : 0 ≤ Z9 56 18 ∧ Z9 56 18 ≤ 385 := hG9.pr 56 18
              refine Jcv0 hx8 (show mx_Sn _ _ 98 (mx_callv 185 4 12 101) from sn_185 98) a56 s56 hc9 rfl rfl rfl ?_
              have gl1 := gl_s (Z := Z) (left := 4) (most := x1) (n := x2) (its := w3_4) (by assumption) (by omega) (by omega) (by omega) hE8 bs9_0
              refine Jiinc (z := w3_4) (cz := (-1)) (ls2 := [some (.ref 56), some (xI 4), some (xI x1), some (xI x2), some (xI (w3_4 + (-1)))]) (show mx_Sn _ _ 101 (mx_iinc 4 (-1) 104) from sn_185 101) rfl rfl rfl rfl ?_
              refine mx_J.step (sn_185 104) (fun _ _ => rfl) ?_
              exact ih3 (w3_4 + (-1)) Z9 h9 (by omega) (by omega) (by omega) (gl1) hx9 hG9 (fr_tr (M := [(56, 18), (61, (-1)), (63, (-1))]) (fr_tr (M := [(56, 18), (61, (-1)), (63, (-1))]) (fr_tr (M := [(56, 18), (61, (-1)), (63, (-1))]) fr_rf (hf4) (M1 := []) rfl rfl) (fr_ua hE8) rfl rfl) (hf9) rfl rfl)
        have b12 : 0 ≤ Z 56 18 ∧ Z 56 18 ≤ 385 := hG.pr 56 18
        exact c75 (Int.toNat (k2_0 - 0) + 1) k2_0 Z h (by omega) (by omega) (by omega) (gl_0 (by omega) (by omega) (by omega) (by omega)) hx hG fr_rf
      refine Jicmp_ge (show mx_Sn _ _ 65 (mx_icmp_ge 72 68) from sn_185 65) (by omega) (by omega) (fun q13 => ?_) (fun q13 => ?_)
      · skip
        refine mx_J.step (sn_185 72) (fun _ _ => rfl) ?_
        exact c73 4 (by omega) (by first | exact ⟨rfl, by omega⟩ | exact ⟨WSs (n := 4) (by omega) (by omega), by omega⟩) (by omega)
      · skip
        refine mx_J.step (sn_185 68) (fun _ _ => rfl) ?_
        refine mx_J.step (sn_185 69) (fun _ _ => rfl) ?_
        exact c73 x1 (by omega) (by first | exact ⟨rfl, by omega⟩ | exact ⟨WSs (n := 4) (by omega) (by omega), by omega⟩) (by omega)
    · skip
      exfalso; omega
theorem ct_185_56_i4 {l : Launch} {D : va_G} {b0 : Nat} {ad : Nat → Nat} {Hb : Heap} {tau : Nat → Int64} {d n s : Nat} {S : Nat → xS} {Z : xZ} {h : mx_H} (hx : XH n s S Z h) (hG : GB n S Z)  {x1 x2 : Int} (p1 : 0 ≤ x1 ∧ x1 ≤ 18) (p2 : 0 ≤ x2 ∧ x2 ≤ 18) (k0 : Z 56 18 + wy (4 * 19 + x1) ≤ 385) (k1 : x2 + 4 ≤ 18) : ∃ (Z' : xZ) (h' : mx_H), mx_Ca (tB l D b0 ad Hb tau) (d + 5) 185 [.ref 56, xI 4, xI x1, xI x2] h (none, h') ∧ XH n s S Z' h' ∧ GB n S Z' ∧ fr' [(56, 18), (61, (-1)), (63, (-1))] Z Z' ∧ (GAp Z Z' 4 x1 x2 ∧ Z' 56 18 = Z 56 18 + wy (4 * 19 + x1)) := by
  obtain ⟨r, hca, Z', h', e, q⟩ := Jmt (B := tB l D b0 ad Hb tau) (M := mt_185) (mi := 185) (as := [.ref 56, xI 4, xI x1, xI x2]) (d := d + 4) (ls := [some (.ref 56), some (xI 4), some (xI x1), some (xI x2), none]) rfl rfl rfl rfl rfl rfl (cw_185_56_i4 (l := l) (D := D) (b0 := b0) (ad := ad) (Hb := Hb) (tau := tau) (d := d) (Post := fun r => ∃ (Z' : xZ) (h' : mx_H), r = (none, h') ∧ XH n s S Z' h' ∧ GB n S Z' ∧ fr' [(56, 18), (61, (-1)), (63, (-1))] Z Z' ∧ (GAp Z Z' 4 x1 x2 ∧ Z' 56 18 = Z 56 18 + wy (4 * 19 + x1))) hx hG p1 p2 k0 k1 (fun Z' h' q1 q2 q3 q4 => ⟨Z', h', rfl, q1, q2, q3, q4⟩))
  subst e; exact ⟨Z', h', hca, q⟩
theorem ct_185_56_le4 {l : Launch} {D : va_G} {b0 : Nat} {ad : Nat → Nat} {Hb : Heap} {tau : Nat → Int64} {d n s : Nat} {S : Nat → xS} {Z : xZ} {h : mx_H} (hx : XH n s S Z h) (hG : GB n S Z) {x0 x1 x2 : Int} (p0 : 0 ≤ x0 ∧ x0 ≤ 4) (p1 : 0 ≤ x1 ∧ x1 ≤ 18) (p2 : 0 ≤ x2 ∧ x2 ≤ 18) (k0 : Z 56 18 + wy (x0 * 19 + x1) ≤ 385) (k1 : x2 + x0 ≤ 18) : ∃ (Z' : xZ) (h' : mx_H), mx_Ca (tB l D b0 ad Hb tau) (d + 5) 185 [.ref 56, xI x0, xI x1, xI x2] h (none, h') ∧ XH n s S Z' h' ∧ GB n S Z' ∧ fr' [(56, 18), (61, (-1)), (63, (-1))] Z Z' ∧ (GAp Z Z' x0 x1 x2 ∧ Z' 56 18 = Z 56 18 + wy (x0 * 19 + x1)) := by
  have hc : x0 = 0 ∨ x0 = 1 ∨ x0 = 2 ∨ x0 = 3 ∨ x0 = 4 := by omega
  rcases hc with hc | hc | hc | hc | hc
  · subst hc
    obtain ⟨Z', h', hca, q1, q2, q3, q4⟩ := ct_185_56_i0 (d := d + 4) (l := l) (D := D) (b0 := b0) (ad := ad) (Hb := Hb) (tau := tau) hx hG p1 p2 k0 k1
    exact ⟨Z', h', hca, q1, q2, fr_tr (M1 := []) fr_rf q3 rfl rfl, q4⟩
  · subst hc
    obtain ⟨Z', h', hca, q1, q2, q3, q4⟩ := ct_185_56_i1 (d := d + 3) (l := l) (D := D) (b0 := b0) (ad := ad) (Hb := Hb) (tau := tau) hx hG p1 p2 k0 k1
    exact ⟨Z', h', hca, q1, q2, fr_tr (M1 := []) fr_rf q3 rfl rfl, q4⟩
  · subst hc
    obtain ⟨Z', h', hca, q1, q2, q3, q4⟩ := ct_185_56_i2 (d := d + 2) (l := l) (D := D) (b0 := b0) (ad := ad) (Hb := Hb) (tau := tau) hx hG p1 p2 k0 k1
    exact ⟨Z', h', hca, q1, q2, fr_tr (M1 := []) fr_rf q3 rfl rfl, q4⟩
  · subst hc
    obtain ⟨Z', h', hca, q1, q2, q3, q4⟩ := ct_185_56_i3 (d := d + 1) (l := l) (D := D) (b0 := b0) (ad := ad) (Hb := Hb) (tau := tau) hx hG p1 p2 k0 k1
    exact ⟨Z', h', hca, q1, q2, fr_tr (M1 := []) fr_rf q3 rfl rfl, q4⟩
  · subst hc
    obtain ⟨Z', h', hca, q1, q2, q3, q4⟩ := ct_185_56_i4 (d := d + 0) (l := l) (D := D) (b0 := b0) (ad := ad) (Hb := Hb) (tau := tau) hx hG p1 p2 k0 k1
    exact ⟨Z', h', hca, q1, q2, fr_tr (M1 := []) fr_rf q3 rfl rfl, q4⟩
set_option maxRecDepth 100000 in
theorem cw_185_56_i5 {l : Launch} {D : va_G} {b0 : Nat} {ad : Nat → Nat} {Hb : Heap} {tau : Nat → Int64} {d n s : Nat} {S : Nat → xS} {Z : xZ} {h : mx_H} {Post : mx_R → Prop} (hx : XH n s S Z h) (hG : GB n S Z)  {x1 x2 : Int} (p1 : 0 ≤ x1 ∧ x1 ≤ 18) (p2 : 0 ≤ x2 ∧ x2 ≤ 18) (k0 : Z 56 18 + wy (5 * 19 + x1) ≤ 385) (k1 : x2 + 5 ≤ 18) (hP : ∀ (Z' : xZ) (h' : mx_H), XH n s S Z' h' → GB n S Z' → fr' [(56, 18), (61, (-1)), (63, (-1))] Z Z' → GAp Z Z' 5 x1 x2 ∧ Z' 56 18 = Z 56 18 + wy (5 * 19 + x1) → Post (none, h')) : mx_J (tB l D b0 ad Hb tau) mt_185 (d + 5) 0 [some (.ref 56), some (xI 5), some (xI x1), some (xI x2), none] [] h Post := by
    have a56 : 56 < n := lt83 (GB_n hG) rfl
    have s56 : S 56 = .inl (12, [0, 2, 2, 2, 2, 0, 0, 0, 0, 0, 0, 0, 0, 0, 0, 2, 2, 2, 0, 2, 2, 2, 0, 0, 2, 2, 2, 2, 2, 2, 0, 0, 2, 2, 2, 2, 2, 2, 2, 2, 2, 2]) := GB_s hG 56 rfl
    have a63 : 63 < n := lt83 (GB_n hG) rfl
    have s63 : S 63 = .inr (.int, 18, 0) := GB_s hG 63 rfl
    refine mx_J.step (sn_185 0) (fun _ _ => rfl) ?_
    refine Jif_ne (show mx_Sn _ _ 1 (mx_if_ne 63 4) from sn_185 1) (by omega) (fun q1 => ?_) (fun q1 => ?_)
    · skip
      refine mx_J.step (sn_185 63) (fun _ _ => rfl) ?_
      refine mx_J.step (sn_185 64) (fun _ _ => rfl) ?_
      have c73 : ∀ (k2_0 : Int), 0 ≤ k2_0 ∧ k2_0 ≤ 5 → (wy (5 * 19 + k2_0) = wy (5 * 19 + x1) ∧ k2_0 ≤ 5) → ((x1 < 5 → k2_0 = x1) ∧ (5 ≤ x1 → k2_0 = 5)) → mx_J (tB l D b0 ad Hb tau) mt_185 (d + 5) 73 [some (.ref 56), some (xI 5), some (xI x1), some (xI x2), none] [xI k2_0] h Post := by
        intro k2_0 f2_0 f2_1 f2_2
        refine mx_J.step (ls2 := [some (.ref 56), some (xI 5), some (xI x1), some (xI x2), some (xI k2_0)]) (sn_185 73) (fun _ _ => rfl) ?_
        have c75 : ∀ (m3 : Nat) (w3_4 : Int) (Z4 : xZ) (h4 : mx_H), w3_4 - 0 < (m3 : Int) → 0 ≤ w3_4 ∧ w3_4 ≤ 5 → (Z4 56 18 + wy (5 * 19 + w3_4) = Z 56 18 + wy (5 * 19 + x1)) → GL Z Z4 5 x1 x2 w3_4 → XH n s S Z4 h4 → GB n S Z4 → fr' [(56, 18), (61, (-1)), (63, (-1))] Z Z4 → mx_J (tB l D b0 ad Hb tau) mt_185 (d + 5) 75 [some (.ref 56), some (xI 5), some (xI x1), some (xI x2), some (xI w3_4)] [] h4 Post := by
          intro m3
          induction m3 with
          | zero => intro w3_4 Z4 h4 q3 f3_0 f3_1 f3_2 hx4 hG4 hf4; exact absurd q3 (by omega)
          | succ m3 ih3 =>
            intro w3_4 Z4 h4 q3 f3_0 f3_1 f3_2 hx4 hG4 hf4
            have b5 : 0 ≤ Z4 56 18 ∧ Z4 56 18 ≤ 385 := hG4.pr 56 18
            refine mx_J.step (sn_185 75) (fun _ _ => rfl) ?_
            refine Jif_le (show mx_Sn _ _ 77 (mx_if_le 107 80) from sn_185 77) (by omega) (fun q6 => ?_) (fun q6 => ?_)
            · skip
              have w0 : wy (5 * 19 + w3_4) = 0 := by rw [show w3_4 = 0 by omega]; exact Wy0 (by omega)
              exact mx_J.ret (sn_185 107) (fun _ _ => rfl) (hP Z4 h4 hx4 hG4 (fr_tr (M := [(56, 18), (61, (-1)), (63, (-1))]) fr_rf (hf4) (M1 := []) rfl rfl) ⟨(gl_e (by assumption) (by omega) (by omega)), by omega⟩)
            · skip
              refine mx_J.step (sn_185 80) (fun _ _ => rfl) ?_
              refine JgetR (g := 17) (b := 63) hx4 (show mx_Sn _ _ 81 (mx_getf 12 17 84) from sn_185 81) a56 s56 rfl rfl (hG4.prr 56 17 rfl) ?_
              refine mx_J.step (sn_185 84) (fun _ _ => rfl) ?_
              refine mx_J.step (sn_185 85) (fun _ _ => rfl) ?_
              refine JiastI hx4 (show mx_Sn _ _ 87 (mx_iast 1 88) from sn_185 87) a63 s63 rfl (by omega) (fun Z8 h8 hx8 hE8 => ?_)
              have hG8 := GB_up hG4 hE8 (show 0 ≤ w3_4 ∧ w3_4 ≤ 18 by omega) trivial rfl
              have wr := WRr (n := 5) (m := w3_4) (by omega) (by omega)
              refine mx_J.step (sn_185 88) (fun _ _ => rfl) ?_
              refine mx_J.step (sn_185 89) (fun _ _ => rfl) ?_
              refine mx_J.step (sn_185 90) (fun _ _ => rfl) ?_
              refine Jisub (show mx_Sn _ _ 92 (mx_isub 93) from sn_185 92) ?_
              refine mx_J.step (sn_185 93) (fun _ _ => rfl) ?_
              refine mx_J.step (sn_185 95) (fun _ _ => rfl) ?_
              refine JcI (z := 1) (show mx_Sn _ _ 96 (mx_const (.int 1) 97) from sn_185 96) rfl ?_
              refine Jiadd (show mx_Sn _ _ 97 (mx_iadd 98) from sn_185 97) ?_
              have eq10 : Z8 56 18 = Z4 56 18 := (up_nk hE8 rfl)
              obtain ⟨Z9, h9, hc9, hx9, hG9, hf9, b9⟩ := ct_185_56_le4 (d := d + 0) (l := l) (D := D) (b0 := b0) (ad := ad) (Hb := Hb) (tau := tau) hx8 hG8 (show 0 ≤ 5 - w3_4 ∧ 5 - w3_4 ≤ 4 by omega) (show 0 ≤ w3_4 ∧ w3_4 ≤ 18 by omega) (show 0 ≤ x2 + 1 ∧ x2 + 1 ≤ 18 by omega) (show Z8 56 18 + wy ((5 - w3_4) * 19 + w3_4) ≤ 385 by first | omega | (simp only [eq10]; omega)) (show (x2 + 1) + (5 - w3_4) ≤ 18 by first | omega | (simp only [eq10]; omega))
              try rw [eq10] at b9
              obtain ⟨bs9_0, b9⟩ := b9
              have b11 : 0 ≤ Z9 56 18 ∧ Z9 56 18 ≤ 385 := hG9.pr 56 18
              refine Jcv0 hx8 (show mx_Sn _ _ 98 (mx_callv 185 4 12 101) from sn_185 98) a56 s56 hc9 rfl rfl rfl ?_
              have gl1 := gl_s (Z := Z) (left := 5) (most := x1) (n := x2) (its := w3_4) (by assumption) (by omega) (by omega) (by omega) hE8 bs9_0
              refine Jiinc (z := w3_4) (cz := (-1)) (ls2 := [some (.ref 56), some (xI 5), some (xI x1), some (xI x2), some (xI (w3_4 + (-1)))]) (show mx_Sn _ _ 101 (mx_iinc 4 (-1) 104) from sn_185 101) rfl rfl rfl rfl ?_
              refine mx_J.step (sn_185 104) (fun _ _ => rfl) ?_
              exact ih3 (w3_4 + (-1)) Z9 h9 (by omega) (by omega) (by omega) (gl1) hx9 hG9 (fr_tr (M := [(56, 18), (61, (-1)), (63, (-1))]) (fr_tr (M := [(56, 18), (61, (-1)), (63, (-1))]) (fr_tr (M := [(56, 18), (61, (-1)), (63, (-1))]) fr_rf (hf4) (M1 := []) rfl rfl) (fr_ua hE8) rfl rfl) (hf9) rfl rfl)
        have b12 : 0 ≤ Z 56 18 ∧ Z 56 18 ≤ 385 := hG.pr 56 18
        exact c75 (Int.toNat (k2_0 - 0) + 1) k2_0 Z h (by omega) (by omega) (by omega) (gl_0 (by omega) (by omega) (by omega) (by omega)) hx hG fr_rf
      refine Jicmp_ge (show mx_Sn _ _ 65 (mx_icmp_ge 72 68) from sn_185 65) (by omega) (by omega) (fun q13 => ?_) (fun q13 => ?_)
      · skip
        refine mx_J.step (sn_185 72) (fun _ _ => rfl) ?_
        exact c73 5 (by omega) (by first | exact ⟨rfl, by omega⟩ | exact ⟨WSs (n := 5) (by omega) (by omega), by omega⟩) (by omega)
      · skip
        refine mx_J.step (sn_185 68) (fun _ _ => rfl) ?_
        refine mx_J.step (sn_185 69) (fun _ _ => rfl) ?_
        exact c73 x1 (by omega) (by first | exact ⟨rfl, by omega⟩ | exact ⟨WSs (n := 5) (by omega) (by omega), by omega⟩) (by omega)
    · skip
      exfalso; omega
theorem ct_185_56_i5 {l : Launch} {D : va_G} {b0 : Nat} {ad : Nat → Nat} {Hb : Heap} {tau : Nat → Int64} {d n s : Nat} {S : Nat → xS} {Z : xZ} {h : mx_H} (hx : XH n s S Z h) (hG : GB n S Z)  {x1 x2 : Int} (p1 : 0 ≤ x1 ∧ x1 ≤ 18) (p2 : 0 ≤ x2 ∧ x2 ≤ 18) (k0 : Z 56 18 + wy (5 * 19 + x1) ≤ 385) (k1 : x2 + 5 ≤ 18) : ∃ (Z' : xZ) (h' : mx_H), mx_Ca (tB l D b0 ad Hb tau) (d + 6) 185 [.ref 56, xI 5, xI x1, xI x2] h (none, h') ∧ XH n s S Z' h' ∧ GB n S Z' ∧ fr' [(56, 18), (61, (-1)), (63, (-1))] Z Z' ∧ (GAp Z Z' 5 x1 x2 ∧ Z' 56 18 = Z 56 18 + wy (5 * 19 + x1)) := by
  obtain ⟨r, hca, Z', h', e, q⟩ := Jmt (B := tB l D b0 ad Hb tau) (M := mt_185) (mi := 185) (as := [.ref 56, xI 5, xI x1, xI x2]) (d := d + 5) (ls := [some (.ref 56), some (xI 5), some (xI x1), some (xI x2), none]) rfl rfl rfl rfl rfl rfl (cw_185_56_i5 (l := l) (D := D) (b0 := b0) (ad := ad) (Hb := Hb) (tau := tau) (d := d) (Post := fun r => ∃ (Z' : xZ) (h' : mx_H), r = (none, h') ∧ XH n s S Z' h' ∧ GB n S Z' ∧ fr' [(56, 18), (61, (-1)), (63, (-1))] Z Z' ∧ (GAp Z Z' 5 x1 x2 ∧ Z' 56 18 = Z 56 18 + wy (5 * 19 + x1))) hx hG p1 p2 k0 k1 (fun Z' h' q1 q2 q3 q4 => ⟨Z', h', rfl, q1, q2, q3, q4⟩))
  subst e; exact ⟨Z', h', hca, q⟩
theorem ct_185_56_le5 {l : Launch} {D : va_G} {b0 : Nat} {ad : Nat → Nat} {Hb : Heap} {tau : Nat → Int64} {d n s : Nat} {S : Nat → xS} {Z : xZ} {h : mx_H} (hx : XH n s S Z h) (hG : GB n S Z) {x0 x1 x2 : Int} (p0 : 0 ≤ x0 ∧ x0 ≤ 5) (p1 : 0 ≤ x1 ∧ x1 ≤ 18) (p2 : 0 ≤ x2 ∧ x2 ≤ 18) (k0 : Z 56 18 + wy (x0 * 19 + x1) ≤ 385) (k1 : x2 + x0 ≤ 18) : ∃ (Z' : xZ) (h' : mx_H), mx_Ca (tB l D b0 ad Hb tau) (d + 6) 185 [.ref 56, xI x0, xI x1, xI x2] h (none, h') ∧ XH n s S Z' h' ∧ GB n S Z' ∧ fr' [(56, 18), (61, (-1)), (63, (-1))] Z Z' ∧ (GAp Z Z' x0 x1 x2 ∧ Z' 56 18 = Z 56 18 + wy (x0 * 19 + x1)) := by
  have hc : x0 = 0 ∨ x0 = 1 ∨ x0 = 2 ∨ x0 = 3 ∨ x0 = 4 ∨ x0 = 5 := by omega
  rcases hc with hc | hc | hc | hc | hc | hc
  · subst hc
    obtain ⟨Z', h', hca, q1, q2, q3, q4⟩ := ct_185_56_i0 (d := d + 5) (l := l) (D := D) (b0 := b0) (ad := ad) (Hb := Hb) (tau := tau) hx hG p1 p2 k0 k1
    exact ⟨Z', h', hca, q1, q2, fr_tr (M1 := []) fr_rf q3 rfl rfl, q4⟩
  · subst hc
    obtain ⟨Z', h', hca, q1, q2, q3, q4⟩ := ct_185_56_i1 (d := d + 4) (l := l) (D := D) (b0 := b0) (ad := ad) (Hb := Hb) (tau := tau) hx hG p1 p2 k0 k1
    exact ⟨Z', h', hca, q1, q2, fr_tr (M1 := []) fr_rf q3 rfl rfl, q4⟩
  · subst hc
    obtain ⟨Z', h', hca, q1, q2, q3, q4⟩ := ct_185_56_i2 (d := d + 3) (l := l) (D := D) (b0 := b0) (ad := ad) (Hb := Hb) (tau := tau) hx hG p1 p2 k0 k1
    exact ⟨Z', h', hca, q1, q2, fr_tr (M1 := []) fr_rf q3 rfl rfl, q4⟩
  · subst hc
    obtain ⟨Z', h', hca, q1, q2, q3, q4⟩ := ct_185_56_i3 (d := d + 2) (l := l) (D := D) (b0 := b0) (ad := ad) (Hb := Hb) (tau := tau) hx hG p1 p2 k0 k1
    exact ⟨Z', h', hca, q1, q2, fr_tr (M1 := []) fr_rf q3 rfl rfl, q4⟩
  · subst hc
    obtain ⟨Z', h', hca, q1, q2, q3, q4⟩ := ct_185_56_i4 (d := d + 1) (l := l) (D := D) (b0 := b0) (ad := ad) (Hb := Hb) (tau := tau) hx hG p1 p2 k0 k1
    exact ⟨Z', h', hca, q1, q2, fr_tr (M1 := []) fr_rf q3 rfl rfl, q4⟩
  · subst hc
    obtain ⟨Z', h', hca, q1, q2, q3, q4⟩ := ct_185_56_i5 (d := d + 0) (l := l) (D := D) (b0 := b0) (ad := ad) (Hb := Hb) (tau := tau) hx hG p1 p2 k0 k1
    exact ⟨Z', h', hca, q1, q2, fr_tr (M1 := []) fr_rf q3 rfl rfl, q4⟩
set_option maxRecDepth 100000 in
theorem cw_185_56_i6 {l : Launch} {D : va_G} {b0 : Nat} {ad : Nat → Nat} {Hb : Heap} {tau : Nat → Int64} {d n s : Nat} {S : Nat → xS} {Z : xZ} {h : mx_H} {Post : mx_R → Prop} (hx : XH n s S Z h) (hG : GB n S Z)  {x1 x2 : Int} (p1 : 0 ≤ x1 ∧ x1 ≤ 18) (p2 : 0 ≤ x2 ∧ x2 ≤ 18) (k0 : Z 56 18 + wy (6 * 19 + x1) ≤ 385) (k1 : x2 + 6 ≤ 18) (hP : ∀ (Z' : xZ) (h' : mx_H), XH n s S Z' h' → GB n S Z' → fr' [(56, 18), (61, (-1)), (63, (-1))] Z Z' → GAp Z Z' 6 x1 x2 ∧ Z' 56 18 = Z 56 18 + wy (6 * 19 + x1) → Post (none, h')) : mx_J (tB l D b0 ad Hb tau) mt_185 (d + 6) 0 [some (.ref 56), some (xI 6), some (xI x1), some (xI x2), none] [] h Post := by
    have a56 : 56 < n := lt83 (GB_n hG) rfl
    have s56 : S 56 = .inl (12, [0, 2, 2, 2, 2, 0, 0, 0, 0, 0, 0, 0, 0, 0, 0, 2, 2, 2, 0, 2, 2, 2, 0, 0, 2, 2, 2, 2, 2, 2, 0, 0, 2, 2, 2, 2, 2, 2, 2, 2, 2, 2]) := GB_s hG 56 rfl
    have a63 : 63 < n := lt83 (GB_n hG) rfl
    have s63 : S 63 = .inr (.int, 18, 0) := GB_s hG 63 rfl
    refine mx_J.step (sn_185 0) (fun _ _ => rfl) ?_
    refine Jif_ne (show mx_Sn _ _ 1 (mx_if_ne 63 4) from sn_185 1) (by omega) (fun q1 => ?_) (fun q1 => ?_)
    · skip
      refine mx_J.step (sn_185 63) (fun _ _ => rfl) ?_
      refine mx_J.step (sn_185 64) (fun _ _ => rfl) ?_
      have c73 : ∀ (k2_0 : Int), 0 ≤ k2_0 ∧ k2_0 ≤ 6 → (wy (6 * 19 + k2_0) = wy (6 * 19 + x1) ∧ k2_0 ≤ 6) → ((x1 < 6 → k2_0 = x1) ∧ (6 ≤ x1 → k2_0 = 6)) → mx_J (tB l D b0 ad Hb tau) mt_185 (d + 6) 73 [some (.ref 56), some (xI 6), some (xI x1), some (xI x2), none] [xI k2_0] h Post := by
        intro k2_0 f2_0 f2_1 f2_2
        refine mx_J.step (ls2 := [some (.ref 56), some (xI 6), some (xI x1), some (xI x2), some (xI k2_0)]) (sn_185 73) (fun _ _ => rfl) ?_
        have c75 : ∀ (m3 : Nat) (w3_4 : Int) (Z4 : xZ) (h4 : mx_H), w3_4 - 0 < (m3 : Int) → 0 ≤ w3_4 ∧ w3_4 ≤ 6 → (Z4 56 18 + wy (6 * 19 + w3_4) = Z 56 18 + wy (6 * 19 + x1)) → GL Z Z4 6 x1 x2 w3_4 → XH n s S Z4 h4 → GB n S Z4 → fr' [(56, 18), (61, (-1)), (63, (-1))] Z Z4 → mx_J (tB l D b0 ad Hb tau) mt_185 (d + 6) 75 [some (.ref 56), some (xI 6), some (xI x1), some (xI x2), some (xI w3_4)] [] h4 Post := by
          intro m3
          induction m3 with
          | zero => intro w3_4 Z4 h4 q3 f3_0 f3_1 f3_2 hx4 hG4 hf4; exact absurd q3 (by omega)
          | succ m3 ih3 =>
            intro w3_4 Z4 h4 q3 f3_0 f3_1 f3_2 hx4 hG4 hf4
            have b5 : 0 ≤ Z4 56 18 ∧ Z4 56 18 ≤ 385 := hG4.pr 56 18
            refine mx_J.step (sn_185 75) (fun _ _ => rfl) ?_
            refine Jif_le (show mx_Sn _ _ 77 (mx_if_le 107 80) from sn_185 77) (by omega) (fun q6 => ?_) (fun q6 => ?_)
            · skip
              have w0 : wy (6 * 19 + w3_4) = 0 := by rw [show w3_4 = 0 by omega]; exact Wy0 (by omega)
              exact mx_J.ret (sn_185 107) (fun _ _ => rfl) (hP Z4 h4 hx4 hG4 (fr_tr (M := [(56, 18), (61, (-1)), (63, (-1))]) fr_rf (hf4) (M1 := []) rfl rfl) ⟨(gl_e (by assumption) (by omega) (by omega)), by omega⟩)
            · skip
              refine mx_J.step (sn_185 80) (fun _ _ => rfl) ?_
              refine JgetR (g := 17) (b := 63) hx4 (show mx_Sn _ _ 81 (mx_getf 12 17 84) from sn_185 81) a56 s56 rfl rfl (hG4.prr 56 17 rfl) ?_
              refine mx_J.step (sn_185 84) (fun _ _ => rfl) ?_
              refine mx_J.step (sn_185 85) (fun _ _ => rfl) ?_
              refine JiastI hx4 (show mx_Sn _ _ 87 (mx_iast 1 88) from sn_185 87) a63 s63 rfl (by omega) (fun Z8 h8 hx8 hE8 => ?_)
              have hG8 := GB_up hG4 hE8 (show 0 ≤ w3_4 ∧ w3_4 ≤ 18 by omega) trivial rfl
              have wr := WRr (n := 6) (m := w3_4) (by omega) (by omega)
              refine mx_J.step (sn_185 88) (fun _ _ => rfl) ?_
              refine mx_J.step (sn_185 89) (fun _ _ => rfl) ?_
              refine mx_J.step (sn_185 90) (fun _ _ => rfl) ?_
              refine Jisub (show mx_Sn _ _ 92 (mx_isub 93) from sn_185 92) ?_
              refine mx_J.step (sn_185 93) (fun _ _ => rfl) ?_
              refine mx_J.step (sn_185 95) (fun _ _ => rfl) ?_
              refine JcI (z := 1) (show mx_Sn _ _ 96 (mx_const (.int 1) 97) from sn_185 96) rfl ?_
              refine Jiadd (show mx_Sn _ _ 97 (mx_iadd 98) from sn_185 97) ?_
              have eq10 : Z8 56 18 = Z4 56 18 := (up_nk hE8 rfl)
              obtain ⟨Z9, h9, hc9, hx9, hG9, hf9, b9⟩ := ct_185_56_le5 (d := d + 0) (l := l) (D := D) (b0 := b0) (ad := ad) (Hb := Hb) (tau := tau) hx8 hG8 (show 0 ≤ 6 - w3_4 ∧ 6 - w3_4 ≤ 5 by omega) (show 0 ≤ w3_4 ∧ w3_4 ≤ 18 by omega) (show 0 ≤ x2 + 1 ∧ x2 + 1 ≤ 18 by omega) (show Z8 56 18 + wy ((6 - w3_4) * 19 + w3_4) ≤ 385 by first | omega | (simp only [eq10]; omega)) (show (x2 + 1) + (6 - w3_4) ≤ 18 by first | omega | (simp only [eq10]; omega))
              try rw [eq10] at b9
              obtain ⟨bs9_0, b9⟩ := b9
              have b11 : 0 ≤ Z9 56 18 ∧ Z9 56 18 ≤ 385 := hG9.pr 56 18
              refine Jcv0 hx8 (show mx_Sn _ _ 98 (mx_callv 185 4 12 101) from sn_185 98) a56 s56 hc9 rfl rfl rfl ?_
              have gl1 := gl_s (Z := Z) (left := 6) (most := x1) (n := x2) (its := w3_4) (by assumption) (by omega) (by omega) (by omega) hE8 bs9_0
              refine Jiinc (z := w3_4) (cz := (-1)) (ls2 := [some (.ref 56), some (xI 6), some (xI x1), some (xI x2), some (xI (w3_4 + (-1)))]) (show mx_Sn _ _ 101 (mx_iinc 4 (-1) 104) from sn_185 101) rfl rfl rfl rfl ?_
              refine mx_J.step (sn_185 104) (fun _ _ => rfl) ?_
              exact ih3 (w3_4 + (-1)) Z9 h9 (by omega) (by omega) (by omega) (gl1) hx9 hG9 (fr_tr (M := [(56, 18), (61, (-1)), (63, (-1))]) (fr_tr (M := [(56, 18), (61, (-1)), (63, (-1))]) (fr_tr (M := [(56, 18), (61, (-1)), (63, (-1))]) fr_rf (hf4) (M1 := []) rfl rfl) (fr_ua hE8) rfl rfl) (hf9) rfl rfl)
        have b12 : 0 ≤ Z 56 18 ∧ Z 56 18 ≤ 385 := hG.pr 56 18
        exact c75 (Int.toNat (k2_0 - 0) + 1) k2_0 Z h (by omega) (by omega) (by omega) (gl_0 (by omega) (by omega) (by omega) (by omega)) hx hG fr_rf
      refine Jicmp_ge (show mx_Sn _ _ 65 (mx_icmp_ge 72 68) from sn_185 65) (by omega) (by omega) (fun q13 => ?_) (fun q13 => ?_)
      · skip
        refine mx_J.step (sn_185 72) (fun _ _ => rfl) ?_
        exact c73 6 (by omega) (by first | exact ⟨rfl, by omega⟩ | exact ⟨WSs (n := 6) (by omega) (by omega), by omega⟩) (by omega)
      · skip
        refine mx_J.step (sn_185 68) (fun _ _ => rfl) ?_
        refine mx_J.step (sn_185 69) (fun _ _ => rfl) ?_
        exact c73 x1 (by omega) (by first | exact ⟨rfl, by omega⟩ | exact ⟨WSs (n := 6) (by omega) (by omega), by omega⟩) (by omega)
    · skip
      exfalso; omega
theorem ct_185_56_i6 {l : Launch} {D : va_G} {b0 : Nat} {ad : Nat → Nat} {Hb : Heap} {tau : Nat → Int64} {d n s : Nat} {S : Nat → xS} {Z : xZ} {h : mx_H} (hx : XH n s S Z h) (hG : GB n S Z)  {x1 x2 : Int} (p1 : 0 ≤ x1 ∧ x1 ≤ 18) (p2 : 0 ≤ x2 ∧ x2 ≤ 18) (k0 : Z 56 18 + wy (6 * 19 + x1) ≤ 385) (k1 : x2 + 6 ≤ 18) : ∃ (Z' : xZ) (h' : mx_H), mx_Ca (tB l D b0 ad Hb tau) (d + 7) 185 [.ref 56, xI 6, xI x1, xI x2] h (none, h') ∧ XH n s S Z' h' ∧ GB n S Z' ∧ fr' [(56, 18), (61, (-1)), (63, (-1))] Z Z' ∧ (GAp Z Z' 6 x1 x2 ∧ Z' 56 18 = Z 56 18 + wy (6 * 19 + x1)) := by
  obtain ⟨r, hca, Z', h', e, q⟩ := Jmt (B := tB l D b0 ad Hb tau) (M := mt_185) (mi := 185) (as := [.ref 56, xI 6, xI x1, xI x2]) (d := d + 6) (ls := [some (.ref 56), some (xI 6), some (xI x1), some (xI x2), none]) rfl rfl rfl rfl rfl rfl (cw_185_56_i6 (l := l) (D := D) (b0 := b0) (ad := ad) (Hb := Hb) (tau := tau) (d := d) (Post := fun r => ∃ (Z' : xZ) (h' : mx_H), r = (none, h') ∧ XH n s S Z' h' ∧ GB n S Z' ∧ fr' [(56, 18), (61, (-1)), (63, (-1))] Z Z' ∧ (GAp Z Z' 6 x1 x2 ∧ Z' 56 18 = Z 56 18 + wy (6 * 19 + x1))) hx hG p1 p2 k0 k1 (fun Z' h' q1 q2 q3 q4 => ⟨Z', h', rfl, q1, q2, q3, q4⟩))
  subst e; exact ⟨Z', h', hca, q⟩
theorem ct_185_56_le6 {l : Launch} {D : va_G} {b0 : Nat} {ad : Nat → Nat} {Hb : Heap} {tau : Nat → Int64} {d n s : Nat} {S : Nat → xS} {Z : xZ} {h : mx_H} (hx : XH n s S Z h) (hG : GB n S Z) {x0 x1 x2 : Int} (p0 : 0 ≤ x0 ∧ x0 ≤ 6) (p1 : 0 ≤ x1 ∧ x1 ≤ 18) (p2 : 0 ≤ x2 ∧ x2 ≤ 18) (k0 : Z 56 18 + wy (x0 * 19 + x1) ≤ 385) (k1 : x2 + x0 ≤ 18) : ∃ (Z' : xZ) (h' : mx_H), mx_Ca (tB l D b0 ad Hb tau) (d + 7) 185 [.ref 56, xI x0, xI x1, xI x2] h (none, h') ∧ XH n s S Z' h' ∧ GB n S Z' ∧ fr' [(56, 18), (61, (-1)), (63, (-1))] Z Z' ∧ (GAp Z Z' x0 x1 x2 ∧ Z' 56 18 = Z 56 18 + wy (x0 * 19 + x1)) := by
  have hc : x0 = 0 ∨ x0 = 1 ∨ x0 = 2 ∨ x0 = 3 ∨ x0 = 4 ∨ x0 = 5 ∨ x0 = 6 := by omega
  rcases hc with hc | hc | hc | hc | hc | hc | hc
  · subst hc
    obtain ⟨Z', h', hca, q1, q2, q3, q4⟩ := ct_185_56_i0 (d := d + 6) (l := l) (D := D) (b0 := b0) (ad := ad) (Hb := Hb) (tau := tau) hx hG p1 p2 k0 k1
    exact ⟨Z', h', hca, q1, q2, fr_tr (M1 := []) fr_rf q3 rfl rfl, q4⟩
  · subst hc
    obtain ⟨Z', h', hca, q1, q2, q3, q4⟩ := ct_185_56_i1 (d := d + 5) (l := l) (D := D) (b0 := b0) (ad := ad) (Hb := Hb) (tau := tau) hx hG p1 p2 k0 k1
    exact ⟨Z', h', hca, q1, q2, fr_tr (M1 := []) fr_rf q3 rfl rfl, q4⟩
  · subst hc
    obtain ⟨Z', h', hca, q1, q2, q3, q4⟩ := ct_185_56_i2 (d := d + 4) (l := l) (D := D) (b0 := b0) (ad := ad) (Hb := Hb) (tau := tau) hx hG p1 p2 k0 k1
    exact ⟨Z', h', hca, q1, q2, fr_tr (M1 := []) fr_rf q3 rfl rfl, q4⟩
  · subst hc
    obtain ⟨Z', h', hca, q1, q2, q3, q4⟩ := ct_185_56_i3 (d := d + 3) (l := l) (D := D) (b0 := b0) (ad := ad) (Hb := Hb) (tau := tau) hx hG p1 p2 k0 k1
    exact ⟨Z', h', hca, q1, q2, fr_tr (M1 := []) fr_rf q3 rfl rfl, q4⟩
  · subst hc
    obtain ⟨Z', h', hca, q1, q2, q3, q4⟩ := ct_185_56_i4 (d := d + 2) (l := l) (D := D) (b0 := b0) (ad := ad) (Hb := Hb) (tau := tau) hx hG p1 p2 k0 k1
    exact ⟨Z', h', hca, q1, q2, fr_tr (M1 := []) fr_rf q3 rfl rfl, q4⟩
  · subst hc
    obtain ⟨Z', h', hca, q1, q2, q3, q4⟩ := ct_185_56_i5 (d := d + 1) (l := l) (D := D) (b0 := b0) (ad := ad) (Hb := Hb) (tau := tau) hx hG p1 p2 k0 k1
    exact ⟨Z', h', hca, q1, q2, fr_tr (M1 := []) fr_rf q3 rfl rfl, q4⟩
  · subst hc
    obtain ⟨Z', h', hca, q1, q2, q3, q4⟩ := ct_185_56_i6 (d := d + 0) (l := l) (D := D) (b0 := b0) (ad := ad) (Hb := Hb) (tau := tau) hx hG p1 p2 k0 k1
    exact ⟨Z', h', hca, q1, q2, fr_tr (M1 := []) fr_rf q3 rfl rfl, q4⟩
set_option maxRecDepth 100000 in
theorem cw_185_56_i7 {l : Launch} {D : va_G} {b0 : Nat} {ad : Nat → Nat} {Hb : Heap} {tau : Nat → Int64} {d n s : Nat} {S : Nat → xS} {Z : xZ} {h : mx_H} {Post : mx_R → Prop} (hx : XH n s S Z h) (hG : GB n S Z)  {x1 x2 : Int} (p1 : 0 ≤ x1 ∧ x1 ≤ 18) (p2 : 0 ≤ x2 ∧ x2 ≤ 18) (k0 : Z 56 18 + wy (7 * 19 + x1) ≤ 385) (k1 : x2 + 7 ≤ 18) (hP : ∀ (Z' : xZ) (h' : mx_H), XH n s S Z' h' → GB n S Z' → fr' [(56, 18), (61, (-1)), (63, (-1))] Z Z' → GAp Z Z' 7 x1 x2 ∧ Z' 56 18 = Z 56 18 + wy (7 * 19 + x1) → Post (none, h')) : mx_J (tB l D b0 ad Hb tau) mt_185 (d + 7) 0 [some (.ref 56), some (xI 7), some (xI x1), some (xI x2), none] [] h Post := by
    have a56 : 56 < n := lt83 (GB_n hG) rfl
    have s56 : S 56 = .inl (12, [0, 2, 2, 2, 2, 0, 0, 0, 0, 0, 0, 0, 0, 0, 0, 2, 2, 2, 0, 2, 2, 2, 0, 0, 2, 2, 2, 2, 2, 2, 0, 0, 2, 2, 2, 2, 2, 2, 2, 2, 2, 2]) := GB_s hG 56 rfl
    have a63 : 63 < n := lt83 (GB_n hG) rfl
    have s63 : S 63 = .inr (.int, 18, 0) := GB_s hG 63 rfl
    refine mx_J.step (sn_185 0) (fun _ _ => rfl) ?_
    refine Jif_ne (show mx_Sn _ _ 1 (mx_if_ne 63 4) from sn_185 1) (by omega) (fun q1 => ?_) (fun q1 => ?_)
    · skip
      refine mx_J.step (sn_185 63) (fun _ _ => rfl) ?_
      refine mx_J.step (sn_185 64) (fun _ _ => rfl) ?_
      have c73 : ∀ (k2_0 : Int), 0 ≤ k2_0 ∧ k2_0 ≤ 7 → (wy (7 * 19 + k2_0) = wy (7 * 19 + x1) ∧ k2_0 ≤ 7) → ((x1 < 7 → k2_0 = x1) ∧ (7 ≤ x1 → k2_0 = 7)) → mx_J (tB l D b0 ad Hb tau) mt_185 (d + 7) 73 [some (.ref 56), some (xI 7), some (xI x1), some (xI x2), none] [xI k2_0] h Post := by
        intro k2_0 f2_0 f2_1 f2_2
        refine mx_J.step (ls2 := [some (.ref 56), some (xI 7), some (xI x1), some (xI x2), some (xI k2_0)]) (sn_185 73) (fun _ _ => rfl) ?_
        have c75 : ∀ (m3 : Nat) (w3_4 : Int) (Z4 : xZ) (h4 : mx_H), w3_4 - 0 < (m3 : Int) → 0 ≤ w3_4 ∧ w3_4 ≤ 7 → (Z4 56 18 + wy (7 * 19 + w3_4) = Z 56 18 + wy (7 * 19 + x1)) → GL Z Z4 7 x1 x2 w3_4 → XH n s S Z4 h4 → GB n S Z4 → fr' [(56, 18), (61, (-1)), (63, (-1))] Z Z4 → mx_J (tB l D b0 ad Hb tau) mt_185 (d + 7) 75 [some (.ref 56), some (xI 7), some (xI x1), some (xI x2), some (xI w3_4)] [] h4 Post := by
          intro m3
          induction m3 with
          | zero => intro w3_4 Z4 h4 q3 f3_0 f3_1 f3_2 hx4 hG4 hf4; exact absurd q3 (by omega)
          | succ m3 ih3 =>
            intro w3_4 Z4 h4 q3 f3_0 f3_1 f3_2 hx4 hG4 hf4
            have b5 : 0 ≤ Z4 56 18 ∧ Z4 56 18 ≤ 385 := hG4.pr 56 18
            refine mx_J.step (sn_185 75) (fun _ _ => rfl) ?_
            refine Jif_le (show mx_Sn _ _ 77 (mx_if_le 107 80) from sn_185 77) (by omega) (fun q6 => ?_) (fun q6 => ?_)
            · skip
              have w0 : wy (7 * 19 + w3_4) = 0 := by rw [show w3_4 = 0 by omega]; exact Wy0 (by omega)
              exact mx_J.ret (sn_185 107) (fun _ _ => rfl) (hP Z4 h4 hx4 hG4 (fr_tr (M := [(56, 18), (61, (-1)), (63, (-1))]) fr_rf (hf4) (M1 := []) rfl rfl) ⟨(gl_e (by assumption) (by omega) (by omega)), by omega⟩)
            · skip
              refine mx_J.step (sn_185 80) (fun _ _ => rfl) ?_
              refine JgetR (g := 17) (b := 63) hx4 (show mx_Sn _ _ 81 (mx_getf 12 17 84) from sn_185 81) a56 s56 rfl rfl (hG4.prr 56 17 rfl) ?_
              refine mx_J.step (sn_185 84) (fun _ _ => rfl) ?_
              refine mx_J.step (sn_185 85) (fun _ _ => rfl) ?_
              refine JiastI hx4 (show mx_Sn _ _ 87 (mx_iast 1 88) from sn_185 87) a63 s63 rfl (by omega) (fun Z8 h8 hx8 hE8 => ?_)
              have hG8 := GB_up hG4 hE8 (show 0 ≤ w3_4 ∧ w3_4 ≤ 18 by omega) trivial rfl
              have wr := WRr (n := 7) (m := w3_4) (by omega) (by omega)
              refine mx_J.step (sn_185 88) (fun _ _ => rfl) ?_
              refine mx_J.step (sn_185 89) (fun _ _ => rfl) ?_
              refine mx_J.step (sn_185 90) (fun _ _ => rfl) ?_
              refine Jisub (show mx_Sn _ _ 92 (mx_isub 93) from sn_185 92) ?_
              refine mx_J.step (sn_185 93) (fun _ _ => rfl) ?_
              refine mx_J.step (sn_185 95) (fun _ _ => rfl) ?_
              refine JcI (z := 1) (show mx_Sn _ _ 96 (mx_const (.int 1) 97) from sn_185 96) rfl ?_
              refine Jiadd (show mx_Sn _ _ 97 (mx_iadd 98) from sn_185 97) ?_
              have eq10 : Z8 56 18 = Z4 56 18 := (up_nk hE8 rfl)
              obtain ⟨Z9, h9, hc9, hx9, hG9, hf9, b9⟩ := ct_185_56_le6 (d := d + 0) (l := l) (D := D) (b0 := b0) (ad := ad) (Hb := Hb) (tau := tau) hx8 hG8 (show 0 ≤ 7 - w3_4 ∧ 7 - w3_4 ≤ 6 by omega) (show 0 ≤ w3_4 ∧ w3_4 ≤ 18 by omega) (show 0 ≤ x2 + 1 ∧ x2 + 1 ≤ 18 by omega) (show Z8 56 18 + wy ((7 - w3_4) * 19 + w3_4) ≤ 385 by first | omega | (simp only [eq10]; omega)) (show (x2 + 1) + (7 - w3_4) ≤ 18 by first | omega | (simp only [eq10]; omega))
              try rw [eq10] at b9
              obtain ⟨bs9_0, b9⟩ := b9
              have b11 : 0 ≤ Z9 56 18 ∧ Z9 56 18 ≤ 385 := hG9.pr 56 18
              refine Jcv0 hx8 (show mx_Sn _ _ 98 (mx_callv 185 4 12 101) from sn_185 98) a56 s56 hc9 rfl rfl rfl ?_
              have gl1 := gl_s (Z := Z) (left := 7) (most := x1) (n := x2) (its := w3_4) (by assumption) (by omega) (by omega) (by omega) hE8 bs9_0
              refine Jiinc (z := w3_4) (cz := (-1)) (ls2 := [some (.ref 56), some (xI 7), some (xI x1), some (xI x2), some (xI (w3_4 + (-1)))]) (show mx_Sn _ _ 101 (mx_iinc 4 (-1) 104) from sn_185 101) rfl rfl rfl rfl ?_
              refine mx_J.step (sn_185 104) (fun _ _ => rfl) ?_
              exact ih3 (w3_4 + (-1)) Z9 h9 (by omega) (by omega) (by omega) (gl1) hx9 hG9 (fr_tr (M := [(56, 18), (61, (-1)), (63, (-1))]) (fr_tr (M := [(56, 18), (61, (-1)), (63, (-1))]) (fr_tr (M := [(56, 18), (61, (-1)), (63, (-1))]) fr_rf (hf4) (M1 := []) rfl rfl) (fr_ua hE8) rfl rfl) (hf9) rfl rfl)
        have b12 : 0 ≤ Z 56 18 ∧ Z 56 18 ≤ 385 := hG.pr 56 18
        exact c75 (Int.toNat (k2_0 - 0) + 1) k2_0 Z h (by omega) (by omega) (by omega) (gl_0 (by omega) (by omega) (by omega) (by omega)) hx hG fr_rf
      refine Jicmp_ge (show mx_Sn _ _ 65 (mx_icmp_ge 72 68) from sn_185 65) (by omega) (by omega) (fun q13 => ?_) (fun q13 => ?_)
      · skip
        refine mx_J.step (sn_185 72) (fun _ _ => rfl) ?_
        exact c73 7 (by omega) (by first | exact ⟨rfl, by omega⟩ | exact ⟨WSs (n := 7) (by omega) (by omega), by omega⟩) (by omega)
      · skip
        refine mx_J.step (sn_185 68) (fun _ _ => rfl) ?_
        refine mx_J.step (sn_185 69) (fun _ _ => rfl) ?_
        exact c73 x1 (by omega) (by first | exact ⟨rfl, by omega⟩ | exact ⟨WSs (n := 7) (by omega) (by omega), by omega⟩) (by omega)
    · skip
      exfalso; omega
theorem ct_185_56_i7 {l : Launch} {D : va_G} {b0 : Nat} {ad : Nat → Nat} {Hb : Heap} {tau : Nat → Int64} {d n s : Nat} {S : Nat → xS} {Z : xZ} {h : mx_H} (hx : XH n s S Z h) (hG : GB n S Z)  {x1 x2 : Int} (p1 : 0 ≤ x1 ∧ x1 ≤ 18) (p2 : 0 ≤ x2 ∧ x2 ≤ 18) (k0 : Z 56 18 + wy (7 * 19 + x1) ≤ 385) (k1 : x2 + 7 ≤ 18) : ∃ (Z' : xZ) (h' : mx_H), mx_Ca (tB l D b0 ad Hb tau) (d + 8) 185 [.ref 56, xI 7, xI x1, xI x2] h (none, h') ∧ XH n s S Z' h' ∧ GB n S Z' ∧ fr' [(56, 18), (61, (-1)), (63, (-1))] Z Z' ∧ (GAp Z Z' 7 x1 x2 ∧ Z' 56 18 = Z 56 18 + wy (7 * 19 + x1)) := by
  obtain ⟨r, hca, Z', h', e, q⟩ := Jmt (B := tB l D b0 ad Hb tau) (M := mt_185) (mi := 185) (as := [.ref 56, xI 7, xI x1, xI x2]) (d := d + 7) (ls := [some (.ref 56), some (xI 7), some (xI x1), some (xI x2), none]) rfl rfl rfl rfl rfl rfl (cw_185_56_i7 (l := l) (D := D) (b0 := b0) (ad := ad) (Hb := Hb) (tau := tau) (d := d) (Post := fun r => ∃ (Z' : xZ) (h' : mx_H), r = (none, h') ∧ XH n s S Z' h' ∧ GB n S Z' ∧ fr' [(56, 18), (61, (-1)), (63, (-1))] Z Z' ∧ (GAp Z Z' 7 x1 x2 ∧ Z' 56 18 = Z 56 18 + wy (7 * 19 + x1))) hx hG p1 p2 k0 k1 (fun Z' h' q1 q2 q3 q4 => ⟨Z', h', rfl, q1, q2, q3, q4⟩))
  subst e; exact ⟨Z', h', hca, q⟩
theorem ct_185_56_le7 {l : Launch} {D : va_G} {b0 : Nat} {ad : Nat → Nat} {Hb : Heap} {tau : Nat → Int64} {d n s : Nat} {S : Nat → xS} {Z : xZ} {h : mx_H} (hx : XH n s S Z h) (hG : GB n S Z) {x0 x1 x2 : Int} (p0 : 0 ≤ x0 ∧ x0 ≤ 7) (p1 : 0 ≤ x1 ∧ x1 ≤ 18) (p2 : 0 ≤ x2 ∧ x2 ≤ 18) (k0 : Z 56 18 + wy (x0 * 19 + x1) ≤ 385) (k1 : x2 + x0 ≤ 18) : ∃ (Z' : xZ) (h' : mx_H), mx_Ca (tB l D b0 ad Hb tau) (d + 8) 185 [.ref 56, xI x0, xI x1, xI x2] h (none, h') ∧ XH n s S Z' h' ∧ GB n S Z' ∧ fr' [(56, 18), (61, (-1)), (63, (-1))] Z Z' ∧ (GAp Z Z' x0 x1 x2 ∧ Z' 56 18 = Z 56 18 + wy (x0 * 19 + x1)) := by
  have hc : x0 = 0 ∨ x0 = 1 ∨ x0 = 2 ∨ x0 = 3 ∨ x0 = 4 ∨ x0 = 5 ∨ x0 = 6 ∨ x0 = 7 := by omega
  rcases hc with hc | hc | hc | hc | hc | hc | hc | hc
  · subst hc
    obtain ⟨Z', h', hca, q1, q2, q3, q4⟩ := ct_185_56_i0 (d := d + 7) (l := l) (D := D) (b0 := b0) (ad := ad) (Hb := Hb) (tau := tau) hx hG p1 p2 k0 k1
    exact ⟨Z', h', hca, q1, q2, fr_tr (M1 := []) fr_rf q3 rfl rfl, q4⟩
  · subst hc
    obtain ⟨Z', h', hca, q1, q2, q3, q4⟩ := ct_185_56_i1 (d := d + 6) (l := l) (D := D) (b0 := b0) (ad := ad) (Hb := Hb) (tau := tau) hx hG p1 p2 k0 k1
    exact ⟨Z', h', hca, q1, q2, fr_tr (M1 := []) fr_rf q3 rfl rfl, q4⟩
  · subst hc
    obtain ⟨Z', h', hca, q1, q2, q3, q4⟩ := ct_185_56_i2 (d := d + 5) (l := l) (D := D) (b0 := b0) (ad := ad) (Hb := Hb) (tau := tau) hx hG p1 p2 k0 k1
    exact ⟨Z', h', hca, q1, q2, fr_tr (M1 := []) fr_rf q3 rfl rfl, q4⟩
  · subst hc
    obtain ⟨Z', h', hca, q1, q2, q3, q4⟩ := ct_185_56_i3 (d := d + 4) (l := l) (D := D) (b0 := b0) (ad := ad) (Hb := Hb) (tau := tau) hx hG p1 p2 k0 k1
    exact ⟨Z', h', hca, q1, q2, fr_tr (M1 := []) fr_rf q3 rfl rfl, q4⟩
  · subst hc
    obtain ⟨Z', h', hca, q1, q2, q3, q4⟩ := ct_185_56_i4 (d := d + 3) (l := l) (D := D) (b0 := b0) (ad := ad) (Hb := Hb) (tau := tau) hx hG p1 p2 k0 k1
    exact ⟨Z', h', hca, q1, q2, fr_tr (M1 := []) fr_rf q3 rfl rfl, q4⟩
  · subst hc
    obtain ⟨Z', h', hca, q1, q2, q3, q4⟩ := ct_185_56_i5 (d := d + 2) (l := l) (D := D) (b0 := b0) (ad := ad) (Hb := Hb) (tau := tau) hx hG p1 p2 k0 k1
    exact ⟨Z', h', hca, q1, q2, fr_tr (M1 := []) fr_rf q3 rfl rfl, q4⟩
  · subst hc
    obtain ⟨Z', h', hca, q1, q2, q3, q4⟩ := ct_185_56_i6 (d := d + 1) (l := l) (D := D) (b0 := b0) (ad := ad) (Hb := Hb) (tau := tau) hx hG p1 p2 k0 k1
    exact ⟨Z', h', hca, q1, q2, fr_tr (M1 := []) fr_rf q3 rfl rfl, q4⟩
  · subst hc
    obtain ⟨Z', h', hca, q1, q2, q3, q4⟩ := ct_185_56_i7 (d := d + 0) (l := l) (D := D) (b0 := b0) (ad := ad) (Hb := Hb) (tau := tau) hx hG p1 p2 k0 k1
    exact ⟨Z', h', hca, q1, q2, fr_tr (M1 := []) fr_rf q3 rfl rfl, q4⟩
set_option maxRecDepth 100000 in
theorem cw_185_56_i8 {l : Launch} {D : va_G} {b0 : Nat} {ad : Nat → Nat} {Hb : Heap} {tau : Nat → Int64} {d n s : Nat} {S : Nat → xS} {Z : xZ} {h : mx_H} {Post : mx_R → Prop} (hx : XH n s S Z h) (hG : GB n S Z)  {x1 x2 : Int} (p1 : 0 ≤ x1 ∧ x1 ≤ 18) (p2 : 0 ≤ x2 ∧ x2 ≤ 18) (k0 : Z 56 18 + wy (8 * 19 + x1) ≤ 385) (k1 : x2 + 8 ≤ 18) (hP : ∀ (Z' : xZ) (h' : mx_H), XH n s S Z' h' → GB n S Z' → fr' [(56, 18), (61, (-1)), (63, (-1))] Z Z' → GAp Z Z' 8 x1 x2 ∧ Z' 56 18 = Z 56 18 + wy (8 * 19 + x1) → Post (none, h')) : mx_J (tB l D b0 ad Hb tau) mt_185 (d + 8) 0 [some (.ref 56), some (xI 8), some (xI x1), some (xI x2), none] [] h Post := by
    have a56 : 56 < n := lt83 (GB_n hG) rfl
    have s56 : S 56 = .inl (12, [0, 2, 2, 2, 2, 0, 0, 0, 0, 0, 0, 0, 0, 0, 0, 2, 2, 2, 0, 2, 2, 2, 0, 0, 2, 2, 2, 2, 2, 2, 0, 0, 2, 2, 2, 2, 2, 2, 2, 2, 2, 2]) := GB_s hG 56 rfl
    have a63 : 63 < n := lt83 (GB_n hG) rfl
    have s63 : S 63 = .inr (.int, 18, 0) := GB_s hG 63 rfl
    refine mx_J.step (sn_185 0) (fun _ _ => rfl) ?_
    refine Jif_ne (show mx_Sn _ _ 1 (mx_if_ne 63 4) from sn_185 1) (by omega) (fun q1 => ?_) (fun q1 => ?_)
    · skip
      refine mx_J.step (sn_185 63) (fun _ _ => rfl) ?_
      refine mx_J.step (sn_185 64) (fun _ _ => rfl) ?_
      have c73 : ∀ (k2_0 : Int), 0 ≤ k2_0 ∧ k2_0 ≤ 8 → (wy (8 * 19 + k2_0) = wy (8 * 19 + x1) ∧ k2_0 ≤ 8) → ((x1 < 8 → k2_0 = x1) ∧ (8 ≤ x1 → k2_0 = 8)) → mx_J (tB l D b0 ad Hb tau) mt_185 (d + 8) 73 [some (.ref 56), some (xI 8), some (xI x1), some (xI x2), none] [xI k2_0] h Post := by
        intro k2_0 f2_0 f2_1 f2_2
        refine mx_J.step (ls2 := [some (.ref 56), some (xI 8), some (xI x1), some (xI x2), some (xI k2_0)]) (sn_185 73) (fun _ _ => rfl) ?_
        have c75 : ∀ (m3 : Nat) (w3_4 : Int) (Z4 : xZ) (h4 : mx_H), w3_4 - 0 < (m3 : Int) → 0 ≤ w3_4 ∧ w3_4 ≤ 8 → (Z4 56 18 + wy (8 * 19 + w3_4) = Z 56 18 + wy (8 * 19 + x1)) → GL Z Z4 8 x1 x2 w3_4 → XH n s S Z4 h4 → GB n S Z4 → fr' [(56, 18), (61, (-1)), (63, (-1))] Z Z4 → mx_J (tB l D b0 ad Hb tau) mt_185 (d + 8) 75 [some (.ref 56), some (xI 8), some (xI x1), some (xI x2), some (xI w3_4)] [] h4 Post := by
          intro m3
          induction m3 with
          | zero => intro w3_4 Z4 h4 q3 f3_0 f3_1 f3_2 hx4 hG4 hf4; exact absurd q3 (by omega)
          | succ m3 ih3 =>
            intro w3_4 Z4 h4 q3 f3_0 f3_1 f3_2 hx4 hG4 hf4
            have b5 : 0 ≤ Z4 56 18 ∧ Z4 56 18 ≤ 385 := hG4.pr 56 18
            refine mx_J.step (sn_185 75) (fun _ _ => rfl) ?_
            refine Jif_le (show mx_Sn _ _ 77 (mx_if_le 107 80) from sn_185 77) (by omega) (fun q6 => ?_) (fun q6 => ?_)
            · skip
              have w0 : wy (8 * 19 + w3_4) = 0 := by rw [show w3_4 = 0 by omega]; exact Wy0 (by omega)
              exact mx_J.ret (sn_185 107) (fun _ _ => rfl) (hP Z4 h4 hx4 hG4 (fr_tr (M := [(56, 18), (61, (-1)), (63, (-1))]) fr_rf (hf4) (M1 := []) rfl rfl) ⟨(gl_e (by assumption) (by omega) (by omega)), by omega⟩)
            · skip
              refine mx_J.step (sn_185 80) (fun _ _ => rfl) ?_
              refine JgetR (g := 17) (b := 63) hx4 (show mx_Sn _ _ 81 (mx_getf 12 17 84) from sn_185 81) a56 s56 rfl rfl (hG4.prr 56 17 rfl) ?_
              refine mx_J.step (sn_185 84) (fun _ _ => rfl) ?_
              refine mx_J.step (sn_185 85) (fun _ _ => rfl) ?_
              refine JiastI hx4 (show mx_Sn _ _ 87 (mx_iast 1 88) from sn_185 87) a63 s63 rfl (by omega) (fun Z8 h8 hx8 hE8 => ?_)
              have hG8 := GB_up hG4 hE8 (show 0 ≤ w3_4 ∧ w3_4 ≤ 18 by omega) trivial rfl
              have wr := WRr (n := 8) (m := w3_4) (by omega) (by omega)
              refine mx_J.step (sn_185 88) (fun _ _ => rfl) ?_
              refine mx_J.step (sn_185 89) (fun _ _ => rfl) ?_
              refine mx_J.step (sn_185 90) (fun _ _ => rfl) ?_
              refine Jisub (show mx_Sn _ _ 92 (mx_isub 93) from sn_185 92) ?_
              refine mx_J.step (sn_185 93) (fun _ _ => rfl) ?_
              refine mx_J.step (sn_185 95) (fun _ _ => rfl) ?_
              refine JcI (z := 1) (show mx_Sn _ _ 96 (mx_const (.int 1) 97) from sn_185 96) rfl ?_
              refine Jiadd (show mx_Sn _ _ 97 (mx_iadd 98) from sn_185 97) ?_
              have eq10 : Z8 56 18 = Z4 56 18 := (up_nk hE8 rfl)
              obtain ⟨Z9, h9, hc9, hx9, hG9, hf9, b9⟩ := ct_185_56_le7 (d := d + 0) (l := l) (D := D) (b0 := b0) (ad := ad) (Hb := Hb) (tau := tau) hx8 hG8 (show 0 ≤ 8 - w3_4 ∧ 8 - w3_4 ≤ 7 by omega) (show 0 ≤ w3_4 ∧ w3_4 ≤ 18 by omega) (show 0 ≤ x2 + 1 ∧ x2 + 1 ≤ 18 by omega) (show Z8 56 18 + wy ((8 - w3_4) * 19 + w3_4) ≤ 385 by first | omega | (simp only [eq10]; omega)) (show (x2 + 1) + (8 - w3_4) ≤ 18 by first | omega | (simp only [eq10]; omega))
              try rw [eq10] at b9
              obtain ⟨bs9_0, b9⟩ := b9
              have b11 : 0 ≤ Z9 56 18 ∧ Z9 56 18 ≤ 385 := hG9.pr 56 18
              refine Jcv0 hx8 (show mx_Sn _ _ 98 (mx_callv 185 4 12 101) from sn_185 98) a56 s56 hc9 rfl rfl rfl ?_
              have gl1 := gl_s (Z := Z) (left := 8) (most := x1) (n := x2) (its := w3_4) (by assumption) (by omega) (by omega) (by omega) hE8 bs9_0
              refine Jiinc (z := w3_4) (cz := (-1)) (ls2 := [some (.ref 56), some (xI 8), some (xI x1), some (xI x2), some (xI (w3_4 + (-1)))]) (show mx_Sn _ _ 101 (mx_iinc 4 (-1) 104) from sn_185 101) rfl rfl rfl rfl ?_
              refine mx_J.step (sn_185 104) (fun _ _ => rfl) ?_
              exact ih3 (w3_4 + (-1)) Z9 h9 (by omega) (by omega) (by omega) (gl1) hx9 hG9 (fr_tr (M := [(56, 18), (61, (-1)), (63, (-1))]) (fr_tr (M := [(56, 18), (61, (-1)), (63, (-1))]) (fr_tr (M := [(56, 18), (61, (-1)), (63, (-1))]) fr_rf (hf4) (M1 := []) rfl rfl) (fr_ua hE8) rfl rfl) (hf9) rfl rfl)
        have b12 : 0 ≤ Z 56 18 ∧ Z 56 18 ≤ 385 := hG.pr 56 18
        exact c75 (Int.toNat (k2_0 - 0) + 1) k2_0 Z h (by omega) (by omega) (by omega) (gl_0 (by omega) (by omega) (by omega) (by omega)) hx hG fr_rf
      refine Jicmp_ge (show mx_Sn _ _ 65 (mx_icmp_ge 72 68) from sn_185 65) (by omega) (by omega) (fun q13 => ?_) (fun q13 => ?_)
      · skip
        refine mx_J.step (sn_185 72) (fun _ _ => rfl) ?_
        exact c73 8 (by omega) (by first | exact ⟨rfl, by omega⟩ | exact ⟨WSs (n := 8) (by omega) (by omega), by omega⟩) (by omega)
      · skip
        refine mx_J.step (sn_185 68) (fun _ _ => rfl) ?_
        refine mx_J.step (sn_185 69) (fun _ _ => rfl) ?_
        exact c73 x1 (by omega) (by first | exact ⟨rfl, by omega⟩ | exact ⟨WSs (n := 8) (by omega) (by omega), by omega⟩) (by omega)
    · skip
      exfalso; omega
theorem ct_185_56_i8 {l : Launch} {D : va_G} {b0 : Nat} {ad : Nat → Nat} {Hb : Heap} {tau : Nat → Int64} {d n s : Nat} {S : Nat → xS} {Z : xZ} {h : mx_H} (hx : XH n s S Z h) (hG : GB n S Z)  {x1 x2 : Int} (p1 : 0 ≤ x1 ∧ x1 ≤ 18) (p2 : 0 ≤ x2 ∧ x2 ≤ 18) (k0 : Z 56 18 + wy (8 * 19 + x1) ≤ 385) (k1 : x2 + 8 ≤ 18) : ∃ (Z' : xZ) (h' : mx_H), mx_Ca (tB l D b0 ad Hb tau) (d + 9) 185 [.ref 56, xI 8, xI x1, xI x2] h (none, h') ∧ XH n s S Z' h' ∧ GB n S Z' ∧ fr' [(56, 18), (61, (-1)), (63, (-1))] Z Z' ∧ (GAp Z Z' 8 x1 x2 ∧ Z' 56 18 = Z 56 18 + wy (8 * 19 + x1)) := by
  obtain ⟨r, hca, Z', h', e, q⟩ := Jmt (B := tB l D b0 ad Hb tau) (M := mt_185) (mi := 185) (as := [.ref 56, xI 8, xI x1, xI x2]) (d := d + 8) (ls := [some (.ref 56), some (xI 8), some (xI x1), some (xI x2), none]) rfl rfl rfl rfl rfl rfl (cw_185_56_i8 (l := l) (D := D) (b0 := b0) (ad := ad) (Hb := Hb) (tau := tau) (d := d) (Post := fun r => ∃ (Z' : xZ) (h' : mx_H), r = (none, h') ∧ XH n s S Z' h' ∧ GB n S Z' ∧ fr' [(56, 18), (61, (-1)), (63, (-1))] Z Z' ∧ (GAp Z Z' 8 x1 x2 ∧ Z' 56 18 = Z 56 18 + wy (8 * 19 + x1))) hx hG p1 p2 k0 k1 (fun Z' h' q1 q2 q3 q4 => ⟨Z', h', rfl, q1, q2, q3, q4⟩))
  subst e; exact ⟨Z', h', hca, q⟩
theorem ct_185_56_le8 {l : Launch} {D : va_G} {b0 : Nat} {ad : Nat → Nat} {Hb : Heap} {tau : Nat → Int64} {d n s : Nat} {S : Nat → xS} {Z : xZ} {h : mx_H} (hx : XH n s S Z h) (hG : GB n S Z) {x0 x1 x2 : Int} (p0 : 0 ≤ x0 ∧ x0 ≤ 8) (p1 : 0 ≤ x1 ∧ x1 ≤ 18) (p2 : 0 ≤ x2 ∧ x2 ≤ 18) (k0 : Z 56 18 + wy (x0 * 19 + x1) ≤ 385) (k1 : x2 + x0 ≤ 18) : ∃ (Z' : xZ) (h' : mx_H), mx_Ca (tB l D b0 ad Hb tau) (d + 9) 185 [.ref 56, xI x0, xI x1, xI x2] h (none, h') ∧ XH n s S Z' h' ∧ GB n S Z' ∧ fr' [(56, 18), (61, (-1)), (63, (-1))] Z Z' ∧ (GAp Z Z' x0 x1 x2 ∧ Z' 56 18 = Z 56 18 + wy (x0 * 19 + x1)) := by
  have hc : x0 = 0 ∨ x0 = 1 ∨ x0 = 2 ∨ x0 = 3 ∨ x0 = 4 ∨ x0 = 5 ∨ x0 = 6 ∨ x0 = 7 ∨ x0 = 8 := by omega
  rcases hc with hc | hc | hc | hc | hc | hc | hc | hc | hc
  · subst hc
    obtain ⟨Z', h', hca, q1, q2, q3, q4⟩ := ct_185_56_i0 (d := d + 8) (l := l) (D := D) (b0 := b0) (ad := ad) (Hb := Hb) (tau := tau) hx hG p1 p2 k0 k1
    exact ⟨Z', h', hca, q1, q2, fr_tr (M1 := []) fr_rf q3 rfl rfl, q4⟩
  · subst hc
    obtain ⟨Z', h', hca, q1, q2, q3, q4⟩ := ct_185_56_i1 (d := d + 7) (l := l) (D := D) (b0 := b0) (ad := ad) (Hb := Hb) (tau := tau) hx hG p1 p2 k0 k1
    exact ⟨Z', h', hca, q1, q2, fr_tr (M1 := []) fr_rf q3 rfl rfl, q4⟩
  · subst hc
    obtain ⟨Z', h', hca, q1, q2, q3, q4⟩ := ct_185_56_i2 (d := d + 6) (l := l) (D := D) (b0 := b0) (ad := ad) (Hb := Hb) (tau := tau) hx hG p1 p2 k0 k1
    exact ⟨Z', h', hca, q1, q2, fr_tr (M1 := []) fr_rf q3 rfl rfl, q4⟩
  · subst hc
    obtain ⟨Z', h', hca, q1, q2, q3, q4⟩ := ct_185_56_i3 (d := d + 5) (l := l) (D := D) (b0 := b0) (ad := ad) (Hb := Hb) (tau := tau) hx hG p1 p2 k0 k1
    exact ⟨Z', h', hca, q1, q2, fr_tr (M1 := []) fr_rf q3 rfl rfl, q4⟩
  · subst hc
    obtain ⟨Z', h', hca, q1, q2, q3, q4⟩ := ct_185_56_i4 (d := d + 4) (l := l) (D := D) (b0 := b0) (ad := ad) (Hb := Hb) (tau := tau) hx hG p1 p2 k0 k1
    exact ⟨Z', h', hca, q1, q2, fr_tr (M1 := []) fr_rf q3 rfl rfl, q4⟩
  · subst hc
    obtain ⟨Z', h', hca, q1, q2, q3, q4⟩ := ct_185_56_i5 (d := d + 3) (l := l) (D := D) (b0 := b0) (ad := ad) (Hb := Hb) (tau := tau) hx hG p1 p2 k0 k1
    exact ⟨Z', h', hca, q1, q2, fr_tr (M1 := []) fr_rf q3 rfl rfl, q4⟩
  · subst hc
    obtain ⟨Z', h', hca, q1, q2, q3, q4⟩ := ct_185_56_i6 (d := d + 2) (l := l) (D := D) (b0 := b0) (ad := ad) (Hb := Hb) (tau := tau) hx hG p1 p2 k0 k1
    exact ⟨Z', h', hca, q1, q2, fr_tr (M1 := []) fr_rf q3 rfl rfl, q4⟩
  · subst hc
    obtain ⟨Z', h', hca, q1, q2, q3, q4⟩ := ct_185_56_i7 (d := d + 1) (l := l) (D := D) (b0 := b0) (ad := ad) (Hb := Hb) (tau := tau) hx hG p1 p2 k0 k1
    exact ⟨Z', h', hca, q1, q2, fr_tr (M1 := []) fr_rf q3 rfl rfl, q4⟩
  · subst hc
    obtain ⟨Z', h', hca, q1, q2, q3, q4⟩ := ct_185_56_i8 (d := d + 0) (l := l) (D := D) (b0 := b0) (ad := ad) (Hb := Hb) (tau := tau) hx hG p1 p2 k0 k1
    exact ⟨Z', h', hca, q1, q2, fr_tr (M1 := []) fr_rf q3 rfl rfl, q4⟩
set_option maxRecDepth 100000 in
theorem cw_185_56_i9 {l : Launch} {D : va_G} {b0 : Nat} {ad : Nat → Nat} {Hb : Heap} {tau : Nat → Int64} {d n s : Nat} {S : Nat → xS} {Z : xZ} {h : mx_H} {Post : mx_R → Prop} (hx : XH n s S Z h) (hG : GB n S Z)  {x1 x2 : Int} (p1 : 0 ≤ x1 ∧ x1 ≤ 18) (p2 : 0 ≤ x2 ∧ x2 ≤ 18) (k0 : Z 56 18 + wy (9 * 19 + x1) ≤ 385) (k1 : x2 + 9 ≤ 18) (hP : ∀ (Z' : xZ) (h' : mx_H), XH n s S Z' h' → GB n S Z' → fr' [(56, 18), (61, (-1)), (63, (-1))] Z Z' → GAp Z Z' 9 x1 x2 ∧ Z' 56 18 = Z 56 18 + wy (9 * 19 + x1) → Post (none, h')) : mx_J (tB l D b0 ad Hb tau) mt_185 (d + 9) 0 [some (.ref 56), some (xI 9), some (xI x1), some (xI x2), none] [] h Post := by
    have a56 : 56 < n := lt83 (GB_n hG) rfl
    have s56 : S 56 = .inl (12, [0, 2, 2, 2, 2, 0, 0, 0, 0, 0, 0, 0, 0, 0, 0, 2, 2, 2, 0, 2, 2, 2, 0, 0, 2, 2, 2, 2, 2, 2, 0, 0, 2, 2, 2, 2, 2, 2, 2, 2, 2, 2]) := GB_s hG 56 rfl
    have a63 : 63 < n := lt83 (GB_n hG) rfl
    have s63 : S 63 = .inr (.int, 18, 0) := GB_s hG 63 rfl
    refine mx_J.step (sn_185 0) (fun _ _ => rfl) ?_
    refine Jif_ne (show mx_Sn _ _ 1 (mx_if_ne 63 4) from sn_185 1) (by omega) (fun q1 => ?_) (fun q1 => ?_)
    · skip
      refine mx_J.step (sn_185 63) (fun _ _ => rfl) ?_
      refine mx_J.step (sn_185 64) (fun _ _ => rfl) ?_
      have c73 : ∀ (k2_0 : Int), 0 ≤ k2_0 ∧ k2_0 ≤ 9 → (wy (9 * 19 + k2_0) = wy (9 * 19 + x1) ∧ k2_0 ≤ 9) → ((x1 < 9 → k2_0 = x1) ∧ (9 ≤ x1 → k2_0 = 9)) → mx_J (tB l D b0 ad Hb tau) mt_185 (d + 9) 73 [some (.ref 56), some (xI 9), some (xI x1), some (xI x2), none] [xI k2_0] h Post := by
        intro k2_0 f2_0 f2_1 f2_2
        refine mx_J.step (ls2 := [some (.ref 56), some (xI 9), some (xI x1), some (xI x2), some (xI k2_0)]) (sn_185 73) (fun _ _ => rfl) ?_
        have c75 : ∀ (m3 : Nat) (w3_4 : Int) (Z4 : xZ) (h4 : mx_H), w3_4 - 0 < (m3 : Int) → 0 ≤ w3_4 ∧ w3_4 ≤ 9 → (Z4 56 18 + wy (9 * 19 + w3_4) = Z 56 18 + wy (9 * 19 + x1)) → GL Z Z4 9 x1 x2 w3_4 → XH n s S Z4 h4 → GB n S Z4 → fr' [(56, 18), (61, (-1)), (63, (-1))] Z Z4 → mx_J (tB l D b0 ad Hb tau) mt_185 (d + 9) 75 [some (.ref 56), some (xI 9), some (xI x1), some (xI x2), some (xI w3_4)] [] h4 Post := by
          intro m3
          induction m3 with
          | zero => intro w3_4 Z4 h4 q3 f3_0 f3_1 f3_2 hx4 hG4 hf4; exact absurd q3 (by omega)
          | succ m3 ih3 =>
            intro w3_4 Z4 h4 q3 f3_0 f3_1 f3_2 hx4 hG4 hf4
            have b5 : 0 ≤ Z4 56 18 ∧ Z4 56 18 ≤ 385 := hG4.pr 56 18
            refine mx_J.step (sn_185 75) (fun _ _ => rfl) ?_
            refine Jif_le (show mx_Sn _ _ 77 (mx_if_le 107 80) from sn_185 77) (by omega) (fun q6 => ?_) (fun q6 => ?_)
            · skip
              have w0 : wy (9 * 19 + w3_4) = 0 := by rw [show w3_4 = 0 by omega]; exact Wy0 (by omega)
              exact mx_J.ret (sn_185 107) (fun _ _ => rfl) (hP Z4 h4 hx4 hG4 (fr_tr (M := [(56, 18), (61, (-1)), (63, (-1))]) fr_rf (hf4) (M1 := []) rfl rfl) ⟨(gl_e (by assumption) (by omega) (by omega)), by omega⟩)
            · skip
              refine mx_J.step (sn_185 80) (fun _ _ => rfl) ?_
              refine JgetR (g := 17) (b := 63) hx4 (show mx_Sn _ _ 81 (mx_getf 12 17 84) from sn_185 81) a56 s56 rfl rfl (hG4.prr 56 17 rfl) ?_
              refine mx_J.step (sn_185 84) (fun _ _ => rfl) ?_
              refine mx_J.step (sn_185 85) (fun _ _ => rfl) ?_
              refine JiastI hx4 (show mx_Sn _ _ 87 (mx_iast 1 88) from sn_185 87) a63 s63 rfl (by omega) (fun Z8 h8 hx8 hE8 => ?_)
              have hG8 := GB_up hG4 hE8 (show 0 ≤ w3_4 ∧ w3_4 ≤ 18 by omega) trivial rfl
              have wr := WRr (n := 9) (m := w3_4) (by omega) (by omega)
              refine mx_J.step (sn_185 88) (fun _ _ => rfl) ?_
              refine mx_J.step (sn_185 89) (fun _ _ => rfl) ?_
              refine mx_J.step (sn_185 90) (fun _ _ => rfl) ?_
              refine Jisub (show mx_Sn _ _ 92 (mx_isub 93) from sn_185 92) ?_
              refine mx_J.step (sn_185 93) (fun _ _ => rfl) ?_
              refine mx_J.step (sn_185 95) (fun _ _ => rfl) ?_
              refine JcI (z := 1) (show mx_Sn _ _ 96 (mx_const (.int 1) 97) from sn_185 96) rfl ?_
              refine Jiadd (show mx_Sn _ _ 97 (mx_iadd 98) from sn_185 97) ?_
              have eq10 : Z8 56 18 = Z4 56 18 := (up_nk hE8 rfl)
              obtain ⟨Z9, h9, hc9, hx9, hG9, hf9, b9⟩ := ct_185_56_le8 (d := d + 0) (l := l) (D := D) (b0 := b0) (ad := ad) (Hb := Hb) (tau := tau) hx8 hG8 (show 0 ≤ 9 - w3_4 ∧ 9 - w3_4 ≤ 8 by omega) (show 0 ≤ w3_4 ∧ w3_4 ≤ 18 by omega) (show 0 ≤ x2 + 1 ∧ x2 + 1 ≤ 18 by omega) (show Z8 56 18 + wy ((9 - w3_4) * 19 + w3_4) ≤ 385 by first | omega | (simp only [eq10]; omega)) (show (x2 + 1) + (9 - w3_4) ≤ 18 by first | omega | (simp only [eq10]; omega))
              try rw [eq10] at b9
              obtain ⟨bs9_0, b9⟩ := b9
              have b11 : 0 ≤ Z9 56 18 ∧ Z9 56 18 ≤ 385 := hG9.pr 56 18
              refine Jcv0 hx8 (show mx_Sn _ _ 98 (mx_callv 185 4 12 101) from sn_185 98) a56 s56 hc9 rfl rfl rfl ?_
              have gl1 := gl_s (Z := Z) (left := 9) (most := x1) (n := x2) (its := w3_4) (by assumption) (by omega) (by omega) (by omega) hE8 bs9_0
              refine Jiinc (z := w3_4) (cz := (-1)) (ls2 := [some (.ref 56), some (xI 9), some (xI x1), some (xI x2), some (xI (w3_4 + (-1)))]) (show mx_Sn _ _ 101 (mx_iinc 4 (-1) 104) from sn_185 101) rfl rfl rfl rfl ?_
              refine mx_J.step (sn_185 104) (fun _ _ => rfl) ?_
              exact ih3 (w3_4 + (-1)) Z9 h9 (by omega) (by omega) (by omega) (gl1) hx9 hG9 (fr_tr (M := [(56, 18), (61, (-1)), (63, (-1))]) (fr_tr (M := [(56, 18), (61, (-1)), (63, (-1))]) (fr_tr (M := [(56, 18), (61, (-1)), (63, (-1))]) fr_rf (hf4) (M1 := []) rfl rfl) (fr_ua hE8) rfl rfl) (hf9) rfl rfl)
        have b12 : 0 ≤ Z 56 18 ∧ Z 56 18 ≤ 385 := hG.pr 56 18
        exact c75 (Int.toNat (k2_0 - 0) + 1) k2_0 Z h (by omega) (by omega) (by omega) (gl_0 (by omega) (by omega) (by omega) (by omega)) hx hG fr_rf
      refine Jicmp_ge (show mx_Sn _ _ 65 (mx_icmp_ge 72 68) from sn_185 65) (by omega) (by omega) (fun q13 => ?_) (fun q13 => ?_)
      · skip
        refine mx_J.step (sn_185 72) (fun _ _ => rfl) ?_
        exact c73 9 (by omega) (by first | exact ⟨rfl, by omega⟩ | exact ⟨WSs (n := 9) (by omega) (by omega), by omega⟩) (by omega)
      · skip
        refine mx_J.step (sn_185 68) (fun _ _ => rfl) ?_
        refine mx_J.step (sn_185 69) (fun _ _ => rfl) ?_
        exact c73 x1 (by omega) (by first | exact ⟨rfl, by omega⟩ | exact ⟨WSs (n := 9) (by omega) (by omega), by omega⟩) (by omega)
    · skip
      exfalso; omega
theorem ct_185_56_i9 {l : Launch} {D : va_G} {b0 : Nat} {ad : Nat → Nat} {Hb : Heap} {tau : Nat → Int64} {d n s : Nat} {S : Nat → xS} {Z : xZ} {h : mx_H} (hx : XH n s S Z h) (hG : GB n S Z)  {x1 x2 : Int} (p1 : 0 ≤ x1 ∧ x1 ≤ 18) (p2 : 0 ≤ x2 ∧ x2 ≤ 18) (k0 : Z 56 18 + wy (9 * 19 + x1) ≤ 385) (k1 : x2 + 9 ≤ 18) : ∃ (Z' : xZ) (h' : mx_H), mx_Ca (tB l D b0 ad Hb tau) (d + 10) 185 [.ref 56, xI 9, xI x1, xI x2] h (none, h') ∧ XH n s S Z' h' ∧ GB n S Z' ∧ fr' [(56, 18), (61, (-1)), (63, (-1))] Z Z' ∧ (GAp Z Z' 9 x1 x2 ∧ Z' 56 18 = Z 56 18 + wy (9 * 19 + x1)) := by
  obtain ⟨r, hca, Z', h', e, q⟩ := Jmt (B := tB l D b0 ad Hb tau) (M := mt_185) (mi := 185) (as := [.ref 56, xI 9, xI x1, xI x2]) (d := d + 9) (ls := [some (.ref 56), some (xI 9), some (xI x1), some (xI x2), none]) rfl rfl rfl rfl rfl rfl (cw_185_56_i9 (l := l) (D := D) (b0 := b0) (ad := ad) (Hb := Hb) (tau := tau) (d := d) (Post := fun r => ∃ (Z' : xZ) (h' : mx_H), r = (none, h') ∧ XH n s S Z' h' ∧ GB n S Z' ∧ fr' [(56, 18), (61, (-1)), (63, (-1))] Z Z' ∧ (GAp Z Z' 9 x1 x2 ∧ Z' 56 18 = Z 56 18 + wy (9 * 19 + x1))) hx hG p1 p2 k0 k1 (fun Z' h' q1 q2 q3 q4 => ⟨Z', h', rfl, q1, q2, q3, q4⟩))
  subst e; exact ⟨Z', h', hca, q⟩
theorem ct_185_56_le9 {l : Launch} {D : va_G} {b0 : Nat} {ad : Nat → Nat} {Hb : Heap} {tau : Nat → Int64} {d n s : Nat} {S : Nat → xS} {Z : xZ} {h : mx_H} (hx : XH n s S Z h) (hG : GB n S Z) {x0 x1 x2 : Int} (p0 : 0 ≤ x0 ∧ x0 ≤ 9) (p1 : 0 ≤ x1 ∧ x1 ≤ 18) (p2 : 0 ≤ x2 ∧ x2 ≤ 18) (k0 : Z 56 18 + wy (x0 * 19 + x1) ≤ 385) (k1 : x2 + x0 ≤ 18) : ∃ (Z' : xZ) (h' : mx_H), mx_Ca (tB l D b0 ad Hb tau) (d + 10) 185 [.ref 56, xI x0, xI x1, xI x2] h (none, h') ∧ XH n s S Z' h' ∧ GB n S Z' ∧ fr' [(56, 18), (61, (-1)), (63, (-1))] Z Z' ∧ (GAp Z Z' x0 x1 x2 ∧ Z' 56 18 = Z 56 18 + wy (x0 * 19 + x1)) := by
  have hc : x0 = 0 ∨ x0 = 1 ∨ x0 = 2 ∨ x0 = 3 ∨ x0 = 4 ∨ x0 = 5 ∨ x0 = 6 ∨ x0 = 7 ∨ x0 = 8 ∨ x0 = 9 := by omega
  rcases hc with hc | hc | hc | hc | hc | hc | hc | hc | hc | hc
  · subst hc
    obtain ⟨Z', h', hca, q1, q2, q3, q4⟩ := ct_185_56_i0 (d := d + 9) (l := l) (D := D) (b0 := b0) (ad := ad) (Hb := Hb) (tau := tau) hx hG p1 p2 k0 k1
    exact ⟨Z', h', hca, q1, q2, fr_tr (M1 := []) fr_rf q3 rfl rfl, q4⟩
  · subst hc
    obtain ⟨Z', h', hca, q1, q2, q3, q4⟩ := ct_185_56_i1 (d := d + 8) (l := l) (D := D) (b0 := b0) (ad := ad) (Hb := Hb) (tau := tau) hx hG p1 p2 k0 k1
    exact ⟨Z', h', hca, q1, q2, fr_tr (M1 := []) fr_rf q3 rfl rfl, q4⟩
  · subst hc
    obtain ⟨Z', h', hca, q1, q2, q3, q4⟩ := ct_185_56_i2 (d := d + 7) (l := l) (D := D) (b0 := b0) (ad := ad) (Hb := Hb) (tau := tau) hx hG p1 p2 k0 k1
    exact ⟨Z', h', hca, q1, q2, fr_tr (M1 := []) fr_rf q3 rfl rfl, q4⟩
  · subst hc
    obtain ⟨Z', h', hca, q1, q2, q3, q4⟩ := ct_185_56_i3 (d := d + 6) (l := l) (D := D) (b0 := b0) (ad := ad) (Hb := Hb) (tau := tau) hx hG p1 p2 k0 k1
    exact ⟨Z', h', hca, q1, q2, fr_tr (M1 := []) fr_rf q3 rfl rfl, q4⟩
  · subst hc
    obtain ⟨Z', h', hca, q1, q2, q3, q4⟩ := ct_185_56_i4 (d := d + 5) (l := l) (D := D) (b0 := b0) (ad := ad) (Hb := Hb) (tau := tau) hx hG p1 p2 k0 k1
    exact ⟨Z', h', hca, q1, q2, fr_tr (M1 := []) fr_rf q3 rfl rfl, q4⟩
  · subst hc
    obtain ⟨Z', h', hca, q1, q2, q3, q4⟩ := ct_185_56_i5 (d := d + 4) (l := l) (D := D) (b0 := b0) (ad := ad) (Hb := Hb) (tau := tau) hx hG p1 p2 k0 k1
    exact ⟨Z', h', hca, q1, q2, fr_tr (M1 := []) fr_rf q3 rfl rfl, q4⟩
  · subst hc
    obtain ⟨Z', h', hca, q1, q2, q3, q4⟩ := ct_185_56_i6 (d := d + 3) (l := l) (D := D) (b0 := b0) (ad := ad) (Hb := Hb) (tau := tau) hx hG p1 p2 k0 k1
    exact ⟨Z', h', hca, q1, q2, fr_tr (M1 := []) fr_rf q3 rfl rfl, q4⟩
  · subst hc
    obtain ⟨Z', h', hca, q1, q2, q3, q4⟩ := ct_185_56_i7 (d := d + 2) (l := l) (D := D) (b0 := b0) (ad := ad) (Hb := Hb) (tau := tau) hx hG p1 p2 k0 k1
    exact ⟨Z', h', hca, q1, q2, fr_tr (M1 := []) fr_rf q3 rfl rfl, q4⟩
  · subst hc
    obtain ⟨Z', h', hca, q1, q2, q3, q4⟩ := ct_185_56_i8 (d := d + 1) (l := l) (D := D) (b0 := b0) (ad := ad) (Hb := Hb) (tau := tau) hx hG p1 p2 k0 k1
    exact ⟨Z', h', hca, q1, q2, fr_tr (M1 := []) fr_rf q3 rfl rfl, q4⟩
  · subst hc
    obtain ⟨Z', h', hca, q1, q2, q3, q4⟩ := ct_185_56_i9 (d := d + 0) (l := l) (D := D) (b0 := b0) (ad := ad) (Hb := Hb) (tau := tau) hx hG p1 p2 k0 k1
    exact ⟨Z', h', hca, q1, q2, fr_tr (M1 := []) fr_rf q3 rfl rfl, q4⟩
set_option maxRecDepth 100000 in
theorem cw_185_56_i10 {l : Launch} {D : va_G} {b0 : Nat} {ad : Nat → Nat} {Hb : Heap} {tau : Nat → Int64} {d n s : Nat} {S : Nat → xS} {Z : xZ} {h : mx_H} {Post : mx_R → Prop} (hx : XH n s S Z h) (hG : GB n S Z)  {x1 x2 : Int} (p1 : 0 ≤ x1 ∧ x1 ≤ 18) (p2 : 0 ≤ x2 ∧ x2 ≤ 18) (k0 : Z 56 18 + wy (10 * 19 + x1) ≤ 385) (k1 : x2 + 10 ≤ 18) (hP : ∀ (Z' : xZ) (h' : mx_H), XH n s S Z' h' → GB n S Z' → fr' [(56, 18), (61, (-1)), (63, (-1))] Z Z' → GAp Z Z' 10 x1 x2 ∧ Z' 56 18 = Z 56 18 + wy (10 * 19 + x1) → Post (none, h')) : mx_J (tB l D b0 ad Hb tau) mt_185 (d + 10) 0 [some (.ref 56), some (xI 10), some (xI x1), some (xI x2), none] [] h Post := by
    have a56 : 56 < n := lt83 (GB_n hG) rfl
    have s56 : S 56 = .inl (12, [0, 2, 2, 2, 2, 0, 0, 0, 0, 0, 0, 0, 0, 0, 0, 2, 2, 2, 0, 2, 2, 2, 0, 0, 2, 2, 2, 2, 2, 2, 0, 0, 2, 2, 2, 2, 2, 2, 2, 2, 2, 2]) := GB_s hG 56 rfl
    have a63 : 63 < n := lt83 (GB_n hG) rfl
    have s63 : S 63 = .inr (.int, 18, 0) := GB_s hG 63 rfl
    refine mx_J.step (sn_185 0) (fun _ _ => rfl) ?_
    refine Jif_ne (show mx_Sn _ _ 1 (mx_if_ne 63 4) from sn_185 1) (by omega) (fun q1 => ?_) (fun q1 => ?_)
    · skip
      refine mx_J.step (sn_185 63) (fun _ _ => rfl) ?_
      refine mx_J.step (sn_185 64) (fun _ _ => rfl) ?_
      have c73 : ∀ (k2_0 : Int), 0 ≤ k2_0 ∧ k2_0 ≤ 10 → (wy (10 * 19 + k2_0) = wy (10 * 19 + x1) ∧ k2_0 ≤ 10) → ((x1 < 10 → k2_0 = x1) ∧ (10 ≤ x1 → k2_0 = 10)) → mx_J (tB l D b0 ad Hb tau) mt_185 (d + 10) 73 [some (.ref 56), some (xI 10), some (xI x1), some (xI x2), none] [xI k2_0] h Post := by
        intro k2_0 f2_0 f2_1 f2_2
        refine mx_J.step (ls2 := [some (.ref 56), some (xI 10), some (xI x1), some (xI x2), some (xI k2_0)]) (sn_185 73) (fun _ _ => rfl) ?_
        have c75 : ∀ (m3 : Nat) (w3_4 : Int) (Z4 : xZ) (h4 : mx_H), w3_4 - 0 < (m3 : Int) → 0 ≤ w3_4 ∧ w3_4 ≤ 10 → (Z4 56 18 + wy (10 * 19 + w3_4) = Z 56 18 + wy (10 * 19 + x1)) → GL Z Z4 10 x1 x2 w3_4 → XH n s S Z4 h4 → GB n S Z4 → fr' [(56, 18), (61, (-1)), (63, (-1))] Z Z4 → mx_J (tB l D b0 ad Hb tau) mt_185 (d + 10) 75 [some (.ref 56), some (xI 10), some (xI x1), some (xI x2), some (xI w3_4)] [] h4 Post := by
          intro m3
          induction m3 with
          | zero => intro w3_4 Z4 h4 q3 f3_0 f3_1 f3_2 hx4 hG4 hf4; exact absurd q3 (by omega)
          | succ m3 ih3 =>
            intro w3_4 Z4 h4 q3 f3_0 f3_1 f3_2 hx4 hG4 hf4
            have b5 : 0 ≤ Z4 56 18 ∧ Z4 56 18 ≤ 385 := hG4.pr 56 18
            refine mx_J.step (sn_185 75) (fun _ _ => rfl) ?_
            refine Jif_le (show mx_Sn _ _ 77 (mx_if_le 107 80) from sn_185 77) (by omega) (fun q6 => ?_) (fun q6 => ?_)
            · skip
              have w0 : wy (10 * 19 + w3_4) = 0 := by rw [show w3_4 = 0 by omega]; exact Wy0 (by omega)
              exact mx_J.ret (sn_185 107) (fun _ _ => rfl) (hP Z4 h4 hx4 hG4 (fr_tr (M := [(56, 18), (61, (-1)), (63, (-1))]) fr_rf (hf4) (M1 := []) rfl rfl) ⟨(gl_e (by assumption) (by omega) (by omega)), by omega⟩)
            · skip
              refine mx_J.step (sn_185 80) (fun _ _ => rfl) ?_
              refine JgetR (g := 17) (b := 63) hx4 (show mx_Sn _ _ 81 (mx_getf 12 17 84) from sn_185 81) a56 s56 rfl rfl (hG4.prr 56 17 rfl) ?_
              refine mx_J.step (sn_185 84) (fun _ _ => rfl) ?_
              refine mx_J.step (sn_185 85) (fun _ _ => rfl) ?_
              refine JiastI hx4 (show mx_Sn _ _ 87 (mx_iast 1 88) from sn_185 87) a63 s63 rfl (by omega) (fun Z8 h8 hx8 hE8 => ?_)
              have hG8 := GB_up hG4 hE8 (show 0 ≤ w3_4 ∧ w3_4 ≤ 18 by omega) trivial rfl
              have wr := WRr (n := 10) (m := w3_4) (by omega) (by omega)
              refine mx_J.step (sn_185 88) (fun _ _ => rfl) ?_
              refine mx_J.step (sn_185 89) (fun _ _ => rfl) ?_
              refine mx_J.step (sn_185 90) (fun _ _ => rfl) ?_
              refine Jisub (show mx_Sn _ _ 92 (mx_isub 93) from sn_185 92) ?_
              refine mx_J.step (sn_185 93) (fun _ _ => rfl) ?_
              refine mx_J.step (sn_185 95) (fun _ _ => rfl) ?_
              refine JcI (z := 1) (show mx_Sn _ _ 96 (mx_const (.int 1) 97) from sn_185 96) rfl ?_
              refine Jiadd (show mx_Sn _ _ 97 (mx_iadd 98) from sn_185 97) ?_
              have eq10 : Z8 56 18 = Z4 56 18 := (up_nk hE8 rfl)
              obtain ⟨Z9, h9, hc9, hx9, hG9, hf9, b9⟩ := ct_185_56_le9 (d := d + 0) (l := l) (D := D) (b0 := b0) (ad := ad) (Hb := Hb) (tau := tau) hx8 hG8 (show 0 ≤ 10 - w3_4 ∧ 10 - w3_4 ≤ 9 by omega) (show 0 ≤ w3_4 ∧ w3_4 ≤ 18 by omega) (show 0 ≤ x2 + 1 ∧ x2 + 1 ≤ 18 by omega) (show Z8 56 18 + wy ((10 - w3_4) * 19 + w3_4) ≤ 385 by first | omega | (simp only [eq10]; omega)) (show (x2 + 1) + (10 - w3_4) ≤ 18 by first | omega | (simp only [eq10]; omega))
              try rw [eq10] at b9
              obtain ⟨bs9_0, b9⟩ := b9
              have b11 : 0 ≤ Z9 56 18 ∧ Z9 56 18 ≤ 385 := hG9.pr 56 18
              refine Jcv0 hx8 (show mx_Sn _ _ 98 (mx_callv 185 4 12 101) from sn_185 98) a56 s56 hc9 rfl rfl rfl ?_
              have gl1 := gl_s (Z := Z) (left := 10) (most := x1) (n := x2) (its := w3_4) (by assumption) (by omega) (by omega) (by omega) hE8 bs9_0
              refine Jiinc (z := w3_4) (cz := (-1)) (ls2 := [some (.ref 56), some (xI 10), some (xI x1), some (xI x2), some (xI (w3_4 + (-1)))]) (show mx_Sn _ _ 101 (mx_iinc 4 (-1) 104) from sn_185 101) rfl rfl rfl rfl ?_
              refine mx_J.step (sn_185 104) (fun _ _ => rfl) ?_
              exact ih3 (w3_4 + (-1)) Z9 h9 (by omega) (by omega) (by omega) (gl1) hx9 hG9 (fr_tr (M := [(56, 18), (61, (-1)), (63, (-1))]) (fr_tr (M := [(56, 18), (61, (-1)), (63, (-1))]) (fr_tr (M := [(56, 18), (61, (-1)), (63, (-1))]) fr_rf (hf4) (M1 := []) rfl rfl) (fr_ua hE8) rfl rfl) (hf9) rfl rfl)
        have b12 : 0 ≤ Z 56 18 ∧ Z 56 18 ≤ 385 := hG.pr 56 18
        exact c75 (Int.toNat (k2_0 - 0) + 1) k2_0 Z h (by omega) (by omega) (by omega) (gl_0 (by omega) (by omega) (by omega) (by omega)) hx hG fr_rf
      refine Jicmp_ge (show mx_Sn _ _ 65 (mx_icmp_ge 72 68) from sn_185 65) (by omega) (by omega) (fun q13 => ?_) (fun q13 => ?_)
      · skip
        refine mx_J.step (sn_185 72) (fun _ _ => rfl) ?_
        exact c73 10 (by omega) (by first | exact ⟨rfl, by omega⟩ | exact ⟨WSs (n := 10) (by omega) (by omega), by omega⟩) (by omega)
      · skip
        refine mx_J.step (sn_185 68) (fun _ _ => rfl) ?_
        refine mx_J.step (sn_185 69) (fun _ _ => rfl) ?_
        exact c73 x1 (by omega) (by first | exact ⟨rfl, by omega⟩ | exact ⟨WSs (n := 10) (by omega) (by omega), by omega⟩) (by omega)
    · skip
      exfalso; omega
theorem ct_185_56_i10 {l : Launch} {D : va_G} {b0 : Nat} {ad : Nat → Nat} {Hb : Heap} {tau : Nat → Int64} {d n s : Nat} {S : Nat → xS} {Z : xZ} {h : mx_H} (hx : XH n s S Z h) (hG : GB n S Z)  {x1 x2 : Int} (p1 : 0 ≤ x1 ∧ x1 ≤ 18) (p2 : 0 ≤ x2 ∧ x2 ≤ 18) (k0 : Z 56 18 + wy (10 * 19 + x1) ≤ 385) (k1 : x2 + 10 ≤ 18) : ∃ (Z' : xZ) (h' : mx_H), mx_Ca (tB l D b0 ad Hb tau) (d + 11) 185 [.ref 56, xI 10, xI x1, xI x2] h (none, h') ∧ XH n s S Z' h' ∧ GB n S Z' ∧ fr' [(56, 18), (61, (-1)), (63, (-1))] Z Z' ∧ (GAp Z Z' 10 x1 x2 ∧ Z' 56 18 = Z 56 18 + wy (10 * 19 + x1)) := by
  obtain ⟨r, hca, Z', h', e, q⟩ := Jmt (B := tB l D b0 ad Hb tau) (M := mt_185) (mi := 185) (as := [.ref 56, xI 10, xI x1, xI x2]) (d := d + 10) (ls := [some (.ref 56), some (xI 10), some (xI x1), some (xI x2), none]) rfl rfl rfl rfl rfl rfl (cw_185_56_i10 (l := l) (D := D) (b0 := b0) (ad := ad) (Hb := Hb) (tau := tau) (d := d) (Post := fun r => ∃ (Z' : xZ) (h' : mx_H), r = (none, h') ∧ XH n s S Z' h' ∧ GB n S Z' ∧ fr' [(56, 18), (61, (-1)), (63, (-1))] Z Z' ∧ (GAp Z Z' 10 x1 x2 ∧ Z' 56 18 = Z 56 18 + wy (10 * 19 + x1))) hx hG p1 p2 k0 k1 (fun Z' h' q1 q2 q3 q4 => ⟨Z', h', rfl, q1, q2, q3, q4⟩))
  subst e; exact ⟨Z', h', hca, q⟩
theorem ct_185_56_le10 {l : Launch} {D : va_G} {b0 : Nat} {ad : Nat → Nat} {Hb : Heap} {tau : Nat → Int64} {d n s : Nat} {S : Nat → xS} {Z : xZ} {h : mx_H} (hx : XH n s S Z h) (hG : GB n S Z) {x0 x1 x2 : Int} (p0 : 0 ≤ x0 ∧ x0 ≤ 10) (p1 : 0 ≤ x1 ∧ x1 ≤ 18) (p2 : 0 ≤ x2 ∧ x2 ≤ 18) (k0 : Z 56 18 + wy (x0 * 19 + x1) ≤ 385) (k1 : x2 + x0 ≤ 18) : ∃ (Z' : xZ) (h' : mx_H), mx_Ca (tB l D b0 ad Hb tau) (d + 11) 185 [.ref 56, xI x0, xI x1, xI x2] h (none, h') ∧ XH n s S Z' h' ∧ GB n S Z' ∧ fr' [(56, 18), (61, (-1)), (63, (-1))] Z Z' ∧ (GAp Z Z' x0 x1 x2 ∧ Z' 56 18 = Z 56 18 + wy (x0 * 19 + x1)) := by
  have hc : x0 = 0 ∨ x0 = 1 ∨ x0 = 2 ∨ x0 = 3 ∨ x0 = 4 ∨ x0 = 5 ∨ x0 = 6 ∨ x0 = 7 ∨ x0 = 8 ∨ x0 = 9 ∨ x0 = 10 := by omega
  rcases hc with hc | hc | hc | hc | hc | hc | hc | hc | hc | hc | hc
  · subst hc
    obtain ⟨Z', h', hca, q1, q2, q3, q4⟩ := ct_185_56_i0 (d := d + 10) (l := l) (D := D) (b0 := b0) (ad := ad) (Hb := Hb) (tau := tau) hx hG p1 p2 k0 k1
    exact ⟨Z', h', hca, q1, q2, fr_tr (M1 := []) fr_rf q3 rfl rfl, q4⟩
  · subst hc
    obtain ⟨Z', h', hca, q1, q2, q3, q4⟩ := ct_185_56_i1 (d := d + 9) (l := l) (D := D) (b0 := b0) (ad := ad) (Hb := Hb) (tau := tau) hx hG p1 p2 k0 k1
    exact ⟨Z', h', hca, q1, q2, fr_tr (M1 := []) fr_rf q3 rfl rfl, q4⟩
  · subst hc
    obtain ⟨Z', h', hca, q1, q2, q3, q4⟩ := ct_185_56_i2 (d := d + 8) (l := l) (D := D) (b0 := b0) (ad := ad) (Hb := Hb) (tau := tau) hx hG p1 p2 k0 k1
    exact ⟨Z', h', hca, q1, q2, fr_tr (M1 := []) fr_rf q3 rfl rfl, q4⟩
  · subst hc
    obtain ⟨Z', h', hca, q1, q2, q3, q4⟩ := ct_185_56_i3 (d := d + 7) (l := l) (D := D) (b0 := b0) (ad := ad) (Hb := Hb) (tau := tau) hx hG p1 p2 k0 k1
    exact ⟨Z', h', hca, q1, q2, fr_tr (M1 := []) fr_rf q3 rfl rfl, q4⟩
  · subst hc
    obtain ⟨Z', h', hca, q1, q2, q3, q4⟩ := ct_185_56_i4 (d := d + 6) (l := l) (D := D) (b0 := b0) (ad := ad) (Hb := Hb) (tau := tau) hx hG p1 p2 k0 k1
    exact ⟨Z', h', hca, q1, q2, fr_tr (M1 := []) fr_rf q3 rfl rfl, q4⟩
  · subst hc
    obtain ⟨Z', h', hca, q1, q2, q3, q4⟩ := ct_185_56_i5 (d := d + 5) (l := l) (D := D) (b0 := b0) (ad := ad) (Hb := Hb) (tau := tau) hx hG p1 p2 k0 k1
    exact ⟨Z', h', hca, q1, q2, fr_tr (M1 := []) fr_rf q3 rfl rfl, q4⟩
  · subst hc
    obtain ⟨Z', h', hca, q1, q2, q3, q4⟩ := ct_185_56_i6 (d := d + 4) (l := l) (D := D) (b0 := b0) (ad := ad) (Hb := Hb) (tau := tau) hx hG p1 p2 k0 k1
    exact ⟨Z', h', hca, q1, q2, fr_tr (M1 := []) fr_rf q3 rfl rfl, q4⟩
  · subst hc
    obtain ⟨Z', h', hca, q1, q2, q3, q4⟩ := ct_185_56_i7 (d := d + 3) (l := l) (D := D) (b0 := b0) (ad := ad) (Hb := Hb) (tau := tau) hx hG p1 p2 k0 k1
    exact ⟨Z', h', hca, q1, q2, fr_tr (M1 := []) fr_rf q3 rfl rfl, q4⟩
  · subst hc
    obtain ⟨Z', h', hca, q1, q2, q3, q4⟩ := ct_185_56_i8 (d := d + 2) (l := l) (D := D) (b0 := b0) (ad := ad) (Hb := Hb) (tau := tau) hx hG p1 p2 k0 k1
    exact ⟨Z', h', hca, q1, q2, fr_tr (M1 := []) fr_rf q3 rfl rfl, q4⟩
  · subst hc
    obtain ⟨Z', h', hca, q1, q2, q3, q4⟩ := ct_185_56_i9 (d := d + 1) (l := l) (D := D) (b0 := b0) (ad := ad) (Hb := Hb) (tau := tau) hx hG p1 p2 k0 k1
    exact ⟨Z', h', hca, q1, q2, fr_tr (M1 := []) fr_rf q3 rfl rfl, q4⟩
  · subst hc
    obtain ⟨Z', h', hca, q1, q2, q3, q4⟩ := ct_185_56_i10 (d := d + 0) (l := l) (D := D) (b0 := b0) (ad := ad) (Hb := Hb) (tau := tau) hx hG p1 p2 k0 k1
    exact ⟨Z', h', hca, q1, q2, fr_tr (M1 := []) fr_rf q3 rfl rfl, q4⟩
