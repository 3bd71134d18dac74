set_option maxRecDepth 100000 in
theorem cw_163_56 {l : Launch} {D : va_G} {b0 : Nat} {ad : Nat → Nat} {Hb : Heap} {tau : Nat → Int64} {d n s : Nat} {S : Nat → xS} {Z : xZ} {h : mx_H} {Post : mx_R → Prop} {g0 : Int} {T : Int → Int} {N : Int} {sg : SS} (hx : XH n s S Z h) (hG : GI n S Z)  {x0 : Int} (p0 : 2 ≤ x0 ∧ x0 ≤ 4) (hr : RM g0 T N Z sg) (hP : ∀ (Z' : xZ) (h' : mx_H), XH n s S Z' h' → GI n S Z' → fr' [(56, 11), (56, 12)] Z Z' → RM g0 T N Z' (gFt T N x0 sg) ∧ ((¬ Z' 56 11 = 0) ∧ 1 ≤ Z' 56 11) → Post (none, h')) : mx_J (tB l D b0 ad Hb tau) mt_163 (d + 0) 0 [some (.ref 56), some (xI x0)] [] h Post := by
    have a56 : 56 < n := lt83 (GI_n hG) rfl
    have s56 : S 56 = .inl (12, [0, 2, 2, 2, 2, 0, 0, 0, 0, 0, 0, 0, 0, 0, 0, 2, 2, 2, 0, 2, 2, 2, 0, 0, 2, 2, 2, 2, 2, 2, 0, 0, 2, 2, 2, 2, 2, 2, 2, 2, 2, 2]) := GI_s hG 56 rfl
    refine mx_J.step (sn_163 0) (fun _ _ => rfl) ?_
    have b2 : 0 ≤ Z 56 11 ∧ Z 56 11 ≤ 4 := hG.pr 56 11
    refine JgetI (g := 11) (z := Z 56 11) hx (show mx_Sn _ _ 1 (mx_getf 12 11 4) from sn_163 1) a56 s56 rfl rfl rfl ?_
    refine Jif_eq (show mx_Sn _ _ 4 (mx_if_eq 8 7) from sn_163 4) (by omega) (fun q3 => ?_) (fun q3 => ?_)
    · skip
      refine mx_J.step (sn_163 8) (fun _ _ => rfl) ?_
      refine mx_J.step (sn_163 9) (fun _ _ => rfl) ?_
      have b5 : 0 ≤ Z 56 9 ∧ Z 56 9 ≤ 100 := hG.pr 56 9
      refine JgetI (g := 9) (z := Z 56 9) hx (show mx_Sn _ _ 10 (mx_getf 12 9 13) from sn_163 10) a56 s56 rfl rfl rfl ?_
      refine JcI (z := 25) (show mx_Sn _ _ 13 (mx_const (.int 25) 15) from sn_163 13) rfl ?_
      have c23 : ∀ (k6_1 : Int), 1 ≤ k6_1 ∧ k6_1 ≤ 4 → ((Z 56 9 = 25 → k6_1 = 1) ∧ (¬ Z 56 9 = 25 → k6_1 = x0)) → mx_J (tB l D b0 ad Hb tau) mt_163 (d + 0) 23 [some (.ref 56), some (xI x0)] [xI k6_1, .ref 56] h Post := by
        intro k6_1 f6_0 f6_1
        refine JputI (g := 11) hx (show mx_Sn _ _ 23 (mx_putf 1 12 11 (.int) 26) from sn_163 23) a56 s56 rfl rfl rfl rfl (fun Z7 h7 hx7 hE7 => ?_)
        have hG7 := GI_up hG hE7 (show 0 ≤ k6_1 ∧ k6_1 ≤ 4 by omega) trivial rfl
        refine mx_J.step (sn_163 26) (fun _ _ => rfl) ?_
        refine mx_J.step (sn_163 27) (fun _ _ => rfl) ?_
        have b9 : 0 ≤ Z 56 6 ∧ Z 56 6 ≤ 900 := hG.pr 56 6
        refine JgetI (g := 6) (z := Z 56 6) hx7 (show mx_Sn _ _ 28 (mx_getf 12 6 31) from sn_163 28) a56 s56 rfl rfl (up_ni hE7 (by decide)) ?_
        refine JputI (g := 12) hx7 (show mx_Sn _ _ 31 (mx_putf 1 12 12 (.int) 34) from sn_163 31) a56 s56 rfl rfl rfl rfl (fun Z10 h10 hx10 hE10 => ?_)
        have hG10 := GI_up hG7 hE10 (show 0 ≤ Z 56 6 ∧ Z 56 6 ≤ 900 by omega) trivial rfl
        have rc11 : RM g0 T N Z10 (gFt T N x0 sg) := RM_ft hr (by omega) (up_at hE10) ⟨fun q => ((up_ni hE10 (by decide)).trans (up_at hE7)).trans (by omega), fun q => ((up_ni hE10 (by decide)).trans (up_at hE7)).trans (by omega)⟩ (by omega) ((up_ni hE10 (by decide)).trans (up_ni hE7 (by decide))) (fun i => ((up_nk hE10 rfl).trans (up_nk hE7 rfl)))
        have eq12 : Z10 56 11 = k6_1 := ((up_ni hE10 (by decide)).trans (up_at hE7))
        have eq13 : Z10 56 9 = Z 56 9 := ((up_ni hE10 (by decide)).trans (up_ni hE7 (by decide)))
        have eq14 : Z10 56 11 = k6_1 := ((up_ni hE10 (by decide)).trans (up_at hE7))
        exact mx_J.ret (sn_163 34) (fun _ _ => rfl) (hP Z10 h10 hx10 hG10 (fr_tr (M := [(56, 11), (56, 12)]) (fr_tr (M := [(56, 11), (56, 12)]) fr_rf (fr_up hE7) (M1 := []) rfl rfl) (fr_up hE10) rfl rfl) ⟨rc11, by omega⟩)
      refine Jicmp_ne (show mx_Sn _ _ 15 (mx_icmp_ne 22 18) from sn_163 15) (by omega) (by omega) (fun q15 => ?_) (fun q15 => ?_)
      · skip
        refine mx_J.step (sn_163 22) (fun _ _ => rfl) ?_
        exact c23 x0 (by omega) (by omega)
      · skip
        refine JcI (z := 1) (show mx_Sn _ _ 18 (mx_const (.int 1) 19) from sn_163 18) rfl ?_
        refine mx_J.step (sn_163 19) (fun _ _ => rfl) ?_
        exact c23 1 (by omega) (by omega)
    · skip
      have b16 : 0 ≤ Z 56 9 ∧ Z 56 9 ≤ 100 := hG.pr 56 9
      exact mx_J.ret (sn_163 7) (fun _ _ => rfl) (hP Z h hx hG fr_rf ⟨(RM_e hr (RM_fx hr (by omega))), by omega⟩)
theorem ct_163_56 {l : Launch} {D : va_G} {b0 : Nat} {ad : Nat → Nat} {Hb : Heap} {tau : Nat → Int64} {d n s : Nat} {S : Nat → xS} {Z : xZ} {h : mx_H} {g0 : Int} {T : Int → Int} {N : Int} {sg : SS} (hx : XH n s S Z h) (hG : GI n S Z)  {x0 : Int} (p0 : 2 ≤ x0 ∧ x0 ≤ 4) (hr : RM g0 T N Z sg) : ∃ (Z' : xZ) (h' : mx_H), mx_Ca (tB l D b0 ad Hb tau) (d + 1) 163 [.ref 56, xI x0] h (none, h') ∧ XH n s S Z' h' ∧ GI n S Z' ∧ fr' [(56, 11), (56, 12)] Z Z' ∧ (RM g0 T N Z' (gFt T N x0 sg) ∧ ((¬ Z' 56 11 = 0) ∧ 1 ≤ Z' 56 11)) := by
  obtain ⟨r, hca, Z', h', e, q⟩ := Jmt (B := tB l D b0 ad Hb tau) (M := mt_163) (mi := 163) (as := [.ref 56, xI x0]) (d := d + 0) (ls := [some (.ref 56), some (xI x0)]) rfl rfl rfl rfl rfl rfl (cw_163_56 (l := l) (D := D) (b0 := b0) (ad := ad) (Hb := Hb) (tau := tau) (d := d) (Post := fun r => ∃ (Z' : xZ) (h' : mx_H), r = (none, h') ∧ XH n s S Z' h' ∧ GI n S Z' ∧ fr' [(56, 11), (56, 12)] Z Z' ∧ (RM g0 T N Z' (gFt T N x0 sg) ∧ ((¬ Z' 56 11 = 0) ∧ 1 ≤ Z' 56 11))) hx hG p0 hr (fun Z' h' q1 q2 q3 q4 => ⟨Z', h', rfl, q1, q2, q3, q4⟩))
  subst e; exact ⟨Z', h', hca, q⟩
theorem ct_163_56x {l : Launch} {D : va_G} {b0 : Nat} {ad : Nat → Nat} {Hb : Heap} {tau : Nat → Int64} {T : Int → Int} {N : Int} {sg : SS} {d n s : Nat} {S : Nat → xS} {Z : xZ} {h : mx_H} (hx : XH n s S Z h) (hG : GI n S Z) {x0 : Int} (p0 : 2 ≤ x0 ∧ x0 ≤ 4)  (hr : RMx T N Z sg) : ∃ (Z' : xZ) (h' : mx_H), mx_Ca (tB l D b0 ad Hb tau) (d + 1) 163 [.ref 56, xI x0] h (none, h') ∧ XH n s S Z' h' ∧ GI n S Z' ∧ fr' [(56, 11), (56, 12)] Z Z' ∧ (RMx T N Z' (gFt T N x0 sg) ∧ ((¬ Z' 56 11 = 0) ∧ 1 ≤ Z' 56 11)) := by
  obtain ⟨g, hg, hr⟩ := hr
  obtain ⟨Z', h', hca, q1, q2, q3, q5, q4⟩ := ct_163_56 (g0 := g) (T := T) (N := N) (sg := sg) (d := d) (l := l) (D := D) (b0 := b0) (ad := ad) (Hb := Hb) (tau := tau) hx hG p0  hr
  exact ⟨Z', h', hca, q1, q2, q3, ⟨g, hg, q5⟩, q4⟩
set_option maxRecDepth 100000 in
theorem cw_164_56 {l : Launch} {D : va_G} {b0 : Nat} {ad : Nat → Nat} {Hb : Heap} {tau : Nat → Int64} {d n s : Nat} {S : Nat → xS} {Z : xZ} {h : mx_H} {Post : mx_R → Prop} (hx : XH n s S Z h) (hG : GI n S Z)  {x0 : Int} (p0 : 0 ≤ x0 ∧ x0 ≤ 100) (hP : ∀ z : Int, 0 ≤ z ∧ z ≤ 1 ∧ ((z = 1 ∧ Z 56 11 = 0 ∧ Z 56 9 = x0) ∨ (z = 0 ∧ ¬ (Z 56 11 = 0 ∧ Z 56 9 = x0))) → Post (some (xI z), h)) : mx_J (tB l D b0 ad Hb tau) mt_164 (d + 0) 0 [some (.ref 56), some (xI x0)] [] h Post := by
    have a56 : 56 < n := lt83 (GI_n hG) rfl
    have s56 : S 56 = .inl (12, [0, 2, 2, 2, 2, 0, 0, 0, 0, 0, 0, 0, 0, 0, 0, 2, 2, 2, 0, 2, 2, 2, 0, 0, 2, 2, 2, 2, 2, 2, 0, 0, 2, 2, 2, 2, 2, 2, 2, 2, 2, 2]) := GI_s hG 56 rfl
    refine mx_J.step (sn_164 0) (fun _ _ => rfl) ?_
    have b2 : 0 ≤ Z 56 11 ∧ Z 56 11 ≤ 4 := hG.pr 56 11
    refine JgetI (g := 11) (z := Z 56 11) hx (show mx_Sn _ _ 1 (mx_getf 12 11 4) from sn_164 1) a56 s56 rfl rfl rfl ?_
    have c20 : ∀ (k3_0 : Int), 0 ≤ k3_0 ∧ k3_0 ≤ 1 → ((k3_0 = 1 ∧ Z 56 11 = 0 ∧ Z 56 9 = x0) ∨ (k3_0 = 0 ∧ ¬ (Z 56 11 = 0 ∧ Z 56 9 = x0))) → mx_J (tB l D b0 ad Hb tau) mt_164 (d + 0) 20 [some (.ref 56), some (xI x0)] [xI k3_0] h Post := by
      intro k3_0 f3_0 f3_1
      have b4 : 0 ≤ Z 56 9 ∧ Z 56 9 ≤ 100 := hG.pr 56 9
      exact mx_J.ret (show mx_Sn _ _ 20 (mx_zret) from sn_164 20) (fun _ _ => zr_ok (by omega)) (hP k3_0 (by omega))
    have c19 : ¬ (Z 56 11 = 0 ∧ Z 56 9 = x0) → mx_J (tB l D b0 ad Hb tau) mt_164 (d + 0) 19 [some (.ref 56), some (xI x0)] [] h Post := by
      intro f5_0
      refine JcI (z := 0) (show mx_Sn _ _ 19 (mx_const (.int 0) 20) from sn_164 19) rfl ?_
      exact c20 0 (by omega) (by omega)
    refine Jif_ne (show mx_Sn _ _ 4 (mx_if_ne 19 7) from sn_164 4) (by omega) (fun q6 => ?_) (fun q6 => ?_)
    · skip
      exact c19 (by omega)
    · skip
      refine mx_J.step (sn_164 7) (fun _ _ => rfl) ?_
      have b8 : 0 ≤ Z 56 9 ∧ Z 56 9 ≤ 100 := hG.pr 56 9
      refine JgetI (g := 9) (z := Z 56 9) hx (show mx_Sn _ _ 8 (mx_getf 12 9 11) from sn_164 8) a56 s56 rfl rfl rfl ?_
      refine mx_J.step (sn_164 11) (fun _ _ => rfl) ?_
      refine Jicmp_ne (show mx_Sn _ _ 12 (mx_icmp_ne 19 15) from sn_164 12) (by omega) (by omega) (fun q9 => ?_) (fun q9 => ?_)
      · skip
        exact c19 (by omega)
      · skip
        refine JcI (z := 1) (show mx_Sn _ _ 15 (mx_const (.int 1) 16) from sn_164 15) rfl ?_
        refine mx_J.step (sn_164 16) (fun _ _ => rfl) ?_
        exact c20 1 (by omega) (by omega)
theorem ct_164_56 {l : Launch} {D : va_G} {b0 : Nat} {ad : Nat → Nat} {Hb : Heap} {tau : Nat → Int64} {d n s : Nat} {S : Nat → xS} {Z : xZ} {h : mx_H} (hx : XH n s S Z h) (hG : GI n S Z)  {x0 : Int} (p0 : 0 ≤ x0 ∧ x0 ≤ 100) : ∃ z : Int, mx_Ca (tB l D b0 ad Hb tau) (d + 1) 164 [.ref 56, xI x0] h (some (xI z), h) ∧ (0 ≤ z ∧ z ≤ 1 ∧ ((z = 1 ∧ Z 56 11 = 0 ∧ Z 56 9 = x0) ∨ (z = 0 ∧ ¬ (Z 56 11 = 0 ∧ Z 56 9 = x0)))) := by
  obtain ⟨r, hca, z, e, hp⟩ := Jmt (B := tB l D b0 ad Hb tau) (M := mt_164) (mi := 164) (as := [.ref 56, xI x0]) (d := d + 0) (ls := [some (.ref 56), some (xI x0)]) rfl rfl rfl rfl rfl rfl (cw_164_56 (l := l) (D := D) (b0 := b0) (ad := ad) (Hb := Hb) (tau := tau) (d := d) (Post := fun r => ∃ z : Int, r = (some (xI z), h) ∧ (0 ≤ z ∧ z ≤ 1 ∧ ((z = 1 ∧ Z 56 11 = 0 ∧ Z 56 9 = x0) ∨ (z = 0 ∧ ¬ (Z 56 11 = 0 ∧ Z 56 9 = x0))))) hx hG p0 (fun z hz => ⟨z, rfl, hz⟩))
  subst e; exact ⟨z, hca, hp⟩
set_option maxRecDepth 100000 in
theorem cw_165_56 {l : Launch} {D : va_G} {b0 : Nat} {ad : Nat → Nat} {Hb : Heap} {tau : Nat → Int64} {d n s : Nat} {S : Nat → xS} {Z : xZ} {h : mx_H} {Post : mx_R → Prop} {g0 : Int} {T : Int → Int} {N : Int} {sg : SS} (hx : XH n s S Z h) (hG : GI n S Z)  {x0 : Int} (p0 : 0 ≤ x0 ∧ x0 ≤ 100) (k0 : (Z 56 6 ≤ Z 56 7 ∧ Z 56 7 ≤ Z 56 8 ∧ (Z 56 9 = 24 ∨ Z 56 6 < Z 56 7))) (k1 : ¬ x0 = 24) (hr : RM g0 T N Z sg) (hP : ∀ (z : Int) (Z' : xZ) (h' : mx_H), XH n s S Z' h' → GI n S Z' → fr' [(56, 6), (56, 7), (56, 9), (56, 10)] Z Z' → RM g0 T N Z' (gEt T N x0 sg) ∧ 0 ≤ z ∧ z ≤ 1 ∧ ((Z' 56 6 ≤ Z' 56 7 ∧ Z' 56 7 ≤ Z 56 8 ∧ (Z' 56 9 = 24 ∨ Z' 56 6 < Z' 56 7)) ∧ Z 56 6 ≤ Z' 56 6 ∧ (z = 1 → Z 56 11 = 0 ∧ Z 56 9 = x0 ∧ Z 56 6 + 1 ≤ Z' 56 6) ∧ (z = 0 → Z' 56 6 = Z 56 6 ∧ ¬ (Z 56 11 = 0 ∧ Z 56 9 = x0))) → Post (some (xI z), h')) : mx_J (tB l D b0 ad Hb tau) mt_165 (d + 6) 0 [some (.ref 56), some (xI x0)] [] h Post := by
    have a56 : 56 < n := lt83 (GI_n hG) rfl
    have s56 : S 56 = .inl (12, [0, 2, 2, 2, 2, 0, 0, 0, 0, 0, 0, 0, 0, 0, 0, 2, 2, 2, 0, 2, 2, 2, 0, 0, 2, 2, 2, 2, 2, 2, 0, 0, 2, 2, 2, 2, 2, 2, 2, 2, 2, 2]) := GI_s hG 56 rfl
    refine mx_J.step (sn_165 0) (fun _ _ => rfl) ?_
    refine mx_J.step (sn_165 1) (fun _ _ => rfl) ?_
    have b2 : 0 ≤ Z 56 9 ∧ Z 56 9 ≤ 100 := hG.pr 56 9
    have b3 : 0 ≤ Z 56 11 ∧ Z 56 11 ≤ 4 := hG.pr 56 11
    obtain ⟨z1, hc1, b1⟩ := ct_164_56 (d := d + 5) (l := l) (D := D) (b0 := b0) (ad := ad) (Hb := Hb) (tau := tau) hx hG (show 0 ≤ x0 ∧ x0 ≤ 100 by omega)
    refine Jcv hx (show mx_Sn _ _ 2 (mx_callv 164 2 12 5) from sn_165 2) a56 s56 hc1 rfl rfl rfl ?_
    refine Jif_ne (show mx_Sn _ _ 5 (mx_if_ne 10 8) from sn_165 5) (by omega) (fun q4 => ?_) (fun q4 => ?_)
    · skip
      refine mx_J.step (sn_165 10) (fun _ _ => rfl) ?_
      have b6 : 0 ≤ Z 56 7 ∧ Z 56 7 ≤ 900 := hG.pr 56 7
      have b7 : 0 ≤ Z 56 8 ∧ Z 56 8 ≤ 900 := hG.pr 56 8
      obtain ⟨Z5, h5, hc5, hx5, hG5, hf5, b5⟩ := ct_162_56r (g0 := g0) (T := T) (N := N) (sg := sg) (d := d + 0) (l := l) (D := D) (b0 := b0) (ad := ad) (Hb := Hb) (tau := tau) hx hG  (show Z 56 7 ≤ Z 56 8 by omega) (show Z 56 11 = 0 by omega) hr
      obtain ⟨br5, b5⟩ := b5
      have b8 : 0 ≤ Z5 56 6 ∧ Z5 56 6 ≤ 900 := hG5.pr 56 6
      have b9 : 0 ≤ Z5 56 7 ∧ Z5 56 7 ≤ 900 := hG5.pr 56 7
      have b10 : 0 ≤ Z5 56 9 ∧ Z5 56 9 ≤ 100 := hG5.pr 56 9
      refine Jcv0 hx (show mx_Sn _ _ 11 (mx_callv 162 1 12 14) from sn_165 11) a56 s56 hc5 rfl rfl rfl ?_
      refine JcI (z := 1) (show mx_Sn _ _ 14 (mx_const (.int 1) 15) from sn_165 14) rfl ?_
      have eq11 : Z5 56 8 = Z 56 8 := (hf5 56 8 rfl)
      have eq12 : Z5 56 11 = Z 56 11 := (hf5 56 11 rfl)
      exact mx_J.ret (show mx_Sn _ _ 15 (mx_zret) from sn_165 15) (fun _ _ => zr_ok (by omega)) (hP 1 Z5 h5 hx5 hG5 (fr_tr (M := [(56, 6), (56, 7), (56, 9), (56, 10)]) fr_rf (hf5) (M1 := []) rfl rfl) ⟨(RM_e br5 (gEt_y ((RM_is hr).mp (by omega)))), by omega⟩)
    · skip
      refine JcI (z := 0) (show mx_Sn _ _ 8 (mx_const (.int 0) 9) from sn_165 8) rfl ?_
      have b13 : 0 ≤ Z 56 6 ∧ Z 56 6 ≤ 900 := hG.pr 56 6
      have b14 : 0 ≤ Z 56 7 ∧ Z 56 7 ≤ 900 := hG.pr 56 7
      have b15 : 0 ≤ Z 56 8 ∧ Z 56 8 ≤ 900 := hG.pr 56 8
      exact mx_J.ret (show mx_Sn _ _ 9 (mx_zret) from sn_165 9) (fun _ _ => zr_ok (by omega)) (hP 0 Z h hx hG fr_rf ⟨(RM_e hr (gEt_n (fun q => by have := (RM_is hr).mpr q; omega))), by omega⟩)
theorem ct_165_56 {l : Launch} {D : va_G} {b0 : Nat} {ad : Nat → Nat} {Hb : Heap} {tau : Nat → Int64} {d n s : Nat} {S : Nat → xS} {Z : xZ} {h : mx_H} {g0 : Int} {T : Int → Int} {N : Int} {sg : SS} (hx : XH n s S Z h) (hG : GI n S Z)  {x0 : Int} (p0 : 0 ≤ x0 ∧ x0 ≤ 100) (k0 : (Z 56 6 ≤ Z 56 7 ∧ Z 56 7 ≤ Z 56 8 ∧ (Z 56 9 = 24 ∨ Z 56 6 < Z 56 7))) (k1 : ¬ x0 = 24) (hr : RM g0 T N Z sg) : ∃ (z : Int) (Z' : xZ) (h' : mx_H), mx_Ca (tB l D b0 ad Hb tau) (d + 7) 165 [.ref 56, xI x0] h (some (xI z), h') ∧ XH n s S Z' h' ∧ GI n S Z' ∧ fr' [(56, 6), (56, 7), (56, 9), (56, 10)] Z Z' ∧ (RM g0 T N Z' (gEt T N x0 sg) ∧ 0 ≤ z ∧ z ≤ 1 ∧ ((Z' 56 6 ≤ Z' 56 7 ∧ Z' 56 7 ≤ Z 56 8 ∧ (Z' 56 9 = 24 ∨ Z' 56 6 < Z' 56 7)) ∧ Z 56 6 ≤ Z' 56 6 ∧ (z = 1 → Z 56 11 = 0 ∧ Z 56 9 = x0 ∧ Z 56 6 + 1 ≤ Z' 56 6) ∧ (z = 0 → Z' 56 6 = Z 56 6 ∧ ¬ (Z 56 11 = 0 ∧ Z 56 9 = x0)))) := by
  obtain ⟨r, hca, z, Z', h', e, q⟩ := Jmt (B := tB l D b0 ad Hb tau) (M := mt_165) (mi := 165) (as := [.ref 56, xI x0]) (d := d + 6) (ls := [some (.ref 56), some (xI x0)]) rfl rfl rfl rfl rfl rfl (cw_165_56 (l := l) (D := D) (b0 := b0) (ad := ad) (Hb := Hb) (tau := tau) (d := d) (Post := fun r => ∃ (z : Int) (Z' : xZ) (h' : mx_H), r = (some (xI z), h') ∧ XH n s S Z' h' ∧ GI n S Z' ∧ fr' [(56, 6), (56, 7), (56, 9), (56, 10)] Z Z' ∧ (RM g0 T N Z' (gEt T N x0 sg) ∧ 0 ≤ z ∧ z ≤ 1 ∧ ((Z' 56 6 ≤ Z' 56 7 ∧ Z' 56 7 ≤ Z 56 8 ∧ (Z' 56 9 = 24 ∨ Z' 56 6 < Z' 56 7)) ∧ Z 56 6 ≤ Z' 56 6 ∧ (z = 1 → Z 56 11 = 0 ∧ Z 56 9 = x0 ∧ Z 56 6 + 1 ≤ Z' 56 6) ∧ (z = 0 → Z' 56 6 = Z 56 6 ∧ ¬ (Z 56 11 = 0 ∧ Z 56 9 = x0))))) hx hG p0 k0 k1 hr (fun z Z' h' q1 q2 q3 q4 => ⟨z, Z', h', rfl, q1, q2, q3, q4⟩))
  subst e; exact ⟨z, Z', h', hca, q⟩
theorem ct_165_56x {l : Launch} {D : va_G} {b0 : Nat} {ad : Nat → Nat} {Hb : Heap} {tau : Nat → Int64} {T : Int → Int} {N : Int} {sg : SS} {d n s : Nat} {S : Nat → xS} {Z : xZ} {h : mx_H} (hx : XH n s S Z h) (hG : GI n S Z) {x0 : Int} (p0 : 0 ≤ x0 ∧ x0 ≤ 100) (k0 : (Z 56 6 ≤ Z 56 7 ∧ Z 56 7 ≤ Z 56 8 ∧ (Z 56 9 = 24 ∨ Z 56 6 < Z 56 7))) (k1 : ¬ x0 = 24) (hr : RMx T N Z sg) : ∃ (z : Int) (Z' : xZ) (h' : mx_H), mx_Ca (tB l D b0 ad Hb tau) (d + 7) 165 [.ref 56, xI x0] h (some (xI z), h') ∧ XH n s S Z' h' ∧ GI n S Z' ∧ fr' [(56, 6), (56, 7), (56, 9), (56, 10)] Z Z' ∧ (RMx T N Z' (gEt T N x0 sg) ∧ 0 ≤ z ∧ z ≤ 1 ∧ ((Z' 56 6 ≤ Z' 56 7 ∧ Z' 56 7 ≤ Z 56 8 ∧ (Z' 56 9 = 24 ∨ Z' 56 6 < Z' 56 7)) ∧ Z 56 6 ≤ Z' 56 6 ∧ (z = 1 → Z 56 11 = 0 ∧ Z 56 9 = x0 ∧ Z 56 6 + 1 ≤ Z' 56 6) ∧ (z = 0 → Z' 56 6 = Z 56 6 ∧ ¬ (Z 56 11 = 0 ∧ Z 56 9 = x0)))) := by
  obtain ⟨g, hg, hr⟩ := hr
  obtain ⟨z, Z', h', hca, q1, q2, q3, q5, q4⟩ := ct_165_56 (g0 := g) (T := T) (N := N) (sg := sg) (d := d) (l := l) (D := D) (b0 := b0) (ad := ad) (Hb := Hb) (tau := tau) hx hG p0 k0 k1 hr
  exact ⟨z, Z', h', hca, q1, q2, q3, ⟨g, hg, q5⟩, q4⟩
set_option maxRecDepth 100000 in
theorem cw_169_56_0 {l : Launch} {D : va_G} {b0 : Nat} {ad : Nat → Nat} {Hb : Heap} {tau : Nat → Int64} {d n s : Nat} {S : Nat → xS} {Z : xZ} {h : mx_H} {Post : mx_R → Prop} {a0 : Int} {g0 : Int} {T : Int → Int} {N : Int} {sg : SS} (hx : XH n s S Z h) (hG : GI n S Z)  {x0 : Int} (p0 : 0 ≤ x0 ∧ x0 ≤ 1004) (k0 : (Z 56 11 = 0 → Z 60 61 ≤ 899)) (k1 : a0 ≤ Z 60 61) (k2 : 0 ≤ a0) (k3 : 0 ≤ g0) (hr : RM g0 T N Z sg) (hP : ∀ (Z' : xZ) (h' : mx_H), XH n s S Z' h' → GI n S Z' → fr' [(60, (-1))] Z Z' → RM g0 T N Z' (gEm (x0) sg) ∧ QC Z Z' a0 1 0 ∧ (Z' 60 0 = Z 60 0 ∧ Z' 60 1 = Z 60 1 ∧ Z' 60 2 = Z 60 2 ∧ ((¬ Z 56 11 = 0 ∧ Z' 60 61 = Z 60 61) ∨ (Z 56 11 = 0 ∧ Z' 60 61 = Z 60 61 + 1))) → Post (none, h')) : mx_J (tB l D b0 ad Hb tau) mt_169 (d + 0) 0 [some (.ref 56), some (xI x0)] [] h Post := by
    have a56 : 56 < n := lt83 (GI_n hG) rfl
    have s56 : S 56 = .inl (12, [0, 2, 2, 2, 2, 0, 0, 0, 0, 0, 0, 0, 0, 0, 0, 2, 2, 2, 0, 2, 2, 2, 0, 0, 2, 2, 2, 2, 2, 2, 0, 0, 2, 2, 2, 2, 2, 2, 2, 2, 2, 2]) := GI_s hG 56 rfl
    have a60 : 60 < n := lt83 (GI_n hG) rfl
    have s60 : S 60 = .inr (.int, 962, 0) := GI_s hG 60 rfl
    refine mx_J.step (sn_169 0) (fun _ _ => rfl) ?_
    have b2 : 0 ≤ Z 56 11 ∧ Z 56 11 ≤ 4 := hG.pr 56 11
    refine JgetI (g := 11) (z := Z 56 11) hx (show mx_Sn _ _ 1 (mx_getf 12 11 4) from sn_169 1) a56 s56 rfl rfl rfl ?_
    refine Jif_eq (show mx_Sn _ _ 4 (mx_if_eq 8 7) from sn_169 4) (by omega) (fun q3 => ?_) (fun q3 => ?_)
    · skip
      refine mx_J.step (sn_169 8) (fun _ _ => rfl) ?_
      refine JgetR (g := 4) (b := 60) hx (show mx_Sn _ _ 9 (mx_getf 12 4 12) from sn_169 9) a56 s56 rfl rfl (hG.prr 56 4 rfl) ?_
      refine JcI (z := 62) (show mx_Sn _ _ 12 (mx_const (.int 62) 14) from sn_169 12) rfl ?_
      refine mx_J.step (sn_169 14) (fun _ _ => rfl) ?_
      refine JgetR (g := 4) (b := 60) hx (show mx_Sn _ _ 15 (mx_getf 12 4 18) from sn_169 15) a56 s56 rfl rfl (hG.prr 56 4 rfl) ?_
      refine JcI (z := 61) (show mx_Sn _ _ 18 (mx_const (.int 61) 20) from sn_169 18) rfl ?_
      have b6 : 0 ≤ Z 60 61 ∧ Z 60 61 ≤ 900 := by have hq := GI_ex hG 60 61; replace hq : f60 (61 % 962) (Z 60 61) := hq; unfold f60 at hq; omega
      have b7 : (-2147483648) ≤ Z 60 61 ∧ Z 60 61 ≤ 2147483647 := hG.pr 60 61
      refine JialdI (z := Z 60 61) hx (show mx_Sn _ _ 20 (mx_iald 21) from sn_169 20) a60 s60 (by omega) rfl ?_
      refine Jiadd (show mx_Sn _ _ 21 (mx_iadd 22) from sn_169 21) ?_
      refine mx_J.step (sn_169 22) (fun _ _ => rfl) ?_
      refine JiastI hx (show mx_Sn _ _ 23 (mx_iast 1 24) from sn_169 23) a60 s60 rfl (by omega) (fun Z8 h8 hx8 hE8 => ?_)
      have hG8 := GI_up hG hE8 (show (-2147483648) ≤ x0 ∧ x0 ≤ 2147483647 by omega) (show f60 ((62 + (Z 60 61)) % 962) (x0) by first | (rw [Int.emod_eq_of_lt (by omega) (by omega)]; unfold f60; omega) | assumption | (unfold f60; omega) | (unfold f60 at *; omega)) rfl
      refine mx_J.step (sn_169 24) (fun _ _ => rfl) ?_
      refine JgetR (g := 4) (b := 60) hx8 (show mx_Sn _ _ 25 (mx_getf 12 4 28) from sn_169 25) a56 s56 rfl rfl (hG8.prr 56 4 rfl) ?_
      refine JcI (z := 61) (show mx_Sn _ _ 28 (mx_const (.int 61) 30) from sn_169 28) rfl ?_
      refine mx_J.step (sn_169 30) (fun _ _ => rfl) ?_
      refine JialdI (z := Z 60 61) hx8 (show mx_Sn _ _ 31 (mx_iald 32) from sn_169 31) a60 s60 (by omega) (up_ni hE8 (by omega)) ?_
      refine JcI (z := 1) (show mx_Sn _ _ 32 (mx_const (.int 1) 33) from sn_169 32) rfl ?_
      refine Jiadd (show mx_Sn _ _ 33 (mx_iadd 34) from sn_169 33) ?_
      refine JiastI hx8 (show mx_Sn _ _ 34 (mx_iast 1 35) from sn_169 34) a60 s60 rfl (by omega) (fun Z10 h10 hx10 hE10 => ?_)
      have hG10 := GI_up hG8 hE10 (show (-2147483648) ≤ (Z 60 61) + 1 ∧ (Z 60 61) + 1 ≤ 2147483647 by omega) (show f60 ((61) % 962) ((Z 60 61) + 1) by first | assumption | (unfold f60; omega) | (unfold f60 at *; omega)) rfl
      have rc11 : RM g0 T N Z10 (gEm (x0) sg) := RM_e (RM_em hr ⟨((up_nk hE10 rfl).trans (up_nk hE8 rfl)), ((up_nk hE10 rfl).trans (up_nk hE8 rfl)), ((up_nk hE10 rfl).trans (up_nk hE8 rfl)), ((up_nk hE10 rfl).trans (up_nk hE8 rfl)), ((up_nk hE10 rfl).trans (up_nk hE8 rfl)), ((up_nk hE10 rfl).trans (up_nk hE8 rfl)), ((up_nk hE10 rfl).trans (up_nk hE8 rfl)), fun i => ((up_nk hE10 rfl).trans (up_nk hE8 rfl))⟩ (by omega) (up_at hE10) ((up_ni hE10 (by omega)).trans (up_at hE8)) (fun i h6 hi => (up_ni hE10 (by omega)).trans (up_ni hE8 hi)) (by omega)) (congrArg (fun w => gEm w sg) (um_a (by omega)))
      have c1 := cd_dp (a := a0) hE8 hE10 (by omega) (by omega)
      have dv := dl_e x0
      have c2 : MW Z a0 = 1 → nd x0 ≤ DP Z a0 → MW Z10 a0 = 1 := fun h1 h2 => cd_mw hE8 hE10 h1 (by unfold okc; omega) h2
      have c3 : WFF Z = 1 → WFF Z10 = 1 := cd_wf hE8 hE10 (by omega)
      have eq12 : Z10 60 61 = (Z 60 61) + 1 := (up_at hE10)
      have eq13 : Z10 60 0 = Z 60 0 := ((up_ni hE10 (by decide)).trans (up_ni hE8 (by omega)))
      have b14 : (-2147483648) ≤ Z 60 0 ∧ Z 60 0 ≤ 2147483647 := hG.pr 60 0
      have eq15 : Z10 60 1 = Z 60 1 := ((up_ni hE10 (by decide)).trans (up_ni hE8 (by omega)))
      have b16 : 0 ≤ Z 60 1 ∧ Z 60 1 ≤ 18 := by have hq := GI_ex hG 60 1; replace hq : f60 (1 % 962) (Z 60 1) := hq; unfold f60 at hq; omega
      have b17 : (-2147483648) ≤ Z 60 1 ∧ Z 60 1 ≤ 2147483647 := hG.pr 60 1
      have eq18 : Z10 60 2 = Z 60 2 := ((up_ni hE10 (by decide)).trans (up_ni hE8 (by omega)))
      have b19 : 0 ≤ Z 60 2 ∧ Z 60 2 ≤ 18 := by have hq := GI_ex hG 60 2; replace hq : f60 (2 % 962) (Z 60 2) := hq; unfold f60 at hq; omega
      have b20 : (-2147483648) ≤ Z 60 2 ∧ Z 60 2 ≤ 2147483647 := hG.pr 60 2
      have eq21 : Z10 56 8 = Z 56 8 := ((up_nk hE10 rfl).trans (up_nk hE8 rfl))
      have b22 : 0 ≤ Z 56 8 ∧ Z 56 8 ≤ 900 := hG.pr 56 8
      have eq23 : Z10 56 11 = Z 56 11 := ((up_nk hE10 rfl).trans (up_nk hE8 rfl))
      have eq24 : Z10 60 61 = (Z 60 61) + 1 := (up_at hE10)
      have eq25 : Z10 60 0 = Z 60 0 := ((up_ni hE10 (by decide)).trans (up_ni hE8 (by omega)))
      have eq26 : Z10 60 1 = Z 60 1 := ((up_ni hE10 (by decide)).trans (up_ni hE8 (by omega)))
      have eq27 : Z10 60 2 = Z 60 2 := ((up_ni hE10 (by decide)).trans (up_ni hE8 (by omega)))
      exact mx_J.ret (sn_169 35) (fun _ _ => rfl) (hP Z10 h10 hx10 hG10 (fr_tr (M := [(60, (-1))]) (fr_tr (M := [(60, (-1))]) fr_rf (fr_ua hE8) (M1 := []) rfl rfl) (fr_ua hE10) rfl rfl) ⟨rc11, fun e => ⟨by omega, fun h1 h2 => c2 h1 (by omega), c3⟩, by omega⟩)
    · skip
      have b28 : 0 ≤ Z 60 61 ∧ Z 60 61 ≤ 900 := by have hq := GI_ex hG 60 61; replace hq : f60 (61 % 962) (Z 60 61) := hq; unfold f60 at hq; omega
      have b29 : (-2147483648) ≤ Z 60 61 ∧ Z 60 61 ≤ 2147483647 := hG.pr 60 61
      have b30 : (-2147483648) ≤ Z 60 0 ∧ Z 60 0 ≤ 2147483647 := hG.pr 60 0
      have b31 : 0 ≤ Z 60 1 ∧ Z 60 1 ≤ 18 := by have hq := GI_ex hG 60 1; replace hq : f60 (1 % 962) (Z 60 1) := hq; unfold f60 at hq; omega
      have b32 : (-2147483648) ≤ Z 60 1 ∧ Z 60 1 ≤ 2147483647 := hG.pr 60 1
      have b33 : 0 ≤ Z 60 2 ∧ Z 60 2 ≤ 18 := by have hq := GI_ex hG 60 2; replace hq : f60 (2 % 962) (Z 60 2) := hq; unfold f60 at hq; omega
      have b34 : (-2147483648) ≤ Z 60 2 ∧ Z 60 2 ≤ 2147483647 := hG.pr 60 2
      have b35 : 0 ≤ Z 56 8 ∧ Z 56 8 ≤ 900 := hG.pr 56 8
      exact mx_J.ret (sn_169 7) (fun _ _ => rfl) (hP Z h hx hG fr_rf ⟨(RM_e hr (RM_emx hr (by omega))), fun e => absurd e (by omega), by omega⟩)
theorem ct_169_56_0 {l : Launch} {D : va_G} {b0 : Nat} {ad : Nat → Nat} {Hb : Heap} {tau : Nat → Int64} {d n s : Nat} {S : Nat → xS} {Z : xZ} {h : mx_H} {a0 : Int} {g0 : Int} {T : Int → Int} {N : Int} {sg : SS} (hx : XH n s S Z h) (hG : GI n S Z)  {x0 : Int} (p0 : 0 ≤ x0 ∧ x0 ≤ 1004) (k0 : (Z 56 11 = 0 → Z 60 61 ≤ 899)) (k1 : a0 ≤ Z 60 61) (k2 : 0 ≤ a0) (k3 : 0 ≤ g0) (hr : RM g0 T N Z sg) : ∃ (Z' : xZ) (h' : mx_H), mx_Ca (tB l D b0 ad Hb tau) (d + 1) 169 [.ref 56, xI x0] h (none, h') ∧ XH n s S Z' h' ∧ GI n S Z' ∧ fr' [(60, (-1))] Z Z' ∧ (RM g0 T N Z' (gEm (x0) sg) ∧ QC Z Z' a0 1 0 ∧ (Z' 60 0 = Z 60 0 ∧ Z' 60 1 = Z 60 1 ∧ Z' 60 2 = Z 60 2 ∧ ((¬ Z 56 11 = 0 ∧ Z' 60 61 = Z 60 61) ∨ (Z 56 11 = 0 ∧ Z' 60 61 = Z 60 61 + 1)))) := by
  obtain ⟨r, hca, Z', h', e, q⟩ := Jmt (B := tB l D b0 ad Hb tau) (M := mt_169) (mi := 169) (as := [.ref 56, xI x0]) (d := d + 0) (ls := [some (.ref 56), some (xI x0)]) rfl rfl rfl rfl rfl rfl (cw_169_56_0 (l := l) (D := D) (b0 := b0) (ad := ad) (Hb := Hb) (tau := tau) (d := d) (Post := fun r => ∃ (Z' : xZ) (h' : mx_H), r = (none, h') ∧ XH n s S Z' h' ∧ GI n S Z' ∧ fr' [(60, (-1))] Z Z' ∧ (RM g0 T N Z' (gEm (x0) sg) ∧ QC Z Z' a0 1 0 ∧ (Z' 60 0 = Z 60 0 ∧ Z' 60 1 = Z 60 1 ∧ Z' 60 2 = Z 60 2 ∧ ((¬ Z 56 11 = 0 ∧ Z' 60 61 = Z 60 61) ∨ (Z 56 11 = 0 ∧ Z' 60 61 = Z 60 61 + 1))))) hx hG p0 k0 k1 k2 k3 hr (fun Z' h' q1 q2 q3 q4 => ⟨Z', h', rfl, q1, q2, q3, q4⟩))
  subst e; exact ⟨Z', h', hca, q⟩
set_option maxRecDepth 100000 in
theorem cw_169_56_3002 {l : Launch} {D : va_G} {b0 : Nat} {ad : Nat → Nat} {Hb : Heap} {tau : Nat → Int64} {d n s : Nat} {S : Nat → xS} {Z : xZ} {h : mx_H} {Post : mx_R → Prop} {a0 : Int} {g0 : Int} {T : Int → Int} {N : Int} {sg : SS} (hx : XH n s S Z h) (hG : GI n S Z)   (k0 : (Z 56 11 = 0 → Z 60 61 ≤ 899)) (k1 : a0 ≤ Z 60 61) (k2 : 0 ≤ a0) (k3 : 0 ≤ g0) (hr : RM g0 T N Z sg) (hP : ∀ (Z' : xZ) (h' : mx_H), XH n s S Z' h' → GI n S Z' → fr' [(60, (-1))] Z Z' → RM g0 T N Z' (gEm (1012) sg) ∧ QC Z Z' a0 (-1) 2 ∧ (Z' 60 0 = Z 60 0 ∧ Z' 60 1 = Z 60 1 ∧ Z' 60 2 = Z 60 2 ∧ ((¬ Z 56 11 = 0 ∧ Z' 60 61 = Z 60 61) ∨ (Z 56 11 = 0 ∧ Z' 60 61 = Z 60 61 + 1))) → Post (none, h')) : mx_J (tB l D b0 ad Hb tau) mt_169 (d + 0) 0 [some (.ref 56), some (xI 3002)] [] h Post := by
    have a56 : 56 < n := lt83 (GI_n hG) rfl
    have s56 : S 56 = .inl (12, [0, 2, 2, 2, 2, 0, 0, 0, 0, 0, 0, 0, 0, 0, 0, 2, 2, 2, 0, 2, 2, 2, 0, 0, 2, 2, 2, 2, 2, 2, 0, 0, 2, 2, 2, 2, 2, 2, 2, 2, 2, 2]) := GI_s hG 56 rfl
    have a60 : 60 < n := lt83 (GI_n hG) rfl
    have s60 : S 60 = .inr (.int, 962, 0) := GI_s hG 60 rfl
    refine mx_J.step (sn_169 0) (fun _ _ => rfl) ?_
    have b2 : 0 ≤ Z 56 11 ∧ Z 56 11 ≤ 4 := hG.pr 56 11
    refine JgetI (g := 11) (z := Z 56 11) hx (show mx_Sn _ _ 1 (mx_getf 12 11 4) from sn_169 1) a56 s56 rfl rfl rfl ?_
    refine Jif_eq (show mx_Sn _ _ 4 (mx_if_eq 8 7) from sn_169 4) (by omega) (fun q3 => ?_) (fun q3 => ?_)
    · skip
      refine mx_J.step (sn_169 8) (fun _ _ => rfl) ?_
      refine JgetR (g := 4) (b := 60) hx (show mx_Sn _ _ 9 (mx_getf 12 4 12) from sn_169 9) a56 s56 rfl rfl (hG.prr 56 4 rfl) ?_
      refine JcI (z := 62) (show mx_Sn _ _ 12 (mx_const (.int 62) 14) from sn_169 12) rfl ?_
      refine mx_J.step (sn_169 14) (fun _ _ => rfl) ?_
      refine JgetR (g := 4) (b := 60) hx (show mx_Sn _ _ 15 (mx_getf 12 4 18) from sn_169 15) a56 s56 rfl rfl (hG.prr 56 4 rfl) ?_
      refine JcI (z := 61) (show mx_Sn _ _ 18 (mx_const (.int 61) 20) from sn_169 18) rfl ?_
      have b6 : 0 ≤ Z 60 61 ∧ Z 60 61 ≤ 900 := by have hq := GI_ex hG 60 61; replace hq : f60 (61 % 962) (Z 60 61) := hq; unfold f60 at hq; omega
      have b7 : (-2147483648) ≤ Z 60 61 ∧ Z 60 61 ≤ 2147483647 := hG.pr 60 61
      refine JialdI (z := Z 60 61) hx (show mx_Sn _ _ 20 (mx_iald 21) from sn_169 20) a60 s60 (by omega) rfl ?_
      refine Jiadd (show mx_Sn _ _ 21 (mx_iadd 22) from sn_169 21) ?_
      refine mx_J.step (sn_169 22) (fun _ _ => rfl) ?_
      refine JiastI hx (show mx_Sn _ _ 23 (mx_iast 1 24) from sn_169 23) a60 s60 rfl (by omega) (fun Z8 h8 hx8 hE8 => ?_)
      have hG8 := GI_up hG hE8 (show (-2147483648) ≤ 3002 ∧ 3002 ≤ 2147483647 by omega) (show f60 ((62 + (Z 60 61)) % 962) (3002) by first | (rw [Int.emod_eq_of_lt (by omega) (by omega)]; unfold f60; omega) | assumption | (unfold f60; omega) | (unfold f60 at *; omega)) rfl
      refine mx_J.step (sn_169 24) (fun _ _ => rfl) ?_
      refine JgetR (g := 4) (b := 60) hx8 (show mx_Sn _ _ 25 (mx_getf 12 4 28) from sn_169 25) a56 s56 rfl rfl (hG8.prr 56 4 rfl) ?_
      refine JcI (z := 61) (show mx_Sn _ _ 28 (mx_const (.int 61) 30) from sn_169 28) rfl ?_
      refine mx_J.step (sn_169 30) (fun _ _ => rfl) ?_
      refine JialdI (z := Z 60 61) hx8 (show mx_Sn _ _ 31 (mx_iald 32) from sn_169 31) a60 s60 (by omega) (up_ni hE8 (by omega)) ?_
      refine JcI (z := 1) (show mx_Sn _ _ 32 (mx_const (.int 1) 33) from sn_169 32) rfl ?_
      refine Jiadd (show mx_Sn _ _ 33 (mx_iadd 34) from sn_169 33) ?_
      refine JiastI hx8 (show mx_Sn _ _ 34 (mx_iast 1 35) from sn_169 34) a60 s60 rfl (by omega) (fun Z10 h10 hx10 hE10 => ?_)
      have hG10 := GI_up hG8 hE10 (show (-2147483648) ≤ (Z 60 61) + 1 ∧ (Z 60 61) + 1 ≤ 2147483647 by omega) (show f60 ((61) % 962) ((Z 60 61) + 1) by first | assumption | (unfold f60; omega) | (unfold f60 at *; omega)) rfl
      have rc11 : RM g0 T N Z10 (gEm (1012) sg) := RM_e (RM_em hr ⟨((up_nk hE10 rfl).trans (up_nk hE8 rfl)), ((up_nk hE10 rfl).trans (up_nk hE8 rfl)), ((up_nk hE10 rfl).trans (up_nk hE8 rfl)), ((up_nk hE10 rfl).trans (up_nk hE8 rfl)), ((up_nk hE10 rfl).trans (up_nk hE8 rfl)), ((up_nk hE10 rfl).trans (up_nk hE8 rfl)), ((up_nk hE10 rfl).trans (up_nk hE8 rfl)), fun i => ((up_nk hE10 rfl).trans (up_nk hE8 rfl))⟩ (by omega) (up_at hE10) ((up_ni hE10 (by omega)).trans (up_at hE8)) (fun i h6 hi => (up_ni hE10 (by omega)).trans (up_ni hE8 hi)) (by omega)) (congrArg (fun w => gEm w sg) (um_l.1))
      have c1 := cd_dp (a := a0) hE8 hE10 (by omega) (by omega)
      have dv := dl_e 3002
      have c2 : MW Z a0 = 1 → nd 3002 ≤ DP Z a0 → MW Z10 a0 = 1 := fun h1 h2 => cd_mw hE8 hE10 h1 (by unfold okc; omega) h2
      have c3 : WFF Z = 1 → WFF Z10 = 1 := cd_wf hE8 hE10 (by omega)
      have eq12 : Z10 60 61 = (Z 60 61) + 1 := (up_at hE10)
      have eq13 : Z10 60 0 = Z 60 0 := ((up_ni hE10 (by decide)).trans (up_ni hE8 (by omega)))
      have b14 : (-2147483648) ≤ Z 60 0 ∧ Z 60 0 ≤ 2147483647 := hG.pr 60 0
      have eq15 : Z10 60 1 = Z 60 1 := ((up_ni hE10 (by decide)).trans (up_ni hE8 (by omega)))
      have b16 : 0 ≤ Z 60 1 ∧ Z 60 1 ≤ 18 := by have hq := GI_ex hG 60 1; replace hq : f60 (1 % 962) (Z 60 1) := hq; unfold f60 at hq; omega
      have b17 : (-2147483648) ≤ Z 60 1 ∧ Z 60 1 ≤ 2147483647 := hG.pr 60 1
      have eq18 : Z10 60 2 = Z 60 2 := ((up_ni hE10 (by decide)).trans (up_ni hE8 (by omega)))
      have b19 : 0 ≤ Z 60 2 ∧ Z 60 2 ≤ 18 := by have hq := GI_ex hG 60 2; replace hq : f60 (2 % 962) (Z 60 2) := hq; unfold f60 at hq; omega
      have b20 : (-2147483648) ≤ Z 60 2 ∧ Z 60 2 ≤ 2147483647 := hG.pr 60 2
      have eq21 : Z10 56 8 = Z 56 8 := ((up_nk hE10 rfl).trans (up_nk hE8 rfl))
      have b22 : 0 ≤ Z 56 8 ∧ Z 56 8 ≤ 900 := hG.pr 56 8
      have eq23 : Z10 56 11 = Z 56 11 := ((up_nk hE10 rfl).trans (up_nk hE8 rfl))
      have eq24 : Z10 60 61 = (Z 60 61) + 1 := (up_at hE10)
      have eq25 : Z10 60 0 = Z 60 0 := ((up_ni hE10 (by decide)).trans (up_ni hE8 (by omega)))
      have eq26 : Z10 60 1 = Z 60 1 := ((up_ni hE10 (by decide)).trans (up_ni hE8 (by omega)))
      have eq27 : Z10 60 2 = Z 60 2 := ((up_ni hE10 (by decide)).trans (up_ni hE8 (by omega)))
      exact mx_J.ret (sn_169 35) (fun _ _ => rfl) (hP Z10 h10 hx10 hG10 (fr_tr (M := [(60, (-1))]) (fr_tr (M := [(60, (-1))]) fr_rf (fr_ua hE8) (M1 := []) rfl rfl) (fr_ua hE10) rfl rfl) ⟨rc11, fun e => ⟨by omega, fun h1 h2 => c2 h1 (by omega), c3⟩, by omega⟩)
    · skip
      have b28 : 0 ≤ Z 60 61 ∧ Z 60 61 ≤ 900 := by have hq := GI_ex hG 60 61; replace hq : f60 (61 % 962) (Z 60 61) := hq; unfold f60 at hq; omega
      have b29 : (-2147483648) ≤ Z 60 61 ∧ Z 60 61 ≤ 2147483647 := hG.pr 60 61
      have b30 : (-2147483648) ≤ Z 60 0 ∧ Z 60 0 ≤ 2147483647 := hG.pr 60 0
      have b31 : 0 ≤ Z 60 1 ∧ Z 60 1 ≤ 18 := by have hq := GI_ex hG 60 1; replace hq : f60 (1 % 962) (Z 60 1) := hq; unfold f60 at hq; omega
      have b32 : (-2147483648) ≤ Z 60 1 ∧ Z 60 1 ≤ 2147483647 := hG.pr 60 1
      have b33 : 0 ≤ Z 60 2 ∧ Z 60 2 ≤ 18 := by have hq := GI_ex hG 60 2; replace hq : f60 (2 % 962) (Z 60 2) := hq; unfold f60 at hq; omega
      have b34 : (-2147483648) ≤ Z 60 2 ∧ Z 60 2 ≤ 2147483647 := hG.pr 60 2
      have b35 : 0 ≤ Z 56 8 ∧ Z 56 8 ≤ 900 := hG.pr 56 8
      exact mx_J.ret (sn_169 7) (fun _ _ => rfl) (hP Z h hx hG fr_rf ⟨(RM_e hr (RM_emx hr (by omega))), fun e => absurd e (by omega), by omega⟩)
theorem ct_169_56_3002 {l : Launch} {D : va_G} {b0 : Nat} {ad : Nat → Nat} {Hb : Heap} {tau : Nat → Int64} {d n s : Nat} {S : Nat → xS} {Z : xZ} {h : mx_H} {a0 : Int} {g0 : Int} {T : Int → Int} {N : Int} {sg : SS} (hx : XH n s S Z h) (hG : GI n S Z)   (k0 : (Z 56 11 = 0 → Z 60 61 ≤ 899)) (k1 : a0 ≤ Z 60 61) (k2 : 0 ≤ a0) (k3 : 0 ≤ g0) (hr : RM g0 T N Z sg) : ∃ (Z' : xZ) (h' : mx_H), mx_Ca (tB l D b0 ad Hb tau) (d + 1) 169 [.ref 56, xI 3002] h (none, h') ∧ XH n s S Z' h' ∧ GI n S Z' ∧ fr' [(60, (-1))] Z Z' ∧ (RM g0 T N Z' (gEm (1012) sg) ∧ QC Z Z' a0 (-1) 2 ∧ (Z' 60 0 = Z 60 0 ∧ Z' 60 1 = Z 60 1 ∧ Z' 60 2 = Z 60 2 ∧ ((¬ Z 56 11 = 0 ∧ Z' 60 61 = Z 60 61) ∨ (Z 56 11 = 0 ∧ Z' 60 61 = Z 60 61 + 1)))) := by
  obtain ⟨r, hca, Z', h', e, q⟩ := Jmt (B := tB l D b0 ad Hb tau) (M := mt_169) (mi := 169) (as := [.ref 56, xI 3002]) (d := d + 0) (ls := [some (.ref 56), some (xI 3002)]) rfl rfl rfl rfl rfl rfl (cw_169_56_3002 (l := l) (D := D) (b0 := b0) (ad := ad) (Hb := Hb) (tau := tau) (d := d) (Post := fun r => ∃ (Z' : xZ) (h' : mx_H), r = (none, h') ∧ XH n s S Z' h' ∧ GI n S Z' ∧ fr' [(60, (-1))] Z Z' ∧ (RM g0 T N Z' (gEm (1012) sg) ∧ QC Z Z' a0 (-1) 2 ∧ (Z' 60 0 = Z 60 0 ∧ Z' 60 1 = Z 60 1 ∧ Z' 60 2 = Z 60 2 ∧ ((¬ Z 56 11 = 0 ∧ Z' 60 61 = Z 60 61) ∨ (Z 56 11 = 0 ∧ Z' 60 61 = Z 60 61 + 1))))) hx hG k0 k1 k2 k3 hr (fun Z' h' q1 q2 q3 q4 => ⟨Z', h', rfl, q1, q2, q3, q4⟩))
  subst e; exact ⟨Z', h', hca, q⟩
set_option maxRecDepth 100000 in
theorem cw_169_56_3006 {l : Launch} {D : va_G} {b0 : Nat} {ad : Nat → Nat} {Hb : Heap} {tau : Nat → Int64} {d n s : Nat} {S : Nat → xS} {Z : xZ} {h : mx_H} {Post : mx_R → Prop} {a0 : Int} {g0 : Int} {T : Int → Int} {N : Int} {sg : SS} (hx : XH n s S Z h) (hG : GI n S Z)   (k0 : (Z 56 11 = 0 → Z 60 61 ≤ 899)) (k1 : a0 ≤ Z 60 61) (k2 : 0 ≤ a0) (k3 : 0 ≤ g0) (hr : RM g0 T N Z sg) (hP : ∀ (Z' : xZ) (h' : mx_H), XH n s S Z' h' → GI n S Z' → fr' [(60, (-1))] Z Z' → RM g0 T N Z' (gEm (1018) sg) ∧ QC Z Z' a0 0 1 ∧ (Z' 60 0 = Z 60 0 ∧ Z' 60 1 = Z 60 1 ∧ Z' 60 2 = Z 60 2 ∧ ((¬ Z 56 11 = 0 ∧ Z' 60 61 = Z 60 61) ∨ (Z 56 11 = 0 ∧ Z' 60 61 = Z 60 61 + 1))) → Post (none, h')) : mx_J (tB l D b0 ad Hb tau) mt_169 (d + 0) 0 [some (.ref 56), some (xI 3006)] [] h Post := by
    have a56 : 56 < n := lt83 (GI_n hG) rfl
    have s56 : S 56 = .inl (12, [0, 2, 2, 2, 2, 0, 0, 0, 0, 0, 0, 0, 0, 0, 0, 2, 2, 2, 0, 2, 2, 2, 0, 0, 2, 2, 2, 2, 2, 2, 0, 0, 2, 2, 2, 2, 2, 2, 2, 2, 2, 2]) := GI_s hG 56 rfl
    have a60 : 60 < n := lt83 (GI_n hG) rfl
    have s60 : S 60 = .inr (.int, 962, 0) := GI_s hG 60 rfl
    refine mx_J.step (sn_169 0) (fun _ _ => rfl) ?_
    have b2 : 0 ≤ Z 56 11 ∧ Z 56 11 ≤ 4 := hG.pr 56 11
    refine JgetI (g := 11) (z := Z 56 11) hx (show mx_Sn _ _ 1 (mx_getf 12 11 4) from sn_169 1) a56 s56 rfl rfl rfl ?_
    refine Jif_eq (show mx_Sn _ _ 4 (mx_if_eq 8 7) from sn_169 4) (by omega) (fun q3 => ?_) (fun q3 => ?_)
    · skip
      refine mx_J.step (sn_169 8) (fun _ _ => rfl) ?_
      refine JgetR (g := 4) (b := 60) hx (show mx_Sn _ _ 9 (mx_getf 12 4 12) from sn_169 9) a56 s56 rfl rfl (hG.prr 56 4 rfl) ?_
      refine JcI (z := 62) (show mx_Sn _ _ 12 (mx_const (.int 62) 14) from sn_169 12) rfl ?_
      refine mx_J.step (sn_169 14) (fun _ _ => rfl) ?_
      refine JgetR (g := 4) (b := 60) hx (show mx_Sn _ _ 15 (mx_getf 12 4 18) from sn_169 15) a56 s56 rfl rfl (hG.prr 56 4 rfl) ?_
      refine JcI (z := 61) (show mx_Sn _ _ 18 (mx_const (.int 61) 20) from sn_169 18) rfl ?_
      have b6 : 0 ≤ Z 60 61 ∧ Z 60 61 ≤ 900 := by have hq := GI_ex hG 60 61; replace hq : f60 (61 % 962) (Z 60 61) := hq; unfold f60 at hq; omega
      have b7 : (-2147483648) ≤ Z 60 61 ∧ Z 60 61 ≤ 2147483647 := hG.pr 60 61
      refine JialdI (z := Z 60 61) hx (show mx_Sn _ _ 20 (mx_iald 21) from sn_169 20) a60 s60 (by omega) rfl ?_
      refine Jiadd (show mx_Sn _ _ 21 (mx_iadd 22) from sn_169 21) ?_
      refine mx_J.step (sn_169 22) (fun _ _ => rfl) ?_
      refine JiastI hx (show mx_Sn _ _ 23 (mx_iast 1 24) from sn_169 23) a60 s60 rfl (by omega) (fun Z8 h8 hx8 hE8 => ?_)
      have hG8 := GI_up hG hE8 (show (-2147483648) ≤ 3006 ∧ 3006 ≤ 2147483647 by omega) (show f60 ((62 + (Z 60 61)) % 962) (3006) by first | (rw [Int.emod_eq_of_lt (by omega) (by omega)]; unfold f60; omega) | assumption | (unfold f60; omega) | (unfold f60 at *; omega)) rfl
      refine mx_J.step (sn_169 24) (fun _ _ => rfl) ?_
      refine JgetR (g := 4) (b := 60) hx8 (show mx_Sn _ _ 25 (mx_getf 12 4 28) from sn_169 25) a56 s56 rfl rfl (hG8.prr 56 4 rfl) ?_
      refine JcI (z := 61) (show mx_Sn _ _ 28 (mx_const (.int 61) 30) from sn_169 28) rfl ?_
      refine mx_J.step (sn_169 30) (fun _ _ => rfl) ?_
      refine JialdI (z := Z 60 61) hx8 (show mx_Sn _ _ 31 (mx_iald 32) from sn_169 31) a60 s60 (by omega) (up_ni hE8 (by omega)) ?_
      refine JcI (z := 1) (show mx_Sn _ _ 32 (mx_const (.int 1) 33) from sn_169 32) rfl ?_
      refine Jiadd (show mx_Sn _ _ 33 (mx_iadd 34) from sn_169 33) ?_
      refine JiastI hx8 (show mx_Sn _ _ 34 (mx_iast 1 35) from sn_169 34) a60 s60 rfl (by omega) (fun Z10 h10 hx10 hE10 => ?_)
      have hG10 := GI_up hG8 hE10 (show (-2147483648) ≤ (Z 60 61) + 1 ∧ (Z 60 61) + 1 ≤ 2147483647 by omega) (show f60 ((61) % 962) ((Z 60 61) + 1) by first | assumption | (unfold f60; omega) | (unfold f60 at *; omega)) rfl
      have rc11 : RM g0 T N Z10 (gEm (1018) sg) := RM_e (RM_em hr ⟨((up_nk hE10 rfl).trans (up_nk hE8 rfl)), ((up_nk hE10 rfl).trans (up_nk hE8 rfl)), ((up_nk hE10 rfl).trans (up_nk hE8 rfl)), ((up_nk hE10 rfl).trans (up_nk hE8 rfl)), ((up_nk hE10 rfl).trans (up_nk hE8 rfl)), ((up_nk hE10 rfl).trans (up_nk hE8 rfl)), ((up_nk hE10 rfl).trans (up_nk hE8 rfl)), fun i => ((up_nk hE10 rfl).trans (up_nk hE8 rfl))⟩ (by omega) (up_at hE10) ((up_ni hE10 (by omega)).trans (up_at hE8)) (fun i h6 hi => (up_ni hE10 (by omega)).trans (up_ni hE8 hi)) (by omega)) (congrArg (fun w => gEm w sg) (um_l.2.1))
      have c1 := cd_dp (a := a0) hE8 hE10 (by omega) (by omega)
      have dv := dl_e 3006
      have c2 : MW Z a0 = 1 → nd 3006 ≤ DP Z a0 → MW Z10 a0 = 1 := fun h1 h2 => cd_mw hE8 hE10 h1 (by unfold okc; omega) h2
      have c3 : WFF Z = 1 → WFF Z10 = 1 := cd_wf hE8 hE10 (by omega)
      have eq12 : Z10 60 61 = (Z 60 61) + 1 := (up_at hE10)
      have eq13 : Z10 60 0 = Z 60 0 := ((up_ni hE10 (by decide)).trans (up_ni hE8 (by omega)))
      have b14 : (-2147483648) ≤ Z 60 0 ∧ Z 60 0 ≤ 2147483647 := hG.pr 60 0
      have eq15 : Z10 60 1 = Z 60 1 := ((up_ni hE10 (by decide)).trans (up_ni hE8 (by omega)))
      have b16 : 0 ≤ Z 60 1 ∧ Z 60 1 ≤ 18 := by have hq := GI_ex hG 60 1; replace hq : f60 (1 % 962) (Z 60 1) := hq; unfold f60 at hq; omega
      have b17 : (-2147483648) ≤ Z 60 1 ∧ Z 60 1 ≤ 2147483647 := hG.pr 60 1
      have eq18 : Z10 60 2 = Z 60 2 := ((up_ni hE10 (by decide)).trans (up_ni hE8 (by omega)))
      have b19 : 0 ≤ Z 60 2 ∧ Z 60 2 ≤ 18 := by have hq := GI_ex hG 60 2; replace hq : f60 (2 % 962) (Z 60 2) := hq; unfold f60 at hq; omega
      have b20 : (-2147483648) ≤ Z 60 2 ∧ Z 60 2 ≤ 2147483647 := hG.pr 60 2
      have eq21 : Z10 56 8 = Z 56 8 := ((up_nk hE10 rfl).trans (up_nk hE8 rfl))
      have b22 : 0 ≤ Z 56 8 ∧ Z 56 8 ≤ 900 := hG.pr 56 8
      have eq23 : Z10 56 11 = Z 56 11 := ((up_nk hE10 rfl).trans (up_nk hE8 rfl))
      have eq24 : Z10 60 61 = (Z 60 61) + 1 := (up_at hE10)
      have eq25 : Z10 60 0 = Z 60 0 := ((up_ni hE10 (by decide)).trans (up_ni hE8 (by omega)))
      have eq26 : Z10 60 1 = Z 60 1 := ((up_ni hE10 (by decide)).trans (up_ni hE8 (by omega)))
      have eq27 : Z10 60 2 = Z 60 2 := ((up_ni hE10 (by decide)).trans (up_ni hE8 (by omega)))
      exact mx_J.ret (sn_169 35) (fun _ _ => rfl) (hP Z10 h10 hx10 hG10 (fr_tr (M := [(60, (-1))]) (fr_tr (M := [(60, (-1))]) fr_rf (fr_ua hE8) (M1 := []) rfl rfl) (fr_ua hE10) rfl rfl) ⟨rc11, fun e => ⟨by omega, fun h1 h2 => c2 h1 (by omega), c3⟩, by omega⟩)
    · skip
      have b28 : 0 ≤ Z 60 61 ∧ Z 60 61 ≤ 900 := by have hq := GI_ex hG 60 61; replace hq : f60 (61 % 962) (Z 60 61) := hq; unfold f60 at hq; omega
      have b29 : (-2147483648) ≤ Z 60 61 ∧ Z 60 61 ≤ 2147483647 := hG.pr 60 61
      have b30 : (-2147483648) ≤ Z 60 0 ∧ Z 60 0 ≤ 2147483647 := hG.pr 60 0
      have b31 : 0 ≤ Z 60 1 ∧ Z 60 1 ≤ 18 := by have hq := GI_ex hG 60 1; replace hq : f60 (1 % 962) (Z 60 1) := hq; unfold f60 at hq; omega
      have b32 : (-2147483648) ≤ Z 60 1 ∧ Z 60 1 ≤ 2147483647 := hG.pr 60 1
      have b33 : 0 ≤ Z 60 2 ∧ Z 60 2 ≤ 18 := by have hq := GI_ex hG 60 2; replace hq : f60 (2 % 962) (Z 60 2) := hq; unfold f60 at hq; omega
      have b34 : (-2147483648) ≤ Z 60 2 ∧ Z 60 2 ≤ 2147483647 := hG.pr 60 2
      have b35 : 0 ≤ Z 56 8 ∧ Z 56 8 ≤ 900 := hG.pr 56 8
      exact mx_J.ret (sn_169 7) (fun _ _ => rfl) (hP Z h hx hG fr_rf ⟨(RM_e hr (RM_emx hr (by omega))), fun e => absurd e (by omega), by omega⟩)
theorem ct_169_56_3006 {l : Launch} {D : va_G} {b0 : Nat} {ad : Nat → Nat} {Hb : Heap} {tau : Nat → Int64} {d n s : Nat} {S : Nat → xS} {Z : xZ} {h : mx_H} {a0 : Int} {g0 : Int} {T : Int → Int} {N : Int} {sg : SS} (hx : XH n s S Z h) (hG : GI n S Z)   (k0 : (Z 56 11 = 0 → Z 60 61 ≤ 899)) (k1 : a0 ≤ Z 60 61) (k2 : 0 ≤ a0) (k3 : 0 ≤ g0) (hr : RM g0 T N Z sg) : ∃ (Z' : xZ) (h' : mx_H), mx_Ca (tB l D b0 ad Hb tau) (d + 1) 169 [.ref 56, xI 3006] h (none, h') ∧ XH n s S Z' h' ∧ GI n S Z' ∧ fr' [(60, (-1))] Z Z' ∧ (RM g0 T N Z' (gEm (1018) sg) ∧ QC Z Z' a0 0 1 ∧ (Z' 60 0 = Z 60 0 ∧ Z' 60 1 = Z 60 1 ∧ Z' 60 2 = Z 60 2 ∧ ((¬ Z 56 11 = 0 ∧ Z' 60 61 = Z 60 61) ∨ (Z 56 11 = 0 ∧ Z' 60 61 = Z 60 61 + 1)))) := by
  obtain ⟨r, hca, Z', h', e, q⟩ := Jmt (B := tB l D b0 ad Hb tau) (M := mt_169) (mi := 169) (as := [.ref 56, xI 3006]) (d := d + 0) (ls := [some (.ref 56), some (xI 3006)]) rfl rfl rfl rfl rfl rfl (cw_169_56_3006 (l := l) (D := D) (b0 := b0) (ad := ad) (Hb := Hb) (tau := tau) (d := d) (Post := fun r => ∃ (Z' : xZ) (h' : mx_H), r = (none, h') ∧ XH n s S Z' h' ∧ GI n S Z' ∧ fr' [(60, (-1))] Z Z' ∧ (RM g0 T N Z' (gEm (1018) sg) ∧ QC Z Z' a0 0 1 ∧ (Z' 60 0 = Z 60 0 ∧ Z' 60 1 = Z 60 1 ∧ Z' 60 2 = Z 60 2 ∧ ((¬ Z 56 11 = 0 ∧ Z' 60 61 = Z 60 61) ∨ (Z 56 11 = 0 ∧ Z' 60 61 = Z 60 61 + 1))))) hx hG k0 k1 k2 k3 hr (fun Z' h' q1 q2 q3 q4 => ⟨Z', h', rfl, q1, q2, q3, q4⟩))
  subst e; exact ⟨Z', h', hca, q⟩
set_option maxRecDepth 100000 in
theorem cw_169_56_3009 {l : Launch} {D : va_G} {b0 : Nat} {ad : Nat → Nat} {Hb : Heap} {tau : Nat → Int64} {d n s : Nat} {S : Nat → xS} {Z : xZ} {h : mx_H} {Post : mx_R → Prop} {a0 : Int} {g0 : Int} {T : Int → Int} {N : Int} {sg : SS} (hx : XH n s S Z h) (hG : GI n S Z)   (k0 : (Z 56 11 = 0 → Z 60 61 ≤ 899)) (k1 : a0 ≤ Z 60 61) (k2 : 0 ≤ a0) (k3 : 0 ≤ g0) (hr : RM g0 T N Z sg) (hP : ∀ (Z' : xZ) (h' : mx_H), XH n s S Z' h' → GI n S Z' → fr' [(60, (-1))] Z Z' → RM g0 T N Z' (gEm (1019) sg) ∧ QC Z Z' a0 (-2) 3 ∧ (Z' 60 0 = Z 60 0 ∧ Z' 60 1 = Z 60 1 ∧ Z' 60 2 = Z 60 2 ∧ ((¬ Z 56 11 = 0 ∧ Z' 60 61 = Z 60 61) ∨ (Z 56 11 = 0 ∧ Z' 60 61 = Z 60 61 + 1))) → Post (none, h')) : mx_J (tB l D b0 ad Hb tau) mt_169 (d + 0) 0 [some (.ref 56), some (xI 3009)] [] h Post := by
    have a56 : 56 < n := lt83 (GI_n hG) rfl
    have s56 : S 56 = .inl (12, [0, 2, 2, 2, 2, 0, 0, 0, 0, 0, 0, 0, 0, 0, 0, 2, 2, 2, 0, 2, 2, 2, 0, 0, 2, 2, 2, 2, 2, 2, 0, 0, 2, 2, 2, 2, 2, 2, 2, 2, 2, 2]) := GI_s hG 56 rfl
    have a60 : 60 < n := lt83 (GI_n hG) rfl
    have s60 : S 60 = .inr (.int, 962, 0) := GI_s hG 60 rfl
    refine mx_J.step (sn_169 0) (fun _ _ => rfl) ?_
    have b2 : 0 ≤ Z 56 11 ∧ Z 56 11 ≤ 4 := hG.pr 56 11
    refine JgetI (g := 11) (z := Z 56 11) hx (show mx_Sn _ _ 1 (mx_getf 12 11 4) from sn_169 1) a56 s56 rfl rfl rfl ?_
    refine Jif_eq (show mx_Sn _ _ 4 (mx_if_eq 8 7) from sn_169 4) (by omega) (fun q3 => ?_) (fun q3 => ?_)
    · skip
      refine mx_J.step (sn_169 8) (fun _ _ => rfl) ?_
      refine JgetR (g := 4) (b := 60) hx (show mx_Sn _ _ 9 (mx_getf 12 4 12) from sn_169 9) a56 s56 rfl rfl (hG.prr 56 4 rfl) ?_
      refine JcI (z := 62) (show mx_Sn _ _ 12 (mx_const (.int 62) 14) from sn_169 12) rfl ?_
      refine mx_J.step (sn_169 14) (fun _ _ => rfl) ?_
      refine JgetR (g := 4) (b := 60) hx (show mx_Sn _ _ 15 (mx_getf 12 4 18) from sn_169 15) a56 s56 rfl rfl (hG.prr 56 4 rfl) ?_
      refine JcI (z := 61) (show mx_Sn _ _ 18 (mx_const (.int 61) 20) from sn_169 18) rfl ?_
      have b6 : 0 ≤ Z 60 61 ∧ Z 60 61 ≤ 900 := by have hq := GI_ex hG 60 61; replace hq : f60 (61 % 962) (Z 60 61) := hq; unfold f60 at hq; omega
      have b7 : (-2147483648) ≤ Z 60 61 ∧ Z 60 61 ≤ 2147483647 := hG.pr 60 61
      refine JialdI (z := Z 60 61) hx (show mx_Sn _ _ 20 (mx_iald 21) from sn_169 20) a60 s60 (by omega) rfl ?_
      refine Jiadd (show mx_Sn _ _ 21 (mx_iadd 22) from sn_169 21) ?_
      refine mx_J.step (sn_169 22) (fun _ _ => rfl) ?_
      refine JiastI hx (show mx_Sn _ _ 23 (mx_iast 1 24) from sn_169 23) a60 s60 rfl (by omega) (fun Z8 h8 hx8 hE8 => ?_)
      have hG8 := GI_up hG hE8 (show (-2147483648) ≤ 3009 ∧ 3009 ≤ 2147483647 by omega) (show f60 ((62 + (Z 60 61)) % 962) (3009) by first | (rw [Int.emod_eq_of_lt (by omega) (by omega)]; unfold f60; omega) | assumption | (unfold f60; omega) | (unfold f60 at *; omega)) rfl
      refine mx_J.step (sn_169 24) (fun _ _ => rfl) ?_
      refine JgetR (g := 4) (b := 60) hx8 (show mx_Sn _ _ 25 (mx_getf 12 4 28) from sn_169 25) a56 s56 rfl rfl (hG8.prr 56 4 rfl) ?_
      refine JcI (z := 61) (show mx_Sn _ _ 28 (mx_const (.int 61) 30) from sn_169 28) rfl ?_
      refine mx_J.step (sn_169 30) (fun _ _ => rfl) ?_
      refine JialdI (z := Z 60 61) hx8 (show mx_Sn _ _ 31 (mx_iald 32) from sn_169 31) a60 s60 (by omega) (up_ni hE8 (by omega)) ?_
      refine JcI (z := 1) (show mx_Sn _ _ 32 (mx_const (.int 1) 33) from sn_169 32) rfl ?_
      refine Jiadd (show mx_Sn _ _ 33 (mx_iadd 34) from sn_169 33) ?_
      refine JiastI hx8 (show mx_Sn _ _ 34 (mx_iast 1 35) from sn_169 34) a60 s60 rfl (by omega) (fun Z10 h10 hx10 hE10 => ?_)
      have hG10 := GI_up hG8 hE10 (show (-2147483648) ≤ (Z 60 61) + 1 ∧ (Z 60 61) + 1 ≤ 2147483647 by omega) (show f60 ((61) % 962) ((Z 60 61) + 1) by first | assumption | (unfold f60; omega) | (unfold f60 at *; omega)) rfl
      have rc11 : RM g0 T N Z10 (gEm (1019) sg) := RM_e (RM_em hr ⟨((up_nk hE10 rfl).trans (up_nk hE8 rfl)), ((up_nk hE10 rfl).trans (up_nk hE8 rfl)), ((up_nk hE10 rfl).trans (up_nk hE8 rfl)), ((up_nk hE10 rfl).trans (up_nk hE8 rfl)), ((up_nk hE10 rfl).trans (up_nk hE8 rfl)), ((up_nk hE10 rfl).trans (up_nk hE8 rfl)), ((up_nk hE10 rfl).trans (up_nk hE8 rfl)), fun i => ((up_nk hE10 rfl).trans (up_nk hE8 rfl))⟩ (by omega) (up_at hE10) ((up_ni hE10 (by omega)).trans (up_at hE8)) (fun i h6 hi => (up_ni hE10 (by omega)).trans (up_ni hE8 hi)) (by omega)) (congrArg (fun w => gEm w sg) (um_l.2.2.2.2))
      have c1 := cd_dp (a := a0) hE8 hE10 (by omega) (by omega)
      have dv := dl_e 3009
      have c2 : MW Z a0 = 1 → nd 3009 ≤ DP Z a0 → MW Z10 a0 = 1 := fun h1 h2 => cd_mw hE8 hE10 h1 (by unfold okc; omega) h2
      have c3 : WFF Z = 1 → WFF Z10 = 1 := cd_wf hE8 hE10 (by omega)
      have eq12 : Z10 60 61 = (Z 60 61) + 1 := (up_at hE10)
      have eq13 : Z10 60 0 = Z 60 0 := ((up_ni hE10 (by decide)).trans (up_ni hE8 (by omega)))
      have b14 : (-2147483648) ≤ Z 60 0 ∧ Z 60 0 ≤ 2147483647 := hG.pr 60 0
      have eq15 : Z10 60 1 = Z 60 1 := ((up_ni hE10 (by decide)).trans (up_ni hE8 (by omega)))
      have b16 : 0 ≤ Z 60 1 ∧ Z 60 1 ≤ 18 := by have hq := GI_ex hG 60 1; replace hq : f60 (1 % 962) (Z 60 1) := hq; unfold f60 at hq; omega
      have b17 : (-2147483648) ≤ Z 60 1 ∧ Z 60 1 ≤ 2147483647 := hG.pr 60 1
      have eq18 : Z10 60 2 = Z 60 2 := ((up_ni hE10 (by decide)).trans (up_ni hE8 (by omega)))
      have b19 : 0 ≤ Z 60 2 ∧ Z 60 2 ≤ 18 := by have hq := GI_ex hG 60 2; replace hq : f60 (2 % 962) (Z 60 2) := hq; unfold f60 at hq; omega
      have b20 : (-2147483648) ≤ Z 60 2 ∧ Z 60 2 ≤ 2147483647 := hG.pr 60 2
      have eq21 : Z10 56 8 = Z 56 8 := ((up_nk hE10 rfl).trans (up_nk hE8 rfl))
      have b22 : 0 ≤ Z 56 8 ∧ Z 56 8 ≤ 900 := hG.pr 56 8
      have eq23 : Z10 56 11 = Z 56 11 := ((up_nk hE10 rfl).trans (up_nk hE8 rfl))
      have eq24 : Z10 60 61 = (Z 60 61) + 1 := (up_at hE10)
      have eq25 : Z10 60 0 = Z 60 0 := ((up_ni hE10 (by decide)).trans (up_ni hE8 (by omega)))
      have eq26 : Z10 60 1 = Z 60 1 := ((up_ni hE10 (by decide)).trans (up_ni hE8 (by omega)))
      have eq27 : Z10 60 2 = Z 60 2 := ((up_ni hE10 (by decide)).trans (up_ni hE8 (by omega)))
      exact mx_J.ret (sn_169 35) (fun _ _ => rfl) (hP Z10 h10 hx10 hG10 (fr_tr (M := [(60, (-1))]) (fr_tr (M := [(60, (-1))]) fr_rf (fr_ua hE8) (M1 := []) rfl rfl) (fr_ua hE10) rfl rfl) ⟨rc11, fun e => ⟨by omega, fun h1 h2 => c2 h1 (by omega), c3⟩, by omega⟩)
    · skip
      have b28 : 0 ≤ Z 60 61 ∧ Z 60 61 ≤ 900 := by have hq := GI_ex hG 60 61; replace hq : f60 (61 % 962) (Z 60 61) := hq; unfold f60 at hq; omega
      have b29 : (-2147483648) ≤ Z 60 61 ∧ Z 60 61 ≤ 2147483647 := hG.pr 60 61
      have b30 : (-2147483648) ≤ Z 60 0 ∧ Z 60 0 ≤ 2147483647 := hG.pr 60 0
      have b31 : 0 ≤ Z 60 1 ∧ Z 60 1 ≤ 18 := by have hq := GI_ex hG 60 1; replace hq : f60 (1 % 962) (Z 60 1) := hq; unfold f60 at hq; omega
      have b32 : (-2147483648) ≤ Z 60 1 ∧ Z 60 1 ≤ 2147483647 := hG.pr 60 1
      have b33 : 0 ≤ Z 60 2 ∧ Z 60 2 ≤ 18 := by have hq := GI_ex hG 60 2; replace hq : f60 (2 % 962) (Z 60 2) := hq; unfold f60 at hq; omega
      have b34 : (-2147483648) ≤ Z 60 2 ∧ Z 60 2 ≤ 2147483647 := hG.pr 60 2
      have b35 : 0 ≤ Z 56 8 ∧ Z 56 8 ≤ 900 := hG.pr 56 8
      exact mx_J.ret (sn_169 7) (fun _ _ => rfl) (hP Z h hx hG fr_rf ⟨(RM_e hr (RM_emx hr (by omega))), fun e => absurd e (by omega), by omega⟩)
theorem ct_169_56_3009 {l : Launch} {D : va_G} {b0 : Nat} {ad : Nat → Nat} {Hb : Heap} {tau : Nat → Int64} {d n s : Nat} {S : Nat → xS} {Z : xZ} {h : mx_H} {a0 : Int} {g0 : Int} {T : Int → Int} {N : Int} {sg : SS} (hx : XH n s S Z h) (hG : GI n S Z)   (k0 : (Z 56 11 = 0 → Z 60 61 ≤ 899)) (k1 : a0 ≤ Z 60 61) (k2 : 0 ≤ a0) (k3 : 0 ≤ g0) (hr : RM g0 T N Z sg) : ∃ (Z' : xZ) (h' : mx_H), mx_Ca (tB l D b0 ad Hb tau) (d + 1) 169 [.ref 56, xI 3009] h (none, h') ∧ XH n s S Z' h' ∧ GI n S Z' ∧ fr' [(60, (-1))] Z Z' ∧ (RM g0 T N Z' (gEm (1019) sg) ∧ QC Z Z' a0 (-2) 3 ∧ (Z' 60 0 = Z 60 0 ∧ Z' 60 1 = Z 60 1 ∧ Z' 60 2 = Z 60 2 ∧ ((¬ Z 56 11 = 0 ∧ Z' 60 61 = Z 60 61) ∨ (Z 56 11 = 0 ∧ Z' 60 61 = Z 60 61 + 1)))) := by
  obtain ⟨r, hca, Z', h', e, q⟩ := Jmt (B := tB l D b0 ad Hb tau) (M := mt_169) (mi := 169) (as := [.ref 56, xI 3009]) (d := d + 0) (ls := [some (.ref 56), some (xI 3009)]) rfl rfl rfl rfl rfl rfl (cw_169_56_3009 (l := l) (D := D) (b0 := b0) (ad := ad) (Hb := Hb) (tau := tau) (d := d) (Post := fun r => ∃ (Z' : xZ) (h' : mx_H), r = (none, h') ∧ XH n s S Z' h' ∧ GI n S Z' ∧ fr' [(60, (-1))] Z Z' ∧ (RM g0 T N Z' (gEm (1019) sg) ∧ QC Z Z' a0 (-2) 3 ∧ (Z' 60 0 = Z 60 0 ∧ Z' 60 1 = Z 60 1 ∧ Z' 60 2 = Z 60 2 ∧ ((¬ Z 56 11 = 0 ∧ Z' 60 61 = Z 60 61) ∨ (Z 56 11 = 0 ∧ Z' 60 61 = Z 60 61 + 1))))) hx hG k0 k1 k2 k3 hr (fun Z' h' q1 q2 q3 q4 => ⟨Z', h', rfl, q1, q2, q3, q4⟩))
  subst e; exact ⟨Z', h', hca, q⟩
set_option maxRecDepth 100000 in
theorem cw_169_56_3000 {l : Launch} {D : va_G} {b0 : Nat} {ad : Nat → Nat} {Hb : Heap} {tau : Nat → Int64} {d n s : Nat} {S : Nat → xS} {Z : xZ} {h : mx_H} {Post : mx_R → Prop} {a0 : Int} {g0 : Int} {T : Int → Int} {N : Int} {sg : SS} (hx : XH n s S Z h) (hG : GI n S Z)  {x0 : Int} (p0 : 3000 ≤ x0 ∧ x0 ≤ 3005) (k0 : (Z 56 11 = 0 → Z 60 61 ≤ 899)) (k1 : a0 ≤ Z 60 61) (k2 : 0 ≤ a0) (k3 : 0 ≤ g0) (hr : RM g0 T N Z sg) (hP : ∀ (Z' : xZ) (h' : mx_H), XH n s S Z' h' → GI n S Z' → fr' [(60, (-1))] Z Z' → RM g0 T N Z' (gEm (x0 - 1990) sg) ∧ QC Z Z' a0 (-1) 2 ∧ (Z' 60 0 = Z 60 0 ∧ Z' 60 1 = Z 60 1 ∧ Z' 60 2 = Z 60 2 ∧ ((¬ Z 56 11 = 0 ∧ Z' 60 61 = Z 60 61) ∨ (Z 56 11 = 0 ∧ Z' 60 61 = Z 60 61 + 1))) → Post (none, h')) : mx_J (tB l D b0 ad Hb tau) mt_169 (d + 0) 0 [some (.ref 56), some (xI x0)] [] h Post := by
    have a56 : 56 < n := lt83 (GI_n hG) rfl
    have s56 : S 56 = .inl (12, [0, 2, 2, 2, 2, 0, 0, 0, 0, 0, 0, 0, 0, 0, 0, 2, 2, 2, 0, 2, 2, 2, 0, 0, 2, 2, 2, 2, 2, 2, 0, 0, 2, 2, 2, 2, 2, 2, 2, 2, 2, 2]) := GI_s hG 56 rfl
    have a60 : 60 < n := lt83 (GI_n hG) rfl
    have s60 : S 60 = .inr (.int, 962, 0) := GI_s hG 60 rfl
    refine mx_J.step (sn_169 0) (fun _ _ => rfl) ?_
    have b2 : 0 ≤ Z 56 11 ∧ Z 56 11 ≤ 4 := hG.pr 56 11
    refine JgetI (g := 11) (z := Z 56 11) hx (show mx_Sn _ _ 1 (mx_getf 12 11 4) from sn_169 1) a56 s56 rfl rfl rfl ?_
    refine Jif_eq (show mx_Sn _ _ 4 (mx_if_eq 8 7) from sn_169 4) (by omega) (fun q3 => ?_) (fun q3 => ?_)
    · skip
      refine mx_J.step (sn_169 8) (fun _ _ => rfl) ?_
      refine JgetR (g := 4) (b := 60) hx (show mx_Sn _ _ 9 (mx_getf 12 4 12) from sn_169 9) a56 s56 rfl rfl (hG.prr 56 4 rfl) ?_
      refine JcI (z := 62) (show mx_Sn _ _ 12 (mx_const (.int 62) 14) from sn_169 12) rfl ?_
      refine mx_J.step (sn_169 14) (fun _ _ => rfl) ?_
      refine JgetR (g := 4) (b := 60) hx (show mx_Sn _ _ 15 (mx_getf 12 4 18) from sn_169 15) a56 s56 rfl rfl (hG.prr 56 4 rfl) ?_
      refine JcI (z := 61) (show mx_Sn _ _ 18 (mx_const (.int 61) 20) from sn_169 18) rfl ?_
      have b6 : 0 ≤ Z 60 61 ∧ Z 60 61 ≤ 900 := by have hq := GI_ex hG 60 61; replace hq : f60 (61 % 962) (Z 60 61) := hq; unfold f60 at hq; omega
      have b7 : (-2147483648) ≤ Z 60 61 ∧ Z 60 61 ≤ 2147483647 := hG.pr 60 61
      refine JialdI (z := Z 60 61) hx (show mx_Sn _ _ 20 (mx_iald 21) from sn_169 20) a60 s60 (by omega) rfl ?_
      refine Jiadd (show mx_Sn _ _ 21 (mx_iadd 22) from sn_169 21) ?_
      refine mx_J.step (sn_169 22) (fun _ _ => rfl) ?_
      refine JiastI hx (show mx_Sn _ _ 23 (mx_iast 1 24) from sn_169 23) a60 s60 rfl (by omega) (fun Z8 h8 hx8 hE8 => ?_)
      have hG8 := GI_up hG hE8 (show (-2147483648) ≤ x0 ∧ x0 ≤ 2147483647 by omega) (show f60 ((62 + (Z 60 61)) % 962) (x0) by first | (rw [Int.emod_eq_of_lt (by omega) (by omega)]; unfold f60; omega) | assumption | (unfold f60; omega) | (unfold f60 at *; omega)) rfl
      refine mx_J.step (sn_169 24) (fun _ _ => rfl) ?_
      refine JgetR (g := 4) (b := 60) hx8 (show mx_Sn _ _ 25 (mx_getf 12 4 28) from sn_169 25) a56 s56 rfl rfl (hG8.prr 56 4 rfl) ?_
      refine JcI (z := 61) (show mx_Sn _ _ 28 (mx_const (.int 61) 30) from sn_169 28) rfl ?_
      refine mx_J.step (sn_169 30) (fun _ _ => rfl) ?_
      refine JialdI (z := Z 60 61) hx8 (show mx_Sn _ _ 31 (mx_iald 32) from sn_169 31) a60 s60 (by omega) (up_ni hE8 (by omega)) ?_
      refine JcI (z := 1) (show mx_Sn _ _ 32 (mx_const (.int 1) 33) from sn_169 32) rfl ?_
      refine Jiadd (show mx_Sn _ _ 33 (mx_iadd 34) from sn_169 33) ?_
      refine JiastI hx8 (show mx_Sn _ _ 34 (mx_iast 1 35) from sn_169 34) a60 s60 rfl (by omega) (fun Z10 h10 hx10 hE10 => ?_)
      have hG10 := GI_up hG8 hE10 (show (-2147483648) ≤ (Z 60 61) + 1 ∧ (Z 60 61) + 1 ≤ 2147483647 by omega) (show f60 ((61) % 962) ((Z 60 61) + 1) by first | assumption | (unfold f60; omega) | (unfold f60 at *; omega)) rfl
      have rc11 : RM g0 T N Z10 (gEm (x0 - 1990) sg) := RM_e (RM_em hr ⟨((up_nk hE10 rfl).trans (up_nk hE8 rfl)), ((up_nk hE10 rfl).trans (up_nk hE8 rfl)), ((up_nk hE10 rfl).trans (up_nk hE8 rfl)), ((up_nk hE10 rfl).trans (up_nk hE8 rfl)), ((up_nk hE10 rfl).trans (up_nk hE8 rfl)), ((up_nk hE10 rfl).trans (up_nk hE8 rfl)), ((up_nk hE10 rfl).trans (up_nk hE8 rfl)), fun i => ((up_nk hE10 rfl).trans (up_nk hE8 rfl))⟩ (by omega) (up_at hE10) ((up_ni hE10 (by omega)).trans (up_at hE8)) (fun i h6 hi => (up_ni hE10 (by omega)).trans (up_ni hE8 hi)) (by omega)) (congrArg (fun w => gEm w sg) (um_b (by omega)))
      have c1 := cd_dp (a := a0) hE8 hE10 (by omega) (by omega)
      have dv := dl_e x0
      have c2 : MW Z a0 = 1 → nd x0 ≤ DP Z a0 → MW Z10 a0 = 1 := fun h1 h2 => cd_mw hE8 hE10 h1 (by unfold okc; omega) h2
      have c3 : WFF Z = 1 → WFF Z10 = 1 := cd_wf hE8 hE10 (by omega)
      have eq12 : Z10 60 61 = (Z 60 61) + 1 := (up_at hE10)
      have eq13 : Z10 60 0 = Z 60 0 := ((up_ni hE10 (by decide)).trans (up_ni hE8 (by omega)))
      have b14 : (-2147483648) ≤ Z 60 0 ∧ Z 60 0 ≤ 2147483647 := hG.pr 60 0
      have eq15 : Z10 60 1 = Z 60 1 := ((up_ni hE10 (by decide)).trans (up_ni hE8 (by omega)))
      have b16 : 0 ≤ Z 60 1 ∧ Z 60 1 ≤ 18 := by have hq := GI_ex hG 60 1; replace hq : f60 (1 % 962) (Z 60 1) := hq; unfold f60 at hq; omega
      have b17 : (-2147483648) ≤ Z 60 1 ∧ Z 60 1 ≤ 2147483647 := hG.pr 60 1
      have eq18 : Z10 60 2 = Z 60 2 := ((up_ni hE10 (by decide)).trans (up_ni hE8 (by omega)))
      have b19 : 0 ≤ Z 60 2 ∧ Z 60 2 ≤ 18 := by have hq := GI_ex hG 60 2; replace hq : f60 (2 % 962) (Z 60 2) := hq; unfold f60 at hq; omega
      have b20 : (-2147483648) ≤ Z 60 2 ∧ Z 60 2 ≤ 2147483647 := hG.pr 60 2
      have eq21 : Z10 56 8 = Z 56 8 := ((up_nk hE10 rfl).trans (up_nk hE8 rfl))
      have b22 : 0 ≤ Z 56 8 ∧ Z 56 8 ≤ 900 := hG.pr 56 8
      have eq23 : Z10 56 11 = Z 56 11 := ((up_nk hE10 rfl).trans (up_nk hE8 rfl))
      have eq24 : Z10 60 61 = (Z 60 61) + 1 := (up_at hE10)
      have eq25 : Z10 60 0 = Z 60 0 := ((up_ni hE10 (by decide)).trans (up_ni hE8 (by omega)))
      have eq26 : Z10 60 1 = Z 60 1 := ((up_ni hE10 (by decide)).trans (up_ni hE8 (by omega)))
      have eq27 : Z10 60 2 = Z 60 2 := ((up_ni hE10 (by decide)).trans (up_ni hE8 (by omega)))
      exact mx_J.ret (sn_169 35) (fun _ _ => rfl) (hP Z10 h10 hx10 hG10 (fr_tr (M := [(60, (-1))]) (fr_tr (M := [(60, (-1))]) fr_rf (fr_ua hE8) (M1 := []) rfl rfl) (fr_ua hE10) rfl rfl) ⟨rc11, fun e => ⟨by omega, fun h1 h2 => c2 h1 (by omega), c3⟩, by omega⟩)
    · skip
      have b28 : 0 ≤ Z 60 61 ∧ Z 60 61 ≤ 900 := by have hq := GI_ex hG 60 61; replace hq : f60 (61 % 962) (Z 60 61) := hq; unfold f60 at hq; omega
      have b29 : (-2147483648) ≤ Z 60 61 ∧ Z 60 61 ≤ 2147483647 := hG.pr 60 61
      have b30 : (-2147483648) ≤ Z 60 0 ∧ Z 60 0 ≤ 2147483647 := hG.pr 60 0
      have b31 : 0 ≤ Z 60 1 ∧ Z 60 1 ≤ 18 := by have hq := GI_ex hG 60 1; replace hq : f60 (1 % 962) (Z 60 1) := hq; unfold f60 at hq; omega
      have b32 : (-2147483648) ≤ Z 60 1 ∧ Z 60 1 ≤ 2147483647 := hG.pr 60 1
      have b33 : 0 ≤ Z 60 2 ∧ Z 60 2 ≤ 18 := by have hq := GI_ex hG 60 2; replace hq : f60 (2 % 962) (Z 60 2) := hq; unfold f60 at hq; omega
      have b34 : (-2147483648) ≤ Z 60 2 ∧ Z 60 2 ≤ 2147483647 := hG.pr 60 2
      have b35 : 0 ≤ Z 56 8 ∧ Z 56 8 ≤ 900 := hG.pr 56 8
      exact mx_J.ret (sn_169 7) (fun _ _ => rfl) (hP Z h hx hG fr_rf ⟨(RM_e hr (RM_emx hr (by omega))), fun e => absurd e (by omega), by omega⟩)
theorem ct_169_56_3000 {l : Launch} {D : va_G} {b0 : Nat} {ad : Nat → Nat} {Hb : Heap} {tau : Nat → Int64} {d n s : Nat} {S : Nat → xS} {Z : xZ} {h : mx_H} {a0 : Int} {g0 : Int} {T : Int → Int} {N : Int} {sg : SS} (hx : XH n s S Z h) (hG : GI n S Z)  {x0 : Int} (p0 : 3000 ≤ x0 ∧ x0 ≤ 3005) (k0 : (Z 56 11 = 0 → Z 60 61 ≤ 899)) (k1 : a0 ≤ Z 60 61) (k2 : 0 ≤ a0) (k3 : 0 ≤ g0) (hr : RM g0 T N Z sg) : ∃ (Z' : xZ) (h' : mx_H), mx_Ca (tB l D b0 ad Hb tau) (d + 1) 169 [.ref 56, xI x0] h (none, h') ∧ XH n s S Z' h' ∧ GI n S Z' ∧ fr' [(60, (-1))] Z Z' ∧ (RM g0 T N Z' (gEm (x0 - 1990) sg) ∧ QC Z Z' a0 (-1) 2 ∧ (Z' 60 0 = Z 60 0 ∧ Z' 60 1 = Z 60 1 ∧ Z' 60 2 = Z 60 2 ∧ ((¬ Z 56 11 = 0 ∧ Z' 60 61 = Z 60 61) ∨ (Z 56 11 = 0 ∧ Z' 60 61 = Z 60 61 + 1)))) := by
  obtain ⟨r, hca, Z', h', e, q⟩ := Jmt (B := tB l D b0 ad Hb tau) (M := mt_169) (mi := 169) (as := [.ref 56, xI x0]) (d := d + 0) (ls := [some (.ref 56), some (xI x0)]) rfl rfl rfl rfl rfl rfl (cw_169_56_3000 (l := l) (D := D) (b0 := b0) (ad := ad) (Hb := Hb) (tau := tau) (d := d) (Post := fun r => ∃ (Z' : xZ) (h' : mx_H), r = (none, h') ∧ XH n s S Z' h' ∧ GI n S Z' ∧ fr' [(60, (-1))] Z Z' ∧ (RM g0 T N Z' (gEm (x0 - 1990) sg) ∧ QC Z Z' a0 (-1) 2 ∧ (Z' 60 0 = Z 60 0 ∧ Z' 60 1 = Z 60 1 ∧ Z' 60 2 = Z 60 2 ∧ ((¬ Z 56 11 = 0 ∧ Z' 60 61 = Z 60 61) ∨ (Z 56 11 = 0 ∧ Z' 60 61 = Z 60 61 + 1))))) hx hG p0 k0 k1 k2 k3 hr (fun Z' h' q1 q2 q3 q4 => ⟨Z', h', rfl, q1, q2, q3, q4⟩))
  subst e; exact ⟨Z', h', hca, q⟩
set_option maxRecDepth 100000 in
theorem cw_169_56_3007 {l : Launch} {D : va_G} {b0 : Nat} {ad : Nat → Nat} {Hb : Heap} {tau : Nat → Int64} {d n s : Nat} {S : Nat → xS} {Z : xZ} {h : mx_H} {Post : mx_R → Prop} {a0 : Int} {g0 : Int} {T : Int → Int} {N : Int} {sg : SS} (hx : XH n s S Z h) (hG : GI n S Z)   (k0 : (Z 56 11 = 0 → Z 60 61 ≤ 899)) (k1 : a0 ≤ Z 60 61) (k2 : 0 ≤ a0) (k3 : 0 ≤ g0) (hr : RM g0 T N Z sg) (hP : ∀ (Z' : xZ) (h' : mx_H), XH n s S Z' h' → GI n S Z' → fr' [(60, (-1))] Z Z' → RM g0 T N Z' (gEm (1016) sg) ∧ QC Z Z' a0 (-1) 2 ∧ (Z' 60 0 = Z 60 0 ∧ Z' 60 1 = Z 60 1 ∧ Z' 60 2 = Z 60 2 ∧ ((¬ Z 56 11 = 0 ∧ Z' 60 61 = Z 60 61) ∨ (Z 56 11 = 0 ∧ Z' 60 61 = Z 60 61 + 1))) → Post (none, h')) : mx_J (tB l D b0 ad Hb tau) mt_169 (d + 0) 0 [some (.ref 56), some (xI 3007)] [] h Post := by
    have a56 : 56 < n := lt83 (GI_n hG) rfl
    have s56 : S 56 = .inl (12, [0, 2, 2, 2, 2, 0, 0, 0, 0, 0, 0, 0, 0, 0, 0, 2, 2, 2, 0, 2, 2, 2, 0, 0, 2, 2, 2, 2, 2, 2, 0, 0, 2, 2, 2, 2, 2, 2, 2, 2, 2, 2]) := GI_s hG 56 rfl
    have a60 : 60 < n := lt83 (GI_n hG) rfl
    have s60 : S 60 = .inr (.int, 962, 0) := GI_s hG 60 rfl
    refine mx_J.step (sn_169 0) (fun _ _ => rfl) ?_
    have b2 : 0 ≤ Z 56 11 ∧ Z 56 11 ≤ 4 := hG.pr 56 11
    refine JgetI (g := 11) (z := Z 56 11) hx (show mx_Sn _ _ 1 (mx_getf 12 11 4) from sn_169 1) a56 s56 rfl rfl rfl ?_
    refine Jif_eq (show mx_Sn _ _ 4 (mx_if_eq 8 7) from sn_169 4) (by omega) (fun q3 => ?_) (fun q3 => ?_)
    · skip
      refine mx_J.step (sn_169 8) (fun _ _ => rfl) ?_
      refine JgetR (g := 4) (b := 60) hx (show mx_Sn _ _ 9 (mx_getf 12 4 12) from sn_169 9) a56 s56 rfl rfl (hG.prr 56 4 rfl) ?_
      refine JcI (z := 62) (show mx_Sn _ _ 12 (mx_const (.int 62) 14) from sn_169 12) rfl ?_
      refine mx_J.step (sn_169 14) (fun _ _ => rfl) ?_
      refine JgetR (g := 4) (b := 60) hx (show mx_Sn _ _ 15 (mx_getf 12 4 18) from sn_169 15) a56 s56 rfl rfl (hG.prr 56 4 rfl) ?_
      refine JcI (z := 61) (show mx_Sn _ _ 18 (mx_const (.int 61) 20) from sn_169 18) rfl ?_
      have b6 : 0 ≤ Z 60 61 ∧ Z 60 61 ≤ 900 := by have hq := GI_ex hG 60 61; replace hq : f60 (61 % 962) (Z 60 61) := hq; unfold f60 at hq; omega
      have b7 : (-2147483648) ≤ Z 60 61 ∧ Z 60 61 ≤ 2147483647 := hG.pr 60 61
      refine JialdI (z := Z 60 61) hx (show mx_Sn _ _ 20 (mx_iald 21) from sn_169 20) a60 s60 (by omega) rfl ?_
      refine Jiadd (show mx_Sn _ _ 21 (mx_iadd 22) from sn_169 21) ?_
      refine mx_J.step (sn_169 22) (fun _ _ => rfl) ?_
      refine JiastI hx (show mx_Sn _ _ 23 (mx_iast 1 24) from sn_169 23) a60 s60 rfl (by omega) (fun Z8 h8 hx8 hE8 => ?_)
      have hG8 := GI_up hG hE8 (show (-2147483648) ≤ 3007 ∧ 3007 ≤ 2147483647 by omega) (show f60 ((62 + (Z 60 61)) % 962) (3007) by first | (rw [Int.emod_eq_of_lt (by omega) (by omega)]; unfold f60; omega) | assumption | (unfold f60; omega) | (unfold f60 at *; omega)) rfl
      refine mx_J.step (sn_169 24) (fun _ _ => rfl) ?_
      refine JgetR (g := 4) (b := 60) hx8 (show mx_Sn _ _ 25 (mx_getf 12 4 28) from sn_169 25) a56 s56 rfl rfl (hG8.prr 56 4 rfl) ?_
      refine JcI (z := 61) (show mx_Sn _ _ 28 (mx_const (.int 61) 30) from sn_169 28) rfl ?_
      refine mx_J.step (sn_169 30) (fun _ _ => rfl) ?_
      refine JialdI (z := Z 60 61) hx8 (show mx_Sn _ _ 31 (mx_iald 32) from sn_169 31) a60 s60 (by omega) (up_ni hE8 (by omega)) ?_
      refine JcI (z := 1) (show mx_Sn _ _ 32 (mx_const (.int 1) 33) from sn_169 32) rfl ?_
      refine Jiadd (show mx_Sn _ _ 33 (mx_iadd 34) from sn_169 33) ?_
      refine JiastI hx8 (show mx_Sn _ _ 34 (mx_iast 1 35) from sn_169 34) a60 s60 rfl (by omega) (fun Z10 h10 hx10 hE10 => ?_)
      have hG10 := GI_up hG8 hE10 (show (-2147483648) ≤ (Z 60 61) + 1 ∧ (Z 60 61) + 1 ≤ 2147483647 by omega) (show f60 ((61) % 962) ((Z 60 61) + 1) by first | assumption | (unfold f60; omega) | (unfold f60 at *; omega)) rfl
      have rc11 : RM g0 T N Z10 (gEm (1016) sg) := RM_e (RM_em hr ⟨((up_nk hE10 rfl).trans (up_nk hE8 rfl)), ((up_nk hE10 rfl).trans (up_nk hE8 rfl)), ((up_nk hE10 rfl).trans (up_nk hE8 rfl)), ((up_nk hE10 rfl).trans (up_nk hE8 rfl)), ((up_nk hE10 rfl).trans (up_nk hE8 rfl)), ((up_nk hE10 rfl).trans (up_nk hE8 rfl)), ((up_nk hE10 rfl).trans (up_nk hE8 rfl)), fun i => ((up_nk hE10 rfl).trans (up_nk hE8 rfl))⟩ (by omega) (up_at hE10) ((up_ni hE10 (by omega)).trans (up_at hE8)) (fun i h6 hi => (up_ni hE10 (by omega)).trans (up_ni hE8 hi)) (by omega)) (congrArg (fun w => gEm w sg) (um_l.2.2.1))
      have c1 := cd_dp (a := a0) hE8 hE10 (by omega) (by omega)
      have dv := dl_e 3007
      have c2 : MW Z a0 = 1 → nd 3007 ≤ DP Z a0 → MW Z10 a0 = 1 := fun h1 h2 => cd_mw hE8 hE10 h1 (by unfold okc; omega) h2
      have c3 : WFF Z = 1 → WFF Z10 = 1 := cd_wf hE8 hE10 (by omega)
      have eq12 : Z10 60 61 = (Z 60 61) + 1 := (up_at hE10)
      have eq13 : Z10 60 0 = Z 60 0 := ((up_ni hE10 (by decide)).trans (up_ni hE8 (by omega)))
      have b14 : (-2147483648) ≤ Z 60 0 ∧ Z 60 0 ≤ 2147483647 := hG.pr 60 0
      have eq15 : Z10 60 1 = Z 60 1 := ((up_ni hE10 (by decide)).trans (up_ni hE8 (by omega)))
      have b16 : 0 ≤ Z 60 1 ∧ Z 60 1 ≤ 18 := by have hq := GI_ex hG 60 1; replace hq : f60 (1 % 962) (Z 60 1) := hq; unfold f60 at hq; omega
      have b17 : (-2147483648) ≤ Z 60 1 ∧ Z 60 1 ≤ 2147483647 := hG.pr 60 1
      have eq18 : Z10 60 2 = Z 60 2 := ((up_ni hE10 (by decide)).trans (up_ni hE8 (by omega)))
      have b19 : 0 ≤ Z 60 2 ∧ Z 60 2 ≤ 18 := by have hq := GI_ex hG 60 2; replace hq : f60 (2 % 962) (Z 60 2) := hq; unfold f60 at hq; omega
      have b20 : (-2147483648) ≤ Z 60 2 ∧ Z 60 2 ≤ 2147483647 := hG.pr 60 2
      have eq21 : Z10 56 8 = Z 56 8 := ((up_nk hE10 rfl).trans (up_nk hE8 rfl))
      have b22 : 0 ≤ Z 56 8 ∧ Z 56 8 ≤ 900 := hG.pr 56 8
      have eq23 : Z10 56 11 = Z 56 11 := ((up_nk hE10 rfl).trans (up_nk hE8 rfl))
      have eq24 : Z10 60 61 = (Z 60 61) + 1 := (up_at hE10)
      have eq25 : Z10 60 0 = Z 60 0 := ((up_ni hE10 (by decide)).trans (up_ni hE8 (by omega)))
      have eq26 : Z10 60 1 = Z 60 1 := ((up_ni hE10 (by decide)).trans (up_ni hE8 (by omega)))
      have eq27 : Z10 60 2 = Z 60 2 := ((up_ni hE10 (by decide)).trans (up_ni hE8 (by omega)))
      exact mx_J.ret (sn_169 35) (fun _ _ => rfl) (hP Z10 h10 hx10 hG10 (fr_tr (M := [(60, (-1))]) (fr_tr (M := [(60, (-1))]) fr_rf (fr_ua hE8) (M1 := []) rfl rfl) (fr_ua hE10) rfl rfl) ⟨rc11, fun e => ⟨by omega, fun h1 h2 => c2 h1 (by omega), c3⟩, by omega⟩)
    · skip
      have b28 : 0 ≤ Z 60 61 ∧ Z 60 61 ≤ 900 := by have hq := GI_ex hG 60 61; replace hq : f60 (61 % 962) (Z 60 61) := hq; unfold f60 at hq; omega
      have b29 : (-2147483648) ≤ Z 60 61 ∧ Z 60 61 ≤ 2147483647 := hG.pr 60 61
      have b30 : (-2147483648) ≤ Z 60 0 ∧ Z 60 0 ≤ 2147483647 := hG.pr 60 0
      have b31 : 0 ≤ Z 60 1 ∧ Z 60 1 ≤ 18 := by have hq := GI_ex hG 60 1; replace hq : f60 (1 % 962) (Z 60 1) := hq; unfold f60 at hq; omega
      have b32 : (-2147483648) ≤ Z 60 1 ∧ Z 60 1 ≤ 2147483647 := hG.pr 60 1
      have b33 : 0 ≤ Z 60 2 ∧ Z 60 2 ≤ 18 := by have hq := GI_ex hG 60 2; replace hq : f60 (2 % 962) (Z 60 2) := hq; unfold f60 at hq; omega
      have b34 : (-2147483648) ≤ Z 60 2 ∧ Z 60 2 ≤ 2147483647 := hG.pr 60 2
      have b35 : 0 ≤ Z 56 8 ∧ Z 56 8 ≤ 900 := hG.pr 56 8
      exact mx_J.ret (sn_169 7) (fun _ _ => rfl) (hP Z h hx hG fr_rf ⟨(RM_e hr (RM_emx hr (by omega))), fun e => absurd e (by omega), by omega⟩)
theorem ct_169_56_3007 {l : Launch} {D : va_G} {b0 : Nat} {ad : Nat → Nat} {Hb : Heap} {tau : Nat → Int64} {d n s : Nat} {S : Nat → xS} {Z : xZ} {h : mx_H} {a0 : Int} {g0 : Int} {T : Int → Int} {N : Int} {sg : SS} (hx : XH n s S Z h) (hG : GI n S Z)   (k0 : (Z 56 11 = 0 → Z 60 61 ≤ 899)) (k1 : a0 ≤ Z 60 61) (k2 : 0 ≤ a0) (k3 : 0 ≤ g0) (hr : RM g0 T N Z sg) : ∃ (Z' : xZ) (h' : mx_H), mx_Ca (tB l D b0 ad Hb tau) (d + 1) 169 [.ref 56, xI 3007] h (none, h') ∧ XH n s S Z' h' ∧ GI n S Z' ∧ fr' [(60, (-1))] Z Z' ∧ (RM g0 T N Z' (gEm (1016) sg) ∧ QC Z Z' a0 (-1) 2 ∧ (Z' 60 0 = Z 60 0 ∧ Z' 60 1 = Z 60 1 ∧ Z' 60 2 = Z 60 2 ∧ ((¬ Z 56 11 = 0 ∧ Z' 60 61 = Z 60 61) ∨ (Z 56 11 = 0 ∧ Z' 60 61 = Z 60 61 + 1)))) := by
  obtain ⟨r, hca, Z', h', e, q⟩ := Jmt (B := tB l D b0 ad Hb tau) (M := mt_169) (mi := 169) (as := [.ref 56, xI 3007]) (d := d + 0) (ls := [some (.ref 56), some (xI 3007)]) rfl rfl rfl rfl rfl rfl (cw_169_56_3007 (l := l) (D := D) (b0 := b0) (ad := ad) (Hb := Hb) (tau := tau) (d := d) (Post := fun r => ∃ (Z' : xZ) (h' : mx_H), r = (none, h') ∧ XH n s S Z' h' ∧ GI n S Z' ∧ fr' [(60, (-1))] Z Z' ∧ (RM g0 T N Z' (gEm (1016) sg) ∧ QC Z Z' a0 (-1) 2 ∧ (Z' 60 0 = Z 60 0 ∧ Z' 60 1 = Z 60 1 ∧ Z' 60 2 = Z 60 2 ∧ ((¬ Z 56 11 = 0 ∧ Z' 60 61 = Z 60 61) ∨ (Z 56 11 = 0 ∧ Z' 60 61 = Z 60 61 + 1))))) hx hG k0 k1 k2 k3 hr (fun Z' h' q1 q2 q3 q4 => ⟨Z', h', rfl, q1, q2, q3, q4⟩))
  subst e; exact ⟨Z', h', hca, q⟩
set_option maxRecDepth 100000 in
theorem cw_169_56_3008 {l : Launch} {D : va_G} {b0 : Nat} {ad : Nat → Nat} {Hb : Heap} {tau : Nat → Int64} {d n s : Nat} {S : Nat → xS} {Z : xZ} {h : mx_H} {Post : mx_R → Prop} {a0 : Int} {g0 : Int} {T : Int → Int} {N : Int} {sg : SS} (hx : XH n s S Z h) (hG : GI n S Z)   (k0 : (Z 56 11 = 0 → Z 60 61 ≤ 899)) (k1 : a0 ≤ Z 60 61) (k2 : 0 ≤ a0) (k3 : 0 ≤ g0) (hr : RM g0 T N Z sg) (hP : ∀ (Z' : xZ) (h' : mx_H), XH n s S Z' h' → GI n S Z' → fr' [(60, (-1))] Z Z' → RM g0 T N Z' (gEm (1017) sg) ∧ QC Z Z' a0 (-1) 2 ∧ (Z' 60 0 = Z 60 0 ∧ Z' 60 1 = Z 60 1 ∧ Z' 60 2 = Z 60 2 ∧ ((¬ Z 56 11 = 0 ∧ Z' 60 61 = Z 60 61) ∨ (Z 56 11 = 0 ∧ Z' 60 61 = Z 60 61 + 1))) → Post (none, h')) : mx_J (tB l D b0 ad Hb tau) mt_169 (d + 0) 0 [some (.ref 56), some (xI 3008)] [] h Post := by
    have a56 : 56 < n := lt83 (GI_n hG) rfl
    have s56 : S 56 = .inl (12, [0, 2, 2, 2, 2, 0, 0, 0, 0, 0, 0, 0, 0, 0, 0, 2, 2, 2, 0, 2, 2, 2, 0, 0, 2, 2, 2, 2, 2, 2, 0, 0, 2, 2, 2, 2, 2, 2, 2, 2, 2, 2]) := GI_s hG 56 rfl
    have a60 : 60 < n := lt83 (GI_n hG) rfl
    have s60 : S 60 = .inr (.int, 962, 0) := GI_s hG 60 rfl
    refine mx_J.step (sn_169 0) (fun _ _ => rfl) ?_
    have b2 : 0 ≤ Z 56 11 ∧ Z 56 11 ≤ 4 := hG.pr 56 11
    refine JgetI (g := 11) (z := Z 56 11) hx (show mx_Sn _ _ 1 (mx_getf 12 11 4) from sn_169 1) a56 s56 rfl rfl rfl ?_
    refine Jif_eq (show mx_Sn _ _ 4 (mx_if_eq 8 7) from sn_169 4) (by omega) (fun q3 => ?_) (fun q3 => ?_)
    · skip
      refine mx_J.step (sn_169 8) (fun _ _ => rfl) ?_
      refine JgetR (g := 4) (b := 60) hx (show mx_Sn _ _ 9 (mx_getf 12 4 12) from sn_169 9) a56 s56 rfl rfl (hG.prr 56 4 rfl) ?_
      refine JcI (z := 62) (show mx_Sn _ _ 12 (mx_const (.int 62) 14) from sn_169 12) rfl ?_
      refine mx_J.step (sn_169 14) (fun _ _ => rfl) ?_
      refine JgetR (g := 4) (b := 60) hx (show mx_Sn _ _ 15 (mx_getf 12 4 18) from sn_169 15) a56 s56 rfl rfl (hG.prr 56 4 rfl) ?_
      refine JcI (z := 61) (show mx_Sn _ _ 18 (mx_const (.int 61) 20) from sn_169 18) rfl ?_
      have b6 : 0 ≤ Z 60 61 ∧ Z 60 61 ≤ 900 := by have hq := GI_ex hG 60 61; replace hq : f60 (61 % 962) (Z 60 61) := hq; unfold f60 at hq; omega
      have b7 : (-2147483648) ≤ Z 60 61 ∧ Z 60 61 ≤ 2147483647 := hG.pr 60 61
      refine JialdI (z := Z 60 61) hx (show mx_Sn _ _ 20 (mx_iald 21) from sn_169 20) a60 s60 (by omega) rfl ?_
      refine Jiadd (show mx_Sn _ _ 21 (mx_iadd 22) from sn_169 21) ?_
      refine mx_J.step (sn_169 22) (fun _ _ => rfl) ?_
      refine JiastI hx (show mx_Sn _ _ 23 (mx_iast 1 24) from sn_169 23) a60 s60 rfl (by omega) (fun Z8 h8 hx8 hE8 => ?_)
      have hG8 := GI_up hG hE8 (show (-2147483648) ≤ 3008 ∧ 3008 ≤ 2147483647 by omega) (show f60 ((62 + (Z 60 61)) % 962) (3008) by first | (rw [Int.emod_eq_of_lt (by omega) (by omega)]; unfold f60; omega) | assumption | (unfold f60; omega) | (unfold f60 at *; omega)) rfl
      refine mx_J.step (sn_169 24) (fun _ _ => rfl) ?_
      refine JgetR (g := 4) (b := 60) hx8 (show mx_Sn _ _ 25 (mx_getf 12 4 28) from sn_169 25) a56 s56 rfl rfl (hG8.prr 56 4 rfl) ?_
      refine JcI (z := 61) (show mx_Sn _ _ 28 (mx_const (.int 61) 30) from sn_169 28) rfl ?_
      refine mx_J.step (sn_169 30) (fun _ _ => rfl) ?_
      refine JialdI (z := Z 60 61) hx8 (show mx_Sn _ _ 31 (mx_iald 32) from sn_169 31) a60 s60 (by omega) (up_ni hE8 (by omega)) ?_
      refine JcI (z := 1) (show mx_Sn _ _ 32 (mx_const (.int 1) 33) from sn_169 32) rfl ?_
      refine Jiadd (show mx_Sn _ _ 33 (mx_iadd 34) from sn_169 33) ?_
      refine JiastI hx8 (show mx_Sn _ _ 34 (mx_iast 1 35) from sn_169 34) a60 s60 rfl (by omega) (fun Z10 h10 hx10 hE10 => ?_)
      have hG10 := GI_up hG8 hE10 (show (-2147483648) ≤ (Z 60 61) + 1 ∧ (Z 60 61) + 1 ≤ 2147483647 by omega) (show f60 ((61) % 962) ((Z 60 61) + 1) by first | assumption | (unfold f60; omega) | (unfold f60 at *; omega)) rfl
      have rc11 : RM g0 T N Z10 (gEm (1017) sg) := RM_e (RM_em hr ⟨((up_nk hE10 rfl).trans (up_nk hE8 rfl)), ((up_nk hE10 rfl).trans (up_nk hE8 rfl)), ((up_nk hE10 rfl).trans (up_nk hE8 rfl)), ((up_nk hE10 rfl).trans (up_nk hE8 rfl)), ((up_nk hE10 rfl).trans (up_nk hE8 rfl)), ((up_nk hE10 rfl).trans (up_nk hE8 rfl)), ((up_nk hE10 rfl).trans (up_nk hE8 rfl)), fun i => ((up_nk hE10 rfl).trans (up_nk hE8 rfl))⟩ (by omega) (up_at hE10) ((up_ni hE10 (by omega)).trans (up_at hE8)) (fun i h6 hi => (up_ni hE10 (by omega)).trans (up_ni hE8 hi)) (by omega)) (congrArg (fun w => gEm w sg) (um_l.2.2.2.1))
      have c1 := cd_dp (a := a0) hE8 hE10 (by omega) (by omega)
      have dv := dl_e 3008
      have c2 : MW Z a0 = 1 → nd 3008 ≤ DP Z a0 → MW Z10 a0 = 1 := fun h1 h2 => cd_mw hE8 hE10 h1 (by unfold okc; omega) h2
      have c3 : WFF Z = 1 → WFF Z10 = 1 := cd_wf hE8 hE10 (by omega)
      have eq12 : Z10 60 61 = (Z 60 61) + 1 := (up_at hE10)
      have eq13 : Z10 60 0 = Z 60 0 := ((up_ni hE10 (by decide)).trans (up_ni hE8 (by omega)))
      have b14 : (-2147483648) ≤ Z 60 0 ∧ Z 60 0 ≤ 2147483647 := hG.pr 60 0
      have eq15 : Z10 60 1 = Z 60 1 := ((up_ni hE10 (by decide)).trans (up_ni hE8 (by omega)))
      have b16 : 0 ≤ Z 60 1 ∧ Z 60 1 ≤ 18 := by have hq := GI_ex hG 60 1; replace hq : f60 (1 % 962) (Z 60 1) := hq; unfold f60 at hq; omega
      have b17 : (-2147483648) ≤ Z 60 1 ∧ Z 60 1 ≤ 2147483647 := hG.pr 60 1
      have eq18 : Z10 60 2 = Z 60 2 := ((up_ni hE10 (by decide)).trans (up_ni hE8 (by omega)))
      have b19 : 0 ≤ Z 60 2 ∧ Z 60 2 ≤ 18 := by have hq := GI_ex hG 60 2; replace hq : f60 (2 % 962) (Z 60 2) := hq; unfold f60 at hq; omega
      have b20 : (-2147483648) ≤ Z 60 2 ∧ Z 60 2 ≤ 2147483647 := hG.pr 60 2
      have eq21 : Z10 56 8 = Z 56 8 := ((up_nk hE10 rfl).trans (up_nk hE8 rfl))
      have b22 : 0 ≤ Z 56 8 ∧ Z 56 8 ≤ 900 := hG.pr 56 8
      have eq23 : Z10 56 11 = Z 56 11 := ((up_nk hE10 rfl).trans (up_nk hE8 rfl))
      have eq24 : Z10 60 61 = (Z 60 61) + 1 := (up_at hE10)
      have eq25 : Z10 60 0 = Z 60 0 := ((up_ni hE10 (by decide)).trans (up_ni hE8 (by omega)))
      have eq26 : Z10 60 1 = Z 60 1 := ((up_ni hE10 (by decide)).trans (up_ni hE8 (by omega)))
      have eq27 : Z10 60 2 = Z 60 2 := ((up_ni hE10 (by decide)).trans (up_ni hE8 (by omega)))
      exact mx_J.ret (sn_169 35) (fun _ _ => rfl) (hP Z10 h10 hx10 hG10 (fr_tr (M := [(60, (-1))]) (fr_tr (M := [(60, (-1))]) fr_rf (fr_ua hE8) (M1 := []) rfl rfl) (fr_ua hE10) rfl rfl) ⟨rc11, fun e => ⟨by omega, fun h1 h2 => c2 h1 (by omega), c3⟩, by omega⟩)
    · skip
      have b28 : 0 ≤ Z 60 61 ∧ Z 60 61 ≤ 900 := by have hq := GI_ex hG 60 61; replace hq : f60 (61 % 962) (Z 60 61) := hq; unfold f60 at hq; omega
      have b29 : (-2147483648) ≤ Z 60 61 ∧ Z 60 61 ≤ 2147483647 := hG.pr 60 61
      have b30 : (-2147483648) ≤ Z 60 0 ∧ Z 60 0 ≤ 2147483647 := hG.pr 60 0
      have b31 : 0 ≤ Z 60 1 ∧ Z 60 1 ≤ 18 := by have hq := GI_ex hG 60 1; replace hq : f60 (1 % 962) (Z 60 1) := hq; unfold f60 at hq; omega
      have b32 : (-2147483648) ≤ Z 60 1 ∧ Z 60 1 ≤ 2147483647 := hG.pr 60 1
      have b33 : 0 ≤ Z 60 2 ∧ Z 60 2 ≤ 18 := by have hq := GI_ex hG 60 2; replace hq : f60 (2 % 962) (Z 60 2) := hq; unfold f60 at hq; omega
      have b34 : (-2147483648) ≤ Z 60 2 ∧ Z 60 2 ≤ 2147483647 := hG.pr 60 2
      have b35 : 0 ≤ Z 56 8 ∧ Z 56 8 ≤ 900 := hG.pr 56 8
      exact mx_J.ret (sn_169 7) (fun _ _ => rfl) (hP Z h hx hG fr_rf ⟨(RM_e hr (RM_emx hr (by omega))), fun e => absurd e (by omega), by omega⟩)
theorem ct_169_56_3008 {l : Launch} {D : va_G} {b0 : Nat} {ad : Nat → Nat} {Hb : Heap} {tau : Nat → Int64} {d n s : Nat} {S : Nat → xS} {Z : xZ} {h : mx_H} {a0 : Int} {g0 : Int} {T : Int → Int} {N : Int} {sg : SS} (hx : XH n s S Z h) (hG : GI n S Z)   (k0 : (Z 56 11 = 0 → Z 60 61 ≤ 899)) (k1 : a0 ≤ Z 60 61) (k2 : 0 ≤ a0) (k3 : 0 ≤ g0) (hr : RM g0 T N Z sg) : ∃ (Z' : xZ) (h' : mx_H), mx_Ca (tB l D b0 ad Hb tau) (d + 1) 169 [.ref 56, xI 3008] h (none, h') ∧ XH n s S Z' h' ∧ GI n S Z' ∧ fr' [(60, (-1))] Z Z' ∧ (RM g0 T N Z' (gEm (1017) sg) ∧ QC Z Z' a0 (-1) 2 ∧ (Z' 60 0 = Z 60 0 ∧ Z' 60 1 = Z 60 1 ∧ Z' 60 2 = Z 60 2 ∧ ((¬ Z 56 11 = 0 ∧ Z' 60 61 = Z 60 61) ∨ (Z 56 11 = 0 ∧ Z' 60 61 = Z 60 61 + 1)))) := by
  obtain ⟨r, hca, Z', h', e, q⟩ := Jmt (B := tB l D b0 ad Hb tau) (M := mt_169) (mi := 169) (as := [.ref 56, xI 3008]) (d := d + 0) (ls := [some (.ref 56), some (xI 3008)]) rfl rfl rfl rfl rfl rfl (cw_169_56_3008 (l := l) (D := D) (b0 := b0) (ad := ad) (Hb := Hb) (tau := tau) (d := d) (Post := fun r => ∃ (Z' : xZ) (h' : mx_H), r = (none, h') ∧ XH n s S Z' h' ∧ GI n S Z' ∧ fr' [(60, (-1))] Z Z' ∧ (RM g0 T N Z' (gEm (1017) sg) ∧ QC Z Z' a0 (-1) 2 ∧ (Z' 60 0 = Z 60 0 ∧ Z' 60 1 = Z 60 1 ∧ Z' 60 2 = Z 60 2 ∧ ((¬ Z 56 11 = 0 ∧ Z' 60 61 = Z 60 61) ∨ (Z 56 11 = 0 ∧ Z' 60 61 = Z 60 61 + 1))))) hx hG k0 k1 k2 k3 hr (fun Z' h' q1 q2 q3 q4 => ⟨Z', h', rfl, q1, q2, q3, q4⟩))
  subst e; exact ⟨Z', h', hca, q⟩
set_option maxRecDepth 100000 in
theorem cw_166_56 {l : Launch} {D : va_G} {b0 : Nat} {ad : Nat → Nat} {Hb : Heap} {tau : Nat → Int64} {d n s : Nat} {S : Nat → xS} {Z : xZ} {h : mx_H} {Post : mx_R → Prop} {g0 : Int} {T : Int → Int} {N : Int} {sg : SS} (hx : XH n s S Z h) (hG : GI n S Z)  {x0 x1 : Int} (p0 : 0 ≤ x0 ∧ x0 ≤ 1) (p1 : 0 ≤ x1 ∧ x1 ≤ 18) (k0 : (Z 56 6 ≤ Z 56 7 ∧ Z 56 7 ≤ Z 56 8 ∧ (Z 56 9 = 24 ∨ Z 56 6 < Z 56 7))) (hr : RM g0 T N Z sg) (hP : ∀ (z : Int) (Z' : xZ) (h' : mx_H), XH n s S Z' h' → GI n S Z' → fr' [(56, 6), (56, 7), (56, 9), (56, 10), (56, 11), (56, 12)] Z Z' → RM g0 T N Z' (gTk T N x0 x1 sg) ∧ (0 ≤ (gTk T N x0 x1 sg).1 → z = tVl T N sg.1) ∧ 0 ≤ z ∧ z ≤ 999 ∧ ((Z' 56 6 ≤ Z' 56 7 ∧ Z' 56 7 ≤ Z 56 8 ∧ (Z' 56 9 = 24 ∨ Z' 56 6 < Z' 56 7)) ∧ Z 56 6 ≤ Z' 56 6 ∧ (Z' 56 11 = 0 → Z 56 11 = 0 ∧ x0 ≤ z ∧ z ≤ x1 ∧ Z 56 6 + 1 ≤ Z' 56 6) ∧ 0 ≤ z ∧ z ≤ 999) → Post (some (xI z), h')) : mx_J (tB l D b0 ad Hb tau) mt_166 (d + 6) 0 [some (.ref 56), some (xI x0), some (xI x1), none] [] h Post := by
    have a56 : 56 < n := lt83 (GI_n hG) rfl
    have s56 : S 56 = .inl (12, [0, 2, 2, 2, 2, 0, 0, 0, 0, 0, 0, 0, 0, 0, 0, 2, 2, 2, 0, 2, 2, 2, 0, 0, 2, 2, 2, 2, 2, 2, 0, 0, 2, 2, 2, 2, 2, 2, 2, 2, 2, 2]) := GI_s hG 56 rfl
    refine mx_J.step (sn_166 0) (fun _ _ => rfl) ?_
    refine JcI (z := 23) (show mx_Sn _ _ 1 (mx_const (.int 23) 3) from sn_166 1) rfl ?_
    have b2 : 0 ≤ Z 56 9 ∧ Z 56 9 ≤ 100 := hG.pr 56 9
    have b3 : 0 ≤ Z 56 11 ∧ Z 56 11 ≤ 4 := hG.pr 56 11
    obtain ⟨z1, hc1, b1⟩ := ct_164_56 (d := d + 5) (l := l) (D := D) (b0 := b0) (ad := ad) (Hb := Hb) (tau := tau) hx hG (show 0 ≤ 23 ∧ 23 ≤ 100 by omega)
    refine Jcv hx (show mx_Sn _ _ 3 (mx_callv 164 2 12 6) from sn_166 3) a56 s56 hc1 rfl rfl rfl ?_
    have c37 : ∀  (Z5 : xZ) (h5 : mx_H), (Z5 56 11 = 0 → Z 56 11 = 0 ∧ Z 56 9 = 23 ∧ x0 ≤ Z 56 10 ∧ Z 56 10 ≤ x1) → RM g0 T N Z5 (gTJ T N x0 x1 sg) → XH n s S Z5 h5 → GI n S Z5 → fr' [(56, 11), (56, 12)] Z Z5 → mx_J (tB l D b0 ad Hb tau) mt_166 (d + 6) 37 [some (.ref 56), some (xI x0), some (xI x1), none] [] h5 Post := by
      intro Z5 h5 f4_0 f4_1 hx5 hG5 hf5
      have b6 : 0 ≤ Z5 56 11 ∧ Z5 56 11 ≤ 4 := hG5.pr 56 11
      refine mx_J.step (sn_166 37) (fun _ _ => rfl) ?_
      have b8 : 0 ≤ Z 56 10 ∧ Z 56 10 ≤ 999 := hG.pr 56 10
      refine JgetI (g := 10) (z := Z 56 10) hx5 (show mx_Sn _ _ 38 (mx_getf 12 10 41) from sn_166 38) a56 s56 rfl rfl (hf5 56 10 rfl) ?_
      refine mx_J.step (ls2 := [some (.ref 56), some (xI x0), some (xI x1), some (xI (Z 56 10))]) (sn_166 41) (fun _ _ => rfl) ?_
      refine mx_J.step (sn_166 42) (fun _ _ => rfl) ?_
      refine JgetI (g := 11) (z := Z5 56 11) hx5 (show mx_Sn _ _ 43 (mx_getf 12 11 46) from sn_166 43) a56 s56 rfl rfl rfl ?_
      have jp := RM_p f4_1
      have c53 : ∀  (Z11 : xZ) (h11 : mx_H), (Z11 56 6 ≤ Z11 56 7 ∧ Z11 56 7 ≤ Z 56 8 ∧ (Z11 56 9 = 24 ∨ Z11 56 6 < Z11 56 7) ∧ Z 56 6 ≤ Z11 56 6 ∧ (Z11 56 11 = 0 → Z 56 11 = 0 ∧ x0 ≤ (Z 56 10) ∧ (Z 56 10) ≤ x1 ∧ Z 56 6 + 1 ≤ Z11 56 6)) → RM g0 T N Z11 (gTk T N x0 x1 sg) → XH n s S Z11 h11 → GI n S Z11 → fr' [(56, 6), (56, 7), (56, 9), (56, 10)] Z5 Z11 → mx_J (tB l D b0 ad Hb tau) mt_166 (d + 6) 53 [some (.ref 56), some (xI x0), some (xI x1), some (xI (Z 56 10))] [] h11 Post := by
        intro Z11 h11 f10_0 f10_1 hx11 hG11 hf11
        have b12 : 0 ≤ Z11 56 6 ∧ Z11 56 6 ≤ 900 := hG11.pr 56 6
        have b13 : 0 ≤ Z11 56 7 ∧ Z11 56 7 ≤ 900 := hG11.pr 56 7
        have b14 : 0 ≤ Z11 56 9 ∧ Z11 56 9 ≤ 100 := hG11.pr 56 9
        have eq15 : Z11 56 11 = Z5 56 11 := (hf11 56 11 rfl)
        refine mx_J.step (sn_166 53) (fun _ _ => rfl) ?_
        have eq16 : Z11 56 11 = Z5 56 11 := (hf11 56 11 rfl)
        have eq17 : Z11 56 8 = Z 56 8 := ((hf11 56 8 rfl).trans (hf5 56 8 rfl))
        have b18 : 0 ≤ Z 56 8 ∧ Z 56 8 ≤ 900 := hG.pr 56 8
        have eq19 : Z11 56 11 = Z5 56 11 := (hf11 56 11 rfl)
        have b20 : 0 ≤ Z11 56 10 ∧ Z11 56 10 ≤ 999 := hG11.pr 56 10
        exact mx_J.ret (sn_166 54) (fun _ _ => rfl) (hP (Z 56 10) Z11 h11 hx11 hG11 (fr_tr (M := [(56, 6), (56, 7), (56, 9), (56, 10), (56, 11), (56, 12)]) (fr_tr (M := [(56, 6), (56, 7), (56, 9), (56, 10), (56, 11), (56, 12)]) fr_rf (hf5) (M1 := []) rfl rfl) (hf11) rfl rfl) ⟨f10_1, (gTk_v (RM_v hr)), by omega⟩)
      refine Jif_ne (show mx_Sn _ _ 46 (mx_if_ne 53 49) from sn_166 46) (by omega) (fun q21 => ?_) (fun q21 => ?_)
      · skip
        have eq22 : Z5 56 6 = Z 56 6 := (hf5 56 6 rfl)
        have b23 : 0 ≤ Z 56 6 ∧ Z 56 6 ≤ 900 := hG.pr 56 6
        have eq24 : Z5 56 7 = Z 56 7 := (hf5 56 7 rfl)
        have b25 : 0 ≤ Z 56 7 ∧ Z 56 7 ≤ 900 := hG.pr 56 7
        have eq26 : Z5 56 9 = Z 56 9 := (hf5 56 9 rfl)
        exact c53 Z5 h5 (by omega) (RM_e f4_1 (gTJ_d (fun q => by have := jp.1.mpr q; omega))) hx5 hG5 fr_rf
      · skip
        refine mx_J.step (sn_166 49) (fun _ _ => rfl) ?_
        have eq28 : Z5 56 7 = Z 56 7 := (hf5 56 7 rfl)
        have b29 : 0 ≤ Z 56 7 ∧ Z 56 7 ≤ 900 := hG.pr 56 7
        have eq30 : Z5 56 8 = Z 56 8 := (hf5 56 8 rfl)
        have b31 : 0 ≤ Z 56 8 ∧ Z 56 8 ≤ 900 := hG.pr 56 8
        obtain ⟨Z27, h27, hc27, hx27, hG27, hf27, b27⟩ := ct_162_56r (g0 := g0) (T := T) (N := N) (sg := gTJ T N x0 x1 sg) (d := d + 0) (l := l) (D := D) (b0 := b0) (ad := ad) (Hb := Hb) (tau := tau) hx5 hG5  (show Z5 56 7 ≤ Z5 56 8 by first | omega | (simp only [eq28, eq30]; omega)) (show Z5 56 11 = 0 by first | omega | (simp only [eq28, eq30]; omega)) f4_1
        try rw [eq28] at b27
        try rw [eq30] at b27
        obtain ⟨br27, b27⟩ := b27
        have b32 : 0 ≤ Z27 56 6 ∧ Z27 56 6 ≤ 900 := hG27.pr 56 6
        have b33 : 0 ≤ Z27 56 7 ∧ Z27 56 7 ≤ 900 := hG27.pr 56 7
        have b34 : 0 ≤ Z27 56 9 ∧ Z27 56 9 ≤ 100 := hG27.pr 56 9
        refine Jcv0 hx5 (show mx_Sn _ _ 50 (mx_callv 162 1 12 53) from sn_166 50) a56 s56 hc27 rfl rfl rfl ?_
        have eq35 : Z27 56 11 = Z5 56 11 := (hf27 56 11 rfl)
        exact c53 Z27 h27 (by omega) (RM_e br27 (gTJ_a (jp.1.mp (by omega)))) hx27 hG27 (fr_tr (M := [(56, 6), (56, 7), (56, 9), (56, 10)]) fr_rf (hf27) (M1 := []) rfl rfl)
    refine Jif_ne (show mx_Sn _ _ 6 (mx_if_ne 17 9) from sn_166 6) (by omega) (fun q36 => ?_) (fun q36 => ?_)
    · skip
      have g23 : gIs T N 23 sg := ((RM_is (k := 23) hr).mp (by omega))
      have v23 : Z 56 10 = tVl T N sg.1 := RM_v hr g23
      refine mx_J.step (sn_166 17) (fun _ _ => rfl) ?_
      have b38 : 0 ≤ Z 56 10 ∧ Z 56 10 ≤ 999 := hG.pr 56 10
      refine JgetI (g := 10) (z := Z 56 10) hx (show mx_Sn _ _ 18 (mx_getf 12 10 21) from sn_166 18) a56 s56 rfl rfl rfl ?_
      refine Ji2l (show mx_Sn _ _ 21 (mx_i2l 22) from sn_166 21) (by omega) ?_
      refine mx_J.step (sn_166 22) (fun _ _ => rfl) ?_
      refine Ji2l (show mx_Sn _ _ 23 (mx_i2l 24) from sn_166 23) (by omega) ?_
      refine mx_J.step (sn_166 24) (fun _ _ => rfl) ?_
      refine Ji2l (show mx_Sn _ _ 25 (mx_i2l 26) from sn_166 25) (by omega) ?_
      obtain ⟨z39, hc39, b39⟩ := ct_154_ (d := d + 5) (l := l) (D := D) (b0 := b0) (ad := ad) (Hb := Hb) (tau := tau) hx hG (show (-9223372036854775808) ≤ Z 56 10 ∧ Z 56 10 ≤ 9223372036854775807 by omega) (show (-9223372036854775808) ≤ x0 ∧ x0 ≤ 9223372036854775807 by omega) (show (-9223372036854775808) ≤ x1 ∧ x1 ≤ 9223372036854775807 by omega)
      refine Jcs (show mx_Sn _ _ 26 (mx_calls 154 3 29) from sn_166 26) hc39 rfl rfl rfl ?_
      refine Jif_ne (show mx_Sn _ _ 29 (mx_if_ne 37 32) from sn_166 29) (by omega) (fun q40 => ?_) (fun q40 => ?_)
      · skip
        exact c37 Z h (by omega) (RM_e hr (gTJ_y g23 (by omega))) hx hG fr_rf
      · skip
        refine mx_J.step (sn_166 32) (fun _ _ => rfl) ?_
        refine JcI (z := 3) (show mx_Sn _ _ 33 (mx_const (.int 3) 34) from sn_166 33) rfl ?_
        obtain ⟨Z41, h41, hc41, hx41, hG41, hf41, b41⟩ := ct_163_56 (g0 := g0) (T := T) (N := N) (sg := sg) (d := d + 5) (l := l) (D := D) (b0 := b0) (ad := ad) (Hb := Hb) (tau := tau) hx hG (show 2 ≤ 3 ∧ 3 ≤ 4 by omega) hr
        obtain ⟨br41, b41⟩ := b41
        have b42 : 0 ≤ Z41 56 11 ∧ Z41 56 11 ≤ 4 := hG41.pr 56 11
        refine Jcv0 hx (show mx_Sn _ _ 34 (mx_callv 163 2 12 37) from sn_166 34) a56 s56 hc41 rfl rfl rfl ?_
        exact c37 Z41 h41 (by omega) (RM_e br41 (gTJ_3 g23 (by omega))) hx41 hG41 (fr_tr (M := [(56, 11), (56, 12)]) fr_rf (hf41) (M1 := []) rfl rfl)
    · skip
      refine mx_J.step (sn_166 9) (fun _ _ => rfl) ?_
      refine JcI (z := 2) (show mx_Sn _ _ 10 (mx_const (.int 2) 11) from sn_166 10) rfl ?_
      obtain ⟨Z43, h43, hc43, hx43, hG43, hf43, b43⟩ := ct_163_56 (g0 := g0) (T := T) (N := N) (sg := sg) (d := d + 5) (l := l) (D := D) (b0 := b0) (ad := ad) (Hb := Hb) (tau := tau) hx hG (show 2 ≤ 2 ∧ 2 ≤ 4 by omega) hr
      obtain ⟨br43, b43⟩ := b43
      have b44 : 0 ≤ Z43 56 11 ∧ Z43 56 11 ≤ 4 := hG43.pr 56 11
      refine Jcv0 hx (show mx_Sn _ _ 11 (mx_callv 163 2 12 14) from sn_166 11) a56 s56 hc43 rfl rfl rfl ?_
      refine mx_J.step (sn_166 14) (fun _ _ => rfl) ?_
      exact c37 Z43 h43 (by omega) (RM_e br43 (gTJ_2 (fun q => by have := (RM_is (k := 23) hr).mpr q; omega))) hx43 hG43 (fr_tr (M := [(56, 11), (56, 12)]) fr_rf (hf43) (M1 := []) rfl rfl)
theorem ct_166_56 {l : Launch} {D : va_G} {b0 : Nat} {ad : Nat → Nat} {Hb : Heap} {tau : Nat → Int64} {d n s : Nat} {S : Nat → xS} {Z : xZ} {h : mx_H} {g0 : Int} {T : Int → Int} {N : Int} {sg : SS} (hx : XH n s S Z h) (hG : GI n S Z)  {x0 x1 : Int} (p0 : 0 ≤ x0 ∧ x0 ≤ 1) (p1 : 0 ≤ x1 ∧ x1 ≤ 18) (k0 : (Z 56 6 ≤ Z 56 7 ∧ Z 56 7 ≤ Z 56 8 ∧ (Z 56 9 = 24 ∨ Z 56 6 < Z 56 7))) (hr : RM g0 T N Z sg) : ∃ (z : Int) (Z' : xZ) (h' : mx_H), mx_Ca (tB l D b0 ad Hb tau) (d + 7) 166 [.ref 56, xI x0, xI x1] h (some (xI z), h') ∧ XH n s S Z' h' ∧ GI n S Z' ∧ fr' [(56, 6), (56, 7), (56, 9), (56, 10), (56, 11), (56, 12)] Z Z' ∧ (RM g0 T N Z' (gTk T N x0 x1 sg) ∧ (0 ≤ (gTk T N x0 x1 sg).1 → z = tVl T N sg.1) ∧ 0 ≤ z ∧ z ≤ 999 ∧ ((Z' 56 6 ≤ Z' 56 7 ∧ Z' 56 7 ≤ Z 56 8 ∧ (Z' 56 9 = 24 ∨ Z' 56 6 < Z' 56 7)) ∧ Z 56 6 ≤ Z' 56 6 ∧ (Z' 56 11 = 0 → Z 56 11 = 0 ∧ x0 ≤ z ∧ z ≤ x1 ∧ Z 56 6 + 1 ≤ Z' 56 6) ∧ 0 ≤ z ∧ z ≤ 999)) := by
  obtain ⟨r, hca, z, Z', h', e, q⟩ := Jmt (B := tB l D b0 ad Hb tau) (M := mt_166) (mi := 166) (as := [.ref 56, xI x0, xI x1]) (d := d + 6) (ls := [some (.ref 56), some (xI x0), some (xI x1), none]) rfl rfl rfl rfl rfl rfl (cw_166_56 (l := l) (D := D) (b0 := b0) (ad := ad) (Hb := Hb) (tau := tau) (d := d) (Post := fun r => ∃ (z : Int) (Z' : xZ) (h' : mx_H), r = (some (xI z), h') ∧ XH n s S Z' h' ∧ GI n S Z' ∧ fr' [(56, 6), (56, 7), (56, 9), (56, 10), (56, 11), (56, 12)] Z Z' ∧ (RM g0 T N Z' (gTk T N x0 x1 sg) ∧ (0 ≤ (gTk T N x0 x1 sg).1 → z = tVl T N sg.1) ∧ 0 ≤ z ∧ z ≤ 999 ∧ ((Z' 56 6 ≤ Z' 56 7 ∧ Z' 56 7 ≤ Z 56 8 ∧ (Z' 56 9 = 24 ∨ Z' 56 6 < Z' 56 7)) ∧ Z 56 6 ≤ Z' 56 6 ∧ (Z' 56 11 = 0 → Z 56 11 = 0 ∧ x0 ≤ z ∧ z ≤ x1 ∧ Z 56 6 + 1 ≤ Z' 56 6) ∧ 0 ≤ z ∧ z ≤ 999))) hx hG p0 p1 k0 hr (fun z Z' h' q1 q2 q3 q4 => ⟨z, Z', h', rfl, q1, q2, q3, q4⟩))
  subst e; exact ⟨z, Z', h', hca, q⟩
theorem ct_166_56x {l : Launch} {D : va_G} {b0 : Nat} {ad : Nat → Nat} {Hb : Heap} {tau : Nat → Int64} {T : Int → Int} {N : Int} {sg : SS} {d n s : Nat} {S : Nat → xS} {Z : xZ} {h : mx_H} (hx : XH n s S Z h) (hG : GI n S Z) {x0 x1 : Int} (p0 : 0 ≤ x0 ∧ x0 ≤ 1) (p1 : 0 ≤ x1 ∧ x1 ≤ 18) (k0 : (Z 56 6 ≤ Z 56 7 ∧ Z 56 7 ≤ Z 56 8 ∧ (Z 56 9 = 24 ∨ Z 56 6 < Z 56 7))) (hr : RMx T N Z sg) : ∃ (z : Int) (Z' : xZ) (h' : mx_H), mx_Ca (tB l D b0 ad Hb tau) (d + 7) 166 [.ref 56, xI x0, xI x1] h (some (xI z), h') ∧ XH n s S Z' h' ∧ GI n S Z' ∧ fr' [(56, 6), (56, 7), (56, 9), (56, 10), (56, 11), (56, 12)] Z Z' ∧ (RMx T N Z' (gTk T N x0 x1 sg) ∧ (0 ≤ (gTk T N x0 x1 sg).1 → z = tVl T N sg.1) ∧ 0 ≤ z ∧ z ≤ 999 ∧ ((Z' 56 6 ≤ Z' 56 7 ∧ Z' 56 7 ≤ Z 56 8 ∧ (Z' 56 9 = 24 ∨ Z' 56 6 < Z' 56 7)) ∧ Z 56 6 ≤ Z' 56 6 ∧ (Z' 56 11 = 0 → Z 56 11 = 0 ∧ x0 ≤ z ∧ z ≤ x1 ∧ Z 56 6 + 1 ≤ Z' 56 6) ∧ 0 ≤ z ∧ z ≤ 999)) := by
  obtain ⟨g, hg, hr⟩ := hr
  obtain ⟨z, Z', h', hca, q1, q2, q3, q5, q4⟩ := ct_166_56 (g0 := g) (T := T) (N := N) (sg := sg) (d := d) (l := l) (D := D) (b0 := b0) (ad := ad) (Hb := Hb) (tau := tau) hx hG p0 p1 k0 hr
  exact ⟨z, Z', h', hca, q1, q2, q3, ⟨g, hg, q5⟩, q4⟩
set_option maxRecDepth 100000 in
theorem cw_168_56 {l : Launch} {D : va_G} {b0 : Nat} {ad : Nat → Nat} {Hb : Heap} {tau : Nat → Int64} {d n s : Nat} {S : Nat → xS} {Z : xZ} {h : mx_H} {Post : mx_R → Prop} (hx : XH n s S Z h) (hG : GI n S Z)  {x0 : Int} (p0 : 0 ≤ x0 ∧ x0 ≤ 100) (hP : ∀ z : Int, (-1) ≤ z ∧ z ≤ 4 ∧ ((x0 = 1 ∧ z = 4) ∨ (¬ x0 = 1 ∧ 9 ≤ x0 ∧ x0 ≤ 12 ∧ z = x0 - 9) ∨ (¬ x0 = 1 ∧ ¬ (9 ≤ x0 ∧ x0 ≤ 12) ∧ z = -1)) → Post (some (xI z), h)) : mx_J (tB l D b0 ad Hb tau) mt_168 (d + 0) 0 [some (.ref 56), some (xI x0)] [] h Post := by
    refine mx_J.step (sn_168 0) (fun _ _ => rfl) ?_
    refine JcI (z := 1) (show mx_Sn _ _ 1 (mx_const (.int 1) 2) from sn_168 1) rfl ?_
    refine Jicmp_ne (show mx_Sn _ _ 2 (mx_icmp_ne 7 5) from sn_168 2) (by omega) (by omega) (fun q1 => ?_) (fun q1 => ?_)
    · skip
      refine mx_J.step (sn_168 7) (fun _ _ => rfl) ?_
      refine JcI (z := 9) (show mx_Sn _ _ 8 (mx_const (.int 9) 10) from sn_168 8) rfl ?_
      have c27 : ∀ (k2_0 : Int), (-1) ≤ k2_0 ∧ k2_0 ≤ 3 → ((9 ≤ x0 ∧ x0 ≤ 12 ∧ k2_0 = x0 - 9) ∨ (¬ (9 ≤ x0 ∧ x0 ≤ 12) ∧ k2_0 = -1)) → mx_J (tB l D b0 ad Hb tau) mt_168 (d + 0) 27 [some (.ref 56), some (xI x0)] [xI k2_0] h Post := by
        intro k2_0 f2_0 f2_1
        exact mx_J.ret (sn_168 27) (fun _ _ => rfl) (hP k2_0 (by omega))
      have c26 : ¬ (9 ≤ x0 ∧ x0 ≤ 12) → mx_J (tB l D b0 ad Hb tau) mt_168 (d + 0) 26 [some (.ref 56), some (xI x0)] [] h Post := by
        intro f3_0
        refine JcI (z := (-1)) (show mx_Sn _ _ 26 (mx_const (.int (-1)) 27) from sn_168 26) rfl ?_
        exact c27 (-1) (by omega) (by omega)
      refine Jicmp_lt (show mx_Sn _ _ 10 (mx_icmp_lt 26 13) from sn_168 10) (by omega) (by omega) (fun q4 => ?_) (fun q4 => ?_)
      · skip
        exact c26 (by omega)
      · skip
        refine mx_J.step (sn_168 13) (fun _ _ => rfl) ?_
        refine JcI (z := 12) (show mx_Sn _ _ 14 (mx_const (.int 12) 16) from sn_168 14) rfl ?_
        refine Jicmp_gt (show mx_Sn _ _ 16 (mx_icmp_gt 26 19) from sn_168 16) (by omega) (by omega) (fun q5 => ?_) (fun q5 => ?_)
        · skip
          exact c26 (by omega)
        · skip
          refine mx_J.step (sn_168 19) (fun _ _ => rfl) ?_
          refine JcI (z := 9) (show mx_Sn _ _ 20 (mx_const (.int 9) 22) from sn_168 20) rfl ?_
          refine Jisub (show mx_Sn _ _ 22 (mx_isub 23) from sn_168 22) ?_
          refine mx_J.step (sn_168 23) (fun _ _ => rfl) ?_
          exact c27 (x0 - 9) (by omega) (by omega)
    · skip
      refine JcI (z := 4) (show mx_Sn _ _ 5 (mx_const (.int 4) 6) from sn_168 5) rfl ?_
      exact mx_J.ret (sn_168 6) (fun _ _ => rfl) (hP 4 (by omega))
theorem ct_168_56 {l : Launch} {D : va_G} {b0 : Nat} {ad : Nat → Nat} {Hb : Heap} {tau : Nat → Int64} {d n s : Nat} {S : Nat → xS} {Z : xZ} {h : mx_H} (hx : XH n s S Z h) (hG : GI n S Z)  {x0 : Int} (p0 : 0 ≤ x0 ∧ x0 ≤ 100) : ∃ z : Int, mx_Ca (tB l D b0 ad Hb tau) (d + 1) 168 [.ref 56, xI x0] h (some (xI z), h) ∧ ((-1) ≤ z ∧ z ≤ 4 ∧ ((x0 = 1 ∧ z = 4) ∨ (¬ x0 = 1 ∧ 9 ≤ x0 ∧ x0 ≤ 12 ∧ z = x0 - 9) ∨ (¬ x0 = 1 ∧ ¬ (9 ≤ x0 ∧ x0 ≤ 12) ∧ z = -1))) := by
  obtain ⟨r, hca, z, e, hp⟩ := Jmt (B := tB l D b0 ad Hb tau) (M := mt_168) (mi := 168) (as := [.ref 56, xI x0]) (d := d + 0) (ls := [some (.ref 56), some (xI x0)]) rfl rfl rfl rfl rfl rfl (cw_168_56 (l := l) (D := D) (b0 := b0) (ad := ad) (Hb := Hb) (tau := tau) (d := d) (Post := fun r => ∃ z : Int, r = (some (xI z), h) ∧ ((-1) ≤ z ∧ z ≤ 4 ∧ ((x0 = 1 ∧ z = 4) ∨ (¬ x0 = 1 ∧ 9 ≤ x0 ∧ x0 ≤ 12 ∧ z = x0 - 9) ∨ (¬ x0 = 1 ∧ ¬ (9 ≤ x0 ∧ x0 ≤ 12) ∧ z = -1)))) hx hG p0 (fun z hz => ⟨z, rfl, hz⟩))
  subst e; exact ⟨z, hca, hp⟩
set_option maxRecDepth 100000 in
theorem cw_170_56 {l : Launch} {D : va_G} {b0 : Nat} {ad : Nat → Nat} {Hb : Heap} {tau : Nat → Int64} {d n s : Nat} {S : Nat → xS} {Z : xZ} {h : mx_H} {Post : mx_R → Prop} {g0 : Int} {T : Int → Int} {N : Int} {sg : SS} (hx : XH n s S Z h) (hG : GI n S Z)  {x0 : Int} (p0 : 0 ≤ x0 ∧ x0 ≤ 6) (k0 : (Z 56 6 ≤ Z 56 7 ∧ Z 56 7 ≤ Z 56 8 ∧ (Z 56 9 = 24 ∨ Z 56 6 < Z 56 7))) (k1 : ¬ Z 56 9 = 24) (hr : RM g0 T N Z sg) (hP : ∀ (z : Int) (Z' : xZ) (h' : mx_H), XH n s S Z' h' → GI n S Z' → fr' [(56, 6), (56, 7), (56, 9), (56, 10), (56, 11), (56, 12)] Z Z' → RM g0 T N Z' (gEn T N x0 sg) ∧ 0 ≤ z ∧ z ≤ 1 ∧ ((Z' 56 6 ≤ Z' 56 7 ∧ Z' 56 7 ≤ Z 56 8 ∧ (Z' 56 9 = 24 ∨ Z' 56 6 < Z' 56 7)) ∧ Z 56 6 ≤ Z' 56 6 ∧ ((z = 1 ∧ ¬ x0 = 6 ∧ Z' 56 11 = 0 ∧ Z 56 11 = 0 ∧ Z 56 6 + 1 ≤ Z' 56 6) ∨ (z = 0 ∧ ¬ Z' 56 11 = 0 ∧ (x0 = 6 ∨ ¬ Z 56 11 = 0)))) → Post (some (xI z), h')) : mx_J (tB l D b0 ad Hb tau) mt_170 (d + 6) 0 [some (.ref 56), some (xI x0)] [] h Post := by
    have a56 : 56 < n := lt83 (GI_n hG) rfl
    have s56 : S 56 = .inl (12, [0, 2, 2, 2, 2, 0, 0, 0, 0, 0, 0, 0, 0, 0, 0, 2, 2, 2, 0, 2, 2, 2, 0, 0, 2, 2, 2, 2, 2, 2, 0, 0, 2, 2, 2, 2, 2, 2, 2, 2, 2, 2]) := GI_s hG 56 rfl
    refine mx_J.step (sn_170 0) (fun _ _ => rfl) ?_
    refine JcI (z := 6) (show mx_Sn _ _ 1 (mx_const (.int 6) 3) from sn_170 1) rfl ?_
    have c11 : ∀  (Z2 : xZ) (h2 : mx_H), ((Z2 56 11 = 0 → Z 56 11 = 0 ∧ ¬ x0 = 6) ∧ (¬ Z2 56 11 = 0 → (x0 = 6 ∨ ¬ Z 56 11 = 0))) → RM g0 T N Z2 (gEj T N x0 sg) → XH n s S Z2 h2 → GI n S Z2 → fr' [(56, 11), (56, 12)] Z Z2 → mx_J (tB l D b0 ad Hb tau) mt_170 (d + 6) 11 [some (.ref 56), some (xI x0)] [] h2 Post := by
      intro Z2 h2 f1_0 f1_1 hx2 hG2 hf2
      have b3 : 0 ≤ Z2 56 11 ∧ Z2 56 11 ≤ 4 := hG2.pr 56 11
      have jp := RM_p f1_1
      refine mx_J.step (sn_170 11) (fun _ _ => rfl) ?_
      refine JgetI (g := 11) (z := Z2 56 11) hx2 (show mx_Sn _ _ 12 (mx_getf 12 11 15) from sn_170 12) a56 s56 rfl rfl rfl ?_
      have c22 : ∀  (Z6 : xZ) (h6 : mx_H), (Z6 56 6 ≤ Z6 56 7 ∧ Z6 56 7 ≤ Z 56 8 ∧ (Z6 56 9 = 24 ∨ Z6 56 6 < Z6 56 7) ∧ Z 56 6 ≤ Z6 56 6 ∧ (Z6 56 11 = 0 → Z 56 11 = 0 ∧ ¬ x0 = 6 ∧ Z 56 6 + 1 ≤ Z6 56 6) ∧ (¬ Z6 56 11 = 0 → (x0 = 6 ∨ ¬ Z 56 11 = 0))) → RM g0 T N Z6 (gEn T N x0 sg) → XH n s S Z6 h6 → GI n S Z6 → fr' [(56, 6), (56, 7), (56, 9), (56, 10)] Z2 Z6 → mx_J (tB l D b0 ad Hb tau) mt_170 (d + 6) 22 [some (.ref 56), some (xI x0)] [] h6 Post := by
        intro Z6 h6 f5_0 f5_1 hx6 hG6 hf6
        have b7 : 0 ≤ Z6 56 6 ∧ Z6 56 6 ≤ 900 := hG6.pr 56 6
        have b8 : 0 ≤ Z6 56 7 ∧ Z6 56 7 ≤ 900 := hG6.pr 56 7
        have b9 : 0 ≤ Z6 56 9 ∧ Z6 56 9 ≤ 100 := hG6.pr 56 9
        have eq10 : Z6 56 11 = Z2 56 11 := (hf6 56 11 rfl)
        refine mx_J.step (sn_170 22) (fun _ _ => rfl) ?_
        refine JgetI (g := 11) (z := Z2 56 11) hx6 (show mx_Sn _ _ 23 (mx_getf 12 11 26) from sn_170 23) a56 s56 rfl rfl (hf6 56 11 rfl) ?_
        have c34 : ∀ (k12_0 : Int), 0 ≤ k12_0 ∧ k12_0 ≤ 1 → ((k12_0 = 1 ∧ Z6 56 11 = 0) ∨ (k12_0 = 0 ∧ ¬ Z6 56 11 = 0)) → mx_J (tB l D b0 ad Hb tau) mt_170 (d + 6) 34 [some (.ref 56), some (xI x0)] [xI k12_0] h6 Post := by
          intro k12_0 f12_0 f12_1
          have eq13 : Z6 56 11 = Z2 56 11 := (hf6 56 11 rfl)
          have eq14 : Z6 56 11 = Z2 56 11 := (hf6 56 11 rfl)
          have eq15 : Z6 56 8 = Z 56 8 := ((hf6 56 8 rfl).trans (hf2 56 8 rfl))
          have b16 : 0 ≤ Z 56 8 ∧ Z 56 8 ≤ 900 := hG.pr 56 8
          have eq17 : Z6 56 11 = Z2 56 11 := (hf6 56 11 rfl)
          exact mx_J.ret (show mx_Sn _ _ 34 (mx_zret) from sn_170 34) (fun _ _ => zr_ok (by omega)) (hP k12_0 Z6 h6 hx6 hG6 (fr_tr (M := [(56, 6), (56, 7), (56, 9), (56, 10), (56, 11), (56, 12)]) (fr_tr (M := [(56, 6), (56, 7), (56, 9), (56, 10), (56, 11), (56, 12)]) fr_rf (hf2) (M1 := []) rfl rfl) (hf6) rfl rfl) ⟨f5_1, by omega⟩)
        refine Jif_ne (show mx_Sn _ _ 26 (mx_if_ne 33 29) from sn_170 26) (by omega) (fun q18 => ?_) (fun q18 => ?_)
        · skip
          refine JcI (z := 0) (show mx_Sn _ _ 33 (mx_const (.int 0) 34) from sn_170 33) rfl ?_
          have eq19 : Z6 56 11 = Z2 56 11 := (hf6 56 11 rfl)
          exact c34 0 (by omega) (by omega)
        · skip
          refine JcI (z := 1) (show mx_Sn _ _ 29 (mx_const (.int 1) 30) from sn_170 29) rfl ?_
          refine mx_J.step (sn_170 30) (fun _ _ => rfl) ?_
          have eq20 : Z6 56 11 = Z2 56 11 := (hf6 56 11 rfl)
          exact c34 1 (by omega) (by omega)
      refine Jif_ne (show mx_Sn _ _ 15 (mx_if_ne 22 18) from sn_170 15) (by omega) (fun q21 => ?_) (fun q21 => ?_)
      · skip
        have eq22 : Z2 56 6 = Z 56 6 := (hf2 56 6 rfl)
        have b23 : 0 ≤ Z 56 6 ∧ Z 56 6 ≤ 900 := hG.pr 56 6
        have eq24 : Z2 56 7 = Z 56 7 := (hf2 56 7 rfl)
        have b25 : 0 ≤ Z 56 7 ∧ Z 56 7 ≤ 900 := hG.pr 56 7
        have eq26 : Z2 56 9 = Z 56 9 := (hf2 56 9 rfl)
        have b27 : 0 ≤ Z 56 9 ∧ Z 56 9 ≤ 100 := hG.pr 56 9
        exact c22 Z2 h2 (by omega) (RM_e f1_1 (gEj_d p0.2 (fun q => by have := jp.1.mpr q; omega))) hx2 hG2 fr_rf
      · skip
        refine mx_J.step (sn_170 18) (fun _ _ => rfl) ?_
        have eq29 : Z2 56 7 = Z 56 7 := (hf2 56 7 rfl)
        have b30 : 0 ≤ Z 56 7 ∧ Z 56 7 ≤ 900 := hG.pr 56 7
        have eq31 : Z2 56 8 = Z 56 8 := (hf2 56 8 rfl)
        have b32 : 0 ≤ Z 56 8 ∧ Z 56 8 ≤ 900 := hG.pr 56 8
        obtain ⟨Z28, h28, hc28, hx28, hG28, hf28, b28⟩ := ct_162_56r (g0 := g0) (T := T) (N := N) (sg := gEj T N x0 sg) (d := d + 0) (l := l) (D := D) (b0 := b0) (ad := ad) (Hb := Hb) (tau := tau) hx2 hG2  (show Z2 56 7 ≤ Z2 56 8 by first | omega | (simp only [eq29, eq31]; omega)) (show Z2 56 11 = 0 by first | omega | (simp only [eq29, eq31]; omega)) f1_1
        try rw [eq29] at b28
        try rw [eq31] at b28
        obtain ⟨br28, b28⟩ := b28
        have b33 : 0 ≤ Z28 56 6 ∧ Z28 56 6 ≤ 900 := hG28.pr 56 6
        have b34 : 0 ≤ Z28 56 7 ∧ Z28 56 7 ≤ 900 := hG28.pr 56 7
        have b35 : 0 ≤ Z28 56 9 ∧ Z28 56 9 ≤ 100 := hG28.pr 56 9
        refine Jcv0 hx2 (show mx_Sn _ _ 19 (mx_callv 162 1 12 22) from sn_170 19) a56 s56 hc28 rfl rfl rfl ?_
        have eq36 : Z28 56 11 = Z2 56 11 := (hf28 56 11 rfl)
        exact c22 Z28 h28 (by omega) (RM_e br28 (gEj_a p0.2 (jp.1.mp (by omega)))) hx28 hG28 (fr_tr (M := [(56, 6), (56, 7), (56, 9), (56, 10)]) fr_rf (hf28) (M1 := []) rfl rfl)
    refine Jicmp_ne (show mx_Sn _ _ 3 (mx_icmp_ne 11 6) from sn_170 3) (by omega) (by omega) (fun q37 => ?_) (fun q37 => ?_)
    · skip
      have b38 : 0 ≤ Z 56 11 ∧ Z 56 11 ≤ 4 := hG.pr 56 11
      exact c11 Z h (by omega) (RM_e hr (gEj_n (by omega))) hx hG fr_rf
    · skip
      refine mx_J.step (sn_170 6) (fun _ _ => rfl) ?_
      refine JcI (z := 4) (show mx_Sn _ _ 7 (mx_const (.int 4) 8) from sn_170 7) rfl ?_
      have b40 : 0 ≤ Z 56 9 ∧ Z 56 9 ≤ 100 := hG.pr 56 9
      have b41 : 0 ≤ Z 56 11 ∧ Z 56 11 ≤ 4 := hG.pr 56 11
      obtain ⟨Z39, h39, hc39, hx39, hG39, hf39, b39⟩ := ct_163_56 (g0 := g0) (T := T) (N := N) (sg := sg) (d := d + 5) (l := l) (D := D) (b0 := b0) (ad := ad) (Hb := Hb) (tau := tau) hx hG (show 2 ≤ 4 ∧ 4 ≤ 4 by omega) hr
      obtain ⟨br39, b39⟩ := b39
      have b42 : 0 ≤ Z39 56 11 ∧ Z39 56 11 ≤ 4 := hG39.pr 56 11
      refine Jcv0 hx (show mx_Sn _ _ 8 (mx_callv 163 2 12 11) from sn_170 8) a56 s56 hc39 rfl rfl rfl ?_
      exact c11 Z39 h39 (by omega) (RM_e br39 (gEj_y (by omega))) hx39 hG39 (fr_tr (M := [(56, 11), (56, 12)]) fr_rf (hf39) (M1 := []) rfl rfl)
theorem ct_170_56 {l : Launch} {D : va_G} {b0 : Nat} {ad : Nat → Nat} {Hb : Heap} {tau : Nat → Int64} {d n s : Nat} {S : Nat → xS} {Z : xZ} {h : mx_H} {g0 : Int} {T : Int → Int} {N : Int} {sg : SS} (hx : XH n s S Z h) (hG : GI n S Z)  {x0 : Int} (p0 : 0 ≤ x0 ∧ x0 ≤ 6) (k0 : (Z 56 6 ≤ Z 56 7 ∧ Z 56 7 ≤ Z 56 8 ∧ (Z 56 9 = 24 ∨ Z 56 6 < Z 56 7))) (k1 : ¬ Z 56 9 = 24) (hr : RM g0 T N Z sg) : ∃ (z : Int) (Z' : xZ) (h' : mx_H), mx_Ca (tB l D b0 ad Hb tau) (d + 7) 170 [.ref 56, xI x0] h (some (xI z), h') ∧ XH n s S Z' h' ∧ GI n S Z' ∧ fr' [(56, 6), (56, 7), (56, 9), (56, 10), (56, 11), (56, 12)] Z Z' ∧ (RM g0 T N Z' (gEn T N x0 sg) ∧ 0 ≤ z ∧ z ≤ 1 ∧ ((Z' 56 6 ≤ Z' 56 7 ∧ Z' 56 7 ≤ Z 56 8 ∧ (Z' 56 9 = 24 ∨ Z' 56 6 < Z' 56 7)) ∧ Z 56 6 ≤ Z' 56 6 ∧ ((z = 1 ∧ ¬ x0 = 6 ∧ Z' 56 11 = 0 ∧ Z 56 11 = 0 ∧ Z 56 6 + 1 ≤ Z' 56 6) ∨ (z = 0 ∧ ¬ Z' 56 11 = 0 ∧ (x0 = 6 ∨ ¬ Z 56 11 = 0))))) := by
  obtain ⟨r, hca, z, Z', h', e, q⟩ := Jmt (B := tB l D b0 ad Hb tau) (M := mt_170) (mi := 170) (as := [.ref 56, xI x0]) (d := d + 6) (ls := [some (.ref 56), some (xI x0)]) rfl rfl rfl rfl rfl rfl (cw_170_56 (l := l) (D := D) (b0 := b0) (ad := ad) (Hb := Hb) (tau := tau) (d := d) (Post := fun r => ∃ (z : Int) (Z' : xZ) (h' : mx_H), r = (some (xI z), h') ∧ XH n s S Z' h' ∧ GI n S Z' ∧ fr' [(56, 6), (56, 7), (56, 9), (56, 10), (56, 11), (56, 12)] Z Z' ∧ (RM g0 T N Z' (gEn T N x0 sg) ∧ 0 ≤ z ∧ z ≤ 1 ∧ ((Z' 56 6 ≤ Z' 56 7 ∧ Z' 56 7 ≤ Z 56 8 ∧ (Z' 56 9 = 24 ∨ Z' 56 6 < Z' 56 7)) ∧ Z 56 6 ≤ Z' 56 6 ∧ ((z = 1 ∧ ¬ x0 = 6 ∧ Z' 56 11 = 0 ∧ Z 56 11 = 0 ∧ Z 56 6 + 1 ≤ Z' 56 6) ∨ (z = 0 ∧ ¬ Z' 56 11 = 0 ∧ (x0 = 6 ∨ ¬ Z 56 11 = 0)))))) hx hG p0 k0 k1 hr (fun z Z' h' q1 q2 q3 q4 => ⟨z, Z', h', rfl, q1, q2, q3, q4⟩))
  subst e; exact ⟨z, Z', h', hca, q⟩
def rbR_174 (l : Launch) (D : va_G) (b0 : Nat) (ad : Nat → Nat) (Hb : Heap) (tau : Nat → Int64) (kk : Nat) (x0 : Int) : Prop := ∀ (a0 : Int) (g0 : Int) (T : Int → Int) (N : Int) (sg : SS) (d n s : Nat) (S : Nat → xS) (Z : xZ) (h : mx_H) (hd : kk ≤ d) (hx : XH n s S Z h) (hG : GI n S Z) (k0 : (Z 56 6 ≤ Z 56 7 ∧ Z 56 7 ≤ Z 56 8 ∧ (Z 56 9 = 24 ∨ Z 56 6 < Z 56 7))) (k1 : Z 60 61 ≤ Z 56 6) (k2 : a0 ≤ Z 60 61) (k3 : 0 ≤ a0) (k4 : 0 ≤ g0) (hr : RM g0 T N Z (sg)), ∃ (Z' : xZ) (h' : mx_H), mx_Ca (tB l D b0 ad Hb tau) d 174 [.ref 56, xI x0] h (none, h') ∧ XH n s S Z' h' ∧ GI n S Z' ∧ fr' [(56, 6), (56, 7), (56, 9), (56, 10), (56, 11), (56, 12), (60, (-1))] Z Z' ∧ (RM g0 T N Z' (smX T N (lvI T N x0) sg) ∧ QR Z Z' a0 1 0 ∧ ((Z' 56 6 ≤ Z' 56 7 ∧ Z' 56 7 ≤ Z 56 8 ∧ (Z' 56 9 = 24 ∨ Z' 56 6 < Z' 56 7)) ∧ Z' 60 0 = Z 60 0 ∧ Z' 60 1 = Z 60 1 ∧ Z' 60 2 = Z 60 2 ∧ Z 56 6 ≤ Z' 56 6 ∧ Z 60 61 ≤ Z' 60 61 ∧ Z' 60 61 - Z 60 61 ≤ Z' 56 6 - Z 56 6))
def rbR_175 (l : Launch) (D : va_G) (b0 : Nat) (ad : Nat → Nat) (Hb : Heap) (tau : Nat → Int64) (kk : Nat) (x0 : Int) : Prop := ∀ (a0 : Int) (g0 : Int) (T : Int → Int) (N : Int) (sg : SS) (d n s : Nat) (S : Nat → xS) (Z : xZ) (h : mx_H) (hd : kk ≤ d) (hx : XH n s S Z h) (hG : GI n S Z) (k0 : (Z 56 6 ≤ Z 56 7 ∧ Z 56 7 ≤ Z 56 8 ∧ (Z 56 9 = 24 ∨ Z 56 6 < Z 56 7))) (k1 : Z 60 61 ≤ Z 56 6) (k2 : a0 ≤ Z 60 61) (k3 : 0 ≤ a0) (k4 : 0 ≤ g0) (hr : RM g0 T N Z (sg)), ∃ (Z' : xZ) (h' : mx_H), mx_Ca (tB l D b0 ad Hb tau) d 175 [.ref 56, xI x0] h (none, h') ∧ XH n s S Z' h' ∧ GI n S Z' ∧ fr' [(56, 6), (56, 7), (56, 9), (56, 10), (56, 11), (56, 12), (60, (-1))] Z Z' ∧ (RM g0 T N Z' (unX T N (lvI T N x0) sg) ∧ QR Z Z' a0 1 0 ∧ ((Z' 56 6 ≤ Z' 56 7 ∧ Z' 56 7 ≤ Z 56 8 ∧ (Z' 56 9 = 24 ∨ Z' 56 6 < Z' 56 7)) ∧ Z' 60 0 = Z 60 0 ∧ Z' 60 1 = Z 60 1 ∧ Z' 60 2 = Z 60 2 ∧ Z 56 6 ≤ Z' 56 6 ∧ Z 60 61 ≤ Z' 60 61 ∧ Z' 60 61 - Z 60 61 ≤ Z' 56 6 - Z 56 6))
def rbR_177 (l : Launch) (D : va_G) (b0 : Nat) (ad : Nat → Nat) (Hb : Heap) (tau : Nat → Int64) (kk : Nat) (x0 : Int) : Prop := ∀ (a0 : Int) (g0 : Int) (T : Int → Int) (N : Int) (sg : SS) (d n s : Nat) (S : Nat → xS) (Z : xZ) (h : mx_H) (hd : kk ≤ d) (hx : XH n s S Z h) (hG : GI n S Z) (k0 : (Z 56 6 ≤ Z 56 7 ∧ Z 56 7 ≤ Z 56 8 ∧ (Z 56 9 = 24 ∨ Z 56 6 < Z 56 7))) (k1 : Z 60 61 ≤ Z 56 6) (k2 : a0 ≤ Z 60 61) (k3 : 0 ≤ a0) (k4 : 0 ≤ g0) (hr : RM g0 T N Z (sg)), ∃ (Z' : xZ) (h' : mx_H), mx_Ca (tB l D b0 ad Hb tau) d 177 [.ref 56, xI x0] h (none, h') ∧ XH n s S Z' h' ∧ GI n S Z' ∧ fr' [(56, 6), (56, 7), (56, 9), (56, 10), (56, 11), (56, 12), (60, (-1))] Z Z' ∧ (RM g0 T N Z' (trX T N (lvI T N x0) sg) ∧ QR Z Z' a0 1 0 ∧ ((Z' 56 6 ≤ Z' 56 7 ∧ Z' 56 7 ≤ Z 56 8 ∧ (Z' 56 9 = 24 ∨ Z' 56 6 < Z' 56 7)) ∧ Z' 60 0 = Z 60 0 ∧ Z' 60 1 = Z 60 1 ∧ Z' 60 2 = Z 60 2 ∧ Z 56 6 ≤ Z' 56 6 ∧ Z 60 61 ≤ Z' 60 61 ∧ Z' 60 61 - Z 60 61 ≤ Z' 56 6 - Z 56 6))
def RBn (l : Launch) (D : va_G) (b0 : Nat) (ad : Nat → Nat) (Hb : Heap) (tau : Nat → Int64) (kk : Nat) (x0 : Int) : Prop := rbR_174 l D b0 ad Hb tau kk x0 ∧ rbR_175 l D b0 ad Hb tau kk x0 ∧ rbR_177 l D b0 ad Hb tau kk x0
def RBnh (l : Launch) (D : va_G) (b0 : Nat) (ad : Nat → Nat) (Hb : Heap) (tau : Nat → Int64) (kk : Nat) (x0 : Int) : Prop := x0 ≤ 5 → RBn l D b0 ad Hb tau kk (x0 + 1)
theorem riR_174 {l : Launch} {D : va_G} {b0 : Nat} {ad : Nat → Nat} {Hb : Heap} {tau : Nat → Int64} {x0 : Int} {kk : Nat} (IH : RBnh l D b0 ad Hb tau kk x0) (h5 : x0 ≤ 5) {a0 : Int} {g0 : Int} {T : Int → Int} {N : Int} {sg : SS} {d n s : Nat} {S : Nat → xS} {Z : xZ} {h : mx_H} (hd : kk ≤ d) (hx : XH n s S Z h) (hG : GI n S Z) (_p0 : 1 ≤ x0 + 1 ∧ x0 + 1 ≤ 6) (k0 : (Z 56 6 ≤ Z 56 7 ∧ Z 56 7 ≤ Z 56 8 ∧ (Z 56 9 = 24 ∨ Z 56 6 < Z 56 7))) (k1 : Z 60 61 ≤ Z 56 6) (k2 : a0 ≤ Z 60 61) (k3 : 0 ≤ a0) (k4 : 0 ≤ g0) (hr : RM g0 T N Z (sg)) : ∃ (Z' : xZ) (h' : mx_H), mx_Ca (tB l D b0 ad Hb tau) d 174 [.ref 56, xI (x0 + 1)] h (none, h') ∧ XH n s S Z' h' ∧ GI n S Z' ∧ fr' [(56, 6), (56, 7), (56, 9), (56, 10), (56, 11), (56, 12), (60, (-1))] Z Z' ∧ (RM g0 T N Z' (smX T N (lvI T N (x0 + 1)) sg) ∧ QR Z Z' a0 1 0 ∧ ((Z' 56 6 ≤ Z' 56 7 ∧ Z' 56 7 ≤ Z 56 8 ∧ (Z' 56 9 = 24 ∨ Z' 56 6 < Z' 56 7)) ∧ Z' 60 0 = Z 60 0 ∧ Z' 60 1 = Z 60 1 ∧ Z' 60 2 = Z 60 2 ∧ Z 56 6 ≤ Z' 56 6 ∧ Z 60 61 ≤ Z' 60 61 ∧ Z' 60 61 - Z 60 61 ≤ Z' 56 6 - Z 56 6)) := (IH h5).1 a0 g0 T N sg d n s S Z h hd hx hG k0 k1 k2 k3 k4 hr
theorem riR_175 {l : Launch} {D : va_G} {b0 : Nat} {ad : Nat → Nat} {Hb : Heap} {tau : Nat → Int64} {x0 : Int} {kk : Nat} (IH : RBnh l D b0 ad Hb tau kk x0) (h5 : x0 ≤ 5) {a0 : Int} {g0 : Int} {T : Int → Int} {N : Int} {sg : SS} {d n s : Nat} {S : Nat → xS} {Z : xZ} {h : mx_H} (hd : kk ≤ d) (hx : XH n s S Z h) (hG : GI n S Z) (_p0 : 1 ≤ x0 + 1 ∧ x0 + 1 ≤ 6) (k0 : (Z 56 6 ≤ Z 56 7 ∧ Z 56 7 ≤ Z 56 8 ∧ (Z 56 9 = 24 ∨ Z 56 6 < Z 56 7))) (k1 : Z 60 61 ≤ Z 56 6) (k2 : a0 ≤ Z 60 61) (k3 : 0 ≤ a0) (k4 : 0 ≤ g0) (hr : RM g0 T N Z (sg)) : ∃ (Z' : xZ) (h' : mx_H), mx_Ca (tB l D b0 ad Hb tau) d 175 [.ref 56, xI (x0 + 1)] h (none, h') ∧ XH n s S Z' h' ∧ GI n S Z' ∧ fr' [(56, 6), (56, 7), (56, 9), (56, 10), (56, 11), (56, 12), (60, (-1))] Z Z' ∧ (RM g0 T N Z' (unX T N (lvI T N (x0 + 1)) sg) ∧ QR Z Z' a0 1 0 ∧ ((Z' 56 6 ≤ Z' 56 7 ∧ Z' 56 7 ≤ Z 56 8 ∧ (Z' 56 9 = 24 ∨ Z' 56 6 < Z' 56 7)) ∧ Z' 60 0 = Z 60 0 ∧ Z' 60 1 = Z 60 1 ∧ Z' 60 2 = Z 60 2 ∧ Z 56 6 ≤ Z' 56 6 ∧ Z 60 61 ≤ Z' 60 61 ∧ Z' 60 61 - Z 60 61 ≤ Z' 56 6 - Z 56 6)) := (IH h5).2.1 a0 g0 T N sg d n s S Z h hd hx hG k0 k1 k2 k3 k4 hr
theorem riR_177 {l : Launch} {D : va_G} {b0 : Nat} {ad : Nat → Nat} {Hb : Heap} {tau : Nat → Int64} {x0 : Int} {kk : Nat} (IH : RBnh l D b0 ad Hb tau kk x0) (h5 : x0 ≤ 5) {a0 : Int} {g0 : Int} {T : Int → Int} {N : Int} {sg : SS} {d n s : Nat} {S : Nat → xS} {Z : xZ} {h : mx_H} (hd : kk ≤ d) (hx : XH n s S Z h) (hG : GI n S Z) (_p0 : 1 ≤ x0 + 1 ∧ x0 + 1 ≤ 6) (k0 : (Z 56 6 ≤ Z 56 7 ∧ Z 56 7 ≤ Z 56 8 ∧ (Z 56 9 = 24 ∨ Z 56 6 < Z 56 7))) (k1 : Z 60 61 ≤ Z 56 6) (k2 : a0 ≤ Z 60 61) (k3 : 0 ≤ a0) (k4 : 0 ≤ g0) (hr : RM g0 T N Z (sg)) : ∃ (Z' : xZ) (h' : mx_H), mx_Ca (tB l D b0 ad Hb tau) d 177 [.ref 56, xI (x0 + 1)] h (none, h') ∧ XH n s S Z' h' ∧ GI n S Z' ∧ fr' [(56, 6), (56, 7), (56, 9), (56, 10), (56, 11), (56, 12), (60, (-1))] Z Z' ∧ (RM g0 T N Z' (trX T N (lvI T N (x0 + 1)) sg) ∧ QR Z Z' a0 1 0 ∧ ((Z' 56 6 ≤ Z' 56 7 ∧ Z' 56 7 ≤ Z 56 8 ∧ (Z' 56 9 = 24 ∨ Z' 56 6 < Z' 56 7)) ∧ Z' 60 0 = Z 60 0 ∧ Z' 60 1 = Z 60 1 ∧ Z' 60 2 = Z 60 2 ∧ Z 56 6 ≤ Z' 56 6 ∧ Z 60 61 ≤ Z' 60 61 ∧ Z' 60 61 - Z 60 61 ≤ Z' 56 6 - Z 56 6)) := (IH h5).2.2 a0 g0 T N sg d n s S Z h hd hx hG k0 k1 k2 k3 k4 hr
set_option maxHeartbeats 8000000 in
set_option maxRecDepth 100000 in
theorem cw_172_56_s {l : Launch} {D : va_G} {b0 : Nat} {ad : Nat → Nat} {Hb : Heap} {tau : Nat → Int64} {d n s : Nat} {S : Nat → xS} {Z : xZ} {h : mx_H} {Post : mx_R → Prop} {a0 : Int} {g0 : Int} {T : Int → Int} {N : Int} {sg : SS} (hx : XH n s S Z h) (hG : GI n S Z)  {x0 : Int} (p0 : 0 ≤ x0 ∧ x0 ≤ 6) (k0 : (Z 56 6 ≤ Z 56 7 ∧ Z 56 7 ≤ Z 56 8 ∧ (Z 56 9 = 24 ∨ Z 56 6 < Z 56 7))) (k1 : Z 60 61 ≤ Z 56 6) (k2 : a0 ≤ Z 60 61) (k3 : 0 ≤ a0) (k4 : 0 ≤ g0) (k5 : ¬ Z 56 9 = 24) (k6 : Z 56 11 = 0) (hr : RM g0 T N Z sg) {kk : Nat} (IH : RBnh l D b0 ad Hb tau kk x0) (hd : kk ≤ d) (hP : ∀ (Z' : xZ) (h' : mx_H), XH n s S Z' h' → GI n S Z' → fr' [(56, 6), (56, 7), (56, 9), (56, 10), (56, 11), (56, 12), (60, (-1))] Z Z' → RM g0 T N Z' (ifX T N (lvI T N x0) sg) ∧ QR Z Z' a0 1 0 ∧ ((Z' 56 6 ≤ Z' 56 7 ∧ Z' 56 7 ≤ Z 56 8 ∧ (Z' 56 9 = 24 ∨ Z' 56 6 < Z' 56 7)) ∧ Z' 60 0 = Z 60 0 ∧ Z' 60 1 = Z 60 1 ∧ Z' 60 2 = Z 60 2 ∧ Z 56 6 ≤ Z' 56 6 ∧ Z 60 61 ≤ Z' 60 61 ∧ Z' 60 61 - Z 60 61 ≤ Z' 56 6 - Z 56 6) → Post (none, h')) : mx_J (tB l D b0 ad Hb tau) mt_172 (d + 7) 0 [some (.ref 56), some (xI x0)] [] h Post := by
    have a56 : 56 < n := lt83 (GI_n hG) rfl
    have s56 : S 56 = .inl (12, [0, 2, 2, 2, 2, 0, 0, 0, 0, 0, 0, 0, 0, 0, 0, 2, 2, 2, 0, 2, 2, 2, 0, 0, 2, 2, 2, 2, 2, 2, 0, 0, 2, 2, 2, 2, 2, 2, 2, 2, 2, 2]) := GI_s hG 56 rfl
    refine mx_J.step (sn_172 0) (fun _ _ => rfl) ?_
    refine mx_J.step (sn_172 1) (fun _ _ => rfl) ?_
    have b2 : 0 ≤ Z 56 6 ∧ Z 56 6 ≤ 900 := hG.pr 56 6
    have b3 : 0 ≤ Z 56 7 ∧ Z 56 7 ≤ 900 := hG.pr 56 7
    have b4 : 0 ≤ Z 56 8 ∧ Z 56 8 ≤ 900 := hG.pr 56 8
    have b5 : 0 ≤ Z 56 9 ∧ Z 56 9 ≤ 100 := hG.pr 56 9
    have b6 : 0 ≤ Z 56 11 ∧ Z 56 11 ≤ 4 := hG.pr 56 11
    obtain ⟨z1, Z1, h1, hc1, hx1, hG1, hf1, b1⟩ := ct_170_56 (g0 := g0) (T := T) (N := N) (sg := sg) (d := d + 0) (l := l) (D := D) (b0 := b0) (ad := ad) (Hb := Hb) (tau := tau) hx hG (show 0 ≤ x0 ∧ x0 ≤ 6 by omega) (show (Z 56 6 ≤ Z 56 7 ∧ Z 56 7 ≤ Z 56 8 ∧ (Z 56 9 = 24 ∨ Z 56 6 < Z 56 7)) by omega) (show ¬ Z 56 9 = 24 by omega) hr
    obtain ⟨br1, b1⟩ := b1
    have b7 : 0 ≤ Z1 56 6 ∧ Z1 56 6 ≤ 900 := hG1.pr 56 6
    have b8 : 0 ≤ Z1 56 7 ∧ Z1 56 7 ≤ 900 := hG1.pr 56 7
    have b9 : 0 ≤ Z1 56 9 ∧ Z1 56 9 ≤ 100 := hG1.pr 56 9
    have b10 : 0 ≤ Z1 56 11 ∧ Z1 56 11 ≤ 4 := hG1.pr 56 11
    have r1 := QR_g (k := 1) (c2 := 1) (QR_rf (Z := Z) (a := a0)) (fun e => by omega) (fun i => hf1 60 i rfl) (fun e => by omega) (by decide)
    refine Jcv hx (show mx_Sn _ _ 2 (mx_callv 170 2 12 5) from sn_172 2) a56 s56 hc1 rfl rfl rfl ?_
    refine Jif_ne (show mx_Sn _ _ 5 (mx_if_ne 9 8) from sn_172 5) (by omega) (fun q11 => ?_) (fun q11 => ?_)
    · skip
      have hx5 : x0 ≤ 5 := by omega
      have rc12 : RM g0 T N Z1 (gAd T N sg) := RM_e br1 ((gEn_y (by omega)).symm)
      refine mx_J.step (sn_172 9) (fun _ _ => rfl) ?_
      refine mx_J.step (sn_172 10) (fun _ _ => rfl) ?_
      refine JcI (z := 1) (show mx_Sn _ _ 11 (mx_const (.int 1) 12) from sn_172 11) rfl ?_
      refine Jiadd (show mx_Sn _ _ 12 (mx_iadd 13) from sn_172 12) ?_
      have eq14 : Z1 56 8 = Z 56 8 := (hf1 56 8 rfl)
      have eq15 : Z1 60 61 = Z 60 61 := (hf1 60 61 rfl)
      have b16 : 0 ≤ Z 60 61 ∧ Z 60 61 ≤ 900 := by have hq := GI_ex hG 60 61; replace hq : f60 (61 % 962) (Z 60 61) := hq; unfold f60 at hq; omega
      have b17 : (-2147483648) ≤ Z 60 61 ∧ Z 60 61 ≤ 2147483647 := hG.pr 60 61
      have eq18 : Z1 60 0 = Z 60 0 := (hf1 60 0 rfl)
      have b19 : (-2147483648) ≤ Z 60 0 ∧ Z 60 0 ≤ 2147483647 := hG.pr 60 0
      have eq20 : Z1 60 1 = Z 60 1 := (hf1 60 1 rfl)
      have b21 : 0 ≤ Z 60 1 ∧ Z 60 1 ≤ 18 := by have hq := GI_ex hG 60 1; replace hq : f60 (1 % 962) (Z 60 1) := hq; unfold f60 at hq; omega
      have b22 : (-2147483648) ≤ Z 60 1 ∧ Z 60 1 ≤ 2147483647 := hG.pr 60 1
      have eq23 : Z1 60 2 = Z 60 2 := (hf1 60 2 rfl)
      have b24 : 0 ≤ Z 60 2 ∧ Z 60 2 ≤ 18 := by have hq := GI_ex hG 60 2; replace hq : f60 (2 % 962) (Z 60 2) := hq; unfold f60 at hq; omega
      have b25 : (-2147483648) ≤ Z 60 2 ∧ Z 60 2 ≤ 2147483647 := hG.pr 60 2
      obtain ⟨Z13, h13, hc13, hx13, hG13, hf13, b13⟩ := riR_177 IH (by omega) (hd := by omega) (a0 := a0) (g0 := g0) (T := T) (N := N) (sg := gAd T N sg) (d := d + 7) (l := l) (D := D) (b0 := b0) (ad := ad) (Hb := Hb) (tau := tau) hx1 hG1 (show 1 ≤ x0 + 1 ∧ x0 + 1 ≤ 6 by omega) (show (Z1 56 6 ≤ Z1 56 7 ∧ Z1 56 7 ≤ Z1 56 8 ∧ (Z1 56 9 = 24 ∨ Z1 56 6 < Z1 56 7)) by first | omega | (simp only [eq14, eq15, eq18, eq20, eq23]; omega)) (show Z1 60 61 ≤ Z1 56 6 by first | omega | (simp only [eq14, eq15, eq18, eq20, eq23]; omega)) (show a0 ≤ Z1 60 61 by first | omega | (simp only [eq14, eq15, eq18, eq20, eq23]; omega)) (show 0 ≤ a0 by first | omega | (simp only [eq14, eq15, eq18, eq20, eq23]; omega)) (show 0 ≤ g0 by first | omega | (simp only [eq14, eq15, eq18, eq20, eq23]; omega)) rc12
      try rw [eq14] at b13
      try rw [eq15] at b13
      try rw [eq18] at b13
      try rw [eq20] at b13
      try rw [eq23] at b13
      obtain ⟨br13, b13⟩ := b13
      obtain ⟨bq13, b13⟩ := b13
      have b26 : 0 ≤ Z13 56 6 ∧ Z13 56 6 ≤ 900 := hG13.pr 56 6
      have b27 : 0 ≤ Z13 56 7 ∧ Z13 56 7 ≤ 900 := hG13.pr 56 7
      have b28 : 0 ≤ Z13 56 9 ∧ Z13 56 9 ≤ 100 := hG13.pr 56 9
      have b29 : 0 ≤ Z13 56 11 ∧ Z13 56 11 ≤ 4 := hG13.pr 56 11
      have b30 : 0 ≤ Z13 60 61 ∧ Z13 60 61 ≤ 900 := by have hq := GI_ex hG13 60 61; replace hq : f60 (61 % 962) (Z13 60 61) := hq; unfold f60 at hq; omega
      have b31 : (-2147483648) ≤ Z13 60 61 ∧ Z13 60 61 ≤ 2147483647 := hG13.pr 60 61
      have b32 : (-2147483648) ≤ Z13 60 0 ∧ Z13 60 0 ≤ 2147483647 := hG13.pr 60 0
      have b33 : 0 ≤ Z13 60 1 ∧ Z13 60 1 ≤ 18 := by have hq := GI_ex hG13 60 1; replace hq : f60 (1 % 962) (Z13 60 1) := hq; unfold f60 at hq; omega
      have b34 : (-2147483648) ≤ Z13 60 1 ∧ Z13 60 1 ≤ 2147483647 := hG13.pr 60 1
      have b35 : 0 ≤ Z13 60 2 ∧ Z13 60 2 ≤ 18 := by have hq := GI_ex hG13 60 2; replace hq : f60 (2 % 962) (Z13 60 2) := hq; unfold f60 at hq; omega
      have b36 : (-2147483648) ≤ Z13 60 2 ∧ Z13 60 2 ≤ 2147483647 := hG13.pr 60 2
      have r13 := QR_tr (d := 1) (c := 1) r1 bq13 (by decide) (by decide) (by decide)
      refine Jcv0 hx1 (show mx_Sn _ _ 13 (mx_callv 177 2 12 16) from sn_172 13) a56 s56 hc13 rfl rfl rfl ?_
      have gt6 := RM_is (k := 6) br13
      refine mx_J.step (sn_172 16) (fun _ _ => rfl) ?_
      refine JcI (z := 6) (show mx_Sn _ _ 17 (mx_const (.int 6) 19) from sn_172 17) rfl ?_
      have eq38 : Z13 56 8 = Z 56 8 := ((hf13 56 8 rfl).trans (hf1 56 8 rfl))
      obtain ⟨z37, Z37, h37, hc37, hx37, hG37, hf37, b37⟩ := ct_165_56 (g0 := g0) (T := T) (N := N) (sg := trX T N (lvI T N (x0 + 1)) (gAd T N sg)) (d := d + 0) (l := l) (D := D) (b0 := b0) (ad := ad) (Hb := Hb) (tau := tau) hx13 hG13 (show 0 ≤ 6 ∧ 6 ≤ 100 by omega) (show (Z13 56 6 ≤ Z13 56 7 ∧ Z13 56 7 ≤ Z13 56 8 ∧ (Z13 56 9 = 24 ∨ Z13 56 6 < Z13 56 7)) by first | omega | (simp only [eq38]; omega)) (show ¬ 6 = 24 by first | omega | (simp only [eq38]; omega)) br13
      try rw [eq38] at b37
      obtain ⟨br37, b37⟩ := b37
      have b39 : 0 ≤ Z37 56 6 ∧ Z37 56 6 ≤ 900 := hG37.pr 56 6
      have b40 : 0 ≤ Z37 56 7 ∧ Z37 56 7 ≤ 900 := hG37.pr 56 7
      have b41 : 0 ≤ Z37 56 9 ∧ Z37 56 9 ≤ 100 := hG37.pr 56 9
      have r37 := QR_g (k := 0) (c2 := 1) r13 (fun e => (hf37 56 11 rfl).symm.trans e) (fun i => hf37 60 i rfl) (fun e => by omega) (by decide)
      have rk37 : z37 = 1 → QR Z Z37 a0 1 2 := fun ez => QR_g (k := 1) r13 (fun e => (hf37 56 11 rfl).symm.trans e) (fun i => hf37 60 i rfl) (fun e => by omega) (by decide)
      refine Jcv hx13 (show mx_Sn _ _ 19 (mx_callv 165 2 12 22) from sn_172 19) a56 s56 hc37 rfl rfl rfl ?_
      have c30 : ∀  (Z43 : xZ) (h43 : mx_H), (Z43 56 6 ≤ Z43 56 7 ∧ Z43 56 7 ≤ Z 56 8) → (Z43 56 9 = 24 ∨ Z43 56 6 < Z43 56 7) → (Z 56 6 ≤ Z43 56 6 ∧ Z 60 61 ≤ Z43 60 61 ∧ Z43 60 61 - Z 60 61 ≤ Z43 56 6 - Z 56 6) → (Z43 60 0 = Z 60 0 ∧ Z43 60 1 = Z 60 1 ∧ Z43 60 2 = Z 60 2) → QR Z Z43 a0 1 1 → RM g0 T N Z43 (gEx T N 6 (trX T N (lvI T N (x0 + 1)) (gAd T N sg))) → XH n s S Z43 h43 → GI n S Z43 → fr' [(56, 11), (56, 12)] Z37 Z43 → mx_J (tB l D b0 ad Hb tau) mt_172 (d + 7) 30 [some (.ref 56), some (xI x0)] [] h43 Post := by
        intro Z43 h43 f42_0 f42_1 f42_2 f42_3 f42_4 f42_5 hx43 hG43 hf43
        clear b1 b13 b37
        have eq44 : Z43 56 6 = Z37 56 6 := (hf43 56 6 rfl)
        have eq45 : Z43 56 7 = Z37 56 7 := (hf43 56 7 rfl)
        have eq46 : Z43 56 6 = Z37 56 6 := (hf43 56 6 rfl)
        have eq47 : Z43 56 7 = Z37 56 7 := (hf43 56 7 rfl)
        have eq48 : Z43 56 9 = Z37 56 9 := (hf43 56 9 rfl)
        have eq49 : Z43 56 6 = Z37 56 6 := (hf43 56 6 rfl)
        have eq50 : Z43 60 61 = Z13 60 61 := ((hf43 60 61 rfl).trans (hf37 60 61 rfl))
        have eq51 : Z43 60 0 = Z13 60 0 := ((hf43 60 0 rfl).trans (hf37 60 0 rfl))
        have eq52 : Z43 60 1 = Z13 60 1 := ((hf43 60 1 rfl).trans (hf37 60 1 rfl))
        have eq53 : Z43 60 2 = Z13 60 2 := ((hf43 60 2 rfl).trans (hf37 60 2 rfl))
        refine mx_J.step (sn_172 30) (fun _ _ => rfl) ?_
        refine mx_J.step (sn_172 31) (fun _ _ => rfl) ?_
        refine JcI (z := 1) (show mx_Sn _ _ 32 (mx_const (.int 1) 33) from sn_172 32) rfl ?_
        refine Jiadd (show mx_Sn _ _ 33 (mx_iadd 34) from sn_172 33) ?_
        have eq55 : Z43 56 6 = Z37 56 6 := (hf43 56 6 rfl)
        have eq56 : Z43 56 7 = Z37 56 7 := (hf43 56 7 rfl)
        have eq57 : Z43 56 8 = Z 56 8 := ((hf43 56 8 rfl).trans ((hf37 56 8 rfl).trans ((hf13 56 8 rfl).trans (hf1 56 8 rfl))))
        have eq58 : Z43 56 9 = Z37 56 9 := (hf43 56 9 rfl)
        have b59 : 0 ≤ Z43 56 11 ∧ Z43 56 11 ≤ 4 := hG43.pr 56 11
        have eq60 : Z43 60 61 = Z13 60 61 := ((hf43 60 61 rfl).trans (hf37 60 61 rfl))
        have eq61 : Z43 60 0 = Z13 60 0 := ((hf43 60 0 rfl).trans (hf37 60 0 rfl))
        have eq62 : Z43 60 1 = Z13 60 1 := ((hf43 60 1 rfl).trans (hf37 60 1 rfl))
        have eq63 : Z43 60 2 = Z13 60 2 := ((hf43 60 2 rfl).trans (hf37 60 2 rfl))
        obtain ⟨Z54, h54, hc54, hx54, hG54, hf54, b54⟩ := riR_174 IH (by omega) (hd := by omega) (a0 := a0) (g0 := g0) (T := T) (N := N) (sg := gEx T N 6 (trX T N (lvI T N (x0 + 1)) (gAd T N sg))) (d := d + 7) (l := l) (D := D) (b0 := b0) (ad := ad) (Hb := Hb) (tau := tau) hx43 hG43 (show 1 ≤ x0 + 1 ∧ x0 + 1 ≤ 6 by omega) (show (Z43 56 6 ≤ Z43 56 7 ∧ Z43 56 7 ≤ Z43 56 8 ∧ (Z43 56 9 = 24 ∨ Z43 56 6 < Z43 56 7)) by first | omega | (simp only [eq55, eq56, eq57, eq58, eq60, eq61, eq62, eq63]; omega)) (show Z43 60 61 ≤ Z43 56 6 by first | omega | (simp only [eq55, eq56, eq57, eq58, eq60, eq61, eq62, eq63]; omega)) (show a0 ≤ Z43 60 61 by first | omega | (simp only [eq55, eq56, eq57, eq58, eq60, eq61, eq62, eq63]; omega)) (show 0 ≤ a0 by first | omega | (simp only [eq55, eq56, eq57, eq58, eq60, eq61, eq62, eq63]; omega)) (show 0 ≤ g0 by first | omega | (simp only [eq55, eq56, eq57, eq58, eq60, eq61, eq62, eq63]; omega)) f42_5
        try rw [eq55] at b54
        try rw [eq56] at b54
        try rw [eq57] at b54
        try rw [eq58] at b54
        try rw [eq60] at b54
        try rw [eq61] at b54
        try rw [eq62] at b54
        try rw [eq63] at b54
        obtain ⟨br54, b54⟩ := b54
        obtain ⟨bq54, b54⟩ := b54
        have b64 : 0 ≤ Z54 56 6 ∧ Z54 56 6 ≤ 900 := hG54.pr 56 6
        have b65 : 0 ≤ Z54 56 7 ∧ Z54 56 7 ≤ 900 := hG54.pr 56 7
        have b66 : 0 ≤ Z54 56 9 ∧ Z54 56 9 ≤ 100 := hG54.pr 56 9
        have b67 : 0 ≤ Z54 56 11 ∧ Z54 56 11 ≤ 4 := hG54.pr 56 11
        have b68 : 0 ≤ Z54 60 61 ∧ Z54 60 61 ≤ 900 := by have hq := GI_ex hG54 60 61; replace hq : f60 (61 % 962) (Z54 60 61) := hq; unfold f60 at hq; omega
        have b69 : (-2147483648) ≤ Z54 60 61 ∧ Z54 60 61 ≤ 2147483647 := hG54.pr 60 61
        have b70 : (-2147483648) ≤ Z54 60 0 ∧ Z54 60 0 ≤ 2147483647 := hG54.pr 60 0
        have b71 : 0 ≤ Z54 60 1 ∧ Z54 60 1 ≤ 18 := by have hq := GI_ex hG54 60 1; replace hq : f60 (1 % 962) (Z54 60 1) := hq; unfold f60 at hq; omega
        have b72 : (-2147483648) ≤ Z54 60 1 ∧ Z54 60 1 ≤ 2147483647 := hG54.pr 60 1
        have b73 : 0 ≤ Z54 60 2 ∧ Z54 60 2 ≤ 18 := by have hq := GI_ex hG54 60 2; replace hq : f60 (2 % 962) (Z54 60 2) := hq; unfold f60 at hq; omega
        have b74 : (-2147483648) ≤ Z54 60 2 ∧ Z54 60 2 ≤ 2147483647 := hG54.pr 60 2
        have r54 := QR_tr (d := 2) (c := 1) f42_4 bq54 (by decide) (by decide) (by decide)
        refine Jcv0 hx43 (show mx_Sn _ _ 34 (mx_callv 174 2 12 37) from sn_172 34) a56 s56 hc54 rfl rfl rfl ?_
        have gt7 := RM_is (k := 7) br54
        refine mx_J.step (sn_172 37) (fun _ _ => rfl) ?_
        refine JcI (z := 7) (show mx_Sn _ _ 38 (mx_const (.int 7) 40) from sn_172 38) rfl ?_
        have eq76 : Z54 56 8 = Z 56 8 := ((hf54 56 8 rfl).trans ((hf43 56 8 rfl).trans ((hf37 56 8 rfl).trans ((hf13 56 8 rfl).trans (hf1 56 8 rfl)))))
        obtain ⟨z75, Z75, h75, hc75, hx75, hG75, hf75, b75⟩ := ct_165_56 (g0 := g0) (T := T) (N := N) (sg := smX T N (lvI T N (x0 + 1)) (gEx T N 6 (trX T N (lvI T N (x0 + 1)) (gAd T N sg)))) (d := d + 0) (l := l) (D := D) (b0 := b0) (ad := ad) (Hb := Hb) (tau := tau) hx54 hG54 (show 0 ≤ 7 ∧ 7 ≤ 100 by omega) (show (Z54 56 6 ≤ Z54 56 7 ∧ Z54 56 7 ≤ Z54 56 8 ∧ (Z54 56 9 = 24 ∨ Z54 56 6 < Z54 56 7)) by first | omega | (simp only [eq76]; omega)) (show ¬ 7 = 24 by first | omega | (simp only [eq76]; omega)) br54
        try rw [eq76] at b75
        obtain ⟨br75, b75⟩ := b75
        have b77 : 0 ≤ Z75 56 6 ∧ Z75 56 6 ≤ 900 := hG75.pr 56 6
        have b78 : 0 ≤ Z75 56 7 ∧ Z75 56 7 ≤ 900 := hG75.pr 56 7
        have b79 : 0 ≤ Z75 56 9 ∧ Z75 56 9 ≤ 100 := hG75.pr 56 9
        have r75 := QR_g (k := 0) (c2 := 1) r54 (fun e => (hf75 56 11 rfl).symm.trans e) (fun i => hf75 60 i rfl) (fun e => by omega) (by decide)
        have rk75 : z75 = 1 → QR Z Z75 a0 2 2 := fun ez => QR_g (k := 1) r54 (fun e => (hf75 56 11 rfl).symm.trans e) (fun i => hf75 60 i rfl) (fun e => by omega) (by decide)
        refine Jcv hx54 (show mx_Sn _ _ 40 (mx_callv 165 2 12 43) from sn_172 40) a56 s56 hc75 rfl rfl rfl ?_
        have c51 : ∀  (Z81 : xZ) (h81 : mx_H), (Z81 56 6 ≤ Z81 56 7 ∧ Z81 56 7 ≤ Z 56 8) → (Z81 56 9 = 24 ∨ Z81 56 6 < Z81 56 7) → (Z 56 6 ≤ Z81 56 6 ∧ Z 60 61 ≤ Z81 60 61 ∧ Z81 60 61 - Z 60 61 ≤ Z81 56 6 - Z 56 6) → (Z81 60 0 = Z 60 0 ∧ Z81 60 1 = Z 60 1 ∧ Z81 60 2 = Z 60 2) → QR Z Z81 a0 2 1 → RM g0 T N Z81 (gEx T N 7 (smX T N (lvI T N (x0 + 1)) (gEx T N 6 (trX T N (lvI T N (x0 + 1)) (gAd T N sg))))) → XH n s S Z81 h81 → GI n S Z81 → fr' [(56, 11), (56, 12)] Z75 Z81 → mx_J (tB l D b0 ad Hb tau) mt_172 (d + 7) 51 [some (.ref 56), some (xI x0)] [] h81 Post := by
          intro Z81 h81 f80_0 f80_1 f80_2 f80_3 f80_4 f80_5 hx81 hG81 hf81
          clear b54 b75
          have eq82 : Z81 56 6 = Z75 56 6 := (hf81 56 6 rfl)
          have eq83 : Z81 56 7 = Z75 56 7 := (hf81 56 7 rfl)
          have eq84 : Z81 56 6 = Z75 56 6 := (hf81 56 6 rfl)
          have eq85 : Z81 56 7 = Z75 56 7 := (hf81 56 7 rfl)
          have eq86 : Z81 56 9 = Z75 56 9 := (hf81 56 9 rfl)
          have eq87 : Z81 56 6 = Z75 56 6 := (hf81 56 6 rfl)
          have eq88 : Z81 60 61 = Z54 60 61 := ((hf81 60 61 rfl).trans (hf75 60 61 rfl))
          have eq89 : Z81 60 0 = Z54 60 0 := ((hf81 60 0 rfl).trans (hf75 60 0 rfl))
          have eq90 : Z81 60 1 = Z54 60 1 := ((hf81 60 1 rfl).trans (hf75 60 1 rfl))
          have eq91 : Z81 60 2 = Z54 60 2 := ((hf81 60 2 rfl).trans (hf75 60 2 rfl))
          refine mx_J.step (sn_172 51) (fun _ _ => rfl) ?_
          refine mx_J.step (sn_172 52) (fun _ _ => rfl) ?_
          refine JcI (z := 1) (show mx_Sn _ _ 53 (mx_const (.int 1) 54) from sn_172 53) rfl ?_
          refine Jiadd (show mx_Sn _ _ 54 (mx_iadd 55) from sn_172 54) ?_
          have eq93 : Z81 56 6 = Z75 56 6 := (hf81 56 6 rfl)
          have eq94 : Z81 56 7 = Z75 56 7 := (hf81 56 7 rfl)
          have eq95 : Z81 56 8 = Z 56 8 := ((hf81 56 8 rfl).trans ((hf75 56 8 rfl).trans ((hf54 56 8 rfl).trans ((hf43 56 8 rfl).trans ((hf37 56 8 rfl).trans ((hf13 56 8 rfl).trans (hf1 56 8 rfl)))))))
          have eq96 : Z81 56 9 = Z75 56 9 := (hf81 56 9 rfl)
          have b97 : 0 ≤ Z81 56 11 ∧ Z81 56 11 ≤ 4 := hG81.pr 56 11
          have eq98 : Z81 60 61 = Z54 60 61 := ((hf81 60 61 rfl).trans (hf75 60 61 rfl))
          have eq99 : Z81 60 0 = Z54 60 0 := ((hf81 60 0 rfl).trans (hf75 60 0 rfl))
          have eq100 : Z81 60 1 = Z54 60 1 := ((hf81 60 1 rfl).trans (hf75 60 1 rfl))
          have eq101 : Z81 60 2 = Z54 60 2 := ((hf81 60 2 rfl).trans (hf75 60 2 rfl))
          obtain ⟨Z92, h92, hc92, hx92, hG92, hf92, b92⟩ := riR_174 IH (by omega) (hd := by omega) (a0 := a0) (g0 := g0) (T := T) (N := N) (sg := gEx T N 7 (smX T N (lvI T N (x0 + 1)) (gEx T N 6 (trX T N (lvI T N (x0 + 1)) (gAd T N sg))))) (d := d + 7) (l := l) (D := D) (b0 := b0) (ad := ad) (Hb := Hb) (tau := tau) hx81 hG81 (show 1 ≤ x0 + 1 ∧ x0 + 1 ≤ 6 by omega) (show (Z81 56 6 ≤ Z81 56 7 ∧ Z81 56 7 ≤ Z81 56 8 ∧ (Z81 56 9 = 24 ∨ Z81 56 6 < Z81 56 7)) by first | omega | (simp only [eq93, eq94, eq95, eq96, eq98, eq99, eq100, eq101]; omega)) (show Z81 60 61 ≤ Z81 56 6 by first | omega | (simp only [eq93, eq94, eq95, eq96, eq98, eq99, eq100, eq101]; omega)) (show a0 ≤ Z81 60 61 by first | omega | (simp only [eq93, eq94, eq95, eq96, eq98, eq99, eq100, eq101]; omega)) (show 0 ≤ a0 by first | omega | (simp only [eq93, eq94, eq95, eq96, eq98, eq99, eq100, eq101]; omega)) (show 0 ≤ g0 by first | omega | (simp only [eq93, eq94, eq95, eq96, eq98, eq99, eq100, eq101]; omega)) f80_5
          try rw [eq93] at b92
          try rw [eq94] at b92
          try rw [eq95] at b92
          try rw [eq96] at b92
          try rw [eq98] at b92
          try rw [eq99] at b92
          try rw [eq100] at b92
          try rw [eq101] at b92
          obtain ⟨br92, b92⟩ := b92
          obtain ⟨bq92, b92⟩ := b92
          have b102 : 0 ≤ Z92 56 6 ∧ Z92 56 6 ≤ 900 := hG92.pr 56 6
          have b103 : 0 ≤ Z92 56 7 ∧ Z92 56 7 ≤ 900 := hG92.pr 56 7
          have b104 : 0 ≤ Z92 56 9 ∧ Z92 56 9 ≤ 100 := hG92.pr 56 9
          have b105 : 0 ≤ Z92 56 11 ∧ Z92 56 11 ≤ 4 := hG92.pr 56 11
          have b106 : 0 ≤ Z92 60 61 ∧ Z92 60 61 ≤ 900 := by have hq := GI_ex hG92 60 61; replace hq : f60 (61 % 962) (Z92 60 61) := hq; unfold f60 at hq; omega
          have b107 : (-2147483648) ≤ Z92 60 61 ∧ Z92 60 61 ≤ 2147483647 := hG92.pr 60 61
          have b108 : (-2147483648) ≤ Z92 60 0 ∧ Z92 60 0 ≤ 2147483647 := hG92.pr 60 0
          have b109 : 0 ≤ Z92 60 1 ∧ Z92 60 1 ≤ 18 := by have hq := GI_ex hG92 60 1; replace hq : f60 (1 % 962) (Z92 60 1) := hq; unfold f60 at hq; omega
          have b110 : (-2147483648) ≤ Z92 60 1 ∧ Z92 60 1 ≤ 2147483647 := hG92.pr 60 1
          have b111 : 0 ≤ Z92 60 2 ∧ Z92 60 2 ≤ 18 := by have hq := GI_ex hG92 60 2; replace hq : f60 (2 % 962) (Z92 60 2) := hq; unfold f60 at hq; omega
          have b112 : (-2147483648) ≤ Z92 60 2 ∧ Z92 60 2 ≤ 2147483647 := hG92.pr 60 2
          have r92 := QR_tr (d := 3) (c := 1) f80_4 bq92 (by decide) (by decide) (by decide)
          refine Jcv0 hx81 (show mx_Sn _ _ 55 (mx_callv 174 2 12 58) from sn_172 55) a56 s56 hc92 rfl rfl rfl ?_
          have gt8 := RM_is (k := 8) br92
          refine mx_J.step (sn_172 58) (fun _ _ => rfl) ?_
          refine JcI (z := 8) (show mx_Sn _ _ 59 (mx_const (.int 8) 61) from sn_172 59) rfl ?_
          have eq114 : Z92 56 8 = Z 56 8 := ((hf92 56 8 rfl).trans ((hf81 56 8 rfl).trans ((hf75 56 8 rfl).trans ((hf54 56 8 rfl).trans ((hf43 56 8 rfl).trans ((hf37 56 8 rfl).trans ((hf13 56 8 rfl).trans (hf1 56 8 rfl))))))))
          obtain ⟨z113, Z113, h113, hc113, hx113, hG113, hf113, b113⟩ := ct_165_56 (g0 := g0) (T := T) (N := N) (sg := smX T N (lvI T N (x0 + 1)) (gEx T N 7 (smX T N (lvI T N (x0 + 1)) (gEx T N 6 (trX T N (lvI T N (x0 + 1)) (gAd T N sg)))))) (d := d + 0) (l := l) (D := D) (b0 := b0) (ad := ad) (Hb := Hb) (tau := tau) hx92 hG92 (show 0 ≤ 8 ∧ 8 ≤ 100 by omega) (show (Z92 56 6 ≤ Z92 56 7 ∧ Z92 56 7 ≤ Z92 56 8 ∧ (Z92 56 9 = 24 ∨ Z92 56 6 < Z92 56 7)) by first | omega | (simp only [eq114]; omega)) (show ¬ 8 = 24 by first | omega | (simp only [eq114]; omega)) br92
          try rw [eq114] at b113
          obtain ⟨br113, b113⟩ := b113
          have b115 : 0 ≤ Z113 56 6 ∧ Z113 56 6 ≤ 900 := hG113.pr 56 6
          have b116 : 0 ≤ Z113 56 7 ∧ Z113 56 7 ≤ 900 := hG113.pr 56 7
          have b117 : 0 ≤ Z113 56 9 ∧ Z113 56 9 ≤ 100 := hG113.pr 56 9
          have r113 := QR_g (k := 0) (c2 := 1) r92 (fun e => (hf113 56 11 rfl).symm.trans e) (fun i => hf113 60 i rfl) (fun e => by omega) (by decide)
          have rk113 : z113 = 1 → QR Z Z113 a0 3 2 := fun ez => QR_g (k := 1) r92 (fun e => (hf113 56 11 rfl).symm.trans e) (fun i => hf113 60 i rfl) (fun e => by omega) (by decide)
          refine Jcv hx92 (show mx_Sn _ _ 61 (mx_callv 165 2 12 64) from sn_172 61) a56 s56 hc113 rfl rfl rfl ?_
          have c72 : ∀  (Z119 : xZ) (h119 : mx_H), (Z119 56 6 ≤ Z119 56 7 ∧ Z119 56 7 ≤ Z 56 8) → (Z119 56 9 = 24 ∨ Z119 56 6 < Z119 56 7) → (Z 56 6 ≤ Z119 56 6 ∧ Z 60 61 ≤ Z119 60 61 ∧ Z119 60 61 - Z 60 61 ≤ Z119 56 6 - Z 56 6) → (Z119 60 0 = Z 60 0 ∧ Z119 60 1 = Z 60 1 ∧ Z119 60 2 = Z 60 2) → QR Z Z119 a0 3 1 → RM g0 T N Z119 (gEx T N 8 (smX T N (lvI T N (x0 + 1)) (gEx T N 7 (smX T N (lvI T N (x0 + 1)) (gEx T N 6 (trX T N (lvI T N (x0 + 1)) (gAd T N sg))))))) → XH n s S Z119 h119 → GI n S Z119 → fr' [(56, 11), (56, 12)] Z113 Z119 → mx_J (tB l D b0 ad Hb tau) mt_172 (d + 7) 72 [some (.ref 56), some (xI x0)] [] h119 Post := by
            intro Z119 h119 f118_0 f118_1 f118_2 f118_3 f118_4 f118_5 hx119 hG119 hf119
            clear b92 b113
            have eq120 : Z119 56 6 = Z113 56 6 := (hf119 56 6 rfl)
            have eq121 : Z119 56 7 = Z113 56 7 := (hf119 56 7 rfl)
            have eq122 : Z119 56 6 = Z113 56 6 := (hf119 56 6 rfl)
            have eq123 : Z119 56 7 = Z113 56 7 := (hf119 56 7 rfl)
            have eq124 : Z119 56 9 = Z113 56 9 := (hf119 56 9 rfl)
            have eq125 : Z119 56 6 = Z113 56 6 := (hf119 56 6 rfl)
            have eq126 : Z119 60 61 = Z92 60 61 := ((hf119 60 61 rfl).trans (hf113 60 61 rfl))
            have eq127 : Z119 60 0 = Z92 60 0 := ((hf119 60 0 rfl).trans (hf113 60 0 rfl))
            have eq128 : Z119 60 1 = Z92 60 1 := ((hf119 60 1 rfl).trans (hf113 60 1 rfl))
            have eq129 : Z119 60 2 = Z92 60 2 := ((hf119 60 2 rfl).trans (hf113 60 2 rfl))
            refine mx_J.step (sn_172 72) (fun _ _ => rfl) ?_
            refine JcI (z := 3009) (show mx_Sn _ _ 73 (mx_const (.int 3009) 76) from sn_172 73) rfl ?_
            have eq131 : Z119 56 8 = Z 56 8 := ((hf119 56 8 rfl).trans ((hf113 56 8 rfl).trans ((hf92 56 8 rfl).trans ((hf81 56 8 rfl).trans ((hf75 56 8 rfl).trans ((hf54 56 8 rfl).trans ((hf43 56 8 rfl).trans ((hf37 56 8 rfl).trans ((hf13 56 8 rfl).trans (hf1 56 8 rfl))))))))))
            have b132 : 0 ≤ Z119 56 11 ∧ Z119 56 11 ≤ 4 := hG119.pr 56 11
            have eq133 : Z119 60 61 = Z92 60 61 := ((hf119 60 61 rfl).trans (hf113 60 61 rfl))
            have eq134 : DP Z119 a0 = DP Z92 a0 := ((DP_c (fun i => hf119 60 i rfl)).trans (DP_c (fun i => hf113 60 i rfl)))
            have eq135 : MW Z119 a0 = MW Z92 a0 := ((MW_c (fun i => hf119 60 i rfl)).trans (MW_c (fun i => hf113 60 i rfl)))
            have eq136 : WFF Z119  = WFF Z92 := ((WFF_c (fun i => hf119 60 i rfl)).trans (WFF_c (fun i => hf113 60 i rfl)))
            have eq137 : Z119 60 0 = Z92 60 0 := ((hf119 60 0 rfl).trans (hf113 60 0 rfl))
            have eq138 : Z119 60 1 = Z92 60 1 := ((hf119 60 1 rfl).trans (hf113 60 1 rfl))
            have eq139 : Z119 60 2 = Z92 60 2 := ((hf119 60 2 rfl).trans (hf113 60 2 rfl))
            have rp130 := QR_n f118_4
            obtain ⟨Z130, h130, hc130, hx130, hG130, hf130, b130⟩ := ct_169_56_3009 (a0 := a0) (g0 := g0) (T := T) (N := N) (sg := gEx T N 8 (smX T N (lvI T N (x0 + 1)) (gEx T N 7 (smX T N (lvI T N (x0 + 1)) (gEx T N 6 (trX T N (lvI T N (x0 + 1)) (gAd T N sg))))))) (d := d + 6) (l := l) (D := D) (b0 := b0) (ad := ad) (Hb := Hb) (tau := tau) hx119 hG119  (show (Z119 56 11 = 0 → Z119 60 61 ≤ 899) by first | omega | (simp only [eq131, eq133, eq137, eq138, eq139]; omega)) (show a0 ≤ Z119 60 61 by first | omega | (simp only [eq131, eq133, eq137, eq138, eq139]; omega)) (show 0 ≤ a0 by first | omega | (simp only [eq131, eq133, eq137, eq138, eq139]; omega)) (show 0 ≤ g0 by first | omega | (simp only [eq131, eq133, eq137, eq138, eq139]; omega)) f118_5
            try rw [eq131] at b130
            try rw [eq133] at b130
            try rw [eq137] at b130
            try rw [eq138] at b130
            try rw [eq139] at b130
            obtain ⟨br130, b130⟩ := b130
            obtain ⟨bq130, b130⟩ := b130
            have b140 : 0 ≤ Z130 60 61 ∧ Z130 60 61 ≤ 900 := by have hq := GI_ex hG130 60 61; replace hq : f60 (61 % 962) (Z130 60 61) := hq; unfold f60 at hq; omega
            have b141 : (-2147483648) ≤ Z130 60 61 ∧ Z130 60 61 ≤ 2147483647 := hG130.pr 60 61
            have b142 : (-2147483648) ≤ Z130 60 0 ∧ Z130 60 0 ≤ 2147483647 := hG130.pr 60 0
            have b143 : 0 ≤ Z130 60 1 ∧ Z130 60 1 ≤ 18 := by have hq := GI_ex hG130 60 1; replace hq : f60 (1 % 962) (Z130 60 1) := hq; unfold f60 at hq; omega
            have b144 : (-2147483648) ≤ Z130 60 1 ∧ Z130 60 1 ≤ 2147483647 := hG130.pr 60 1
            have b145 : 0 ≤ Z130 60 2 ∧ Z130 60 2 ≤ 18 := by have hq := GI_ex hG130 60 2; replace hq : f60 (2 % 962) (Z130 60 2) := hq; unfold f60 at hq; omega
            have b146 : (-2147483648) ≤ Z130 60 2 ∧ Z130 60 2 ≤ 2147483647 := hG130.pr 60 2
            have rn130 := QR_n f118_4
            have r130 := QR_c (d2 := 1) (c2 := 0) f118_4 bq130 (by omega) (hf130 56 11 rfl) (hf130 56 6 rfl) (by decide) (by decide) (by decide)
            refine Jcv0 hx119 (show mx_Sn _ _ 76 (mx_callv 169 2 12 79) from sn_172 76) a56 s56 hc130 rfl rfl rfl ?_
            have eq147 : Z130 56 6 = Z113 56 6 := ((hf130 56 6 rfl).trans (hf119 56 6 rfl))
            have eq148 : Z130 56 7 = Z113 56 7 := ((hf130 56 7 rfl).trans (hf119 56 7 rfl))
            have eq149 : Z130 56 9 = Z113 56 9 := ((hf130 56 9 rfl).trans (hf119 56 9 rfl))
            have eq150 : Z130 56 11 = Z119 56 11 := (hf130 56 11 rfl)
            have eq151 : Z130 56 6 = Z113 56 6 := ((hf130 56 6 rfl).trans (hf119 56 6 rfl))
            have eq152 : Z130 56 7 = Z113 56 7 := ((hf130 56 7 rfl).trans (hf119 56 7 rfl))
            have eq153 : Z130 56 8 = Z 56 8 := ((hf130 56 8 rfl).trans ((hf119 56 8 rfl).trans ((hf113 56 8 rfl).trans ((hf92 56 8 rfl).trans ((hf81 56 8 rfl).trans ((hf75 56 8 rfl).trans ((hf54 56 8 rfl).trans ((hf43 56 8 rfl).trans ((hf37 56 8 rfl).trans ((hf13 56 8 rfl).trans (hf1 56 8 rfl)))))))))))
            have eq154 : Z130 56 9 = Z113 56 9 := ((hf130 56 9 rfl).trans (hf119 56 9 rfl))
            have eq155 : Z130 56 11 = Z119 56 11 := (hf130 56 11 rfl)
            exact mx_J.ret (sn_172 79) (fun _ _ => rfl) (hP Z130 h130 hx130 hG130 (fr_tr (M := [(56, 6), (56, 7), (56, 9), (56, 10), (56, 11), (56, 12), (60, (-1))]) (fr_tr (M := [(56, 6), (56, 7), (56, 9), (56, 10), (56, 11), (56, 12), (60, (-1))]) (fr_tr (M := [(56, 6), (56, 7), (56, 9), (56, 10), (56, 11), (56, 12), (60, (-1))]) (fr_tr (M := [(56, 6), (56, 7), (56, 9), (56, 10), (56, 11), (56, 12), (60, (-1))]) (fr_tr (M := [(56, 6), (56, 7), (56, 9), (56, 10), (56, 11), (56, 12), (60, (-1))]) (fr_tr (M := [(56, 6), (56, 7), (56, 9), (56, 10), (56, 11), (56, 12), (60, (-1))]) (fr_tr (M := [(56, 6), (56, 7), (56, 9), (56, 10), (56, 11), (56, 12), (60, (-1))]) (fr_tr (M := [(56, 6), (56, 7), (56, 9), (56, 10), (56, 11), (56, 12), (60, (-1))]) (fr_tr (M := [(56, 6), (56, 7), (56, 9), (56, 10), (56, 11), (56, 12), (60, (-1))]) (fr_tr (M := [(56, 6), (56, 7), (56, 9), (56, 10), (56, 11), (56, 12), (60, (-1))]) (fr_tr (M := [(56, 6), (56, 7), (56, 9), (56, 10), (56, 11), (56, 12), (60, (-1))]) fr_rf (hf1) (M1 := []) rfl rfl) (hf13) rfl rfl) (hf37) rfl rfl) (hf43) rfl rfl) (hf54) rfl rfl) (hf75) rfl rfl) (hf81) rfl rfl) (hf92) rfl rfl) (hf113) rfl rfl) (hf119) rfl rfl) (hf130) rfl rfl) ⟨(RM_e br130 (in_y hx5)), (QR_le r130 (by decide)), by omega⟩)
          refine Jif_ne (show mx_Sn _ _ 64 (mx_if_ne 72 67) from sn_172 64) (by omega) (fun q156 => ?_) (fun q156 => ?_)
          · skip
            have eq157 : Z113 60 61 = Z92 60 61 := (hf113 60 61 rfl)
            have eq158 : Z113 60 0 = Z92 60 0 := (hf113 60 0 rfl)
            have eq159 : Z113 60 1 = Z92 60 1 := (hf113 60 1 rfl)
            have eq160 : Z113 60 2 = Z92 60 2 := (hf113 60 2 rfl)
            exact c72 Z113 h113 (by omega) (by omega) (by omega) (by omega) (QR_le (rk113 (by omega)) (by decide)) (RM_e br113 (ee_y (gt8.mp (by omega)))) hx113 hG113 fr_rf
          · skip
            refine mx_J.step (sn_172 67) (fun _ _ => rfl) ?_
            refine JcI (z := 2) (show mx_Sn _ _ 68 (mx_const (.int 2) 69) from sn_172 68) rfl ?_
            have eq162 : Z113 56 11 = Z92 56 11 := (hf113 56 11 rfl)
            obtain ⟨Z161, h161, hc161, hx161, hG161, hf161, b161⟩ := ct_163_56 (g0 := g0) (T := T) (N := N) (sg := gEt T N 8 (smX T N (lvI T N (x0 + 1)) (gEx T N 7 (smX T N (lvI T N (x0 + 1)) (gEx T N 6 (trX T N (lvI T N (x0 + 1)) (gAd T N sg))))))) (d := d + 6) (l := l) (D := D) (b0 := b0) (ad := ad) (Hb := Hb) (tau := tau) hx113 hG113 (show 2 ≤ 2 ∧ 2 ≤ 4 by omega) br113
            try rw [eq162] at b161
            obtain ⟨br161, b161⟩ := b161
            have b163 : 0 ≤ Z161 56 11 ∧ Z161 56 11 ≤ 4 := hG161.pr 56 11
            have r161 : ¬ Z161 56 11 = 0 := by omega
            refine Jcv0 hx113 (show mx_Sn _ _ 69 (mx_callv 163 2 12 72) from sn_172 69) a56 s56 hc161 rfl rfl rfl ?_
            have eq164 : Z161 56 6 = Z113 56 6 := (hf161 56 6 rfl)
            have eq165 : Z161 56 7 = Z113 56 7 := (hf161 56 7 rfl)
            have eq166 : Z161 56 6 = Z113 56 6 := (hf161 56 6 rfl)
            have eq167 : Z161 56 7 = Z113 56 7 := (hf161 56 7 rfl)
            have eq168 : Z161 56 9 = Z113 56 9 := (hf161 56 9 rfl)
            have eq169 : Z161 56 6 = Z113 56 6 := (hf161 56 6 rfl)
            have eq170 : Z161 60 61 = Z92 60 61 := ((hf161 60 61 rfl).trans (hf113 60 61 rfl))
            have eq171 : Z161 60 0 = Z92 60 0 := ((hf161 60 0 rfl).trans (hf113 60 0 rfl))
            have eq172 : Z161 60 1 = Z92 60 1 := ((hf161 60 1 rfl).trans (hf113 60 1 rfl))
            have eq173 : Z161 60 2 = Z92 60 2 := ((hf161 60 2 rfl).trans (hf113 60 2 rfl))
            exact c72 Z161 h161 (by omega) (by omega) (by omega) (by omega) (QR_f r161) (RM_e br161 (ee_n (fun q => by have := gt8.mpr q; omega))) hx161 hG161 (fr_tr (M := [(56, 11), (56, 12)]) fr_rf (hf161) (M1 := []) rfl rfl)
        refine Jif_ne (show mx_Sn _ _ 43 (mx_if_ne 51 46) from sn_172 43) (by omega) (fun q174 => ?_) (fun q174 => ?_)
        · skip
          have eq175 : Z75 60 61 = Z54 60 61 := (hf75 60 61 rfl)
          have eq176 : Z75 60 0 = Z54 60 0 := (hf75 60 0 rfl)
          have eq177 : Z75 60 1 = Z54 60 1 := (hf75 60 1 rfl)
          have eq178 : Z75 60 2 = Z54 60 2 := (hf75 60 2 rfl)
          exact c51 Z75 h75 (by omega) (by omega) (by omega) (by omega) (QR_le (rk75 (by omega)) (by decide)) (RM_e br75 (ee_y (gt7.mp (by omega)))) hx75 hG75 fr_rf
        · skip
          refine mx_J.step (sn_172 46) (fun _ _ => rfl) ?_
          refine JcI (z := 2) (show mx_Sn _ _ 47 (mx_const (.int 2) 48) from sn_172 47) rfl ?_
          have eq180 : Z75 56 11 = Z54 56 11 := (hf75 56 11 rfl)
          obtain ⟨Z179, h179, hc179, hx179, hG179, hf179, b179⟩ := ct_163_56 (g0 := g0) (T := T) (N := N) (sg := gEt T N 7 (smX T N (lvI T N (x0 + 1)) (gEx T N 6 (trX T N (lvI T N (x0 + 1)) (gAd T N sg))))) (d := d + 6) (l := l) (D := D) (b0 := b0) (ad := ad) (Hb := Hb) (tau := tau) hx75 hG75 (show 2 ≤ 2 ∧ 2 ≤ 4 by omega) br75
          try rw [eq180] at b179
          obtain ⟨br179, b179⟩ := b179
          have b181 : 0 ≤ Z179 56 11 ∧ Z179 56 11 ≤ 4 := hG179.pr 56 11
          have r179 : ¬ Z179 56 11 = 0 := by omega
          refine Jcv0 hx75 (show mx_Sn _ _ 48 (mx_callv 163 2 12 51) from sn_172 48) a56 s56 hc179 rfl rfl rfl ?_
          have eq182 : Z179 56 6 = Z75 56 6 := (hf179 56 6 rfl)
          have eq183 : Z179 56 7 = Z75 56 7 := (hf179 56 7 rfl)
          have eq184 : Z179 56 6 = Z75 56 6 := (hf179 56 6 rfl)
          have eq185 : Z179 56 7 = Z75 56 7 := (hf179 56 7 rfl)
          have eq186 : Z179 56 9 = Z75 56 9 := (hf179 56 9 rfl)
          have eq187 : Z179 56 6 = Z75 56 6 := (hf179 56 6 rfl)
          have eq188 : Z179 60 61 = Z54 60 61 := ((hf179 60 61 rfl).trans (hf75 60 61 rfl))
          have eq189 : Z179 60 0 = Z54 60 0 := ((hf179 60 0 rfl).trans (hf75 60 0 rfl))
          have eq190 : Z179 60 1 = Z54 60 1 := ((hf179 60 1 rfl).trans (hf75 60 1 rfl))
          have eq191 : Z179 60 2 = Z54 60 2 := ((hf179 60 2 rfl).trans (hf75 60 2 rfl))
          exact c51 Z179 h179 (by omega) (by omega) (by omega) (by omega) (QR_f r179) (RM_e br179 (ee_n (fun q => by have := gt7.mpr q; omega))) hx179 hG179 (fr_tr (M := [(56, 11), (56, 12)]) fr_rf (hf179) (M1 := []) rfl rfl)
      refine Jif_ne (show mx_Sn _ _ 22 (mx_if_ne 30 25) from sn_172 22) (by omega) (fun q192 => ?_) (fun q192 => ?_)
      · skip
        have eq193 : Z37 60 61 = Z13 60 61 := (hf37 60 61 rfl)
        have eq194 : Z37 60 0 = Z13 60 0 := (hf37 60 0 rfl)
        have eq195 : Z37 60 1 = Z13 60 1 := (hf37 60 1 rfl)
        have eq196 : Z37 60 2 = Z13 60 2 := (hf37 60 2 rfl)
        exact c30 Z37 h37 (by omega) (by omega) (by omega) (by omega) (QR_le (rk37 (by omega)) (by decide)) (RM_e br37 (ee_y (gt6.mp (by omega)))) hx37 hG37 fr_rf
      · skip
        refine mx_J.step (sn_172 25) (fun _ _ => rfl) ?_
        refine JcI (z := 2) (show mx_Sn _ _ 26 (mx_const (.int 2) 27) from sn_172 26) rfl ?_
        have eq198 : Z37 56 11 = Z13 56 11 := (hf37 56 11 rfl)
        obtain ⟨Z197, h197, hc197, hx197, hG197, hf197, b197⟩ := ct_163_56 (g0 := g0) (T := T) (N := N) (sg := gEt T N 6 (trX T N (lvI T N (x0 + 1)) (gAd T N sg))) (d := d + 6) (l := l) (D := D) (b0 := b0) (ad := ad) (Hb := Hb) (tau := tau) hx37 hG37 (show 2 ≤ 2 ∧ 2 ≤ 4 by omega) br37
        try rw [eq198] at b197
        obtain ⟨br197, b197⟩ := b197
        have b199 : 0 ≤ Z197 56 11 ∧ Z197 56 11 ≤ 4 := hG197.pr 56 11
        have r197 : ¬ Z197 56 11 = 0 := by omega
        refine Jcv0 hx37 (show mx_Sn _ _ 27 (mx_callv 163 2 12 30) from sn_172 27) a56 s56 hc197 rfl rfl rfl ?_
        have eq200 : Z197 56 6 = Z37 56 6 := (hf197 56 6 rfl)
        have eq201 : Z197 56 7 = Z37 56 7 := (hf197 56 7 rfl)
        have eq202 : Z197 56 6 = Z37 56 6 := (hf197 56 6 rfl)
        have eq203 : Z197 56 7 = Z37 56 7 := (hf197 56 7 rfl)
        have eq204 : Z197 56 9 = Z37 56 9 := (hf197 56 9 rfl)
        have eq205 : Z197 56 6 = Z37 56 6 := (hf197 56 6 rfl)
        have eq206 : Z197 60 61 = Z13 60 61 := ((hf197 60 61 rfl).trans (hf37 60 61 rfl))
        have eq207 : Z197 60 0 = Z13 60 0 := ((hf197 60 0 rfl).trans (hf37 60 0 rfl))
        have eq208 : Z197 60 1 = Z13 60 1 := ((hf197 60 1 rfl).trans (hf37 60 1 rfl))
        have eq209 : Z197 60 2 = Z13 60 2 := ((hf197 60 2 rfl).trans (hf37 60 2 rfl))
        exact c30 Z197 h197 (by omega) (by omega) (by omega) (by omega) (QR_f r197) (RM_e br197 (ee_n (fun q => by have := gt6.mpr q; omega))) hx197 hG197 (fr_tr (M := [(56, 11), (56, 12)]) fr_rf (hf197) (M1 := []) rfl rfl)
    · skip
      have eq210 : Z1 60 61 = Z 60 61 := (hf1 60 61 rfl)
      have b211 : 0 ≤ Z 60 61 ∧ Z 60 61 ≤ 900 := by have hq := GI_ex hG 60 61; replace hq : f60 (61 % 962) (Z 60 61) := hq; unfold f60 at hq; omega
      have b212 : (-2147483648) ≤ Z 60 61 ∧ Z 60 61 ≤ 2147483647 := hG.pr 60 61
      have eq213 : Z1 60 0 = Z 60 0 := (hf1 60 0 rfl)
      have b214 : (-2147483648) ≤ Z 60 0 ∧ Z 60 0 ≤ 2147483647 := hG.pr 60 0
      have eq215 : Z1 60 1 = Z 60 1 := (hf1 60 1 rfl)
      have b216 : 0 ≤ Z 60 1 ∧ Z 60 1 ≤ 18 := by have hq := GI_ex hG 60 1; replace hq : f60 (1 % 962) (Z 60 1) := hq; unfold f60 at hq; omega
      have b217 : (-2147483648) ≤ Z 60 1 ∧ Z 60 1 ≤ 2147483647 := hG.pr 60 1
      have eq218 : Z1 60 2 = Z 60 2 := (hf1 60 2 rfl)
      have b219 : 0 ≤ Z 60 2 ∧ Z 60 2 ≤ 18 := by have hq := GI_ex hG 60 2; replace hq : f60 (2 % 962) (Z 60 2) := hq; unfold f60 at hq; omega
      have b220 : (-2147483648) ≤ Z 60 2 ∧ Z 60 2 ≤ 2147483647 := hG.pr 60 2
      have eq221 : Z1 56 8 = Z 56 8 := (hf1 56 8 rfl)
      have eq222 : Z1 60 61 = Z 60 61 := (hf1 60 61 rfl)
      have eq223 : Z1 60 0 = Z 60 0 := (hf1 60 0 rfl)
      have eq224 : Z1 60 1 = Z 60 1 := (hf1 60 1 rfl)
      have eq225 : Z1 60 2 = Z 60 2 := (hf1 60 2 rfl)
      exact mx_J.ret (sn_172 8) (fun _ _ => rfl) (hP Z1 h1 hx1 hG1 (fr_tr (M := [(56, 6), (56, 7), (56, 9), (56, 10), (56, 11), (56, 12), (60, (-1))]) fr_rf (hf1) (M1 := []) rfl rfl) ⟨(RM_e br1 ((in_n (by omega)).trans (gEn_n (by omega)).symm)), (QR_f (by omega)), by omega⟩)
theorem ct_172_56_s {l : Launch} {D : va_G} {b0 : Nat} {ad : Nat → Nat} {Hb : Heap} {tau : Nat → Int64} {d n s : Nat} {S : Nat → xS} {Z : xZ} {h : mx_H} {a0 : Int} {g0 : Int} {T : Int → Int} {N : Int} {sg : SS} (hx : XH n s S Z h) (hG : GI n S Z)  {x0 : Int} (p0 : 0 ≤ x0 ∧ x0 ≤ 6) (k0 : (Z 56 6 ≤ Z 56 7 ∧ Z 56 7 ≤ Z 56 8 ∧ (Z 56 9 = 24 ∨ Z 56 6 < Z 56 7))) (k1 : Z 60 61 ≤ Z 56 6) (k2 : a0 ≤ Z 60 61) (k3 : 0 ≤ a0) (k4 : 0 ≤ g0) (k5 : ¬ Z 56 9 = 24) (k6 : Z 56 11 = 0) (hr : RM g0 T N Z sg) {kk : Nat} (IH : RBnh l D b0 ad Hb tau kk x0) (hd : kk ≤ d) : ∃ (Z' : xZ) (h' : mx_H), mx_Ca (tB l D b0 ad Hb tau) (d + 8) 172 [.ref 56, xI x0] h (none, h') ∧ XH n s S Z' h' ∧ GI n S Z' ∧ fr' [(56, 6), (56, 7), (56, 9), (56, 10), (56, 11), (56, 12), (60, (-1))] Z Z' ∧ (RM g0 T N Z' (ifX T N (lvI T N x0) sg) ∧ QR Z Z' a0 1 0 ∧ ((Z' 56 6 ≤ Z' 56 7 ∧ Z' 56 7 ≤ Z 56 8 ∧ (Z' 56 9 = 24 ∨ Z' 56 6 < Z' 56 7)) ∧ Z' 60 0 = Z 60 0 ∧ Z' 60 1 = Z 60 1 ∧ Z' 60 2 = Z 60 2 ∧ Z 56 6 ≤ Z' 56 6 ∧ Z 60 61 ≤ Z' 60 61 ∧ Z' 60 61 - Z 60 61 ≤ Z' 56 6 - Z 56 6)) := by
  obtain ⟨r, hca, Z', h', e, q⟩ := Jmt (B := tB l D b0 ad Hb tau) (M := mt_172) (mi := 172) (as := [.ref 56, xI x0]) (d := d + 7) (ls := [some (.ref 56), some (xI x0)]) rfl rfl rfl rfl rfl rfl (cw_172_56_s (l := l) (D := D) (b0 := b0) (ad := ad) (Hb := Hb) (tau := tau) (d := d) (Post := fun r => ∃ (Z' : xZ) (h' : mx_H), r = (none, h') ∧ XH n s S Z' h' ∧ GI n S Z' ∧ fr' [(56, 6), (56, 7), (56, 9), (56, 10), (56, 11), (56, 12), (60, (-1))] Z Z' ∧ (RM g0 T N Z' (ifX T N (lvI T N x0) sg) ∧ QR Z Z' a0 1 0 ∧ ((Z' 56 6 ≤ Z' 56 7 ∧ Z' 56 7 ≤ Z 56 8 ∧ (Z' 56 9 = 24 ∨ Z' 56 6 < Z' 56 7)) ∧ Z' 60 0 = Z 60 0 ∧ Z' 60 1 = Z 60 1 ∧ Z' 60 2 = Z 60 2 ∧ Z 56 6 ≤ Z' 56 6 ∧ Z 60 61 ≤ Z' 60 61 ∧ Z' 60 61 - Z 60 61 ≤ Z' 56 6 - Z 56 6))) hx hG p0 k0 k1 k2 k3 k4 k5 k6 hr IH hd (fun Z' h' q1 q2 q3 q4 => ⟨Z', h', rfl, q1, q2, q3, q4⟩))
  subst e; exact ⟨Z', h', hca, q⟩
set_option maxHeartbeats 8000000 in
set_option maxRecDepth 100000 in
theorem cw_171_56_s {l : Launch} {D : va_G} {b0 : Nat} {ad : Nat → Nat} {Hb : Heap} {tau : Nat → Int64} {d n s : Nat} {S : Nat → xS} {Z : xZ} {h : mx_H} {Post : mx_R → Prop} {a0 : Int} {g0 : Int} {T : Int → Int} {N : Int} {sg : SS} (hx : XH n s S Z h) (hG : GI n S Z)  {x0 : Int} (p0 : 0 ≤ x0 ∧ x0 ≤ 6) (k0 : (Z 56 6 ≤ Z 56 7 ∧ Z 56 7 ≤ Z 56 8 ∧ (Z 56 9 = 24 ∨ Z 56 6 < Z 56 7))) (k1 : Z 60 61 ≤ Z 56 6) (k2 : a0 ≤ Z 60 61) (k3 : 0 ≤ a0) (k4 : 0 ≤ g0) (hr : RM g0 T N Z sg) {kk : Nat} (IH : RBnh l D b0 ad Hb tau kk x0) (hd : kk ≤ d) (hP : ∀ (Z' : xZ) (h' : mx_H), XH n s S Z' h' → GI n S Z' → fr' [(56, 6), (56, 7), (56, 9), (56, 10), (56, 11), (56, 12), (60, (-1))] Z Z' → RM g0 T N Z' (atX T N (lvI T N x0) sg) ∧ QR Z Z' a0 1 0 ∧ ((Z' 56 6 ≤ Z' 56 7 ∧ Z' 56 7 ≤ Z 56 8 ∧ (Z' 56 9 = 24 ∨ Z' 56 6 < Z' 56 7)) ∧ Z' 60 0 = Z 60 0 ∧ Z' 60 1 = Z 60 1 ∧ Z' 60 2 = Z 60 2 ∧ Z 56 6 ≤ Z' 56 6 ∧ Z 60 61 ≤ Z' 60 61 ∧ Z' 60 61 - Z 60 61 ≤ Z' 56 6 - Z 56 6) → Post (none, h')) : mx_J (tB l D b0 ad Hb tau) mt_171 (d + 8) 0 [some (.ref 56), some (xI x0)] [] h Post := by
    have a56 : 56 < n := lt83 (GI_n hG) rfl
    have s56 : S 56 = .inl (12, [0, 2, 2, 2, 2, 0, 0, 0, 0, 0, 0, 0, 0, 0, 0, 2, 2, 2, 0, 2, 2, 2, 0, 0, 2, 2, 2, 2, 2, 2, 0, 0, 2, 2, 2, 2, 2, 2, 2, 2, 2, 2]) := GI_s hG 56 rfl
    refine mx_J.step (sn_171 0) (fun _ _ => rfl) ?_
    refine JcI (z := 23) (show mx_Sn _ _ 1 (mx_const (.int 23) 3) from sn_171 1) rfl ?_
    have b2 : 0 ≤ Z 56 9 ∧ Z 56 9 ≤ 100 := hG.pr 56 9
    have b3 : 0 ≤ Z 56 11 ∧ Z 56 11 ≤ 4 := hG.pr 56 11
    obtain ⟨z1, hc1, b1⟩ := ct_164_56 (d := d + 7) (l := l) (D := D) (b0 := b0) (ad := ad) (Hb := Hb) (tau := tau) hx hG (show 0 ≤ 23 ∧ 23 ≤ 100 by omega)
    refine Jcv hx (show mx_Sn _ _ 3 (mx_callv 164 2 12 6) from sn_171 3) a56 s56 hc1 rfl rfl rfl ?_
    have c129 : ∀  (Z5 : xZ) (h5 : mx_H), (Z5 56 6 ≤ Z5 56 7 ∧ Z5 56 7 ≤ Z 56 8) → (Z5 56 9 = 24 ∨ Z5 56 6 < Z5 56 7) → (Z 56 6 ≤ Z5 56 6 ∧ Z 60 61 ≤ Z5 60 61 ∧ Z5 60 61 - Z 60 61 ≤ Z5 56 6 - Z 56 6) → (Z5 60 0 = Z 60 0 ∧ Z5 60 1 = Z 60 1 ∧ Z5 60 2 = Z 60 2) → QR Z Z5 a0 1 0 → RM g0 T N Z5 (atX T N (lvI T N x0) sg) → XH n s S Z5 h5 → GI n S Z5 → fr' [(56, 6), (56, 7), (56, 9), (56, 10), (56, 11), (56, 12), (60, (-1))] Z Z5 → mx_J (tB l D b0 ad Hb tau) mt_171 (d + 8) 129 [some (.ref 56), some (xI x0)] [] h5 Post := by
      intro Z5 h5 f4_0 f4_1 f4_2 f4_3 f4_4 f4_5 hx5 hG5 hf5
      have b6 : 0 ≤ Z5 56 6 ∧ Z5 56 6 ≤ 900 := hG5.pr 56 6
      have b7 : 0 ≤ Z5 56 7 ∧ Z5 56 7 ≤ 900 := hG5.pr 56 7
      have b8 : 0 ≤ Z5 56 9 ∧ Z5 56 9 ≤ 100 := hG5.pr 56 9
      have b9 : 0 ≤ Z5 60 61 ∧ Z5 60 61 ≤ 900 := by have hq := GI_ex hG5 60 61; replace hq : f60 (61 % 962) (Z5 60 61) := hq; unfold f60 at hq; omega
      have b10 : (-2147483648) ≤ Z5 60 61 ∧ Z5 60 61 ≤ 2147483647 := hG5.pr 60 61
      have b11 : (-2147483648) ≤ Z5 60 0 ∧ Z5 60 0 ≤ 2147483647 := hG5.pr 60 0
      have b12 : 0 ≤ Z5 60 1 ∧ Z5 60 1 ≤ 18 := by have hq := GI_ex hG5 60 1; replace hq : f60 (1 % 962) (Z5 60 1) := hq; unfold f60 at hq; omega
      have b13 : (-2147483648) ≤ Z5 60 1 ∧ Z5 60 1 ≤ 2147483647 := hG5.pr 60 1
      have b14 : 0 ≤ Z5 60 2 ∧ Z5 60 2 ≤ 18 := by have hq := GI_ex hG5 60 2; replace hq : f60 (2 % 962) (Z5 60 2) := hq; unfold f60 at hq; omega
      have b15 : (-2147483648) ≤ Z5 60 2 ∧ Z5 60 2 ≤ 2147483647 := hG5.pr 60 2
      have b16 : 0 ≤ Z5 56 11 ∧ Z5 56 11 ≤ 4 := hG5.pr 56 11
      have eq17 : Z5 56 8 = Z 56 8 := (hf5 56 8 rfl)
      have b18 : 0 ≤ Z 56 8 ∧ Z 56 8 ≤ 900 := hG.pr 56 8
      exact mx_J.ret (sn_171 129) (fun _ _ => rfl) (hP Z5 h5 hx5 hG5 (fr_tr (M := [(56, 6), (56, 7), (56, 9), (56, 10), (56, 11), (56, 12), (60, (-1))]) fr_rf (hf5) (M1 := []) rfl rfl) ⟨f4_5, (QR_le f4_4 (by decide)), by omega⟩)
    refine Jif_eq (show mx_Sn _ _ 6 (mx_if_eq 24 9) from sn_171 6) (by omega) (fun q19 => ?_) (fun q19 => ?_)
    · skip
      refine mx_J.step (sn_171 24) (fun _ _ => rfl) ?_
      refine JgetI (g := 11) (z := Z 56 11) hx (show mx_Sn _ _ 25 (mx_getf 12 11 28) from sn_171 25) a56 s56 rfl rfl rfl ?_
      have c66 : (¬ Z 56 11 = 0 ∨ (¬ Z 56 9 = 1 ∧ ¬ (9 ≤ Z 56 9 ∧ Z 56 9 ≤ 12))) → mx_J (tB l D b0 ad Hb tau) mt_171 (d + 8) 66 [some (.ref 56), some (xI x0)] [] h Post := by
        intro f21_0
        refine mx_J.step (sn_171 66) (fun _ _ => rfl) ?_
        refine JcI (z := 35) (show mx_Sn _ _ 67 (mx_const (.int 35) 69) from sn_171 67) rfl ?_
        obtain ⟨z22, hc22, b22⟩ := ct_164_56 (d := d + 7) (l := l) (D := D) (b0 := b0) (ad := ad) (Hb := Hb) (tau := tau) hx hG (show 0 ≤ 35 ∧ 35 ≤ 100 by omega)
        refine Jcv hx (show mx_Sn _ _ 69 (mx_callv 164 2 12 72) from sn_171 69) a56 s56 hc22 rfl rfl rfl ?_
        refine Jif_eq (show mx_Sn _ _ 72 (mx_if_eq 108 75) from sn_171 72) (by omega) (fun q23 => ?_) (fun q23 => ?_)
        · skip
          refine mx_J.step (sn_171 108) (fun _ _ => rfl) ?_
          refine JcI (z := 5) (show mx_Sn _ _ 109 (mx_const (.int 5) 110) from sn_171 109) rfl ?_
          obtain ⟨z24, hc24, b24⟩ := ct_164_56 (d := d + 7) (l := l) (D := D) (b0 := b0) (ad := ad) (Hb := Hb) (tau := tau) hx hG (show 0 ≤ 5 ∧ 5 ≤ 100 by omega)
          refine Jcv hx (show mx_Sn _ _ 110 (mx_callv 164 2 12 113) from sn_171 110) a56 s56 hc24 rfl rfl rfl ?_
          refine Jif_eq (show mx_Sn _ _ 113 (mx_if_eq 124 116) from sn_171 113) (by omega) (fun q25 => ?_) (fun q25 => ?_)
          · skip
            refine mx_J.step (sn_171 124) (fun _ _ => rfl) ?_
            refine JcI (z := 2) (show mx_Sn _ _ 125 (mx_const (.int 2) 126) from sn_171 125) rfl ?_
            obtain ⟨Z26, h26, hc26, hx26, hG26, hf26, b26⟩ := ct_163_56 (g0 := g0) (T := T) (N := N) (sg := sg) (d := d + 7) (l := l) (D := D) (b0 := b0) (ad := ad) (Hb := Hb) (tau := tau) hx hG (show 2 ≤ 2 ∧ 2 ≤ 4 by omega) hr
            obtain ⟨br26, b26⟩ := b26
            have b27 : 0 ≤ Z26 56 11 ∧ Z26 56 11 ≤ 4 := hG26.pr 56 11
            have r26 : ¬ Z26 56 11 = 0 := by omega
            refine Jcv0 hx (show mx_Sn _ _ 126 (mx_callv 163 2 12 129) from sn_171 126) a56 s56 hc26 rfl rfl rfl ?_
            have eq28 : Z26 56 6 = Z 56 6 := (hf26 56 6 rfl)
            have b29 : 0 ≤ Z 56 6 ∧ Z 56 6 ≤ 900 := hG.pr 56 6
            have eq30 : Z26 56 7 = Z 56 7 := (hf26 56 7 rfl)
            have b31 : 0 ≤ Z 56 7 ∧ Z 56 7 ≤ 900 := hG.pr 56 7
            have eq32 : Z26 56 6 = Z 56 6 := (hf26 56 6 rfl)
            have eq33 : Z26 56 7 = Z 56 7 := (hf26 56 7 rfl)
            have eq34 : Z26 56 9 = Z 56 9 := (hf26 56 9 rfl)
            have eq35 : Z26 56 6 = Z 56 6 := (hf26 56 6 rfl)
            have eq36 : Z26 60 61 = Z 60 61 := (hf26 60 61 rfl)
            have b37 : 0 ≤ Z 60 61 ∧ Z 60 61 ≤ 900 := by have hq := GI_ex hG 60 61; replace hq : f60 (61 % 962) (Z 60 61) := hq; unfold f60 at hq; omega
            have b38 : (-2147483648) ≤ Z 60 61 ∧ Z 60 61 ≤ 2147483647 := hG.pr 60 61
            have eq39 : Z26 60 0 = Z 60 0 := (hf26 60 0 rfl)
            have b40 : (-2147483648) ≤ Z 60 0 ∧ Z 60 0 ≤ 2147483647 := hG.pr 60 0
            have eq41 : Z26 60 1 = Z 60 1 := (hf26 60 1 rfl)
            have b42 : 0 ≤ Z 60 1 ∧ Z 60 1 ≤ 18 := by have hq := GI_ex hG 60 1; replace hq : f60 (1 % 962) (Z 60 1) := hq; unfold f60 at hq; omega
            have b43 : (-2147483648) ≤ Z 60 1 ∧ Z 60 1 ≤ 2147483647 := hG.pr 60 1
            have eq44 : Z26 60 2 = Z 60 2 := (hf26 60 2 rfl)
            have b45 : 0 ≤ Z 60 2 ∧ Z 60 2 ≤ 18 := by have hq := GI_ex hG 60 2; replace hq : f60 (2 % 962) (Z 60 2) := hq; unfold f60 at hq; omega
            have b46 : (-2147483648) ≤ Z 60 2 ∧ Z 60 2 ≤ 2147483647 := hG.pr 60 2
            exact c129 Z26 h26 (by omega) (by omega) (by omega) (by omega) (QR_f r26) (RM_e br26 (at_n (fun q => by have := (RM_is (k := 23) hr).mpr q; omega) (fun q => by have := (RM_is (k := 35) hr).mpr q; omega) (fun q => by have := (RM_is (k := 5) hr).mpr q; omega) (fun q => by have := (RM_is (k := 1) hr).mpr q; omega) (fun q => by have k := (RM_p hr).1.mpr q.1; have k2 := RM_k hr k; omega))) hx26 hG26 (fr_tr (M := [(56, 6), (56, 7), (56, 9), (56, 10), (56, 11), (56, 12), (60, (-1))]) fr_rf (hf26) (M1 := []) rfl rfl)
          · skip
            refine mx_J.step (sn_171 116) (fun _ _ => rfl) ?_
            refine mx_J.step (sn_171 117) (fun _ _ => rfl) ?_
            have b48 : 0 ≤ Z 56 6 ∧ Z 56 6 ≤ 900 := hG.pr 56 6
            have b49 : 0 ≤ Z 56 7 ∧ Z 56 7 ≤ 900 := hG.pr 56 7
            have b50 : 0 ≤ Z 56 8 ∧ Z 56 8 ≤ 900 := hG.pr 56 8
            have b51 : 0 ≤ Z 60 61 ∧ Z 60 61 ≤ 900 := by have hq := GI_ex hG 60 61; replace hq : f60 (61 % 962) (Z 60 61) := hq; unfold f60 at hq; omega
            have b52 : (-2147483648) ≤ Z 60 61 ∧ Z 60 61 ≤ 2147483647 := hG.pr 60 61
            have b53 : (-2147483648) ≤ Z 60 0 ∧ Z 60 0 ≤ 2147483647 := hG.pr 60 0
            have b54 : 0 ≤ Z 60 1 ∧ Z 60 1 ≤ 18 := by have hq := GI_ex hG 60 1; replace hq : f60 (1 % 962) (Z 60 1) := hq; unfold f60 at hq; omega
            have b55 : (-2147483648) ≤ Z 60 1 ∧ Z 60 1 ≤ 2147483647 := hG.pr 60 1
            have b56 : 0 ≤ Z 60 2 ∧ Z 60 2 ≤ 18 := by have hq := GI_ex hG 60 2; replace hq : f60 (2 % 962) (Z 60 2) := hq; unfold f60 at hq; omega
            have b57 : (-2147483648) ≤ Z 60 2 ∧ Z 60 2 ≤ 2147483647 := hG.pr 60 2
            obtain ⟨Z47, h47, hc47, hx47, hG47, hf47, b47⟩ := ct_172_56_s (a0 := a0) (g0 := g0) (T := T) (N := N) (sg := sg) (d := d + 0) (l := l) (D := D) (b0 := b0) (ad := ad) (Hb := Hb) (tau := tau) hx hG (show 0 ≤ x0 ∧ x0 ≤ 6 by omega) (show (Z 56 6 ≤ Z 56 7 ∧ Z 56 7 ≤ Z 56 8 ∧ (Z 56 9 = 24 ∨ Z 56 6 < Z 56 7)) by omega) (show Z 60 61 ≤ Z 56 6 by omega) (show a0 ≤ Z 60 61 by omega) (show 0 ≤ a0 by omega) (show 0 ≤ g0 by omega) (show ¬ Z 56 9 = 24 by omega) (show Z 56 11 = 0 by omega) hr IH (by omega)
            obtain ⟨br47, b47⟩ := b47
            obtain ⟨bq47, b47⟩ := b47
            have b58 : 0 ≤ Z47 56 6 ∧ Z47 56 6 ≤ 900 := hG47.pr 56 6
            have b59 : 0 ≤ Z47 56 7 ∧ Z47 56 7 ≤ 900 := hG47.pr 56 7
            have b60 : 0 ≤ Z47 56 9 ∧ Z47 56 9 ≤ 100 := hG47.pr 56 9
            have b61 : 0 ≤ Z47 56 11 ∧ Z47 56 11 ≤ 4 := hG47.pr 56 11
            have b62 : 0 ≤ Z47 60 61 ∧ Z47 60 61 ≤ 900 := by have hq := GI_ex hG47 60 61; replace hq : f60 (61 % 962) (Z47 60 61) := hq; unfold f60 at hq; omega
            have b63 : (-2147483648) ≤ Z47 60 61 ∧ Z47 60 61 ≤ 2147483647 := hG47.pr 60 61
            have b64 : (-2147483648) ≤ Z47 60 0 ∧ Z47 60 0 ≤ 2147483647 := hG47.pr 60 0
            have b65 : 0 ≤ Z47 60 1 ∧ Z47 60 1 ≤ 18 := by have hq := GI_ex hG47 60 1; replace hq : f60 (1 % 962) (Z47 60 1) := hq; unfold f60 at hq; omega
            have b66 : (-2147483648) ≤ Z47 60 1 ∧ Z47 60 1 ≤ 2147483647 := hG47.pr 60 1
            have b67 : 0 ≤ Z47 60 2 ∧ Z47 60 2 ≤ 18 := by have hq := GI_ex hG47 60 2; replace hq : f60 (2 % 962) (Z47 60 2) := hq; unfold f60 at hq; omega
            have b68 : (-2147483648) ≤ Z47 60 2 ∧ Z47 60 2 ≤ 2147483647 := hG47.pr 60 2
            have r47 := QR_tr (d := 1) (c := 0) (QR_rf (Z := Z) (a := a0)) bq47 (by decide) (by decide) (by decide)
            refine Jcv0 hx (show mx_Sn _ _ 118 (mx_callv 172 2 12 121) from sn_171 118) a56 s56 hc47 rfl rfl rfl ?_
            refine mx_J.step (sn_171 121) (fun _ _ => rfl) ?_
            exact c129 Z47 h47 (by omega) (by omega) (by omega) (by omega) (QR_le r47 (by decide)) (RM_e br47 (at_i ((RM_is (k := 5) hr).mp (by omega)))) hx47 hG47 (fr_tr (M := [(56, 6), (56, 7), (56, 9), (56, 10), (56, 11), (56, 12), (60, (-1))]) fr_rf (hf47) (M1 := []) rfl rfl)
        · skip
          refine mx_J.step (sn_171 75) (fun _ _ => rfl) ?_
          refine mx_J.step (sn_171 76) (fun _ _ => rfl) ?_
          have b70 : 0 ≤ Z 56 6 ∧ Z 56 6 ≤ 900 := hG.pr 56 6
          have b71 : 0 ≤ Z 56 7 ∧ Z 56 7 ≤ 900 := hG.pr 56 7
          have b72 : 0 ≤ Z 56 8 ∧ Z 56 8 ≤ 900 := hG.pr 56 8
          obtain ⟨z69, Z69, h69, hc69, hx69, hG69, hf69, b69⟩ := ct_170_56 (g0 := g0) (T := T) (N := N) (sg := sg) (d := d + 1) (l := l) (D := D) (b0 := b0) (ad := ad) (Hb := Hb) (tau := tau) hx hG (show 0 ≤ x0 ∧ x0 ≤ 6 by omega) (show (Z 56 6 ≤ Z 56 7 ∧ Z 56 7 ≤ Z 56 8 ∧ (Z 56 9 = 24 ∨ Z 56 6 < Z 56 7)) by omega) (show ¬ Z 56 9 = 24 by omega) hr
          obtain ⟨br69, b69⟩ := b69
          have b73 : 0 ≤ Z69 56 6 ∧ Z69 56 6 ≤ 900 := hG69.pr 56 6
          have b74 : 0 ≤ Z69 56 7 ∧ Z69 56 7 ≤ 900 := hG69.pr 56 7
          have b75 : 0 ≤ Z69 56 9 ∧ Z69 56 9 ≤ 100 := hG69.pr 56 9
          have b76 : 0 ≤ Z69 56 11 ∧ Z69 56 11 ≤ 4 := hG69.pr 56 11
          have r69 := QR_g (k := 1) (c2 := 1) (QR_rf (Z := Z) (a := a0)) (fun e => by omega) (fun i => hf69 60 i rfl) (fun e => by omega) (by decide)
          refine Jcv hx (show mx_Sn _ _ 77 (mx_callv 170 2 12 80) from sn_171 77) a56 s56 hc69 rfl rfl rfl ?_
          refine Jif_ne (show mx_Sn _ _ 80 (mx_if_ne 84 83) from sn_171 80) (by omega) (fun q77 => ?_) (fun q77 => ?_)
          · skip
            have hx5 : x0 ≤ 5 := by omega
            have rc78 : RM g0 T N Z69 (gAd T N sg) := RM_e br69 ((gEn_y (by omega)).symm)
            refine mx_J.step (sn_171 84) (fun _ _ => rfl) ?_
            refine mx_J.step (sn_171 85) (fun _ _ => rfl) ?_
            refine JcI (z := 1) (show mx_Sn _ _ 86 (mx_const (.int 1) 87) from sn_171 86) rfl ?_
            refine Jiadd (show mx_Sn _ _ 87 (mx_iadd 88) from sn_171 87) ?_
            have eq80 : Z69 56 8 = Z 56 8 := (hf69 56 8 rfl)
            have eq81 : Z69 60 61 = Z 60 61 := (hf69 60 61 rfl)
            have b82 : 0 ≤ Z 60 61 ∧ Z 60 61 ≤ 900 := by have hq := GI_ex hG 60 61; replace hq : f60 (61 % 962) (Z 60 61) := hq; unfold f60 at hq; omega
            have b83 : (-2147483648) ≤ Z 60 61 ∧ Z 60 61 ≤ 2147483647 := hG.pr 60 61
            have eq84 : Z69 60 0 = Z 60 0 := (hf69 60 0 rfl)
            have b85 : (-2147483648) ≤ Z 60 0 ∧ Z 60 0 ≤ 2147483647 := hG.pr 60 0
            have eq86 : Z69 60 1 = Z 60 1 := (hf69 60 1 rfl)
            have b87 : 0 ≤ Z 60 1 ∧ Z 60 1 ≤ 18 := by have hq := GI_ex hG 60 1; replace hq : f60 (1 % 962) (Z 60 1) := hq; unfold f60 at hq; omega
            have b88 : (-2147483648) ≤ Z 60 1 ∧ Z 60 1 ≤ 2147483647 := hG.pr 60 1
            have eq89 : Z69 60 2 = Z 60 2 := (hf69 60 2 rfl)
            have b90 : 0 ≤ Z 60 2 ∧ Z 60 2 ≤ 18 := by have hq := GI_ex hG 60 2; replace hq : f60 (2 % 962) (Z 60 2) := hq; unfold f60 at hq; omega
            have b91 : (-2147483648) ≤ Z 60 2 ∧ Z 60 2 ≤ 2147483647 := hG.pr 60 2
            obtain ⟨Z79, h79, hc79, hx79, hG79, hf79, b79⟩ := riR_174 IH (by omega) (hd := by omega) (a0 := a0) (g0 := g0) (T := T) (N := N) (sg := gAd T N sg) (d := d + 8) (l := l) (D := D) (b0 := b0) (ad := ad) (Hb := Hb) (tau := tau) hx69 hG69 (show 1 ≤ x0 + 1 ∧ x0 + 1 ≤ 6 by omega) (show (Z69 56 6 ≤ Z69 56 7 ∧ Z69 56 7 ≤ Z69 56 8 ∧ (Z69 56 9 = 24 ∨ Z69 56 6 < Z69 56 7)) by first | omega | (simp only [eq80, eq81, eq84, eq86, eq89]; omega)) (show Z69 60 61 ≤ Z69 56 6 by first | omega | (simp only [eq80, eq81, eq84, eq86, eq89]; omega)) (show a0 ≤ Z69 60 61 by first | omega | (simp only [eq80, eq81, eq84, eq86, eq89]; omega)) (show 0 ≤ a0 by first | omega | (simp only [eq80, eq81, eq84, eq86, eq89]; omega)) (show 0 ≤ g0 by first | omega | (simp only [eq80, eq81, eq84, eq86, eq89]; omega)) rc78
            try rw [eq80] at b79
            try rw [eq81] at b79
            try rw [eq84] at b79
            try rw [eq86] at b79
            try rw [eq89] at b79
            obtain ⟨br79, b79⟩ := b79
            obtain ⟨bq79, b79⟩ := b79
            have b92 : 0 ≤ Z79 56 6 ∧ Z79 56 6 ≤ 900 := hG79.pr 56 6
            have b93 : 0 ≤ Z79 56 7 ∧ Z79 56 7 ≤ 900 := hG79.pr 56 7
            have b94 : 0 ≤ Z79 56 9 ∧ Z79 56 9 ≤ 100 := hG79.pr 56 9
            have b95 : 0 ≤ Z79 56 11 ∧ Z79 56 11 ≤ 4 := hG79.pr 56 11
            have b96 : 0 ≤ Z79 60 61 ∧ Z79 60 61 ≤ 900 := by have hq := GI_ex hG79 60 61; replace hq : f60 (61 % 962) (Z79 60 61) := hq; unfold f60 at hq; omega
            have b97 : (-2147483648) ≤ Z79 60 61 ∧ Z79 60 61 ≤ 2147483647 := hG79.pr 60 61
            have b98 : (-2147483648) ≤ Z79 60 0 ∧ Z79 60 0 ≤ 2147483647 := hG79.pr 60 0
            have b99 : 0 ≤ Z79 60 1 ∧ Z79 60 1 ≤ 18 := by have hq := GI_ex hG79 60 1; replace hq : f60 (1 % 962) (Z79 60 1) := hq; unfold f60 at hq; omega
            have b100 : (-2147483648) ≤ Z79 60 1 ∧ Z79 60 1 ≤ 2147483647 := hG79.pr 60 1
            have b101 : 0 ≤ Z79 60 2 ∧ Z79 60 2 ≤ 18 := by have hq := GI_ex hG79 60 2; replace hq : f60 (2 % 962) (Z79 60 2) := hq; unfold f60 at hq; omega
            have b102 : (-2147483648) ≤ Z79 60 2 ∧ Z79 60 2 ≤ 2147483647 := hG79.pr 60 2
            have r79 := QR_tr (d := 1) (c := 1) r69 bq79 (by decide) (by decide) (by decide)
            refine Jcv0 hx69 (show mx_Sn _ _ 88 (mx_callv 174 2 12 91) from sn_171 88) a56 s56 hc79 rfl rfl rfl ?_
            have gt := RM_is (k := 36) br79
            refine mx_J.step (sn_171 91) (fun _ _ => rfl) ?_
            refine JcI (z := 36) (show mx_Sn _ _ 92 (mx_const (.int 36) 94) from sn_171 92) rfl ?_
            have eq104 : Z79 56 8 = Z 56 8 := ((hf79 56 8 rfl).trans (hf69 56 8 rfl))
            obtain ⟨z103, Z103, h103, hc103, hx103, hG103, hf103, b103⟩ := ct_165_56 (g0 := g0) (T := T) (N := N) (sg := smX T N (lvI T N (x0 + 1)) (gAd T N sg)) (d := d + 1) (l := l) (D := D) (b0 := b0) (ad := ad) (Hb := Hb) (tau := tau) hx79 hG79 (show 0 ≤ 36 ∧ 36 ≤ 100 by omega) (show (Z79 56 6 ≤ Z79 56 7 ∧ Z79 56 7 ≤ Z79 56 8 ∧ (Z79 56 9 = 24 ∨ Z79 56 6 < Z79 56 7)) by first | omega | (simp only [eq104]; omega)) (show ¬ 36 = 24 by first | omega | (simp only [eq104]; omega)) br79
            try rw [eq104] at b103
            obtain ⟨br103, b103⟩ := b103
            have b105 : 0 ≤ Z103 56 6 ∧ Z103 56 6 ≤ 900 := hG103.pr 56 6
            have b106 : 0 ≤ Z103 56 7 ∧ Z103 56 7 ≤ 900 := hG103.pr 56 7
            have b107 : 0 ≤ Z103 56 9 ∧ Z103 56 9 ≤ 100 := hG103.pr 56 9
            have r103 := QR_g (k := 0) (c2 := 1) r79 (fun e => (hf103 56 11 rfl).symm.trans e) (fun i => hf103 60 i rfl) (fun e => by omega) (by decide)
            have rk103 : z103 = 1 → QR Z Z103 a0 1 2 := fun ez => QR_g (k := 1) r79 (fun e => (hf103 56 11 rfl).symm.trans e) (fun i => hf103 60 i rfl) (fun e => by omega) (by decide)
            refine Jcv hx79 (show mx_Sn _ _ 94 (mx_callv 165 2 12 97) from sn_171 94) a56 s56 hc103 rfl rfl rfl ?_
            refine Jif_ne (show mx_Sn _ _ 97 (mx_if_ne 129 100) from sn_171 97) (by omega) (fun q108 => ?_) (fun q108 => ?_)
            · skip
              have eq109 : Z103 60 61 = Z79 60 61 := (hf103 60 61 rfl)
              have eq110 : Z103 60 0 = Z79 60 0 := (hf103 60 0 rfl)
              have eq111 : Z103 60 1 = Z79 60 1 := (hf103 60 1 rfl)
              have eq112 : Z103 60 2 = Z79 60 2 := (hf103 60 2 rfl)
              exact c129 Z103 h103 (by omega) (by omega) (by omega) (by omega) (QR_le (rk103 (by omega)) (by decide)) (RM_e br103 (((at_o ((RM_is (k := 35) hr).mp (by omega))).trans (in_y hx5)).trans (ee_y (gt.mp (by omega))))) hx103 hG103 (fr_tr (M := [(56, 6), (56, 7), (56, 9), (56, 10), (56, 11), (56, 12), (60, (-1))]) (fr_tr (M := [(56, 6), (56, 7), (56, 9), (56, 10), (56, 11), (56, 12), (60, (-1))]) (fr_tr (M := [(56, 6), (56, 7), (56, 9), (56, 10), (56, 11), (56, 12), (60, (-1))]) fr_rf (hf69) (M1 := []) rfl rfl) (hf79) rfl rfl) (hf103) rfl rfl)
            · skip
              refine mx_J.step (sn_171 100) (fun _ _ => rfl) ?_
              refine JcI (z := 2) (show mx_Sn _ _ 101 (mx_const (.int 2) 102) from sn_171 101) rfl ?_
              have eq114 : Z103 56 11 = Z79 56 11 := (hf103 56 11 rfl)
              obtain ⟨Z113, h113, hc113, hx113, hG113, hf113, b113⟩ := ct_163_56 (g0 := g0) (T := T) (N := N) (sg := gEt T N 36 (smX T N (lvI T N (x0 + 1)) (gAd T N sg))) (d := d + 7) (l := l) (D := D) (b0 := b0) (ad := ad) (Hb := Hb) (tau := tau) hx103 hG103 (show 2 ≤ 2 ∧ 2 ≤ 4 by omega) br103
              try rw [eq114] at b113
              obtain ⟨br113, b113⟩ := b113
              have b115 : 0 ≤ Z113 56 11 ∧ Z113 56 11 ≤ 4 := hG113.pr 56 11
              have r113 : ¬ Z113 56 11 = 0 := by omega
              refine Jcv0 hx103 (show mx_Sn _ _ 102 (mx_callv 163 2 12 105) from sn_171 102) a56 s56 hc113 rfl rfl rfl ?_
              refine mx_J.step (sn_171 105) (fun _ _ => rfl) ?_
              have eq116 : Z113 56 6 = Z103 56 6 := (hf113 56 6 rfl)
              have eq117 : Z113 56 7 = Z103 56 7 := (hf113 56 7 rfl)
              have eq118 : Z113 56 6 = Z103 56 6 := (hf113 56 6 rfl)
              have eq119 : Z113 56 7 = Z103 56 7 := (hf113 56 7 rfl)
              have eq120 : Z113 56 9 = Z103 56 9 := (hf113 56 9 rfl)
              have eq121 : Z113 56 6 = Z103 56 6 := (hf113 56 6 rfl)
              have eq122 : Z113 60 61 = Z79 60 61 := ((hf113 60 61 rfl).trans (hf103 60 61 rfl))
              have eq123 : Z113 60 0 = Z79 60 0 := ((hf113 60 0 rfl).trans (hf103 60 0 rfl))
              have eq124 : Z113 60 1 = Z79 60 1 := ((hf113 60 1 rfl).trans (hf103 60 1 rfl))
              have eq125 : Z113 60 2 = Z79 60 2 := ((hf113 60 2 rfl).trans (hf103 60 2 rfl))
              exact c129 Z113 h113 (by omega) (by omega) (by omega) (by omega) (QR_f r113) (RM_e br113 (((at_o ((RM_is (k := 35) hr).mp (by omega))).trans (in_y hx5)).trans (ee_n (fun q => by have := gt.mpr q; omega)))) hx113 hG113 (fr_tr (M := [(56, 6), (56, 7), (56, 9), (56, 10), (56, 11), (56, 12), (60, (-1))]) (fr_tr (M := [(56, 6), (56, 7), (56, 9), (56, 10), (56, 11), (56, 12), (60, (-1))]) (fr_tr (M := [(56, 6), (56, 7), (56, 9), (56, 10), (56, 11), (56, 12), (60, (-1))]) (fr_tr (M := [(56, 6), (56, 7), (56, 9), (56, 10), (56, 11), (56, 12), (60, (-1))]) fr_rf (hf69) (M1 := []) rfl rfl) (hf79) rfl rfl) (hf103) rfl rfl) (hf113) rfl rfl)
          · skip
            have eq126 : Z69 60 61 = Z 60 61 := (hf69 60 61 rfl)
            have b127 : 0 ≤ Z 60 61 ∧ Z 60 61 ≤ 900 := by have hq := GI_ex hG 60 61; replace hq : f60 (61 % 962) (Z 60 61) := hq; unfold f60 at hq; omega
            have b128 : (-2147483648) ≤ Z 60 61 ∧ Z 60 61 ≤ 2147483647 := hG.pr 60 61
            have eq129 : Z69 60 0 = Z 60 0 := (hf69 60 0 rfl)
            have b130 : (-2147483648) ≤ Z 60 0 ∧ Z 60 0 ≤ 2147483647 := hG.pr 60 0
            have eq131 : Z69 60 1 = Z 60 1 := (hf69 60 1 rfl)
            have b132 : 0 ≤ Z 60 1 ∧ Z 60 1 ≤ 18 := by have hq := GI_ex hG 60 1; replace hq : f60 (1 % 962) (Z 60 1) := hq; unfold f60 at hq; omega
            have b133 : (-2147483648) ≤ Z 60 1 ∧ Z 60 1 ≤ 2147483647 := hG.pr 60 1
            have eq134 : Z69 60 2 = Z 60 2 := (hf69 60 2 rfl)
            have b135 : 0 ≤ Z 60 2 ∧ Z 60 2 ≤ 18 := by have hq := GI_ex hG 60 2; replace hq : f60 (2 % 962) (Z 60 2) := hq; unfold f60 at hq; omega
            have b136 : (-2147483648) ≤ Z 60 2 ∧ Z 60 2 ≤ 2147483647 := hG.pr 60 2
            have eq137 : Z69 56 8 = Z 56 8 := (hf69 56 8 rfl)
            have eq138 : Z69 60 61 = Z 60 61 := (hf69 60 61 rfl)
            have eq139 : Z69 60 0 = Z 60 0 := (hf69 60 0 rfl)
            have eq140 : Z69 60 1 = Z 60 1 := (hf69 60 1 rfl)
            have eq141 : Z69 60 2 = Z 60 2 := (hf69 60 2 rfl)
            exact mx_J.ret (sn_171 83) (fun _ _ => rfl) (hP Z69 h69 hx69 hG69 (fr_tr (M := [(56, 6), (56, 7), (56, 9), (56, 10), (56, 11), (56, 12), (60, (-1))]) fr_rf (hf69) (M1 := []) rfl rfl) ⟨(RM_e br69 (((at_o ((RM_is (k := 35) hr).mp (by omega))).trans (in_n (by omega))).trans (gEn_n (by omega)).symm)), (QR_f (by omega)), by omega⟩)
      refine Jif_ne (show mx_Sn _ _ 28 (mx_if_ne 66 31) from sn_171 28) (by omega) (fun q142 => ?_) (fun q142 => ?_)
      · skip
        exact c66 (by omega)
      · skip
        refine mx_J.step (sn_171 31) (fun _ _ => rfl) ?_
        refine mx_J.step (sn_171 32) (fun _ _ => rfl) ?_
        refine JgetI (g := 9) (z := Z 56 9) hx (show mx_Sn _ _ 33 (mx_getf 12 9 36) from sn_171 33) a56 s56 rfl rfl rfl ?_
        obtain ⟨z144, hc144, b144⟩ := ct_168_56 (d := d + 7) (l := l) (D := D) (b0 := b0) (ad := ad) (Hb := Hb) (tau := tau) hx hG (show 0 ≤ Z 56 9 ∧ Z 56 9 ≤ 100 by omega)
        refine Jcv hx (show mx_Sn _ _ 36 (mx_callv 168 2 12 39) from sn_171 36) a56 s56 hc144 rfl rfl rfl ?_
        refine JcI (z := (-1)) (show mx_Sn _ _ 39 (mx_const (.int (-1)) 40) from sn_171 39) rfl ?_
        refine Jicmp_eq (show mx_Sn _ _ 40 (mx_icmp_eq 66 43) from sn_171 40) (by omega) (by omega) (fun q145 => ?_) (fun q145 => ?_)
        · skip
          exact c66 (by omega)
        · skip
          have kk := RM_k hr (by omega)
          refine mx_J.step (sn_171 43) (fun _ _ => rfl) ?_
          refine JcI (z := 1000) (show mx_Sn _ _ 44 (mx_const (.int 1000) 47) from sn_171 44) rfl ?_
          refine mx_J.step (sn_171 47) (fun _ _ => rfl) ?_
          refine mx_J.step (sn_171 48) (fun _ _ => rfl) ?_
          refine JgetI (g := 9) (z := Z 56 9) hx (show mx_Sn _ _ 49 (mx_getf 12 9 52) from sn_171 49) a56 s56 rfl rfl rfl ?_
          obtain ⟨z147, hc147, b147⟩ := ct_168_56 (d := d + 7) (l := l) (D := D) (b0 := b0) (ad := ad) (Hb := Hb) (tau := tau) hx hG (show 0 ≤ Z 56 9 ∧ Z 56 9 ≤ 100 by omega)
          refine Jcv hx (show mx_Sn _ _ 52 (mx_callv 168 2 12 55) from sn_171 52) a56 s56 hc147 rfl rfl rfl ?_
          refine Jiadd (show mx_Sn _ _ 55 (mx_iadd 56) from sn_171 55) ?_
          have b149 : 0 ≤ Z 56 8 ∧ Z 56 8 ≤ 900 := hG.pr 56 8
          have b150 : 0 ≤ Z 60 61 ∧ Z 60 61 ≤ 900 := by have hq := GI_ex hG 60 61; replace hq : f60 (61 % 962) (Z 60 61) := hq; unfold f60 at hq; omega
          have b151 : (-2147483648) ≤ Z 60 61 ∧ Z 60 61 ≤ 2147483647 := hG.pr 60 61
          have b152 : (-2147483648) ≤ Z 60 0 ∧ Z 60 0 ≤ 2147483647 := hG.pr 60 0
          have b153 : 0 ≤ Z 60 1 ∧ Z 60 1 ≤ 18 := by have hq := GI_ex hG 60 1; replace hq : f60 (1 % 962) (Z 60 1) := hq; unfold f60 at hq; omega
          have b154 : (-2147483648) ≤ Z 60 1 ∧ Z 60 1 ≤ 2147483647 := hG.pr 60 1
          have b155 : 0 ≤ Z 60 2 ∧ Z 60 2 ≤ 18 := by have hq := GI_ex hG 60 2; replace hq : f60 (2 % 962) (Z 60 2) := hq; unfold f60 at hq; omega
          have b156 : (-2147483648) ≤ Z 60 2 ∧ Z 60 2 ≤ 2147483647 := hG.pr 60 2
          have rp148 := QR_n (QR_rf (Z := Z) (a := a0))
          obtain ⟨Z148, h148, hc148, hx148, hG148, hf148, b148⟩ := ct_169_56_0 (a0 := a0) (g0 := g0) (T := T) (N := N) (sg := sg) (d := d + 7) (l := l) (D := D) (b0 := b0) (ad := ad) (Hb := Hb) (tau := tau) hx hG (show 0 ≤ 1000 + z147 ∧ 1000 + z147 ≤ 1004 by omega) (show (Z 56 11 = 0 → Z 60 61 ≤ 899) by omega) (show a0 ≤ Z 60 61 by omega) (show 0 ≤ a0 by omega) (show 0 ≤ g0 by omega) hr
          obtain ⟨br148, b148⟩ := b148
          obtain ⟨bq148, b148⟩ := b148
          have b157 : 0 ≤ Z148 60 61 ∧ Z148 60 61 ≤ 900 := by have hq := GI_ex hG148 60 61; replace hq : f60 (61 % 962) (Z148 60 61) := hq; unfold f60 at hq; omega
          have b158 : (-2147483648) ≤ Z148 60 61 ∧ Z148 60 61 ≤ 2147483647 := hG148.pr 60 61
          have b159 : (-2147483648) ≤ Z148 60 0 ∧ Z148 60 0 ≤ 2147483647 := hG148.pr 60 0
          have b160 : 0 ≤ Z148 60 1 ∧ Z148 60 1 ≤ 18 := by have hq := GI_ex hG148 60 1; replace hq : f60 (1 % 962) (Z148 60 1) := hq; unfold f60 at hq; omega
          have b161 : (-2147483648) ≤ Z148 60 1 ∧ Z148 60 1 ≤ 2147483647 := hG148.pr 60 1
          have b162 : 0 ≤ Z148 60 2 ∧ Z148 60 2 ≤ 18 := by have hq := GI_ex hG148 60 2; replace hq : f60 (2 % 962) (Z148 60 2) := hq; unfold f60 at hq; omega
          have b163 : (-2147483648) ≤ Z148 60 2 ∧ Z148 60 2 ≤ 2147483647 := hG148.pr 60 2
          have rn148 := QR_n (QR_rf (Z := Z) (a := a0))
          have r148 := QR_c (d2 := 1) (c2 := (-1)) (QR_rf (Z := Z) (a := a0)) bq148 (by omega) (hf148 56 11 rfl) (hf148 56 6 rfl) (by decide) (by decide) (by decide)
          refine Jcv0 hx (show mx_Sn _ _ 56 (mx_callv 169 2 12 59) from sn_171 56) a56 s56 hc148 rfl rfl rfl ?_
          refine mx_J.step (sn_171 59) (fun _ _ => rfl) ?_
          have eq165 : Z148 56 7 = Z 56 7 := (hf148 56 7 rfl)
          have b166 : 0 ≤ Z 56 7 ∧ Z 56 7 ≤ 900 := hG.pr 56 7
          have eq167 : Z148 56 8 = Z 56 8 := (hf148 56 8 rfl)
          have eq168 : Z148 56 11 = Z 56 11 := (hf148 56 11 rfl)
          obtain ⟨Z164, h164, hc164, hx164, hG164, hf164, b164⟩ := ct_162_56r (g0 := g0) (T := T) (N := N) (sg := gEm ((1000 + z147)) sg) (d := d + 2) (l := l) (D := D) (b0 := b0) (ad := ad) (Hb := Hb) (tau := tau) hx148 hG148  (show Z148 56 7 ≤ Z148 56 8 by first | omega | (simp only [eq165, eq167, eq168]; omega)) (show Z148 56 11 = 0 by first | omega | (simp only [eq165, eq167, eq168]; omega)) br148
          try rw [eq165] at b164
          try rw [eq167] at b164
          try rw [eq168] at b164
          obtain ⟨br164, b164⟩ := b164
          have b169 : 0 ≤ Z164 56 6 ∧ Z164 56 6 ≤ 900 := hG164.pr 56 6
          have b170 : 0 ≤ Z164 56 7 ∧ Z164 56 7 ≤ 900 := hG164.pr 56 7
          have b171 : 0 ≤ Z164 56 9 ∧ Z164 56 9 ≤ 100 := hG164.pr 56 9
          have eq172 : Z148 56 6 = Z 56 6 := (hf148 56 6 rfl)
          have b173 : 0 ≤ Z 56 6 ∧ Z 56 6 ≤ 900 := hG.pr 56 6
          have eq174 : Z148 56 11 = Z 56 11 := (hf148 56 11 rfl)
          have eq175 : Z148 56 9 = Z 56 9 := (hf148 56 9 rfl)
          have r164 := QR_g (k := 1) (c2 := 0) r148 (fun e => (hf164 56 11 rfl).symm.trans e) (fun i => hf164 60 i rfl) (fun e => by omega) (by decide)
          refine Jcv0 hx148 (show mx_Sn _ _ 60 (mx_callv 162 1 12 63) from sn_171 60) a56 s56 hc164 rfl rfl rfl ?_
          refine mx_J.step (sn_171 63) (fun _ _ => rfl) ?_
          have eq176 : Z164 60 61 = Z148 60 61 := (hf164 60 61 rfl)
          have eq177 : Z164 60 0 = Z148 60 0 := (hf164 60 0 rfl)
          have eq178 : Z164 60 1 = Z148 60 1 := (hf164 60 1 rfl)
          have eq179 : Z164 60 2 = Z148 60 2 := (hf164 60 2 rfl)
          exact c129 Z164 h164 (by omega) (by omega) (by omega) (by omega) (QR_le r164 (by decide)) (RM_e br164 (at_wm kk.1 (by omega))) hx164 hG164 (fr_tr (M := [(56, 6), (56, 7), (56, 9), (56, 10), (56, 11), (56, 12), (60, (-1))]) (fr_tr (M := [(56, 6), (56, 7), (56, 9), (56, 10), (56, 11), (56, 12), (60, (-1))]) fr_rf (hf148) (M1 := []) rfl rfl) (hf164) rfl rfl)
    · skip
      have v23 : Z 56 10 = tVl T N sg.1 := RM_v hr ((RM_is (k := 23) hr).mp (by omega))
      refine mx_J.step (sn_171 9) (fun _ _ => rfl) ?_
      refine mx_J.step (sn_171 10) (fun _ _ => rfl) ?_
      have b181 : 0 ≤ Z 56 10 ∧ Z 56 10 ≤ 999 := hG.pr 56 10
      refine JgetI (g := 10) (z := Z 56 10) hx (show mx_Sn _ _ 11 (mx_getf 12 10 14) from sn_171 11) a56 s56 rfl rfl rfl ?_
      have b183 : 0 ≤ Z 56 8 ∧ Z 56 8 ≤ 900 := hG.pr 56 8
      have b184 : 0 ≤ Z 60 61 ∧ Z 60 61 ≤ 900 := by have hq := GI_ex hG 60 61; replace hq : f60 (61 % 962) (Z 60 61) := hq; unfold f60 at hq; omega
      have b185 : (-2147483648) ≤ Z 60 61 ∧ Z 60 61 ≤ 2147483647 := hG.pr 60 61
      have b186 : (-2147483648) ≤ Z 60 0 ∧ Z 60 0 ≤ 2147483647 := hG.pr 60 0
      have b187 : 0 ≤ Z 60 1 ∧ Z 60 1 ≤ 18 := by have hq := GI_ex hG 60 1; replace hq : f60 (1 % 962) (Z 60 1) := hq; unfold f60 at hq; omega
      have b188 : (-2147483648) ≤ Z 60 1 ∧ Z 60 1 ≤ 2147483647 := hG.pr 60 1
      have b189 : 0 ≤ Z 60 2 ∧ Z 60 2 ≤ 18 := by have hq := GI_ex hG 60 2; replace hq : f60 (2 % 962) (Z 60 2) := hq; unfold f60 at hq; omega
      have b190 : (-2147483648) ≤ Z 60 2 ∧ Z 60 2 ≤ 2147483647 := hG.pr 60 2
      have rp182 := QR_n (QR_rf (Z := Z) (a := a0))
      obtain ⟨Z182, h182, hc182, hx182, hG182, hf182, b182⟩ := ct_169_56_0 (a0 := a0) (g0 := g0) (T := T) (N := N) (sg := sg) (d := d + 7) (l := l) (D := D) (b0 := b0) (ad := ad) (Hb := Hb) (tau := tau) hx hG (show 0 ≤ Z 56 10 ∧ Z 56 10 ≤ 1004 by omega) (show (Z 56 11 = 0 → Z 60 61 ≤ 899) by omega) (show a0 ≤ Z 60 61 by omega) (show 0 ≤ a0 by omega) (show 0 ≤ g0 by omega) hr
      obtain ⟨br182, b182⟩ := b182
      obtain ⟨bq182, b182⟩ := b182
      have b191 : 0 ≤ Z182 60 61 ∧ Z182 60 61 ≤ 900 := by have hq := GI_ex hG182 60 61; replace hq : f60 (61 % 962) (Z182 60 61) := hq; unfold f60 at hq; omega
      have b192 : (-2147483648) ≤ Z182 60 61 ∧ Z182 60 61 ≤ 2147483647 := hG182.pr 60 61
      have b193 : (-2147483648) ≤ Z182 60 0 ∧ Z182 60 0 ≤ 2147483647 := hG182.pr 60 0
      have b194 : 0 ≤ Z182 60 1 ∧ Z182 60 1 ≤ 18 := by have hq := GI_ex hG182 60 1; replace hq : f60 (1 % 962) (Z182 60 1) := hq; unfold f60 at hq; omega
      have b195 : (-2147483648) ≤ Z182 60 1 ∧ Z182 60 1 ≤ 2147483647 := hG182.pr 60 1
      have b196 : 0 ≤ Z182 60 2 ∧ Z182 60 2 ≤ 18 := by have hq := GI_ex hG182 60 2; replace hq : f60 (2 % 962) (Z182 60 2) := hq; unfold f60 at hq; omega
      have b197 : (-2147483648) ≤ Z182 60 2 ∧ Z182 60 2 ≤ 2147483647 := hG182.pr 60 2
      have rn182 := QR_n (QR_rf (Z := Z) (a := a0))
      have r182 := QR_c (d2 := 1) (c2 := (-1)) (QR_rf (Z := Z) (a := a0)) bq182 (by omega) (hf182 56 11 rfl) (hf182 56 6 rfl) (by decide) (by decide) (by decide)
      refine Jcv0 hx (show mx_Sn _ _ 14 (mx_callv 169 2 12 17) from sn_171 14) a56 s56 hc182 rfl rfl rfl ?_
      refine mx_J.step (sn_171 17) (fun _ _ => rfl) ?_
      have eq199 : Z182 56 7 = Z 56 7 := (hf182 56 7 rfl)
      have b200 : 0 ≤ Z 56 7 ∧ Z 56 7 ≤ 900 := hG.pr 56 7
      have eq201 : Z182 56 8 = Z 56 8 := (hf182 56 8 rfl)
      have eq202 : Z182 56 11 = Z 56 11 := (hf182 56 11 rfl)
      obtain ⟨Z198, h198, hc198, hx198, hG198, hf198, b198⟩ := ct_162_56r (g0 := g0) (T := T) (N := N) (sg := gEm ((Z 56 10)) sg) (d := d + 2) (l := l) (D := D) (b0 := b0) (ad := ad) (Hb := Hb) (tau := tau) hx182 hG182  (show Z182 56 7 ≤ Z182 56 8 by first | omega | (simp only [eq199, eq201, eq202]; omega)) (show Z182 56 11 = 0 by first | omega | (simp only [eq199, eq201, eq202]; omega)) br182
      try rw [eq199] at b198
      try rw [eq201] at b198
      try rw [eq202] at b198
      obtain ⟨br198, b198⟩ := b198
      have b203 : 0 ≤ Z198 56 6 ∧ Z198 56 6 ≤ 900 := hG198.pr 56 6
      have b204 : 0 ≤ Z198 56 7 ∧ Z198 56 7 ≤ 900 := hG198.pr 56 7
      have b205 : 0 ≤ Z198 56 9 ∧ Z198 56 9 ≤ 100 := hG198.pr 56 9
      have eq206 : Z182 56 6 = Z 56 6 := (hf182 56 6 rfl)
      have b207 : 0 ≤ Z 56 6 ∧ Z 56 6 ≤ 900 := hG.pr 56 6
      have eq208 : Z182 56 11 = Z 56 11 := (hf182 56 11 rfl)
      have eq209 : Z182 56 9 = Z 56 9 := (hf182 56 9 rfl)
      have r198 := QR_g (k := 1) (c2 := 0) r182 (fun e => (hf198 56 11 rfl).symm.trans e) (fun i => hf198 60 i rfl) (fun e => by omega) (by decide)
      refine Jcv0 hx182 (show mx_Sn _ _ 18 (mx_callv 162 1 12 21) from sn_171 18) a56 s56 hc198 rfl rfl rfl ?_
      refine mx_J.step (sn_171 21) (fun _ _ => rfl) ?_
      have eq210 : Z198 60 61 = Z182 60 61 := (hf198 60 61 rfl)
      have eq211 : Z198 60 0 = Z182 60 0 := (hf198 60 0 rfl)
      have eq212 : Z198 60 1 = Z182 60 1 := (hf198 60 1 rfl)
      have eq213 : Z198 60 2 = Z182 60 2 := (hf198 60 2 rfl)
      exact c129 Z198 h198 (by omega) (by omega) (by omega) (by omega) (QR_le r198 (by decide)) (RM_e br198 (at_dm ((RM_is (k := 23) hr).mp (by omega)) v23 (by omega))) hx198 hG198 (fr_tr (M := [(56, 6), (56, 7), (56, 9), (56, 10), (56, 11), (56, 12), (60, (-1))]) (fr_tr (M := [(56, 6), (56, 7), (56, 9), (56, 10), (56, 11), (56, 12), (60, (-1))]) fr_rf (hf182) (M1 := []) rfl rfl) (hf198) rfl rfl)
theorem ct_171_56_s {l : Launch} {D : va_G} {b0 : Nat} {ad : Nat → Nat} {Hb : Heap} {tau : Nat → Int64} {d n s : Nat} {S : Nat → xS} {Z : xZ} {h : mx_H} {a0 : Int} {g0 : Int} {T : Int → Int} {N : Int} {sg : SS} (hx : XH n s S Z h) (hG : GI n S Z)  {x0 : Int} (p0 : 0 ≤ x0 ∧ x0 ≤ 6) (k0 : (Z 56 6 ≤ Z 56 7 ∧ Z 56 7 ≤ Z 56 8 ∧ (Z 56 9 = 24 ∨ Z 56 6 < Z 56 7))) (k1 : Z 60 61 ≤ Z 56 6) (k2 : a0 ≤ Z 60 61) (k3 : 0 ≤ a0) (k4 : 0 ≤ g0) (hr : RM g0 T N Z sg) {kk : Nat} (IH : RBnh l D b0 ad Hb tau kk x0) (hd : kk ≤ d) : ∃ (Z' : xZ) (h' : mx_H), mx_Ca (tB l D b0 ad Hb tau) (d + 9) 171 [.ref 56, xI x0] h (none, h') ∧ XH n s S Z' h' ∧ GI n S Z' ∧ fr' [(56, 6), (56, 7), (56, 9), (56, 10), (56, 11), (56, 12), (60, (-1))] Z Z' ∧ (RM g0 T N Z' (atX T N (lvI T N x0) sg) ∧ QR Z Z' a0 1 0 ∧ ((Z' 56 6 ≤ Z' 56 7 ∧ Z' 56 7 ≤ Z 56 8 ∧ (Z' 56 9 = 24 ∨ Z' 56 6 < Z' 56 7)) ∧ Z' 60 0 = Z 60 0 ∧ Z' 60 1 = Z 60 1 ∧ Z' 60 2 = Z 60 2 ∧ Z 56 6 ≤ Z' 56 6 ∧ Z 60 61 ≤ Z' 60 61 ∧ Z' 60 61 - Z 60 61 ≤ Z' 56 6 - Z 56 6)) := by
  obtain ⟨r, hca, Z', h', e, q⟩ := Jmt (B := tB l D b0 ad Hb tau) (M := mt_171) (mi := 171) (as := [.ref 56, xI x0]) (d := d + 8) (ls := [some (.ref 56), some (xI x0)]) rfl rfl rfl rfl rfl rfl (cw_171_56_s (l := l) (D := D) (b0 := b0) (ad := ad) (Hb := Hb) (tau := tau) (d := d) (Post := fun r => ∃ (Z' : xZ) (h' : mx_H), r = (none, h') ∧ XH n s S Z' h' ∧ GI n S Z' ∧ fr' [(56, 6), (56, 7), (56, 9), (56, 10), (56, 11), (56, 12), (60, (-1))] Z Z' ∧ (RM g0 T N Z' (atX T N (lvI T N x0) sg) ∧ QR Z Z' a0 1 0 ∧ ((Z' 56 6 ≤ Z' 56 7 ∧ Z' 56 7 ≤ Z 56 8 ∧ (Z' 56 9 = 24 ∨ Z' 56 6 < Z' 56 7)) ∧ Z' 60 0 = Z 60 0 ∧ Z' 60 1 = Z 60 1 ∧ Z' 60 2 = Z 60 2 ∧ Z 56 6 ≤ Z' 56 6 ∧ Z 60 61 ≤ Z' 60 61 ∧ Z' 60 61 - Z 60 61 ≤ Z' 56 6 - Z 56 6))) hx hG p0 k0 k1 k2 k3 k4 hr IH hd (fun Z' h' q1 q2 q3 q4 => ⟨Z', h', rfl, q1, q2, q3, q4⟩))
  subst e; exact ⟨Z', h', hca, q⟩
set_option maxHeartbeats 8000000 in
set_option maxRecDepth 100000 in
theorem cw_173_56_s {l : Launch} {D : va_G} {b0 : Nat} {ad : Nat → Nat} {Hb : Heap} {tau : Nat → Int64} {d n s : Nat} {S : Nat → xS} {Z : xZ} {h : mx_H} {Post : mx_R → Prop} {a0 : Int} {g0 : Int} {T : Int → Int} {N : Int} {sg : SS} (hx : XH n s S Z h) (hG : GI n S Z)  {x0 : Int} (p0 : 0 ≤ x0 ∧ x0 ≤ 6) (k0 : (Z 56 6 ≤ Z 56 7 ∧ Z 56 7 ≤ Z 56 8 ∧ (Z 56 9 = 24 ∨ Z 56 6 < Z 56 7))) (k1 : Z 60 61 ≤ Z 56 6) (k2 : a0 ≤ Z 60 61) (k3 : 0 ≤ a0) (k4 : 0 ≤ g0) (hr : RM g0 T N Z sg) {kk : Nat} (IH : RBnh l D b0 ad Hb tau kk x0) (hd : kk ≤ d) (hP : ∀ (Z' : xZ) (h' : mx_H), XH n s S Z' h' → GI n S Z' → fr' [(56, 6), (56, 7), (56, 9), (56, 10), (56, 11), (56, 12), (60, (-1))] Z Z' → RM g0 T N Z' (tmX T N (lvI T N x0) sg) ∧ QR Z Z' a0 1 0 ∧ ((Z' 56 6 ≤ Z' 56 7 ∧ Z' 56 7 ≤ Z 56 8 ∧ (Z' 56 9 = 24 ∨ Z' 56 6 < Z' 56 7)) ∧ Z' 60 0 = Z 60 0 ∧ Z' 60 1 = Z 60 1 ∧ Z' 60 2 = Z 60 2 ∧ Z 56 6 ≤ Z' 56 6 ∧ Z 60 61 ≤ Z' 60 61 ∧ Z' 60 61 - Z 60 61 ≤ Z' 56 6 - Z 56 6) → Post (none, h')) : mx_J (tB l D b0 ad Hb tau) mt_173 (d + 9) 0 [some (.ref 56), some (xI x0)] [] h Post := by
    have a56 : 56 < n := lt83 (GI_n hG) rfl
    have s56 : S 56 = .inl (12, [0, 2, 2, 2, 2, 0, 0, 0, 0, 0, 0, 0, 0, 0, 0, 2, 2, 2, 0, 2, 2, 2, 0, 0, 2, 2, 2, 2, 2, 2, 0, 0, 2, 2, 2, 2, 2, 2, 2, 2, 2, 2]) := GI_s hG 56 rfl
    refine mx_J.step (sn_173 0) (fun _ _ => rfl) ?_
    refine mx_J.step (sn_173 1) (fun _ _ => rfl) ?_
    have b2 : 0 ≤ Z 56 6 ∧ Z 56 6 ≤ 900 := hG.pr 56 6
    have b3 : 0 ≤ Z 56 7 ∧ Z 56 7 ≤ 900 := hG.pr 56 7
    have b4 : 0 ≤ Z 56 8 ∧ Z 56 8 ≤ 900 := hG.pr 56 8
    have b5 : 0 ≤ Z 56 9 ∧ Z 56 9 ≤ 100 := hG.pr 56 9
    have b6 : 0 ≤ Z 56 11 ∧ Z 56 11 ≤ 4 := hG.pr 56 11
    have b7 : 0 ≤ Z 60 61 ∧ Z 60 61 ≤ 900 := by have hq := GI_ex hG 60 61; replace hq : f60 (61 % 962) (Z 60 61) := hq; unfold f60 at hq; omega
    have b8 : (-2147483648) ≤ Z 60 61 ∧ Z 60 61 ≤ 2147483647 := hG.pr 60 61
    have b9 : (-2147483648) ≤ Z 60 0 ∧ Z 60 0 ≤ 2147483647 := hG.pr 60 0
    have b10 : 0 ≤ Z 60 1 ∧ Z 60 1 ≤ 18 := by have hq := GI_ex hG 60 1; replace hq : f60 (1 % 962) (Z 60 1) := hq; unfold f60 at hq; omega
    have b11 : (-2147483648) ≤ Z 60 1 ∧ Z 60 1 ≤ 2147483647 := hG.pr 60 1
    have b12 : 0 ≤ Z 60 2 ∧ Z 60 2 ≤ 18 := by have hq := GI_ex hG 60 2; replace hq : f60 (2 % 962) (Z 60 2) := hq; unfold f60 at hq; omega
    have b13 : (-2147483648) ≤ Z 60 2 ∧ Z 60 2 ≤ 2147483647 := hG.pr 60 2
    obtain ⟨Z1, h1, hc1, hx1, hG1, hf1, b1⟩ := ct_171_56_s (a0 := a0) (g0 := g0) (T := T) (N := N) (sg := sg) (d := d + 0) (l := l) (D := D) (b0 := b0) (ad := ad) (Hb := Hb) (tau := tau) hx hG (show 0 ≤ x0 ∧ x0 ≤ 6 by omega) (show (Z 56 6 ≤ Z 56 7 ∧ Z 56 7 ≤ Z 56 8 ∧ (Z 56 9 = 24 ∨ Z 56 6 < Z 56 7)) by omega) (show Z 60 61 ≤ Z 56 6 by omega) (show a0 ≤ Z 60 61 by omega) (show 0 ≤ a0 by omega) (show 0 ≤ g0 by omega) hr IH (by omega)
    obtain ⟨br1, b1⟩ := b1
    obtain ⟨bq1, b1⟩ := b1
    have b14 : 0 ≤ Z1 56 6 ∧ Z1 56 6 ≤ 900 := hG1.pr 56 6
    have b15 : 0 ≤ Z1 56 7 ∧ Z1 56 7 ≤ 900 := hG1.pr 56 7
    have b16 : 0 ≤ Z1 56 9 ∧ Z1 56 9 ≤ 100 := hG1.pr 56 9
    have b17 : 0 ≤ Z1 56 11 ∧ Z1 56 11 ≤ 4 := hG1.pr 56 11
    have b18 : 0 ≤ Z1 60 61 ∧ Z1 60 61 ≤ 900 := by have hq := GI_ex hG1 60 61; replace hq : f60 (61 % 962) (Z1 60 61) := hq; unfold f60 at hq; omega
    have b19 : (-2147483648) ≤ Z1 60 61 ∧ Z1 60 61 ≤ 2147483647 := hG1.pr 60 61
    have b20 : (-2147483648) ≤ Z1 60 0 ∧ Z1 60 0 ≤ 2147483647 := hG1.pr 60 0
    have b21 : 0 ≤ Z1 60 1 ∧ Z1 60 1 ≤ 18 := by have hq := GI_ex hG1 60 1; replace hq : f60 (1 % 962) (Z1 60 1) := hq; unfold f60 at hq; omega
    have b22 : (-2147483648) ≤ Z1 60 1 ∧ Z1 60 1 ≤ 2147483647 := hG1.pr 60 1
    have b23 : 0 ≤ Z1 60 2 ∧ Z1 60 2 ≤ 18 := by have hq := GI_ex hG1 60 2; replace hq : f60 (2 % 962) (Z1 60 2) := hq; unfold f60 at hq; omega
    have b24 : (-2147483648) ≤ Z1 60 2 ∧ Z1 60 2 ≤ 2147483647 := hG1.pr 60 2
    have r1 := QR_tr (d := 1) (c := 0) (QR_rf (Z := Z) (a := a0)) bq1 (by decide) (by decide) (by decide)
    refine Jcv0 hx (show mx_Sn _ _ 2 (mx_callv 171 2 12 5) from sn_173 2) a56 s56 hc1 rfl rfl rfl ?_
    have c5 : ∀ (m25 : Nat) (sg25 : SS) (Z26 : xZ) (h26 : mx_H), (((Z 56 8 - Z26 56 6).toNat : Nat) : Int) < (m25 : Int) → RM g0 T N Z26 sg25 → (Z26 56 6 ≤ Z26 56 7 ∧ Z26 56 7 ≤ Z 56 8) → (Z26 56 9 = 24 ∨ Z26 56 6 < Z26 56 7) → (Z 56 6 ≤ Z26 56 6 ∧ Z 60 61 ≤ Z26 60 61 ∧ Z26 60 61 - Z 60 61 ≤ Z26 56 6 - Z 56 6) → (Z26 60 0 = Z 60 0 ∧ Z26 60 1 = Z 60 1 ∧ Z26 60 2 = Z 60 2) → QR Z Z26 a0 1 0 → tmL T N (lvI T N x0) sg25 = tmX T N (lvI T N x0) sg → XH n s S Z26 h26 → GI n S Z26 → fr' [(56, 6), (56, 7), (56, 9), (56, 10), (56, 11), (56, 12), (60, (-1))] Z1 Z26 → mx_J (tB l D b0 ad Hb tau) mt_173 (d + 9) 5 [some (.ref 56), some (xI x0)] [] h26 Post := by
      intro m25
      induction m25 with
      | zero => intro sg25 Z26 h26 q25 f25_0 f25_1 f25_2 f25_3 f25_4 f25_5 f25_6 hx26 hG26 hf26; exact absurd q25 (by omega)
      | succ m25 ih25 =>
        intro sg25 Z26 h26 q25 f25_0 f25_1 f25_2 f25_3 f25_4 f25_5 f25_6 hx26 hG26 hf26
        have b27 : 0 ≤ Z26 56 6 ∧ Z26 56 6 ≤ 900 := hG26.pr 56 6
        have b28 : 0 ≤ Z26 56 7 ∧ Z26 56 7 ≤ 900 := hG26.pr 56 7
        have b29 : 0 ≤ Z26 56 9 ∧ Z26 56 9 ≤ 100 := hG26.pr 56 9
        have b30 : 0 ≤ Z26 60 61 ∧ Z26 60 61 ≤ 900 := by have hq := GI_ex hG26 60 61; replace hq : f60 (61 % 962) (Z26 60 61) := hq; unfold f60 at hq; omega
        have b31 : (-2147483648) ≤ Z26 60 61 ∧ Z26 60 61 ≤ 2147483647 := hG26.pr 60 61
        have b32 : (-2147483648) ≤ Z26 60 0 ∧ Z26 60 0 ≤ 2147483647 := hG26.pr 60 0
        have b33 : 0 ≤ Z26 60 1 ∧ Z26 60 1 ≤ 18 := by have hq := GI_ex hG26 60 1; replace hq : f60 (1 % 962) (Z26 60 1) := hq; unfold f60 at hq; omega
        have b34 : (-2147483648) ≤ Z26 60 1 ∧ Z26 60 1 ≤ 2147483647 := hG26.pr 60 1
        have b35 : 0 ≤ Z26 60 2 ∧ Z26 60 2 ≤ 18 := by have hq := GI_ex hG26 60 2; replace hq : f60 (2 % 962) (Z26 60 2) := hq; unfold f60 at hq; omega
        have b36 : (-2147483648) ≤ Z26 60 2 ∧ Z26 60 2 ≤ 2147483647 := hG26.pr 60 2
        refine mx_J.step (sn_173 5) (fun _ _ => rfl) ?_
        refine JcI (z := 34) (show mx_Sn _ _ 6 (mx_const (.int 34) 8) from sn_173 6) rfl ?_
        have gt := RM_is (k := 34) f25_0
        have gn := RM_N f25_0
        have eq38 : Z26 56 8 = Z 56 8 := ((hf26 56 8 rfl).trans (hf1 56 8 rfl))
        have b39 : 0 ≤ Z26 56 11 ∧ Z26 56 11 ≤ 4 := hG26.pr 56 11
        obtain ⟨z37, Z37, h37, hc37, hx37, hG37, hf37, b37⟩ := ct_165_56 (g0 := g0) (T := T) (N := N) (sg := sg25) (d := d + 2) (l := l) (D := D) (b0 := b0) (ad := ad) (Hb := Hb) (tau := tau) hx26 hG26 (show 0 ≤ 34 ∧ 34 ≤ 100 by omega) (show (Z26 56 6 ≤ Z26 56 7 ∧ Z26 56 7 ≤ Z26 56 8 ∧ (Z26 56 9 = 24 ∨ Z26 56 6 < Z26 56 7)) by first | omega | (simp only [eq38]; omega)) (show ¬ 34 = 24 by first | omega | (simp only [eq38]; omega)) f25_0
        try rw [eq38] at b37
        obtain ⟨br37, b37⟩ := b37
        have b40 : 0 ≤ Z37 56 6 ∧ Z37 56 6 ≤ 900 := hG37.pr 56 6
        have b41 : 0 ≤ Z37 56 7 ∧ Z37 56 7 ≤ 900 := hG37.pr 56 7
        have b42 : 0 ≤ Z37 56 9 ∧ Z37 56 9 ≤ 100 := hG37.pr 56 9
        have r37 := QR_g (k := 0) (c2 := 0) f25_5 (fun e => (hf37 56 11 rfl).symm.trans e) (fun i => hf37 60 i rfl) (fun e => by omega) (by decide)
        have rk37 : z37 = 1 → QR Z Z37 a0 1 1 := fun ez => QR_g (k := 1) f25_5 (fun e => (hf37 56 11 rfl).symm.trans e) (fun i => hf37 60 i rfl) (fun e => by omega) (by decide)
        refine Jcv hx26 (show mx_Sn _ _ 8 (mx_callv 165 2 12 11) from sn_173 8) a56 s56 hc37 rfl rfl rfl ?_
        refine Jif_eq (show mx_Sn _ _ 11 (mx_if_eq 29 14) from sn_173 11) (by omega) (fun q43 => ?_) (fun q43 => ?_)
        · skip
          have eq44 : Z37 56 11 = Z26 56 11 := (hf37 56 11 rfl)
          have eq45 : Z37 60 61 = Z26 60 61 := (hf37 60 61 rfl)
          have eq46 : Z37 60 0 = Z26 60 0 := (hf37 60 0 rfl)
          have eq47 : Z37 60 1 = Z26 60 1 := (hf37 60 1 rfl)
          have eq48 : Z37 60 2 = Z26 60 2 := (hf37 60 2 rfl)
          have eq49 : Z37 56 8 = Z 56 8 := ((hf37 56 8 rfl).trans ((hf26 56 8 rfl).trans (hf1 56 8 rfl)))
          have eq50 : Z37 56 11 = Z26 56 11 := (hf37 56 11 rfl)
          have eq51 : Z37 60 61 = Z26 60 61 := (hf37 60 61 rfl)
          have eq52 : Z37 60 0 = Z26 60 0 := (hf37 60 0 rfl)
          have eq53 : Z37 60 1 = Z26 60 1 := (hf37 60 1 rfl)
          have eq54 : Z37 60 2 = Z26 60 2 := (hf37 60 2 rfl)
          exact mx_J.ret (sn_173 29) (fun _ _ => rfl) (hP Z37 h37 hx37 hG37 (fr_tr (M := [(56, 6), (56, 7), (56, 9), (56, 10), (56, 11), (56, 12), (60, (-1))]) (fr_tr (M := [(56, 6), (56, 7), (56, 9), (56, 10), (56, 11), (56, 12), (60, (-1))]) (fr_tr (M := [(56, 6), (56, 7), (56, 9), (56, 10), (56, 11), (56, 12), (60, (-1))]) fr_rf (hf1) (M1 := []) rfl rfl) (hf26) rfl rfl) (hf37) rfl rfl) ⟨(RM_e br37 (((by assumption : tmL T N (lvI T N x0) sg25 = tmX T N (lvI T N x0) sg).symm.trans (tmL_n (fun q => by have := gt.mpr q; omega))).trans (gEt_n (fun q => by have := gt.mpr q; omega)).symm)), (QR_le r37 (by decide)), by omega⟩)
        · skip
          have rc55 : RM g0 T N Z37 (gAd T N sg25) := RM_e br37 ((gEt_y (gt.mp (by omega))).symm)
          refine mx_J.step (sn_173 14) (fun _ _ => rfl) ?_
          refine mx_J.step (sn_173 15) (fun _ _ => rfl) ?_
          have eq57 : Z37 56 8 = Z 56 8 := ((hf37 56 8 rfl).trans ((hf26 56 8 rfl).trans (hf1 56 8 rfl)))
          have eq58 : Z37 56 11 = Z26 56 11 := (hf37 56 11 rfl)
          have eq59 : Z37 60 61 = Z26 60 61 := (hf37 60 61 rfl)
          have eq60 : Z37 60 0 = Z26 60 0 := (hf37 60 0 rfl)
          have eq61 : Z37 60 1 = Z26 60 1 := (hf37 60 1 rfl)
          have eq62 : Z37 60 2 = Z26 60 2 := (hf37 60 2 rfl)
          obtain ⟨Z56, h56, hc56, hx56, hG56, hf56, b56⟩ := ct_171_56_s (a0 := a0) (g0 := g0) (T := T) (N := N) (sg := gAd T N sg25) (d := d + 0) (l := l) (D := D) (b0 := b0) (ad := ad) (Hb := Hb) (tau := tau) hx37 hG37 (show 0 ≤ x0 ∧ x0 ≤ 6 by omega) (show (Z37 56 6 ≤ Z37 56 7 ∧ Z37 56 7 ≤ Z37 56 8 ∧ (Z37 56 9 = 24 ∨ Z37 56 6 < Z37 56 7)) by first | omega | (simp only [eq57, eq58, eq59, eq60, eq61, eq62]; omega)) (show Z37 60 61 ≤ Z37 56 6 by first | omega | (simp only [eq57, eq58, eq59, eq60, eq61, eq62]; omega)) (show a0 ≤ Z37 60 61 by first | omega | (simp only [eq57, eq58, eq59, eq60, eq61, eq62]; omega)) (show 0 ≤ a0 by first | omega | (simp only [eq57, eq58, eq59, eq60, eq61, eq62]; omega)) (show 0 ≤ g0 by first | omega | (simp only [eq57, eq58, eq59, eq60, eq61, eq62]; omega)) rc55 IH (by omega)
          try rw [eq57] at b56
          try rw [eq58] at b56
          try rw [eq59] at b56
          try rw [eq60] at b56
          try rw [eq61] at b56
          try rw [eq62] at b56
          obtain ⟨br56, b56⟩ := b56
          obtain ⟨bq56, b56⟩ := b56
          have b63 : 0 ≤ Z56 56 6 ∧ Z56 56 6 ≤ 900 := hG56.pr 56 6
          have b64 : 0 ≤ Z56 56 7 ∧ Z56 56 7 ≤ 900 := hG56.pr 56 7
          have b65 : 0 ≤ Z56 56 9 ∧ Z56 56 9 ≤ 100 := hG56.pr 56 9
          have b66 : 0 ≤ Z56 56 11 ∧ Z56 56 11 ≤ 4 := hG56.pr 56 11
          have b67 : 0 ≤ Z56 60 61 ∧ Z56 60 61 ≤ 900 := by have hq := GI_ex hG56 60 61; replace hq : f60 (61 % 962) (Z56 60 61) := hq; unfold f60 at hq; omega
          have b68 : (-2147483648) ≤ Z56 60 61 ∧ Z56 60 61 ≤ 2147483647 := hG56.pr 60 61
          have b69 : (-2147483648) ≤ Z56 60 0 ∧ Z56 60 0 ≤ 2147483647 := hG56.pr 60 0
          have b70 : 0 ≤ Z56 60 1 ∧ Z56 60 1 ≤ 18 := by have hq := GI_ex hG56 60 1; replace hq : f60 (1 % 962) (Z56 60 1) := hq; unfold f60 at hq; omega
          have b71 : (-2147483648) ≤ Z56 60 1 ∧ Z56 60 1 ≤ 2147483647 := hG56.pr 60 1
          have b72 : 0 ≤ Z56 60 2 ∧ Z56 60 2 ≤ 18 := by have hq := GI_ex hG56 60 2; replace hq : f60 (2 % 962) (Z56 60 2) := hq; unfold f60 at hq; omega
          have b73 : (-2147483648) ≤ Z56 60 2 ∧ Z56 60 2 ≤ 2147483647 := hG56.pr 60 2
          have r56 := QR_tr (d := 2) (c := 1) (rk37 (by omega)) bq56 (by decide) (by decide) (by decide)
          refine Jcv0 hx37 (show mx_Sn _ _ 16 (mx_callv 171 2 12 19) from sn_173 16) a56 s56 hc56 rfl rfl rfl ?_
          refine mx_J.step (sn_173 19) (fun _ _ => rfl) ?_
          refine JcI (z := 3002) (show mx_Sn _ _ 20 (mx_const (.int 3002) 23) from sn_173 20) rfl ?_
          have eq75 : Z56 56 8 = Z 56 8 := ((hf56 56 8 rfl).trans ((hf37 56 8 rfl).trans ((hf26 56 8 rfl).trans (hf1 56 8 rfl))))
          have rp74 := QR_n r56
          obtain ⟨Z74, h74, hc74, hx74, hG74, hf74, b74⟩ := ct_169_56_3002 (a0 := a0) (g0 := g0) (T := T) (N := N) (sg := atX T N (lvI T N x0) (gAd T N sg25)) (d := d + 8) (l := l) (D := D) (b0 := b0) (ad := ad) (Hb := Hb) (tau := tau) hx56 hG56  (show (Z56 56 11 = 0 → Z56 60 61 ≤ 899) by first | omega | (simp only [eq75]; omega)) (show a0 ≤ Z56 60 61 by first | omega | (simp only [eq75]; omega)) (show 0 ≤ a0 by first | omega | (simp only [eq75]; omega)) (show 0 ≤ g0 by first | omega | (simp only [eq75]; omega)) br56
          try rw [eq75] at b74
          obtain ⟨br74, b74⟩ := b74
          obtain ⟨bq74, b74⟩ := b74
          have b76 : 0 ≤ Z74 60 61 ∧ Z74 60 61 ≤ 900 := by have hq := GI_ex hG74 60 61; replace hq : f60 (61 % 962) (Z74 60 61) := hq; unfold f60 at hq; omega
          have b77 : (-2147483648) ≤ Z74 60 61 ∧ Z74 60 61 ≤ 2147483647 := hG74.pr 60 61
          have b78 : (-2147483648) ≤ Z74 60 0 ∧ Z74 60 0 ≤ 2147483647 := hG74.pr 60 0
          have b79 : 0 ≤ Z74 60 1 ∧ Z74 60 1 ≤ 18 := by have hq := GI_ex hG74 60 1; replace hq : f60 (1 % 962) (Z74 60 1) := hq; unfold f60 at hq; omega
          have b80 : (-2147483648) ≤ Z74 60 1 ∧ Z74 60 1 ≤ 2147483647 := hG74.pr 60 1
          have b81 : 0 ≤ Z74 60 2 ∧ Z74 60 2 ≤ 18 := by have hq := GI_ex hG74 60 2; replace hq : f60 (2 % 962) (Z74 60 2) := hq; unfold f60 at hq; omega
          have b82 : (-2147483648) ≤ Z74 60 2 ∧ Z74 60 2 ≤ 2147483647 := hG74.pr 60 2
          have rn74 := QR_n r56
          have r74 := QR_c (d2 := 1) (c2 := 0) r56 bq74 (by omega) (hf74 56 11 rfl) (hf74 56 6 rfl) (by decide) (by decide) (by decide)
          refine Jcv0 hx56 (show mx_Sn _ _ 23 (mx_callv 169 2 12 26) from sn_173 23) a56 s56 hc74 rfl rfl rfl ?_
          refine mx_J.step (sn_173 26) (fun _ _ => rfl) ?_
          have eq83 : Z74 56 6 = Z56 56 6 := (hf74 56 6 rfl)
          have eq84 : Z74 56 7 = Z56 56 7 := (hf74 56 7 rfl)
          have eq85 : Z74 56 6 = Z56 56 6 := (hf74 56 6 rfl)
          have eq86 : Z74 56 7 = Z56 56 7 := (hf74 56 7 rfl)
          have eq87 : Z74 56 9 = Z56 56 9 := (hf74 56 9 rfl)
          have eq88 : Z74 56 6 = Z56 56 6 := (hf74 56 6 rfl)
          have eq89 : Z74 56 6 = Z56 56 6 := (hf74 56 6 rfl)
          exact ih25 (gEm (1012) (atX T N (lvI T N x0) (gAd T N sg25))) Z74 h74 (by omega) br74 (by omega) (by omega) (by omega) (by omega) (QR_le r74 (by decide)) ((tmL_s (lvI_go _) gn (gt.mp (by omega))).symm.trans (by assumption)) hx74 hG74 (fr_tr (M := [(56, 6), (56, 7), (56, 9), (56, 10), (56, 11), (56, 12), (60, (-1))]) (fr_tr (M := [(56, 6), (56, 7), (56, 9), (56, 10), (56, 11), (56, 12), (60, (-1))]) (fr_tr (M := [(56, 6), (56, 7), (56, 9), (56, 10), (56, 11), (56, 12), (60, (-1))]) (fr_tr (M := [(56, 6), (56, 7), (56, 9), (56, 10), (56, 11), (56, 12), (60, (-1))]) fr_rf (hf26) (M1 := []) rfl rfl) (hf37) rfl rfl) (hf56) rfl rfl) (hf74) rfl rfl)
    exact c5 (Int.toNat ((((Z 56 8 - Z1 56 6).toNat : Nat) : Int)) + 1) (atX T N (lvI T N x0) sg) Z1 h1 (by omega) br1 (by omega) (by omega) (by omega) (by omega) (QR_le r1 (by decide)) (rfl) hx1 hG1 fr_rf
theorem ct_173_56_s {l : Launch} {D : va_G} {b0 : Nat} {ad : Nat → Nat} {Hb : Heap} {tau : Nat → Int64} {d n s : Nat} {S : Nat → xS} {Z : xZ} {h : mx_H} {a0 : Int} {g0 : Int} {T : Int → Int} {N : Int} {sg : SS} (hx : XH n s S Z h) (hG : GI n S Z)  {x0 : Int} (p0 : 0 ≤ x0 ∧ x0 ≤ 6) (k0 : (Z 56 6 ≤ Z 56 7 ∧ Z 56 7 ≤ Z 56 8 ∧ (Z 56 9 = 24 ∨ Z 56 6 < Z 56 7))) (k1 : Z 60 61 ≤ Z 56 6) (k2 : a0 ≤ Z 60 61) (k3 : 0 ≤ a0) (k4 : 0 ≤ g0) (hr : RM g0 T N Z sg) {kk : Nat} (IH : RBnh l D b0 ad Hb tau kk x0) (hd : kk ≤ d) : ∃ (Z' : xZ) (h' : mx_H), mx_Ca (tB l D b0 ad Hb tau) (d + 10) 173 [.ref 56, xI x0] h (none, h') ∧ XH n s S Z' h' ∧ GI n S Z' ∧ fr' [(56, 6), (56, 7), (56, 9), (56, 10), (56, 11), (56, 12), (60, (-1))] Z Z' ∧ (RM g0 T N Z' (tmX T N (lvI T N x0) sg) ∧ QR Z Z' a0 1 0 ∧ ((Z' 56 6 ≤ Z' 56 7 ∧ Z' 56 7 ≤ Z 56 8 ∧ (Z' 56 9 = 24 ∨ Z' 56 6 < Z' 56 7)) ∧ Z' 60 0 = Z 60 0 ∧ Z' 60 1 = Z 60 1 ∧ Z' 60 2 = Z 60 2 ∧ Z 56 6 ≤ Z' 56 6 ∧ Z 60 61 ≤ Z' 60 61 ∧ Z' 60 61 - Z 60 61 ≤ Z' 56 6 - Z 56 6)) := by
  obtain ⟨r, hca, Z', h', e, q⟩ := Jmt (B := tB l D b0 ad Hb tau) (M := mt_173) (mi := 173) (as := [.ref 56, xI x0]) (d := d + 9) (ls := [some (.ref 56), some (xI x0)]) rfl rfl rfl rfl rfl rfl (cw_173_56_s (l := l) (D := D) (b0 := b0) (ad := ad) (Hb := Hb) (tau := tau) (d := d) (Post := fun r => ∃ (Z' : xZ) (h' : mx_H), r = (none, h') ∧ XH n s S Z' h' ∧ GI n S Z' ∧ fr' [(56, 6), (56, 7), (56, 9), (56, 10), (56, 11), (56, 12), (60, (-1))] Z Z' ∧ (RM g0 T N Z' (tmX T N (lvI T N x0) sg) ∧ QR Z Z' a0 1 0 ∧ ((Z' 56 6 ≤ Z' 56 7 ∧ Z' 56 7 ≤ Z 56 8 ∧ (Z' 56 9 = 24 ∨ Z' 56 6 < Z' 56 7)) ∧ Z' 60 0 = Z 60 0 ∧ Z' 60 1 = Z 60 1 ∧ Z' 60 2 = Z 60 2 ∧ Z 56 6 ≤ Z' 56 6 ∧ Z 60 61 ≤ Z' 60 61 ∧ Z' 60 61 - Z 60 61 ≤ Z' 56 6 - Z 56 6))) hx hG p0 k0 k1 k2 k3 k4 hr IH hd (fun Z' h' q1 q2 q3 q4 => ⟨Z', h', rfl, q1, q2, q3, q4⟩))
  subst e; exact ⟨Z', h', hca, q⟩
set_option maxHeartbeats 8000000 in
set_option maxRecDepth 100000 in
theorem cw_174_56_s {l : Launch} {D : va_G} {b0 : Nat} {ad : Nat → Nat} {Hb : Heap} {tau : Nat → Int64} {d n s : Nat} {S : Nat → xS} {Z : xZ} {h : mx_H} {Post : mx_R → Prop} {a0 : Int} {g0 : Int} {T : Int → Int} {N : Int} {sg : SS} (hx : XH n s S Z h) (hG : GI n S Z)  {x0 : Int} (p0 : 0 ≤ x0 ∧ x0 ≤ 6) (k0 : (Z 56 6 ≤ Z 56 7 ∧ Z 56 7 ≤ Z 56 8 ∧ (Z 56 9 = 24 ∨ Z 56 6 < Z 56 7))) (k1 : Z 60 61 ≤ Z 56 6) (k2 : a0 ≤ Z 60 61) (k3 : 0 ≤ a0) (k4 : 0 ≤ g0) (hr : RM g0 T N Z sg) {kk : Nat} (IH : RBnh l D b0 ad Hb tau kk x0) (hd : kk ≤ d) (hP : ∀ (Z' : xZ) (h' : mx_H), XH n s S Z' h' → GI n S Z' → fr' [(56, 6), (56, 7), (56, 9), (56, 10), (56, 11), (56, 12), (60, (-1))] Z Z' → RM g0 T N Z' (smX T N (lvI T N x0) sg) ∧ QR Z Z' a0 1 0 ∧ ((Z' 56 6 ≤ Z' 56 7 ∧ Z' 56 7 ≤ Z 56 8 ∧ (Z' 56 9 = 24 ∨ Z' 56 6 < Z' 56 7)) ∧ Z' 60 0 = Z 60 0 ∧ Z' 60 1 = Z 60 1 ∧ Z' 60 2 = Z 60 2 ∧ Z 56 6 ≤ Z' 56 6 ∧ Z 60 61 ≤ Z' 60 61 ∧ Z' 60 61 - Z 60 61 ≤ Z' 56 6 - Z 56 6) → Post (none, h')) : mx_J (tB l D b0 ad Hb tau) mt_174 (d + 10) 0 [some (.ref 56), some (xI x0), none] [] h Post := by
    have a56 : 56 < n := lt83 (GI_n hG) rfl
    have s56 : S 56 = .inl (12, [0, 2, 2, 2, 2, 0, 0, 0, 0, 0, 0, 0, 0, 0, 0, 2, 2, 2, 0, 2, 2, 2, 0, 0, 2, 2, 2, 2, 2, 2, 0, 0, 2, 2, 2, 2, 2, 2, 2, 2, 2, 2]) := GI_s hG 56 rfl
    refine mx_J.step (sn_174 0) (fun _ _ => rfl) ?_
    refine mx_J.step (sn_174 1) (fun _ _ => rfl) ?_
    have b2 : 0 ≤ Z 56 6 ∧ Z 56 6 ≤ 900 := hG.pr 56 6
    have b3 : 0 ≤ Z 56 7 ∧ Z 56 7 ≤ 900 := hG.pr 56 7
    have b4 : 0 ≤ Z 56 8 ∧ Z 56 8 ≤ 900 := hG.pr 56 8
    have b5 : 0 ≤ Z 56 9 ∧ Z 56 9 ≤ 100 := hG.pr 56 9
    have b6 : 0 ≤ Z 56 11 ∧ Z 56 11 ≤ 4 := hG.pr 56 11
    have b7 : 0 ≤ Z 60 61 ∧ Z 60 61 ≤ 900 := by have hq := GI_ex hG 60 61; replace hq : f60 (61 % 962) (Z 60 61) := hq; unfold f60 at hq; omega
    have b8 : (-2147483648) ≤ Z 60 61 ∧ Z 60 61 ≤ 2147483647 := hG.pr 60 61
    have b9 : (-2147483648) ≤ Z 60 0 ∧ Z 60 0 ≤ 2147483647 := hG.pr 60 0
    have b10 : 0 ≤ Z 60 1 ∧ Z 60 1 ≤ 18 := by have hq := GI_ex hG 60 1; replace hq : f60 (1 % 962) (Z 60 1) := hq; unfold f60 at hq; omega
    have b11 : (-2147483648) ≤ Z 60 1 ∧ Z 60 1 ≤ 2147483647 := hG.pr 60 1
    have b12 : 0 ≤ Z 60 2 ∧ Z 60 2 ≤ 18 := by have hq := GI_ex hG 60 2; replace hq : f60 (2 % 962) (Z 60 2) := hq; unfold f60 at hq; omega
    have b13 : (-2147483648) ≤ Z 60 2 ∧ Z 60 2 ≤ 2147483647 := hG.pr 60 2
    obtain ⟨Z1, h1, hc1, hx1, hG1, hf1, b1⟩ := ct_173_56_s (a0 := a0) (g0 := g0) (T := T) (N := N) (sg := sg) (d := d + 0) (l := l) (D := D) (b0 := b0) (ad := ad) (Hb := Hb) (tau := tau) hx hG (show 0 ≤ x0 ∧ x0 ≤ 6 by omega) (show (Z 56 6 ≤ Z 56 7 ∧ Z 56 7 ≤ Z 56 8 ∧ (Z 56 9 = 24 ∨ Z 56 6 < Z 56 7)) by omega) (show Z 60 61 ≤ Z 56 6 by omega) (show a0 ≤ Z 60 61 by omega) (show 0 ≤ a0 by omega) (show 0 ≤ g0 by omega) hr IH (by omega)
    obtain ⟨br1, b1⟩ := b1
    obtain ⟨bq1, b1⟩ := b1
    have b14 : 0 ≤ Z1 56 6 ∧ Z1 56 6 ≤ 900 := hG1.pr 56 6
    have b15 : 0 ≤ Z1 56 7 ∧ Z1 56 7 ≤ 900 := hG1.pr 56 7
    have b16 : 0 ≤ Z1 56 9 ∧ Z1 56 9 ≤ 100 := hG1.pr 56 9
    have b17 : 0 ≤ Z1 56 11 ∧ Z1 56 11 ≤ 4 := hG1.pr 56 11
    have b18 : 0 ≤ Z1 60 61 ∧ Z1 60 61 ≤ 900 := by have hq := GI_ex hG1 60 61; replace hq : f60 (61 % 962) (Z1 60 61) := hq; unfold f60 at hq; omega
    have b19 : (-2147483648) ≤ Z1 60 61 ∧ Z1 60 61 ≤ 2147483647 := hG1.pr 60 61
    have b20 : (-2147483648) ≤ Z1 60 0 ∧ Z1 60 0 ≤ 2147483647 := hG1.pr 60 0
    have b21 : 0 ≤ Z1 60 1 ∧ Z1 60 1 ≤ 18 := by have hq := GI_ex hG1 60 1; replace hq : f60 (1 % 962) (Z1 60 1) := hq; unfold f60 at hq; omega
    have b22 : (-2147483648) ≤ Z1 60 1 ∧ Z1 60 1 ≤ 2147483647 := hG1.pr 60 1
    have b23 : 0 ≤ Z1 60 2 ∧ Z1 60 2 ≤ 18 := by have hq := GI_ex hG1 60 2; replace hq : f60 (2 % 962) (Z1 60 2) := hq; unfold f60 at hq; omega
    have b24 : (-2147483648) ≤ Z1 60 2 ∧ Z1 60 2 ≤ 2147483647 := hG1.pr 60 2
    have r1 := QR_tr (d := 1) (c := 0) (QR_rf (Z := Z) (a := a0)) bq1 (by decide) (by decide) (by decide)
    refine Jcv0 hx (show mx_Sn _ _ 2 (mx_callv 173 2 12 5) from sn_174 2) a56 s56 hc1 rfl rfl rfl ?_
    have c5 : ∀ (m25 : Nat) (u25_2 : Option Value) (sg25 : SS) (Z26 : xZ) (h26 : mx_H), (((Z 56 8 - Z26 56 6).toNat : Nat) : Int) < (m25 : Int) → RM g0 T N Z26 sg25 → (Z26 56 6 ≤ Z26 56 7 ∧ Z26 56 7 ≤ Z 56 8) → (Z26 56 9 = 24 ∨ Z26 56 6 < Z26 56 7) → (Z 56 6 ≤ Z26 56 6 ∧ Z 60 61 ≤ Z26 60 61 ∧ Z26 60 61 - Z 60 61 ≤ Z26 56 6 - Z 56 6) → (Z26 60 0 = Z 60 0 ∧ Z26 60 1 = Z 60 1 ∧ Z26 60 2 = Z 60 2) → QR Z Z26 a0 1 0 → smL T N (lvI T N x0) sg25 = smX T N (lvI T N x0) sg → XH n s S Z26 h26 → GI n S Z26 → fr' [(56, 6), (56, 7), (56, 9), (56, 10), (56, 11), (56, 12), (60, (-1))] Z1 Z26 → mx_J (tB l D b0 ad Hb tau) mt_174 (d + 10) 5 [some (.ref 56), some (xI x0), u25_2] [] h26 Post := by
      intro m25
      induction m25 with
      | zero => intro u25_2 sg25 Z26 h26 q25 f25_0 f25_1 f25_2 f25_3 f25_4 f25_5 f25_6 hx26 hG26 hf26; exact absurd q25 (by omega)
      | succ m25 ih25 =>
        intro u25_2 sg25 Z26 h26 q25 f25_0 f25_1 f25_2 f25_3 f25_4 f25_5 f25_6 hx26 hG26 hf26
        have b27 : 0 ≤ Z26 56 6 ∧ Z26 56 6 ≤ 900 := hG26.pr 56 6
        have b28 : 0 ≤ Z26 56 7 ∧ Z26 56 7 ≤ 900 := hG26.pr 56 7
        have b29 : 0 ≤ Z26 56 9 ∧ Z26 56 9 ≤ 100 := hG26.pr 56 9
        have b30 : 0 ≤ Z26 60 61 ∧ Z26 60 61 ≤ 900 := by have hq := GI_ex hG26 60 61; replace hq : f60 (61 % 962) (Z26 60 61) := hq; unfold f60 at hq; omega
        have b31 : (-2147483648) ≤ Z26 60 61 ∧ Z26 60 61 ≤ 2147483647 := hG26.pr 60 61
        have b32 : (-2147483648) ≤ Z26 60 0 ∧ Z26 60 0 ≤ 2147483647 := hG26.pr 60 0
        have b33 : 0 ≤ Z26 60 1 ∧ Z26 60 1 ≤ 18 := by have hq := GI_ex hG26 60 1; replace hq : f60 (1 % 962) (Z26 60 1) := hq; unfold f60 at hq; omega
        have b34 : (-2147483648) ≤ Z26 60 1 ∧ Z26 60 1 ≤ 2147483647 := hG26.pr 60 1
        have b35 : 0 ≤ Z26 60 2 ∧ Z26 60 2 ≤ 18 := by have hq := GI_ex hG26 60 2; replace hq : f60 (2 % 962) (Z26 60 2) := hq; unfold f60 at hq; omega
        have b36 : (-2147483648) ≤ Z26 60 2 ∧ Z26 60 2 ≤ 2147483647 := hG26.pr 60 2
        refine mx_J.step (sn_174 5) (fun _ _ => rfl) ?_
        refine JcI (z := 32) (show mx_Sn _ _ 6 (mx_const (.int 32) 8) from sn_174 6) rfl ?_
        have gn := RM_N f25_0
        have gt := RM_is (k := 32) f25_0
        have gt2 := RM_is (k := 33) f25_0
        have b38 : 0 ≤ Z26 56 11 ∧ Z26 56 11 ≤ 4 := hG26.pr 56 11
        obtain ⟨z37, hc37, b37⟩ := ct_164_56 (d := d + 9) (l := l) (D := D) (b0 := b0) (ad := ad) (Hb := Hb) (tau := tau) hx26 hG26 (show 0 ≤ 32 ∧ 32 ≤ 100 by omega)
        refine Jcv hx26 (show mx_Sn _ _ 8 (mx_callv 164 2 12 11) from sn_174 8) a56 s56 hc37 rfl rfl rfl ?_
        have c23 : (Z26 56 11 = 0 ∧ (Z26 56 9 = 32 ∨ Z26 56 9 = 33)) → mx_J (tB l D b0 ad Hb tau) mt_174 (d + 10) 23 [some (.ref 56), some (xI x0), u25_2] [] h26 Post := by
          intro f39_0
          have kk := RM_k f25_0 (by omega)
          refine mx_J.step (sn_174 23) (fun _ _ => rfl) ?_
          refine JgetI (g := 9) (z := Z26 56 9) hx26 (show mx_Sn _ _ 24 (mx_getf 12 9 27) from sn_174 24) a56 s56 rfl rfl rfl ?_
          refine JcI (z := 32) (show mx_Sn _ _ 27 (mx_const (.int 32) 29) from sn_174 27) rfl ?_
          have c41 : ∀ (k41_0 : Int), 3000 ≤ k41_0 ∧ k41_0 ≤ 3001 → k41_0 = 2968 + tKd T N (sg25).1 → mx_J (tB l D b0 ad Hb tau) mt_174 (d + 10) 41 [some (.ref 56), some (xI x0), u25_2] [xI k41_0] h26 Post := by
            intro k41_0 f41_0 f41_1
            refine mx_J.step (ls2 := [some (.ref 56), some (xI x0), some (xI k41_0)]) (sn_174 41) (fun _ _ => rfl) ?_
            refine mx_J.step (sn_174 42) (fun _ _ => rfl) ?_
            have eq43 : Z26 56 8 = Z 56 8 := ((hf26 56 8 rfl).trans (hf1 56 8 rfl))
            obtain ⟨Z42, h42, hc42, hx42, hG42, hf42, b42⟩ := ct_162_56r (g0 := g0) (T := T) (N := N) (sg := sg25) (d := d + 4) (l := l) (D := D) (b0 := b0) (ad := ad) (Hb := Hb) (tau := tau) hx26 hG26  (show Z26 56 7 ≤ Z26 56 8 by first | omega | (simp only [eq43]; omega)) (show Z26 56 11 = 0 by first | omega | (simp only [eq43]; omega)) f25_0
            try rw [eq43] at b42
            obtain ⟨br42, b42⟩ := b42
            have b44 : 0 ≤ Z42 56 6 ∧ Z42 56 6 ≤ 900 := hG42.pr 56 6
            have b45 : 0 ≤ Z42 56 7 ∧ Z42 56 7 ≤ 900 := hG42.pr 56 7
            have b46 : 0 ≤ Z42 56 9 ∧ Z42 56 9 ≤ 100 := hG42.pr 56 9
            have r42 := QR_g (k := 1) (c2 := 1) f25_5 (fun e => (hf42 56 11 rfl).symm.trans e) (fun i => hf42 60 i rfl) (fun e => by omega) (by decide)
            refine Jcv0 hx26 (show mx_Sn _ _ 43 (mx_callv 162 1 12 46) from sn_174 43) a56 s56 hc42 rfl rfl rfl ?_
            refine mx_J.step (sn_174 46) (fun _ _ => rfl) ?_
            refine mx_J.step (sn_174 47) (fun _ _ => rfl) ?_
            have eq48 : Z42 56 8 = Z 56 8 := ((hf42 56 8 rfl).trans ((hf26 56 8 rfl).trans (hf1 56 8 rfl)))
            have eq49 : Z42 56 11 = Z26 56 11 := (hf42 56 11 rfl)
            have eq50 : Z42 60 61 = Z26 60 61 := (hf42 60 61 rfl)
            have eq51 : Z42 60 0 = Z26 60 0 := (hf42 60 0 rfl)
            have eq52 : Z42 60 1 = Z26 60 1 := (hf42 60 1 rfl)
            have eq53 : Z42 60 2 = Z26 60 2 := (hf42 60 2 rfl)
            obtain ⟨Z47, h47, hc47, hx47, hG47, hf47, b47⟩ := ct_173_56_s (a0 := a0) (g0 := g0) (T := T) (N := N) (sg := gAd T N sg25) (d := d + 0) (l := l) (D := D) (b0 := b0) (ad := ad) (Hb := Hb) (tau := tau) hx42 hG42 (show 0 ≤ x0 ∧ x0 ≤ 6 by omega) (show (Z42 56 6 ≤ Z42 56 7 ∧ Z42 56 7 ≤ Z42 56 8 ∧ (Z42 56 9 = 24 ∨ Z42 56 6 < Z42 56 7)) by first | omega | (simp only [eq48, eq49, eq50, eq51, eq52, eq53]; omega)) (show Z42 60 61 ≤ Z42 56 6 by first | omega | (simp only [eq48, eq49, eq50, eq51, eq52, eq53]; omega)) (show a0 ≤ Z42 60 61 by first | omega | (simp only [eq48, eq49, eq50, eq51, eq52, eq53]; omega)) (show 0 ≤ a0 by first | omega | (simp only [eq48, eq49, eq50, eq51, eq52, eq53]; omega)) (show 0 ≤ g0 by first | omega | (simp only [eq48, eq49, eq50, eq51, eq52, eq53]; omega)) br42 IH (by omega)
            try rw [eq48] at b47
            try rw [eq49] at b47
            try rw [eq50] at b47
            try rw [eq51] at b47
            try rw [eq52] at b47
            try rw [eq53] at b47
            obtain ⟨br47, b47⟩ := b47
            obtain ⟨bq47, b47⟩ := b47
            have b54 : 0 ≤ Z47 56 6 ∧ Z47 56 6 ≤ 900 := hG47.pr 56 6
            have b55 : 0 ≤ Z47 56 7 ∧ Z47 56 7 ≤ 900 := hG47.pr 56 7
            have b56 : 0 ≤ Z47 56 9 ∧ Z47 56 9 ≤ 100 := hG47.pr 56 9
            have b57 : 0 ≤ Z47 56 11 ∧ Z47 56 11 ≤ 4 := hG47.pr 56 11
            have b58 : 0 ≤ Z47 60 61 ∧ Z47 60 61 ≤ 900 := by have hq := GI_ex hG47 60 61; replace hq : f60 (61 % 962) (Z47 60 61) := hq; unfold f60 at hq; omega
            have b59 : (-2147483648) ≤ Z47 60 61 ∧ Z47 60 61 ≤ 2147483647 := hG47.pr 60 61
            have b60 : (-2147483648) ≤ Z47 60 0 ∧ Z47 60 0 ≤ 2147483647 := hG47.pr 60 0
            have b61 : 0 ≤ Z47 60 1 ∧ Z47 60 1 ≤ 18 := by have hq := GI_ex hG47 60 1; replace hq : f60 (1 % 962) (Z47 60 1) := hq; unfold f60 at hq; omega
            have b62 : (-2147483648) ≤ Z47 60 1 ∧ Z47 60 1 ≤ 2147483647 := hG47.pr 60 1
            have b63 : 0 ≤ Z47 60 2 ∧ Z47 60 2 ≤ 18 := by have hq := GI_ex hG47 60 2; replace hq : f60 (2 % 962) (Z47 60 2) := hq; unfold f60 at hq; omega
            have b64 : (-2147483648) ≤ Z47 60 2 ∧ Z47 60 2 ≤ 2147483647 := hG47.pr 60 2
            have r47 := QR_tr (d := 2) (c := 1) r42 bq47 (by decide) (by decide) (by decide)
            refine Jcv0 hx42 (show mx_Sn _ _ 48 (mx_callv 173 2 12 51) from sn_174 48) a56 s56 hc47 rfl rfl rfl ?_
            refine mx_J.step (sn_174 51) (fun _ _ => rfl) ?_
            refine mx_J.step (sn_174 52) (fun _ _ => rfl) ?_
            have eq66 : Z47 56 8 = Z 56 8 := ((hf47 56 8 rfl).trans ((hf42 56 8 rfl).trans ((hf26 56 8 rfl).trans (hf1 56 8 rfl))))
            have rp65 := QR_n r47
            obtain ⟨Z65, h65, hc65, hx65, hG65, hf65, b65⟩ := ct_169_56_3000 (a0 := a0) (g0 := g0) (T := T) (N := N) (sg := tmX T N (lvI T N x0) (gAd T N sg25)) (d := d + 9) (l := l) (D := D) (b0 := b0) (ad := ad) (Hb := Hb) (tau := tau) hx47 hG47 (show 3000 ≤ k41_0 ∧ k41_0 ≤ 3005 by omega) (show (Z47 56 11 = 0 → Z47 60 61 ≤ 899) by first | omega | (simp only [eq66]; omega)) (show a0 ≤ Z47 60 61 by first | omega | (simp only [eq66]; omega)) (show 0 ≤ a0 by first | omega | (simp only [eq66]; omega)) (show 0 ≤ g0 by first | omega | (simp only [eq66]; omega)) br47
            try rw [eq66] at b65
            obtain ⟨br65, b65⟩ := b65
            obtain ⟨bq65, b65⟩ := b65
            have b67 : 0 ≤ Z65 60 61 ∧ Z65 60 61 ≤ 900 := by have hq := GI_ex hG65 60 61; replace hq : f60 (61 % 962) (Z65 60 61) := hq; unfold f60 at hq; omega
            have b68 : (-2147483648) ≤ Z65 60 61 ∧ Z65 60 61 ≤ 2147483647 := hG65.pr 60 61
            have b69 : (-2147483648) ≤ Z65 60 0 ∧ Z65 60 0 ≤ 2147483647 := hG65.pr 60 0
            have b70 : 0 ≤ Z65 60 1 ∧ Z65 60 1 ≤ 18 := by have hq := GI_ex hG65 60 1; replace hq : f60 (1 % 962) (Z65 60 1) := hq; unfold f60 at hq; omega
            have b71 : (-2147483648) ≤ Z65 60 1 ∧ Z65 60 1 ≤ 2147483647 := hG65.pr 60 1
            have b72 : 0 ≤ Z65 60 2 ∧ Z65 60 2 ≤ 18 := by have hq := GI_ex hG65 60 2; replace hq : f60 (2 % 962) (Z65 60 2) := hq; unfold f60 at hq; omega
            have b73 : (-2147483648) ≤ Z65 60 2 ∧ Z65 60 2 ≤ 2147483647 := hG65.pr 60 2
            have rn65 := QR_n r47
            have r65 := QR_c (d2 := 1) (c2 := 0) r47 bq65 (by omega) (hf65 56 11 rfl) (hf65 56 6 rfl) (by decide) (by decide) (by decide)
            refine Jcv0 hx47 (show mx_Sn _ _ 53 (mx_callv 169 2 12 56) from sn_174 53) a56 s56 hc65 rfl rfl rfl ?_
            refine mx_J.step (sn_174 56) (fun _ _ => rfl) ?_
            have eq74 : Z65 56 6 = Z47 56 6 := (hf65 56 6 rfl)
            have eq75 : Z65 56 7 = Z47 56 7 := (hf65 56 7 rfl)
            have eq76 : Z65 56 6 = Z47 56 6 := (hf65 56 6 rfl)
            have eq77 : Z65 56 7 = Z47 56 7 := (hf65 56 7 rfl)
            have eq78 : Z65 56 9 = Z47 56 9 := (hf65 56 9 rfl)
            have eq79 : Z65 56 6 = Z47 56 6 := (hf65 56 6 rfl)
            have eq80 : Z65 56 6 = Z47 56 6 := (hf65 56 6 rfl)
            exact ih25 (some (xI k41_0)) (gEm (k41_0 - 1990) (tmX T N (lvI T N x0) (gAd T N sg25))) Z65 h65 (by omega) br65 (by omega) (by omega) (by omega) (by omega) (QR_le r65 (by decide)) ((smL_s (lvI_go _) gn kk.1 (by omega) (by omega)).symm.trans (by assumption)) hx65 hG65 (fr_tr (M := [(56, 6), (56, 7), (56, 9), (56, 10), (56, 11), (56, 12), (60, (-1))]) (fr_tr (M := [(56, 6), (56, 7), (56, 9), (56, 10), (56, 11), (56, 12), (60, (-1))]) (fr_tr (M := [(56, 6), (56, 7), (56, 9), (56, 10), (56, 11), (56, 12), (60, (-1))]) (fr_tr (M := [(56, 6), (56, 7), (56, 9), (56, 10), (56, 11), (56, 12), (60, (-1))]) fr_rf (hf26) (M1 := []) rfl rfl) (hf42) rfl rfl) (hf47) rfl rfl) (hf65) rfl rfl)
          refine Jicmp_ne (show mx_Sn _ _ 29 (mx_icmp_ne 38 32) from sn_174 29) (by omega) (by omega) (fun q81 => ?_) (fun q81 => ?_)
          · skip
            refine JcI (z := 3001) (show mx_Sn _ _ 38 (mx_const (.int 3001) 41) from sn_174 38) rfl ?_
            exact c41 3001 (by omega) (by omega)
          · skip
            refine JcI (z := 3000) (show mx_Sn _ _ 32 (mx_const (.int 3000) 35) from sn_174 32) rfl ?_
            refine mx_J.step (sn_174 35) (fun _ _ => rfl) ?_
            exact c41 3000 (by omega) (by omega)
        refine Jif_ne (show mx_Sn _ _ 11 (mx_if_ne 23 14) from sn_174 11) (by omega) (fun q82 => ?_) (fun q82 => ?_)
        · skip
          exact c23 (by omega)
        · skip
          refine mx_J.step (sn_174 14) (fun _ _ => rfl) ?_
          refine JcI (z := 33) (show mx_Sn _ _ 15 (mx_const (.int 33) 17) from sn_174 15) rfl ?_
          obtain ⟨z83, hc83, b83⟩ := ct_164_56 (d := d + 9) (l := l) (D := D) (b0 := b0) (ad := ad) (Hb := Hb) (tau := tau) hx26 hG26 (show 0 ≤ 33 ∧ 33 ≤ 100 by omega)
          refine Jcv hx26 (show mx_Sn _ _ 17 (mx_callv 164 2 12 20) from sn_174 17) a56 s56 hc83 rfl rfl rfl ?_
          refine Jif_eq (show mx_Sn _ _ 20 (mx_if_eq 59 23) from sn_174 20) (by omega) (fun q84 => ?_) (fun q84 => ?_)
          · skip
            have eq85 : Z26 56 8 = Z 56 8 := ((hf26 56 8 rfl).trans (hf1 56 8 rfl))
            exact mx_J.ret (sn_174 59) (fun _ _ => rfl) (hP Z26 h26 hx26 hG26 (fr_tr (M := [(56, 6), (56, 7), (56, 9), (56, 10), (56, 11), (56, 12), (60, (-1))]) (fr_tr (M := [(56, 6), (56, 7), (56, 9), (56, 10), (56, 11), (56, 12), (60, (-1))]) fr_rf (hf1) (M1 := []) rfl rfl) (hf26) rfl rfl) ⟨(RM_e f25_0 ((by assumption : smL T N (lvI T N x0) sg25 = smX T N (lvI T N x0) sg).symm.trans (smL_n (fun q => by have := gt.mpr q; omega) (fun q => by have := gt2.mpr q; omega)))), (QR_le f25_5 (by decide)), by omega⟩)
          · skip
            exact c23 (by omega)
    exact c5 (Int.toNat ((((Z 56 8 - Z1 56 6).toNat : Nat) : Int)) + 1) none (tmX T N (lvI T N x0) sg) Z1 h1 (by omega) br1 (by omega) (by omega) (by omega) (by omega) (QR_le r1 (by decide)) (rfl) hx1 hG1 fr_rf
theorem ct_174_56_s {l : Launch} {D : va_G} {b0 : Nat} {ad : Nat → Nat} {Hb : Heap} {tau : Nat → Int64} {d n s : Nat} {S : Nat → xS} {Z : xZ} {h : mx_H} {a0 : Int} {g0 : Int} {T : Int → Int} {N : Int} {sg : SS} (hx : XH n s S Z h) (hG : GI n S Z)  {x0 : Int} (p0 : 0 ≤ x0 ∧ x0 ≤ 6) (k0 : (Z 56 6 ≤ Z 56 7 ∧ Z 56 7 ≤ Z 56 8 ∧ (Z 56 9 = 24 ∨ Z 56 6 < Z 56 7))) (k1 : Z 60 61 ≤ Z 56 6) (k2 : a0 ≤ Z 60 61) (k3 : 0 ≤ a0) (k4 : 0 ≤ g0) (hr : RM g0 T N Z sg) {kk : Nat} (IH : RBnh l D b0 ad Hb tau kk x0) (hd : kk ≤ d) : ∃ (Z' : xZ) (h' : mx_H), mx_Ca (tB l D b0 ad Hb tau) (d + 11) 174 [.ref 56, xI x0] h (none, h') ∧ XH n s S Z' h' ∧ GI n S Z' ∧ fr' [(56, 6), (56, 7), (56, 9), (56, 10), (56, 11), (56, 12), (60, (-1))] Z Z' ∧ (RM g0 T N Z' (smX T N (lvI T N x0) sg) ∧ QR Z Z' a0 1 0 ∧ ((Z' 56 6 ≤ Z' 56 7 ∧ Z' 56 7 ≤ Z 56 8 ∧ (Z' 56 9 = 24 ∨ Z' 56 6 < Z' 56 7)) ∧ Z' 60 0 = Z 60 0 ∧ Z' 60 1 = Z 60 1 ∧ Z' 60 2 = Z 60 2 ∧ Z 56 6 ≤ Z' 56 6 ∧ Z 60 61 ≤ Z' 60 61 ∧ Z' 60 61 - Z 60 61 ≤ Z' 56 6 - Z 56 6)) := by
  obtain ⟨r, hca, Z', h', e, q⟩ := Jmt (B := tB l D b0 ad Hb tau) (M := mt_174) (mi := 174) (as := [.ref 56, xI x0]) (d := d + 10) (ls := [some (.ref 56), some (xI x0), none]) rfl rfl rfl rfl rfl rfl (cw_174_56_s (l := l) (D := D) (b0 := b0) (ad := ad) (Hb := Hb) (tau := tau) (d := d) (Post := fun r => ∃ (Z' : xZ) (h' : mx_H), r = (none, h') ∧ XH n s S Z' h' ∧ GI n S Z' ∧ fr' [(56, 6), (56, 7), (56, 9), (56, 10), (56, 11), (56, 12), (60, (-1))] Z Z' ∧ (RM g0 T N Z' (smX T N (lvI T N x0) sg) ∧ QR Z Z' a0 1 0 ∧ ((Z' 56 6 ≤ Z' 56 7 ∧ Z' 56 7 ≤ Z 56 8 ∧ (Z' 56 9 = 24 ∨ Z' 56 6 < Z' 56 7)) ∧ Z' 60 0 = Z 60 0 ∧ Z' 60 1 = Z 60 1 ∧ Z' 60 2 = Z 60 2 ∧ Z 56 6 ≤ Z' 56 6 ∧ Z 60 61 ≤ Z' 60 61 ∧ Z' 60 61 - Z 60 61 ≤ Z' 56 6 - Z 56 6))) hx hG p0 k0 k1 k2 k3 k4 hr IH hd (fun Z' h' q1 q2 q3 q4 => ⟨Z', h', rfl, q1, q2, q3, q4⟩))
  subst e; exact ⟨Z', h', hca, q⟩
set_option maxHeartbeats 8000000 in
set_option maxRecDepth 100000 in
theorem cw_175_56_s {l : Launch} {D : va_G} {b0 : Nat} {ad : Nat → Nat} {Hb : Heap} {tau : Nat → Int64} {d n s : Nat} {S : Nat → xS} {Z : xZ} {h : mx_H} {Post : mx_R → Prop} {a0 : Int} {g0 : Int} {T : Int → Int} {N : Int} {sg : SS} (hx : XH n s S Z h) (hG : GI n S Z)  {x0 : Int} (p0 : 0 ≤ x0 ∧ x0 ≤ 6) (k0 : (Z 56 6 ≤ Z 56 7 ∧ Z 56 7 ≤ Z 56 8 ∧ (Z 56 9 = 24 ∨ Z 56 6 < Z 56 7))) (k1 : Z 60 61 ≤ Z 56 6) (k2 : a0 ≤ Z 60 61) (k3 : 0 ≤ a0) (k4 : 0 ≤ g0) (hr : RM g0 T N Z sg) {kk : Nat} (IH : RBnh l D b0 ad Hb tau kk x0) (hd : kk ≤ d) (hP : ∀ (Z' : xZ) (h' : mx_H), XH n s S Z' h' → GI n S Z' → fr' [(56, 6), (56, 7), (56, 9), (56, 10), (56, 11), (56, 12), (60, (-1))] Z Z' → RM g0 T N Z' (unX T N (lvI T N x0) sg) ∧ QR Z Z' a0 1 0 ∧ ((Z' 56 6 ≤ Z' 56 7 ∧ Z' 56 7 ≤ Z 56 8 ∧ (Z' 56 9 = 24 ∨ Z' 56 6 < Z' 56 7)) ∧ Z' 60 0 = Z 60 0 ∧ Z' 60 1 = Z 60 1 ∧ Z' 60 2 = Z 60 2 ∧ Z 56 6 ≤ Z' 56 6 ∧ Z 60 61 ≤ Z' 60 61 ∧ Z' 60 61 - Z 60 61 ≤ Z' 56 6 - Z 56 6) → Post (none, h')) : mx_J (tB l D b0 ad Hb tau) mt_175 (d + 11) 0 [some (.ref 56), some (xI x0), none] [] h Post := by
    have a56 : 56 < n := lt83 (GI_n hG) rfl
    have s56 : S 56 = .inl (12, [0, 2, 2, 2, 2, 0, 0, 0, 0, 0, 0, 0, 0, 0, 0, 2, 2, 2, 0, 2, 2, 2, 0, 0, 2, 2, 2, 2, 2, 2, 0, 0, 2, 2, 2, 2, 2, 2, 2, 2, 2, 2]) := GI_s hG 56 rfl
    refine mx_J.step (sn_175 0) (fun _ _ => rfl) ?_
    refine JcI (z := 15) (show mx_Sn _ _ 1 (mx_const (.int 15) 3) from sn_175 1) rfl ?_
    have b2 : 0 ≤ Z 56 9 ∧ Z 56 9 ≤ 100 := hG.pr 56 9
    have b3 : 0 ≤ Z 56 11 ∧ Z 56 11 ≤ 4 := hG.pr 56 11
    obtain ⟨z1, hc1, b1⟩ := ct_164_56 (d := d + 10) (l := l) (D := D) (b0 := b0) (ad := ad) (Hb := Hb) (tau := tau) hx hG (show 0 ≤ 15 ∧ 15 ≤ 100 by omega)
    refine Jcv hx (show mx_Sn _ _ 3 (mx_callv 164 2 12 6) from sn_175 3) a56 s56 hc1 rfl rfl rfl ?_
    refine Jif_eq (show mx_Sn _ _ 6 (mx_if_eq 33 9) from sn_175 6) (by omega) (fun q4 => ?_) (fun q4 => ?_)
    · skip
      refine mx_J.step (sn_175 33) (fun _ _ => rfl) ?_
      refine JcI (z := 37) (show mx_Sn _ _ 34 (mx_const (.int 37) 36) from sn_175 34) rfl ?_
      obtain ⟨z5, hc5, b5⟩ := ct_164_56 (d := d + 10) (l := l) (D := D) (b0 := b0) (ad := ad) (Hb := Hb) (tau := tau) hx hG (show 0 ≤ 37 ∧ 37 ≤ 100 by omega)
      refine Jcv hx (show mx_Sn _ _ 36 (mx_callv 164 2 12 39) from sn_175 36) a56 s56 hc5 rfl rfl rfl ?_
      refine Jif_eq (show mx_Sn _ _ 39 (mx_if_eq 73 42) from sn_175 39) (by omega) (fun q6 => ?_) (fun q6 => ?_)
      · skip
        refine mx_J.step (sn_175 73) (fun _ _ => rfl) ?_
        refine mx_J.step (sn_175 74) (fun _ _ => rfl) ?_
        have b8 : 0 ≤ Z 56 6 ∧ Z 56 6 ≤ 900 := hG.pr 56 6
        have b9 : 0 ≤ Z 56 7 ∧ Z 56 7 ≤ 900 := hG.pr 56 7
        have b10 : 0 ≤ Z 56 8 ∧ Z 56 8 ≤ 900 := hG.pr 56 8
        have b11 : 0 ≤ Z 60 61 ∧ Z 60 61 ≤ 900 := by have hq := GI_ex hG 60 61; replace hq : f60 (61 % 962) (Z 60 61) := hq; unfold f60 at hq; omega
        have b12 : (-2147483648) ≤ Z 60 61 ∧ Z 60 61 ≤ 2147483647 := hG.pr 60 61
        have b13 : (-2147483648) ≤ Z 60 0 ∧ Z 60 0 ≤ 2147483647 := hG.pr 60 0
        have b14 : 0 ≤ Z 60 1 ∧ Z 60 1 ≤ 18 := by have hq := GI_ex hG 60 1; replace hq : f60 (1 % 962) (Z 60 1) := hq; unfold f60 at hq; omega
        have b15 : (-2147483648) ≤ Z 60 1 ∧ Z 60 1 ≤ 2147483647 := hG.pr 60 1
        have b16 : 0 ≤ Z 60 2 ∧ Z 60 2 ≤ 18 := by have hq := GI_ex hG 60 2; replace hq : f60 (2 % 962) (Z 60 2) := hq; unfold f60 at hq; omega
        have b17 : (-2147483648) ≤ Z 60 2 ∧ Z 60 2 ≤ 2147483647 := hG.pr 60 2
        obtain ⟨Z7, h7, hc7, hx7, hG7, hf7, b7⟩ := ct_174_56_s (a0 := a0) (g0 := g0) (T := T) (N := N) (sg := sg) (d := d + 0) (l := l) (D := D) (b0 := b0) (ad := ad) (Hb := Hb) (tau := tau) hx hG (show 0 ≤ x0 ∧ x0 ≤ 6 by omega) (show (Z 56 6 ≤ Z 56 7 ∧ Z 56 7 ≤ Z 56 8 ∧ (Z 56 9 = 24 ∨ Z 56 6 < Z 56 7)) by omega) (show Z 60 61 ≤ Z 56 6 by omega) (show a0 ≤ Z 60 61 by omega) (show 0 ≤ a0 by omega) (show 0 ≤ g0 by omega) hr IH (by omega)
        obtain ⟨br7, b7⟩ := b7
        obtain ⟨bq7, b7⟩ := b7
        have b18 : 0 ≤ Z7 56 6 ∧ Z7 56 6 ≤ 900 := hG7.pr 56 6
        have b19 : 0 ≤ Z7 56 7 ∧ Z7 56 7 ≤ 900 := hG7.pr 56 7
        have b20 : 0 ≤ Z7 56 9 ∧ Z7 56 9 ≤ 100 := hG7.pr 56 9
        have b21 : 0 ≤ Z7 56 11 ∧ Z7 56 11 ≤ 4 := hG7.pr 56 11
        have b22 : 0 ≤ Z7 60 61 ∧ Z7 60 61 ≤ 900 := by have hq := GI_ex hG7 60 61; replace hq : f60 (61 % 962) (Z7 60 61) := hq; unfold f60 at hq; omega
        have b23 : (-2147483648) ≤ Z7 60 61 ∧ Z7 60 61 ≤ 2147483647 := hG7.pr 60 61
        have b24 : (-2147483648) ≤ Z7 60 0 ∧ Z7 60 0 ≤ 2147483647 := hG7.pr 60 0
        have b25 : 0 ≤ Z7 60 1 ∧ Z7 60 1 ≤ 18 := by have hq := GI_ex hG7 60 1; replace hq : f60 (1 % 962) (Z7 60 1) := hq; unfold f60 at hq; omega
        have b26 : (-2147483648) ≤ Z7 60 1 ∧ Z7 60 1 ≤ 2147483647 := hG7.pr 60 1
        have b27 : 0 ≤ Z7 60 2 ∧ Z7 60 2 ≤ 18 := by have hq := GI_ex hG7 60 2; replace hq : f60 (2 % 962) (Z7 60 2) := hq; unfold f60 at hq; omega
        have b28 : (-2147483648) ≤ Z7 60 2 ∧ Z7 60 2 ≤ 2147483647 := hG7.pr 60 2
        have r7 := QR_tr (d := 1) (c := 0) (QR_rf (Z := Z) (a := a0)) bq7 (by decide) (by decide) (by decide)
        refine Jcv0 hx (show mx_Sn _ _ 75 (mx_callv 174 2 12 78) from sn_175 75) a56 s56 hc7 rfl rfl rfl ?_
        have kj := RM_p br7
        have nn15 : ¬ gIs T N 15 sg := (fun q => by have := (RM_is (k := 15) hr).mpr q; omega)
        have nn37 : ¬ gIs T N 37 sg := (fun q => by have := (RM_is (k := 37) hr).mpr q; omega)
        refine mx_J.step (sn_175 78) (fun _ _ => rfl) ?_
        refine JcI (z := 39) (show mx_Sn _ _ 79 (mx_const (.int 39) 81) from sn_175 79) rfl ?_
        obtain ⟨z29, hc29, b29⟩ := ct_164_56 (d := d + 10) (l := l) (D := D) (b0 := b0) (ad := ad) (Hb := Hb) (tau := tau) hx7 hG7 (show 0 ≤ 39 ∧ 39 ≤ 100 by omega)
        refine Jcv hx7 (show mx_Sn _ _ 81 (mx_callv 164 2 12 84) from sn_175 81) a56 s56 hc29 rfl rfl rfl ?_
        have c111 : ∀ (k30_0 : Int), 3003 ≤ k30_0 ∧ k30_0 ≤ 3005 → (0 ≤ (smX T N (lvI T N x0) sg).1 → 39 ≤ tKd T N (smX T N (lvI T N x0) sg).1 → tKd T N (smX T N (lvI T N x0) sg).1 ≤ 41 → k30_0 - 1990 = 974 + tKd T N (smX T N (lvI T N x0) sg).1) → mx_J (tB l D b0 ad Hb tau) mt_175 (d + 11) 111 [some (.ref 56), some (xI x0), none] [xI k30_0] h7 Post := by
          intro k30_0 f30_0 f30_1
          have hw : (0 ≤ (smX T N (lvI T N x0) sg).1 → 39 ≤ tKd T N (smX T N (lvI T N x0) sg).1 → tKd T N (smX T N (lvI T N x0) sg).1 ≤ 41 → k30_0 - 1990 = 974 + tKd T N (smX T N (lvI T N x0) sg).1) := (by assumption)
          have hs2 := kj.2.2.1
          refine mx_J.step (ls2 := [some (.ref 56), some (xI x0), some (xI k30_0)]) (sn_175 111) (fun _ _ => rfl) ?_
          refine mx_J.step (sn_175 112) (fun _ _ => rfl) ?_
          refine JcI (z := 39) (show mx_Sn _ _ 113 (mx_const (.int 39) 115) from sn_175 113) rfl ?_
          obtain ⟨z31, hc31, b31⟩ := ct_164_56 (d := d + 10) (l := l) (D := D) (b0 := b0) (ad := ad) (Hb := Hb) (tau := tau) hx7 hG7 (show 0 ≤ 39 ∧ 39 ≤ 100 by omega)
          refine Jcv hx7 (show mx_Sn _ _ 115 (mx_callv 164 2 12 118) from sn_175 115) a56 s56 hc31 rfl rfl rfl ?_
          have c151 : ∀  (Z33 : xZ) (h33 : mx_H), (Z33 56 6 ≤ Z33 56 7 ∧ Z33 56 7 ≤ Z 56 8) → (Z33 56 9 = 24 ∨ Z33 56 6 < Z33 56 7) → (Z 56 6 ≤ Z33 56 6 ∧ Z 60 61 ≤ Z33 60 61 ∧ Z33 60 61 - Z 60 61 ≤ Z33 56 6 - Z 56 6) → (Z33 60 0 = Z 60 0 ∧ Z33 60 1 = Z 60 1 ∧ Z33 60 2 = Z 60 2) → QR Z Z33 a0 1 1 → RM g0 T N Z33 (cjX T N (smX T N (lvI T N x0) sg)) → XH n s S Z33 h33 → GI n S Z33 → fr' [(56, 6), (56, 7), (56, 9), (56, 10), (56, 11), (56, 12)] Z7 Z33 → mx_J (tB l D b0 ad Hb tau) mt_175 (d + 11) 151 [some (.ref 56), some (xI x0), some (xI k30_0)] [] h33 Post := by
            intro Z33 h33 f32_0 f32_1 f32_2 f32_3 f32_4 f32_5 hx33 hG33 hf33
            have b34 : 0 ≤ Z33 56 6 ∧ Z33 56 6 ≤ 900 := hG33.pr 56 6
            have b35 : 0 ≤ Z33 56 7 ∧ Z33 56 7 ≤ 900 := hG33.pr 56 7
            have b36 : 0 ≤ Z33 56 9 ∧ Z33 56 9 ≤ 100 := hG33.pr 56 9
            have eq37 : Z33 60 61 = Z7 60 61 := (hf33 60 61 rfl)
            have eq38 : Z33 60 0 = Z7 60 0 := (hf33 60 0 rfl)
            have eq39 : Z33 60 1 = Z7 60 1 := (hf33 60 1 rfl)
            have eq40 : Z33 60 2 = Z7 60 2 := (hf33 60 2 rfl)
            refine mx_J.step (sn_175 151) (fun _ _ => rfl) ?_
            refine mx_J.step (sn_175 152) (fun _ _ => rfl) ?_
            have eq42 : Z33 56 8 = Z 56 8 := ((hf33 56 8 rfl).trans (hf7 56 8 rfl))
            have b43 : 0 ≤ Z33 56 11 ∧ Z33 56 11 ≤ 4 := hG33.pr 56 11
            have eq44 : Z33 60 61 = Z7 60 61 := (hf33 60 61 rfl)
            have eq45 : Z33 60 0 = Z7 60 0 := (hf33 60 0 rfl)
            have eq46 : Z33 60 1 = Z7 60 1 := (hf33 60 1 rfl)
            have eq47 : Z33 60 2 = Z7 60 2 := (hf33 60 2 rfl)
            obtain ⟨Z41, h41, hc41, hx41, hG41, hf41, b41⟩ := ct_174_56_s (a0 := a0) (g0 := g0) (T := T) (N := N) (sg := cjX T N (smX T N (lvI T N x0) sg)) (d := d + 0) (l := l) (D := D) (b0 := b0) (ad := ad) (Hb := Hb) (tau := tau) hx33 hG33 (show 0 ≤ x0 ∧ x0 ≤ 6 by omega) (show (Z33 56 6 ≤ Z33 56 7 ∧ Z33 56 7 ≤ Z33 56 8 ∧ (Z33 56 9 = 24 ∨ Z33 56 6 < Z33 56 7)) by first | omega | (simp only [eq42, eq44, eq45, eq46, eq47]; omega)) (show Z33 60 61 ≤ Z33 56 6 by first | omega | (simp only [eq42, eq44, eq45, eq46, eq47]; omega)) (show a0 ≤ Z33 60 61 by first | omega | (simp only [eq42, eq44, eq45, eq46, eq47]; omega)) (show 0 ≤ a0 by first | omega | (simp only [eq42, eq44, eq45, eq46, eq47]; omega)) (show 0 ≤ g0 by first | omega | (simp only [eq42, eq44, eq45, eq46, eq47]; omega)) f32_5 IH (by omega)
            try rw [eq42] at b41
            try rw [eq44] at b41
            try rw [eq45] at b41
            try rw [eq46] at b41
            try rw [eq47] at b41
            obtain ⟨br41, b41⟩ := b41
            obtain ⟨bq41, b41⟩ := b41
            have b48 : 0 ≤ Z41 56 6 ∧ Z41 56 6 ≤ 900 := hG41.pr 56 6
            have b49 : 0 ≤ Z41 56 7 ∧ Z41 56 7 ≤ 900 := hG41.pr 56 7
            have b50 : 0 ≤ Z41 56 9 ∧ Z41 56 9 ≤ 100 := hG41.pr 56 9
            have b51 : 0 ≤ Z41 56 11 ∧ Z41 56 11 ≤ 4 := hG41.pr 56 11
            have b52 : 0 ≤ Z41 60 61 ∧ Z41 60 61 ≤ 900 := by have hq := GI_ex hG41 60 61; replace hq : f60 (61 % 962) (Z41 60 61) := hq; unfold f60 at hq; omega
            have b53 : (-2147483648) ≤ Z41 60 61 ∧ Z41 60 61 ≤ 2147483647 := hG41.pr 60 61
            have b54 : (-2147483648) ≤ Z41 60 0 ∧ Z41 60 0 ≤ 2147483647 := hG41.pr 60 0
            have b55 : 0 ≤ Z41 60 1 ∧ Z41 60 1 ≤ 18 := by have hq := GI_ex hG41 60 1; replace hq : f60 (1 % 962) (Z41 60 1) := hq; unfold f60 at hq; omega
            have b56 : (-2147483648) ≤ Z41 60 1 ∧ Z41 60 1 ≤ 2147483647 := hG41.pr 60 1
            have b57 : 0 ≤ Z41 60 2 ∧ Z41 60 2 ≤ 18 := by have hq := GI_ex hG41 60 2; replace hq : f60 (2 % 962) (Z41 60 2) := hq; unfold f60 at hq; omega
            have b58 : (-2147483648) ≤ Z41 60 2 ∧ Z41 60 2 ≤ 2147483647 := hG41.pr 60 2
            have r41 := QR_tr (d := 2) (c := 1) f32_4 bq41 (by decide) (by decide) (by decide)
            refine Jcv0 hx33 (show mx_Sn _ _ 153 (mx_callv 174 2 12 156) from sn_175 153) a56 s56 hc41 rfl rfl rfl ?_
            refine mx_J.step (sn_175 156) (fun _ _ => rfl) ?_
            refine mx_J.step (sn_175 157) (fun _ _ => rfl) ?_
            have eq60 : Z41 56 8 = Z 56 8 := ((hf41 56 8 rfl).trans ((hf33 56 8 rfl).trans (hf7 56 8 rfl)))
            have rp59 := QR_n r41
            obtain ⟨Z59, h59, hc59, hx59, hG59, hf59, b59⟩ := ct_169_56_3000 (a0 := a0) (g0 := g0) (T := T) (N := N) (sg := smX T N (lvI T N x0) (cjX T N (smX T N (lvI T N x0) sg))) (d := d + 10) (l := l) (D := D) (b0 := b0) (ad := ad) (Hb := Hb) (tau := tau) hx41 hG41 (show 3000 ≤ k30_0 ∧ k30_0 ≤ 3005 by omega) (show (Z41 56 11 = 0 → Z41 60 61 ≤ 899) by first | omega | (simp only [eq60]; omega)) (show a0 ≤ Z41 60 61 by first | omega | (simp only [eq60]; omega)) (show 0 ≤ a0 by first | omega | (simp only [eq60]; omega)) (show 0 ≤ g0 by first | omega | (simp only [eq60]; omega)) br41
            try rw [eq60] at b59
            obtain ⟨br59, b59⟩ := b59
            obtain ⟨bq59, b59⟩ := b59
            have b61 : 0 ≤ Z59 60 61 ∧ Z59 60 61 ≤ 900 := by have hq := GI_ex hG59 60 61; replace hq : f60 (61 % 962) (Z59 60 61) := hq; unfold f60 at hq; omega
            have b62 : (-2147483648) ≤ Z59 60 61 ∧ Z59 60 61 ≤ 2147483647 := hG59.pr 60 61
            have b63 : (-2147483648) ≤ Z59 60 0 ∧ Z59 60 0 ≤ 2147483647 := hG59.pr 60 0
            have b64 : 0 ≤ Z59 60 1 ∧ Z59 60 1 ≤ 18 := by have hq := GI_ex hG59 60 1; replace hq : f60 (1 % 962) (Z59 60 1) := hq; unfold f60 at hq; omega
            have b65 : (-2147483648) ≤ Z59 60 1 ∧ Z59 60 1 ≤ 2147483647 := hG59.pr 60 1
            have b66 : 0 ≤ Z59 60 2 ∧ Z59 60 2 ≤ 18 := by have hq := GI_ex hG59 60 2; replace hq : f60 (2 % 962) (Z59 60 2) := hq; unfold f60 at hq; omega
            have b67 : (-2147483648) ≤ Z59 60 2 ∧ Z59 60 2 ≤ 2147483647 := hG59.pr 60 2
            have rn59 := QR_n r41
            have r59 := QR_c (d2 := 1) (c2 := 0) r41 bq59 (by omega) (hf59 56 11 rfl) (hf59 56 6 rfl) (by decide) (by decide) (by decide)
            refine Jcv0 hx41 (show mx_Sn _ _ 158 (mx_callv 169 2 12 161) from sn_175 158) a56 s56 hc59 rfl rfl rfl ?_
            have eq68 : Z59 56 6 = Z41 56 6 := (hf59 56 6 rfl)
            have eq69 : Z59 56 7 = Z41 56 7 := (hf59 56 7 rfl)
            have eq70 : Z59 56 9 = Z41 56 9 := (hf59 56 9 rfl)
            have eq71 : Z59 56 11 = Z41 56 11 := (hf59 56 11 rfl)
            have eq72 : Z59 56 6 = Z41 56 6 := (hf59 56 6 rfl)
            have eq73 : Z59 56 7 = Z41 56 7 := (hf59 56 7 rfl)
            have eq74 : Z59 56 8 = Z 56 8 := ((hf59 56 8 rfl).trans ((hf41 56 8 rfl).trans ((hf33 56 8 rfl).trans (hf7 56 8 rfl))))
            have eq75 : Z59 56 9 = Z41 56 9 := (hf59 56 9 rfl)
            have eq76 : Z59 56 11 = Z41 56 11 := (hf59 56 11 rfl)
            exact mx_J.ret (sn_175 161) (fun _ _ => rfl) (hP Z59 h59 hx59 hG59 (fr_tr (M := [(56, 6), (56, 7), (56, 9), (56, 10), (56, 11), (56, 12), (60, (-1))]) (fr_tr (M := [(56, 6), (56, 7), (56, 9), (56, 10), (56, 11), (56, 12), (60, (-1))]) (fr_tr (M := [(56, 6), (56, 7), (56, 9), (56, 10), (56, 11), (56, 12), (60, (-1))]) (fr_tr (M := [(56, 6), (56, 7), (56, 9), (56, 10), (56, 11), (56, 12), (60, (-1))]) fr_rf (hf7) (M1 := []) rfl rfl) (hf33) rfl rfl) (hf41) rfl rfl) (hf59) rfl rfl) ⟨(RM_e br59 ((un_c nn15 nn37).trans (cp_j (lvI_go _) hs2 hw))), (QR_le r59 (by decide)), by omega⟩)
          have c139 : (Z7 56 11 = 0 ∧ (Z7 56 9 = 39 ∨ Z7 56 9 = 40 ∨ Z7 56 9 = 41)) → mx_J (tB l D b0 ad Hb tau) mt_175 (d + 11) 139 [some (.ref 56), some (xI x0), some (xI k30_0)] [] h7 Post := by
            intro f77_0
            refine mx_J.step (sn_175 139) (fun _ _ => rfl) ?_
            have eq79 : Z7 56 8 = Z 56 8 := (hf7 56 8 rfl)
            obtain ⟨Z78, h78, hc78, hx78, hG78, hf78, b78⟩ := ct_162_56r (g0 := g0) (T := T) (N := N) (sg := smX T N (lvI T N x0) sg) (d := d + 5) (l := l) (D := D) (b0 := b0) (ad := ad) (Hb := Hb) (tau := tau) hx7 hG7  (show Z7 56 7 ≤ Z7 56 8 by first | omega | (simp only [eq79]; omega)) (show Z7 56 11 = 0 by first | omega | (simp only [eq79]; omega)) br7
            try rw [eq79] at b78
            obtain ⟨br78, b78⟩ := b78
            have b80 : 0 ≤ Z78 56 6 ∧ Z78 56 6 ≤ 900 := hG78.pr 56 6
            have b81 : 0 ≤ Z78 56 7 ∧ Z78 56 7 ≤ 900 := hG78.pr 56 7
            have b82 : 0 ≤ Z78 56 9 ∧ Z78 56 9 ≤ 100 := hG78.pr 56 9
            have r78 := QR_g (k := 1) (c2 := 1) r7 (fun e => (hf78 56 11 rfl).symm.trans e) (fun i => hf78 60 i rfl) (fun e => by omega) (by decide)
            refine Jcv0 hx7 (show mx_Sn _ _ 140 (mx_callv 162 1 12 143) from sn_175 140) a56 s56 hc78 rfl rfl rfl ?_
            refine mx_J.step (sn_175 143) (fun _ _ => rfl) ?_
            have eq83 : Z78 60 61 = Z7 60 61 := (hf78 60 61 rfl)
            have eq84 : Z78 60 0 = Z7 60 0 := (hf78 60 0 rfl)
            have eq85 : Z78 60 1 = Z7 60 1 := (hf78 60 1 rfl)
            have eq86 : Z78 60 2 = Z7 60 2 := (hf78 60 2 rfl)
            exact c151 Z78 h78 (by omega) (by omega) (by omega) (by omega) (QR_le r78 (by decide)) (RM_e br78 (cj_y (by have k1 := kj.1.mp (by omega); have k2 := kj.2.1 k1; omega))) hx78 hG78 (fr_tr (M := [(56, 6), (56, 7), (56, 9), (56, 10), (56, 11), (56, 12)]) fr_rf (hf78) (M1 := []) rfl rfl)
          refine Jif_ne (show mx_Sn _ _ 118 (mx_if_ne 139 121) from sn_175 118) (by omega) (fun q87 => ?_) (fun q87 => ?_)
          · skip
            exact c139 (by omega)
          · skip
            refine mx_J.step (sn_175 121) (fun _ _ => rfl) ?_
            refine JcI (z := 40) (show mx_Sn _ _ 122 (mx_const (.int 40) 124) from sn_175 122) rfl ?_
            obtain ⟨z88, hc88, b88⟩ := ct_164_56 (d := d + 10) (l := l) (D := D) (b0 := b0) (ad := ad) (Hb := Hb) (tau := tau) hx7 hG7 (show 0 ≤ 40 ∧ 40 ≤ 100 by omega)
            refine Jcv hx7 (show mx_Sn _ _ 124 (mx_callv 164 2 12 127) from sn_175 124) a56 s56 hc88 rfl rfl rfl ?_
            refine Jif_ne (show mx_Sn _ _ 127 (mx_if_ne 139 130) from sn_175 127) (by omega) (fun q89 => ?_) (fun q89 => ?_)
            · skip
              exact c139 (by omega)
            · skip
              refine mx_J.step (sn_175 130) (fun _ _ => rfl) ?_
              refine JcI (z := 41) (show mx_Sn _ _ 131 (mx_const (.int 41) 133) from sn_175 131) rfl ?_
              obtain ⟨z90, hc90, b90⟩ := ct_164_56 (d := d + 10) (l := l) (D := D) (b0 := b0) (ad := ad) (Hb := Hb) (tau := tau) hx7 hG7 (show 0 ≤ 41 ∧ 41 ≤ 100 by omega)
              refine Jcv hx7 (show mx_Sn _ _ 133 (mx_callv 164 2 12 136) from sn_175 133) a56 s56 hc90 rfl rfl rfl ?_
              refine Jif_eq (show mx_Sn _ _ 136 (mx_if_eq 146 139) from sn_175 136) (by omega) (fun q91 => ?_) (fun q91 => ?_)
              · skip
                refine mx_J.step (sn_175 146) (fun _ _ => rfl) ?_
                refine JcI (z := 2) (show mx_Sn _ _ 147 (mx_const (.int 2) 148) from sn_175 147) rfl ?_
                obtain ⟨Z92, h92, hc92, hx92, hG92, hf92, b92⟩ := ct_163_56 (g0 := g0) (T := T) (N := N) (sg := smX T N (lvI T N x0) sg) (d := d + 10) (l := l) (D := D) (b0 := b0) (ad := ad) (Hb := Hb) (tau := tau) hx7 hG7 (show 2 ≤ 2 ∧ 2 ≤ 4 by omega) br7
                obtain ⟨br92, b92⟩ := b92
                have b93 : 0 ≤ Z92 56 11 ∧ Z92 56 11 ≤ 4 := hG92.pr 56 11
                have r92 : ¬ Z92 56 11 = 0 := by omega
                refine Jcv0 hx7 (show mx_Sn _ _ 148 (mx_callv 163 2 12 151) from sn_175 148) a56 s56 hc92 rfl rfl rfl ?_
                have eq94 : Z92 56 6 = Z7 56 6 := (hf92 56 6 rfl)
                have eq95 : Z92 56 7 = Z7 56 7 := (hf92 56 7 rfl)
                have eq96 : Z92 56 6 = Z7 56 6 := (hf92 56 6 rfl)
                have eq97 : Z92 56 7 = Z7 56 7 := (hf92 56 7 rfl)
                have eq98 : Z92 56 9 = Z7 56 9 := (hf92 56 9 rfl)
                have eq99 : Z92 56 6 = Z7 56 6 := (hf92 56 6 rfl)
                have eq100 : Z92 60 61 = Z7 60 61 := (hf92 60 61 rfl)
                have eq101 : Z92 60 0 = Z7 60 0 := (hf92 60 0 rfl)
                have eq102 : Z92 60 1 = Z7 60 1 := (hf92 60 1 rfl)
                have eq103 : Z92 60 2 = Z7 60 2 := (hf92 60 2 rfl)
                exact c151 Z92 h92 (by omega) (by omega) (by omega) (by omega) (QR_f r92) (RM_e br92 (cj_n (fun q => by have k1 := kj.1.mpr q.1; have k2 := kj.2.1 q.1; omega))) hx92 hG92 (fr_tr (M := [(56, 6), (56, 7), (56, 9), (56, 10), (56, 11), (56, 12)]) fr_rf (hf92) (M1 := []) rfl rfl)
              · skip
                exact c139 (by omega)
        refine Jif_eq (show mx_Sn _ _ 84 (mx_if_eq 93 87) from sn_175 84) (by omega) (fun q104 => ?_) (fun q104 => ?_)
        · skip
          refine mx_J.step (sn_175 93) (fun _ _ => rfl) ?_
          refine JcI (z := 40) (show mx_Sn _ _ 94 (mx_const (.int 40) 96) from sn_175 94) rfl ?_
          obtain ⟨z105, hc105, b105⟩ := ct_164_56 (d := d + 10) (l := l) (D := D) (b0 := b0) (ad := ad) (Hb := Hb) (tau := tau) hx7 hG7 (show 0 ≤ 40 ∧ 40 ≤ 100 by omega)
          refine Jcv hx7 (show mx_Sn _ _ 96 (mx_callv 164 2 12 99) from sn_175 96) a56 s56 hc105 rfl rfl rfl ?_
          refine Jif_eq (show mx_Sn _ _ 99 (mx_if_eq 108 102) from sn_175 99) (by omega) (fun q106 => ?_) (fun q106 => ?_)
          · skip
            refine JcI (z := 3005) (show mx_Sn _ _ 108 (mx_const (.int 3005) 111) from sn_175 108) rfl ?_
            exact c111 3005 (by omega) (fun q1 q2 q3 => by have k1 := kj.1.mpr q1; have k2 := kj.2.1 q1; omega)
          · skip
            refine JcI (z := 3004) (show mx_Sn _ _ 102 (mx_const (.int 3004) 105) from sn_175 102) rfl ?_
            refine mx_J.step (sn_175 105) (fun _ _ => rfl) ?_
            exact c111 3004 (by omega) (fun q1 q2 q3 => by have k1 := kj.1.mpr q1; have k2 := kj.2.1 q1; omega)
        · skip
          refine JcI (z := 3003) (show mx_Sn _ _ 87 (mx_const (.int 3003) 90) from sn_175 87) rfl ?_
          refine mx_J.step (sn_175 90) (fun _ _ => rfl) ?_
          exact c111 3003 (by omega) (fun q1 q2 q3 => by have k1 := kj.1.mpr q1; have k2 := kj.2.1 q1; omega)
      · skip
        refine mx_J.step (sn_175 42) (fun _ _ => rfl) ?_
        refine mx_J.step (sn_175 43) (fun _ _ => rfl) ?_
        have b108 : 0 ≤ Z 56 6 ∧ Z 56 6 ≤ 900 := hG.pr 56 6
        have b109 : 0 ≤ Z 56 7 ∧ Z 56 7 ≤ 900 := hG.pr 56 7
        have b110 : 0 ≤ Z 56 8 ∧ Z 56 8 ≤ 900 := hG.pr 56 8
        obtain ⟨z107, Z107, h107, hc107, hx107, hG107, hf107, b107⟩ := ct_170_56 (g0 := g0) (T := T) (N := N) (sg := sg) (d := d + 4) (l := l) (D := D) (b0 := b0) (ad := ad) (Hb := Hb) (tau := tau) hx hG (show 0 ≤ x0 ∧ x0 ≤ 6 by omega) (show (Z 56 6 ≤ Z 56 7 ∧ Z 56 7 ≤ Z 56 8 ∧ (Z 56 9 = 24 ∨ Z 56 6 < Z 56 7)) by omega) (show ¬ Z 56 9 = 24 by omega) hr
        obtain ⟨br107, b107⟩ := b107
        have b111 : 0 ≤ Z107 56 6 ∧ Z107 56 6 ≤ 900 := hG107.pr 56 6
        have b112 : 0 ≤ Z107 56 7 ∧ Z107 56 7 ≤ 900 := hG107.pr 56 7
        have b113 : 0 ≤ Z107 56 9 ∧ Z107 56 9 ≤ 100 := hG107.pr 56 9
        have b114 : 0 ≤ Z107 56 11 ∧ Z107 56 11 ≤ 4 := hG107.pr 56 11
        have r107 := QR_g (k := 1) (c2 := 1) (QR_rf (Z := Z) (a := a0)) (fun e => by omega) (fun i => hf107 60 i rfl) (fun e => by omega) (by decide)
        refine Jcv hx (show mx_Sn _ _ 44 (mx_callv 170 2 12 47) from sn_175 44) a56 s56 hc107 rfl rfl rfl ?_
        refine Jif_ne (show mx_Sn _ _ 47 (mx_if_ne 51 50) from sn_175 47) (by omega) (fun q115 => ?_) (fun q115 => ?_)
        · skip
          have hx5 : x0 ≤ 5 := by omega
          have rc116 : RM g0 T N Z107 (gAd T N sg) := RM_e br107 ((gEn_y (by omega)).symm)
          refine mx_J.step (sn_175 51) (fun _ _ => rfl) ?_
          refine mx_J.step (sn_175 52) (fun _ _ => rfl) ?_
          refine JcI (z := 1) (show mx_Sn _ _ 53 (mx_const (.int 1) 54) from sn_175 53) rfl ?_
          refine Jiadd (show mx_Sn _ _ 54 (mx_iadd 55) from sn_175 54) ?_
          have eq118 : Z107 56 8 = Z 56 8 := (hf107 56 8 rfl)
          have eq119 : Z107 60 61 = Z 60 61 := (hf107 60 61 rfl)
          have b120 : 0 ≤ Z 60 61 ∧ Z 60 61 ≤ 900 := by have hq := GI_ex hG 60 61; replace hq : f60 (61 % 962) (Z 60 61) := hq; unfold f60 at hq; omega
          have b121 : (-2147483648) ≤ Z 60 61 ∧ Z 60 61 ≤ 2147483647 := hG.pr 60 61
          have eq122 : Z107 60 0 = Z 60 0 := (hf107 60 0 rfl)
          have b123 : (-2147483648) ≤ Z 60 0 ∧ Z 60 0 ≤ 2147483647 := hG.pr 60 0
          have eq124 : Z107 60 1 = Z 60 1 := (hf107 60 1 rfl)
          have b125 : 0 ≤ Z 60 1 ∧ Z 60 1 ≤ 18 := by have hq := GI_ex hG 60 1; replace hq : f60 (1 % 962) (Z 60 1) := hq; unfold f60 at hq; omega
          have b126 : (-2147483648) ≤ Z 60 1 ∧ Z 60 1 ≤ 2147483647 := hG.pr 60 1
          have eq127 : Z107 60 2 = Z 60 2 := (hf107 60 2 rfl)
          have b128 : 0 ≤ Z 60 2 ∧ Z 60 2 ≤ 18 := by have hq := GI_ex hG 60 2; replace hq : f60 (2 % 962) (Z 60 2) := hq; unfold f60 at hq; omega
          have b129 : (-2147483648) ≤ Z 60 2 ∧ Z 60 2 ≤ 2147483647 := hG.pr 60 2
          obtain ⟨Z117, h117, hc117, hx117, hG117, hf117, b117⟩ := riR_177 IH (by omega) (hd := by omega) (a0 := a0) (g0 := g0) (T := T) (N := N) (sg := gAd T N sg) (d := d + 11) (l := l) (D := D) (b0 := b0) (ad := ad) (Hb := Hb) (tau := tau) hx107 hG107 (show 1 ≤ x0 + 1 ∧ x0 + 1 ≤ 6 by omega) (show (Z107 56 6 ≤ Z107 56 7 ∧ Z107 56 7 ≤ Z107 56 8 ∧ (Z107 56 9 = 24 ∨ Z107 56 6 < Z107 56 7)) by first | omega | (simp only [eq118, eq119, eq122, eq124, eq127]; omega)) (show Z107 60 61 ≤ Z107 56 6 by first | omega | (simp only [eq118, eq119, eq122, eq124, eq127]; omega)) (show a0 ≤ Z107 60 61 by first | omega | (simp only [eq118, eq119, eq122, eq124, eq127]; omega)) (show 0 ≤ a0 by first | omega | (simp only [eq118, eq119, eq122, eq124, eq127]; omega)) (show 0 ≤ g0 by first | omega | (simp only [eq118, eq119, eq122, eq124, eq127]; omega)) rc116
          try rw [eq118] at b117
          try rw [eq119] at b117
          try rw [eq122] at b117
          try rw [eq124] at b117
          try rw [eq127] at b117
          obtain ⟨br117, b117⟩ := b117
          obtain ⟨bq117, b117⟩ := b117
          have b130 : 0 ≤ Z117 56 6 ∧ Z117 56 6 ≤ 900 := hG117.pr 56 6
          have b131 : 0 ≤ Z117 56 7 ∧ Z117 56 7 ≤ 900 := hG117.pr 56 7
          have b132 : 0 ≤ Z117 56 9 ∧ Z117 56 9 ≤ 100 := hG117.pr 56 9
          have b133 : 0 ≤ Z117 56 11 ∧ Z117 56 11 ≤ 4 := hG117.pr 56 11
          have b134 : 0 ≤ Z117 60 61 ∧ Z117 60 61 ≤ 900 := by have hq := GI_ex hG117 60 61; replace hq : f60 (61 % 962) (Z117 60 61) := hq; unfold f60 at hq; omega
          have b135 : (-2147483648) ≤ Z117 60 61 ∧ Z117 60 61 ≤ 2147483647 := hG117.pr 60 61
          have b136 : (-2147483648) ≤ Z117 60 0 ∧ Z117 60 0 ≤ 2147483647 := hG117.pr 60 0
          have b137 : 0 ≤ Z117 60 1 ∧ Z117 60 1 ≤ 18 := by have hq := GI_ex hG117 60 1; replace hq : f60 (1 % 962) (Z117 60 1) := hq; unfold f60 at hq; omega
          have b138 : (-2147483648) ≤ Z117 60 1 ∧ Z117 60 1 ≤ 2147483647 := hG117.pr 60 1
          have b139 : 0 ≤ Z117 60 2 ∧ Z117 60 2 ≤ 18 := by have hq := GI_ex hG117 60 2; replace hq : f60 (2 % 962) (Z117 60 2) := hq; unfold f60 at hq; omega
          have b140 : (-2147483648) ≤ Z117 60 2 ∧ Z117 60 2 ≤ 2147483647 := hG117.pr 60 2
          have r117 := QR_tr (d := 1) (c := 1) r107 bq117 (by decide) (by decide) (by decide)
          refine Jcv0 hx107 (show mx_Sn _ _ 55 (mx_callv 177 2 12 58) from sn_175 55) a56 s56 hc117 rfl rfl rfl ?_
          have gt := RM_is (k := 38) br117
          refine mx_J.step (sn_175 58) (fun _ _ => rfl) ?_
          refine JcI (z := 38) (show mx_Sn _ _ 59 (mx_const (.int 38) 61) from sn_175 59) rfl ?_
          have eq142 : Z117 56 8 = Z 56 8 := ((hf117 56 8 rfl).trans (hf107 56 8 rfl))
          obtain ⟨z141, Z141, h141, hc141, hx141, hG141, hf141, b141⟩ := ct_165_56 (g0 := g0) (T := T) (N := N) (sg := trX T N (lvI T N (x0 + 1)) (gAd T N sg)) (d := d + 4) (l := l) (D := D) (b0 := b0) (ad := ad) (Hb := Hb) (tau := tau) hx117 hG117 (show 0 ≤ 38 ∧ 38 ≤ 100 by omega) (show (Z117 56 6 ≤ Z117 56 7 ∧ Z117 56 7 ≤ Z117 56 8 ∧ (Z117 56 9 = 24 ∨ Z117 56 6 < Z117 56 7)) by first | omega | (simp only [eq142]; omega)) (show ¬ 38 = 24 by first | omega | (simp only [eq142]; omega)) br117
          try rw [eq142] at b141
          obtain ⟨br141, b141⟩ := b141
          have b143 : 0 ≤ Z141 56 6 ∧ Z141 56 6 ≤ 900 := hG141.pr 56 6
          have b144 : 0 ≤ Z141 56 7 ∧ Z141 56 7 ≤ 900 := hG141.pr 56 7
          have b145 : 0 ≤ Z141 56 9 ∧ Z141 56 9 ≤ 100 := hG141.pr 56 9
          have r141 := QR_g (k := 0) (c2 := 1) r117 (fun e => (hf141 56 11 rfl).symm.trans e) (fun i => hf141 60 i rfl) (fun e => by omega) (by decide)
          have rk141 : z141 = 1 → QR Z Z141 a0 1 2 := fun ez => QR_g (k := 1) r117 (fun e => (hf141 56 11 rfl).symm.trans e) (fun i => hf141 60 i rfl) (fun e => by omega) (by decide)
          refine Jcv hx117 (show mx_Sn _ _ 61 (mx_callv 165 2 12 64) from sn_175 61) a56 s56 hc141 rfl rfl rfl ?_
          have c72 : ∀  (Z147 : xZ) (h147 : mx_H), (Z147 56 6 ≤ Z147 56 7 ∧ Z147 56 7 ≤ Z 56 8) → (Z147 56 9 = 24 ∨ Z147 56 6 < Z147 56 7) → (Z 56 6 ≤ Z147 56 6 ∧ Z 60 61 ≤ Z147 60 61 ∧ Z147 60 61 - Z 60 61 ≤ Z147 56 6 - Z 56 6) → (Z147 60 0 = Z 60 0 ∧ Z147 60 1 = Z 60 1 ∧ Z147 60 2 = Z 60 2) → QR Z Z147 a0 1 0 → RM g0 T N Z147 (unX T N (lvI T N x0) sg) → XH n s S Z147 h147 → GI n S Z147 → fr' [(56, 11), (56, 12)] Z141 Z147 → mx_J (tB l D b0 ad Hb tau) mt_175 (d + 11) 72 [some (.ref 56), some (xI x0), none] [] h147 Post := by
            intro Z147 h147 f146_0 f146_1 f146_2 f146_3 f146_4 f146_5 hx147 hG147 hf147
            have eq148 : Z147 56 6 = Z141 56 6 := (hf147 56 6 rfl)
            have eq149 : Z147 56 7 = Z141 56 7 := (hf147 56 7 rfl)
            have eq150 : Z147 56 6 = Z141 56 6 := (hf147 56 6 rfl)
            have eq151 : Z147 56 7 = Z141 56 7 := (hf147 56 7 rfl)
            have eq152 : Z147 56 9 = Z141 56 9 := (hf147 56 9 rfl)
            have eq153 : Z147 56 6 = Z141 56 6 := (hf147 56 6 rfl)
            have eq154 : Z147 60 61 = Z117 60 61 := ((hf147 60 61 rfl).trans (hf141 60 61 rfl))
            have eq155 : Z147 60 0 = Z117 60 0 := ((hf147 60 0 rfl).trans (hf141 60 0 rfl))
            have eq156 : Z147 60 1 = Z117 60 1 := ((hf147 60 1 rfl).trans (hf141 60 1 rfl))
            have eq157 : Z147 60 2 = Z117 60 2 := ((hf147 60 2 rfl).trans (hf141 60 2 rfl))
            have eq158 : Z147 56 6 = Z141 56 6 := (hf147 56 6 rfl)
            have eq159 : Z147 56 7 = Z141 56 7 := (hf147 56 7 rfl)
            have eq160 : Z147 56 9 = Z141 56 9 := (hf147 56 9 rfl)
            have b161 : 0 ≤ Z147 56 11 ∧ Z147 56 11 ≤ 4 := hG147.pr 56 11
            have eq162 : Z147 60 61 = Z117 60 61 := ((hf147 60 61 rfl).trans (hf141 60 61 rfl))
            have eq163 : Z147 60 0 = Z117 60 0 := ((hf147 60 0 rfl).trans (hf141 60 0 rfl))
            have eq164 : Z147 60 1 = Z117 60 1 := ((hf147 60 1 rfl).trans (hf141 60 1 rfl))
            have eq165 : Z147 60 2 = Z117 60 2 := ((hf147 60 2 rfl).trans (hf141 60 2 rfl))
            have eq166 : Z147 56 6 = Z141 56 6 := (hf147 56 6 rfl)
            have eq167 : Z147 56 7 = Z141 56 7 := (hf147 56 7 rfl)
            have eq168 : Z147 56 8 = Z 56 8 := ((hf147 56 8 rfl).trans ((hf141 56 8 rfl).trans ((hf117 56 8 rfl).trans (hf107 56 8 rfl))))
            have eq169 : Z147 56 9 = Z141 56 9 := (hf147 56 9 rfl)
            have eq170 : Z147 60 61 = Z117 60 61 := ((hf147 60 61 rfl).trans (hf141 60 61 rfl))
            have eq171 : Z147 60 0 = Z117 60 0 := ((hf147 60 0 rfl).trans (hf141 60 0 rfl))
            have eq172 : Z147 60 1 = Z117 60 1 := ((hf147 60 1 rfl).trans (hf141 60 1 rfl))
            have eq173 : Z147 60 2 = Z117 60 2 := ((hf147 60 2 rfl).trans (hf141 60 2 rfl))
            exact mx_J.ret (sn_175 72) (fun _ _ => rfl) (hP Z147 h147 hx147 hG147 (fr_tr (M := [(56, 6), (56, 7), (56, 9), (56, 10), (56, 11), (56, 12), (60, (-1))]) (fr_tr (M := [(56, 6), (56, 7), (56, 9), (56, 10), (56, 11), (56, 12), (60, (-1))]) (fr_tr (M := [(56, 6), (56, 7), (56, 9), (56, 10), (56, 11), (56, 12), (60, (-1))]) (fr_tr (M := [(56, 6), (56, 7), (56, 9), (56, 10), (56, 11), (56, 12), (60, (-1))]) fr_rf (hf107) (M1 := []) rfl rfl) (hf117) rfl rfl) (hf141) rfl rfl) (hf147) rfl rfl) ⟨f146_5, (QR_le f146_4 (by decide)), by omega⟩)
          refine Jif_ne (show mx_Sn _ _ 64 (mx_if_ne 72 67) from sn_175 64) (by omega) (fun q174 => ?_) (fun q174 => ?_)
          · skip
            have eq175 : Z141 60 61 = Z117 60 61 := (hf141 60 61 rfl)
            have eq176 : Z141 60 0 = Z117 60 0 := (hf141 60 0 rfl)
            have eq177 : Z141 60 1 = Z117 60 1 := (hf141 60 1 rfl)
            have eq178 : Z141 60 2 = Z117 60 2 := (hf141 60 2 rfl)
            exact c72 Z141 h141 (by omega) (by omega) (by omega) (by omega) (QR_le (rk141 (by omega)) (by decide)) (RM_e br141 (((un_b ((RM_is (k := 37) hr).mp (by omega))).trans (in_y hx5)).trans (ee_y (gt.mp (by omega))))) hx141 hG141 fr_rf
          · skip
            refine mx_J.step (sn_175 67) (fun _ _ => rfl) ?_
            refine JcI (z := 2) (show mx_Sn _ _ 68 (mx_const (.int 2) 69) from sn_175 68) rfl ?_
            have eq180 : Z141 56 11 = Z117 56 11 := (hf141 56 11 rfl)
            obtain ⟨Z179, h179, hc179, hx179, hG179, hf179, b179⟩ := ct_163_56 (g0 := g0) (T := T) (N := N) (sg := gEt T N 38 (trX T N (lvI T N (x0 + 1)) (gAd T N sg))) (d := d + 10) (l := l) (D := D) (b0 := b0) (ad := ad) (Hb := Hb) (tau := tau) hx141 hG141 (show 2 ≤ 2 ∧ 2 ≤ 4 by omega) br141
            try rw [eq180] at b179
            obtain ⟨br179, b179⟩ := b179
            have b181 : 0 ≤ Z179 56 11 ∧ Z179 56 11 ≤ 4 := hG179.pr 56 11
            have r179 : ¬ Z179 56 11 = 0 := by omega
            refine Jcv0 hx141 (show mx_Sn _ _ 69 (mx_callv 163 2 12 72) from sn_175 69) a56 s56 hc179 rfl rfl rfl ?_
            have eq182 : Z179 56 6 = Z141 56 6 := (hf179 56 6 rfl)
            have eq183 : Z179 56 7 = Z141 56 7 := (hf179 56 7 rfl)
            have eq184 : Z179 56 6 = Z141 56 6 := (hf179 56 6 rfl)
            have eq185 : Z179 56 7 = Z141 56 7 := (hf179 56 7 rfl)
            have eq186 : Z179 56 9 = Z141 56 9 := (hf179 56 9 rfl)
            have eq187 : Z179 56 6 = Z141 56 6 := (hf179 56 6 rfl)
            have eq188 : Z179 60 61 = Z117 60 61 := ((hf179 60 61 rfl).trans (hf141 60 61 rfl))
            have eq189 : Z179 60 0 = Z117 60 0 := ((hf179 60 0 rfl).trans (hf141 60 0 rfl))
            have eq190 : Z179 60 1 = Z117 60 1 := ((hf179 60 1 rfl).trans (hf141 60 1 rfl))
            have eq191 : Z179 60 2 = Z117 60 2 := ((hf179 60 2 rfl).trans (hf141 60 2 rfl))
            exact c72 Z179 h179 (by omega) (by omega) (by omega) (by omega) (QR_f r179) (RM_e br179 (((un_b ((RM_is (k := 37) hr).mp (by omega))).trans (in_y hx5)).trans (ee_n (fun q => by have := gt.mpr q; omega)))) hx179 hG179 (fr_tr (M := [(56, 11), (56, 12)]) fr_rf (hf179) (M1 := []) rfl rfl)
        · skip
          have eq192 : Z107 60 61 = Z 60 61 := (hf107 60 61 rfl)
          have b193 : 0 ≤ Z 60 61 ∧ Z 60 61 ≤ 900 := by have hq := GI_ex hG 60 61; replace hq : f60 (61 % 962) (Z 60 61) := hq; unfold f60 at hq; omega
          have b194 : (-2147483648) ≤ Z 60 61 ∧ Z 60 61 ≤ 2147483647 := hG.pr 60 61
          have eq195 : Z107 60 0 = Z 60 0 := (hf107 60 0 rfl)
          have b196 : (-2147483648) ≤ Z 60 0 ∧ Z 60 0 ≤ 2147483647 := hG.pr 60 0
          have eq197 : Z107 60 1 = Z 60 1 := (hf107 60 1 rfl)
          have b198 : 0 ≤ Z 60 1 ∧ Z 60 1 ≤ 18 := by have hq := GI_ex hG 60 1; replace hq : f60 (1 % 962) (Z 60 1) := hq; unfold f60 at hq; omega
          have b199 : (-2147483648) ≤ Z 60 1 ∧ Z 60 1 ≤ 2147483647 := hG.pr 60 1
          have eq200 : Z107 60 2 = Z 60 2 := (hf107 60 2 rfl)
          have b201 : 0 ≤ Z 60 2 ∧ Z 60 2 ≤ 18 := by have hq := GI_ex hG 60 2; replace hq : f60 (2 % 962) (Z 60 2) := hq; unfold f60 at hq; omega
          have b202 : (-2147483648) ≤ Z 60 2 ∧ Z 60 2 ≤ 2147483647 := hG.pr 60 2
          have eq203 : Z107 56 8 = Z 56 8 := (hf107 56 8 rfl)
          have eq204 : Z107 60 61 = Z 60 61 := (hf107 60 61 rfl)
          have eq205 : Z107 60 0 = Z 60 0 := (hf107 60 0 rfl)
          have eq206 : Z107 60 1 = Z 60 1 := (hf107 60 1 rfl)
          have eq207 : Z107 60 2 = Z 60 2 := (hf107 60 2 rfl)
          exact mx_J.ret (sn_175 50) (fun _ _ => rfl) (hP Z107 h107 hx107 hG107 (fr_tr (M := [(56, 6), (56, 7), (56, 9), (56, 10), (56, 11), (56, 12), (60, (-1))]) fr_rf (hf107) (M1 := []) rfl rfl) ⟨(RM_e br107 (((un_b ((RM_is (k := 37) hr).mp (by omega))).trans (in_n (by omega))).trans (gEn_n (by omega)).symm)), (QR_f (by omega)), by omega⟩)
    · skip
      refine mx_J.step (sn_175 9) (fun _ _ => rfl) ?_
      refine mx_J.step (sn_175 10) (fun _ _ => rfl) ?_
      have b209 : 0 ≤ Z 56 6 ∧ Z 56 6 ≤ 900 := hG.pr 56 6
      have b210 : 0 ≤ Z 56 7 ∧ Z 56 7 ≤ 900 := hG.pr 56 7
      have b211 : 0 ≤ Z 56 8 ∧ Z 56 8 ≤ 900 := hG.pr 56 8
      obtain ⟨z208, Z208, h208, hc208, hx208, hG208, hf208, b208⟩ := ct_170_56 (g0 := g0) (T := T) (N := N) (sg := sg) (d := d + 4) (l := l) (D := D) (b0 := b0) (ad := ad) (Hb := Hb) (tau := tau) hx hG (show 0 ≤ x0 ∧ x0 ≤ 6 by omega) (show (Z 56 6 ≤ Z 56 7 ∧ Z 56 7 ≤ Z 56 8 ∧ (Z 56 9 = 24 ∨ Z 56 6 < Z 56 7)) by omega) (show ¬ Z 56 9 = 24 by omega) hr
      obtain ⟨br208, b208⟩ := b208
      have b212 : 0 ≤ Z208 56 6 ∧ Z208 56 6 ≤ 900 := hG208.pr 56 6
      have b213 : 0 ≤ Z208 56 7 ∧ Z208 56 7 ≤ 900 := hG208.pr 56 7
      have b214 : 0 ≤ Z208 56 9 ∧ Z208 56 9 ≤ 100 := hG208.pr 56 9
      have b215 : 0 ≤ Z208 56 11 ∧ Z208 56 11 ≤ 4 := hG208.pr 56 11
      have r208 := QR_g (k := 1) (c2 := 1) (QR_rf (Z := Z) (a := a0)) (fun e => by omega) (fun i => hf208 60 i rfl) (fun e => by omega) (by decide)
      refine Jcv hx (show mx_Sn _ _ 11 (mx_callv 170 2 12 14) from sn_175 11) a56 s56 hc208 rfl rfl rfl ?_
      refine Jif_ne (show mx_Sn _ _ 14 (mx_if_ne 18 17) from sn_175 14) (by omega) (fun q216 => ?_) (fun q216 => ?_)
      · skip
        have hx5 : x0 ≤ 5 := by omega
        have rc217 : RM g0 T N Z208 (gAd T N sg) := RM_e br208 ((gEn_y (by omega)).symm)
        refine mx_J.step (sn_175 18) (fun _ _ => rfl) ?_
        refine mx_J.step (sn_175 19) (fun _ _ => rfl) ?_
        refine JcI (z := 1) (show mx_Sn _ _ 20 (mx_const (.int 1) 21) from sn_175 20) rfl ?_
        refine Jiadd (show mx_Sn _ _ 21 (mx_iadd 22) from sn_175 21) ?_
        have eq219 : Z208 56 8 = Z 56 8 := (hf208 56 8 rfl)
        have eq220 : Z208 60 61 = Z 60 61 := (hf208 60 61 rfl)
        have b221 : 0 ≤ Z 60 61 ∧ Z 60 61 ≤ 900 := by have hq := GI_ex hG 60 61; replace hq : f60 (61 % 962) (Z 60 61) := hq; unfold f60 at hq; omega
        have b222 : (-2147483648) ≤ Z 60 61 ∧ Z 60 61 ≤ 2147483647 := hG.pr 60 61
        have eq223 : Z208 60 0 = Z 60 0 := (hf208 60 0 rfl)
        have b224 : (-2147483648) ≤ Z 60 0 ∧ Z 60 0 ≤ 2147483647 := hG.pr 60 0
        have eq225 : Z208 60 1 = Z 60 1 := (hf208 60 1 rfl)
        have b226 : 0 ≤ Z 60 1 ∧ Z 60 1 ≤ 18 := by have hq := GI_ex hG 60 1; replace hq : f60 (1 % 962) (Z 60 1) := hq; unfold f60 at hq; omega
        have b227 : (-2147483648) ≤ Z 60 1 ∧ Z 60 1 ≤ 2147483647 := hG.pr 60 1
        have eq228 : Z208 60 2 = Z 60 2 := (hf208 60 2 rfl)
        have b229 : 0 ≤ Z 60 2 ∧ Z 60 2 ≤ 18 := by have hq := GI_ex hG 60 2; replace hq : f60 (2 % 962) (Z 60 2) := hq; unfold f60 at hq; omega
        have b230 : (-2147483648) ≤ Z 60 2 ∧ Z 60 2 ≤ 2147483647 := hG.pr 60 2
        obtain ⟨Z218, h218, hc218, hx218, hG218, hf218, b218⟩ := riR_175 IH (by omega) (hd := by omega) (a0 := a0) (g0 := g0) (T := T) (N := N) (sg := gAd T N sg) (d := d + 11) (l := l) (D := D) (b0 := b0) (ad := ad) (Hb := Hb) (tau := tau) hx208 hG208 (show 1 ≤ x0 + 1 ∧ x0 + 1 ≤ 6 by omega) (show (Z208 56 6 ≤ Z208 56 7 ∧ Z208 56 7 ≤ Z208 56 8 ∧ (Z208 56 9 = 24 ∨ Z208 56 6 < Z208 56 7)) by first | omega | (simp only [eq219, eq220, eq223, eq225, eq228]; omega)) (show Z208 60 61 ≤ Z208 56 6 by first | omega | (simp only [eq219, eq220, eq223, eq225, eq228]; omega)) (show a0 ≤ Z208 60 61 by first | omega | (simp only [eq219, eq220, eq223, eq225, eq228]; omega)) (show 0 ≤ a0 by first | omega | (simp only [eq219, eq220, eq223, eq225, eq228]; omega)) (show 0 ≤ g0 by first | omega | (simp only [eq219, eq220, eq223, eq225, eq228]; omega)) rc217
        try rw [eq219] at b218
        try rw [eq220] at b218
        try rw [eq223] at b218
        try rw [eq225] at b218
        try rw [eq228] at b218
        obtain ⟨br218, b218⟩ := b218
        obtain ⟨bq218, b218⟩ := b218
        have b231 : 0 ≤ Z218 56 6 ∧ Z218 56 6 ≤ 900 := hG218.pr 56 6
        have b232 : 0 ≤ Z218 56 7 ∧ Z218 56 7 ≤ 900 := hG218.pr 56 7
        have b233 : 0 ≤ Z218 56 9 ∧ Z218 56 9 ≤ 100 := hG218.pr 56 9
        have b234 : 0 ≤ Z218 56 11 ∧ Z218 56 11 ≤ 4 := hG218.pr 56 11
        have b235 : 0 ≤ Z218 60 61 ∧ Z218 60 61 ≤ 900 := by have hq := GI_ex hG218 60 61; replace hq : f60 (61 % 962) (Z218 60 61) := hq; unfold f60 at hq; omega
        have b236 : (-2147483648) ≤ Z218 60 61 ∧ Z218 60 61 ≤ 2147483647 := hG218.pr 60 61
        have b237 : (-2147483648) ≤ Z218 60 0 ∧ Z218 60 0 ≤ 2147483647 := hG218.pr 60 0
        have b238 : 0 ≤ Z218 60 1 ∧ Z218 60 1 ≤ 18 := by have hq := GI_ex hG218 60 1; replace hq : f60 (1 % 962) (Z218 60 1) := hq; unfold f60 at hq; omega
        have b239 : (-2147483648) ≤ Z218 60 1 ∧ Z218 60 1 ≤ 2147483647 := hG218.pr 60 1
        have b240 : 0 ≤ Z218 60 2 ∧ Z218 60 2 ≤ 18 := by have hq := GI_ex hG218 60 2; replace hq : f60 (2 % 962) (Z218 60 2) := hq; unfold f60 at hq; omega
        have b241 : (-2147483648) ≤ Z218 60 2 ∧ Z218 60 2 ≤ 2147483647 := hG218.pr 60 2
        have r218 := QR_tr (d := 1) (c := 1) r208 bq218 (by decide) (by decide) (by decide)
        refine Jcv0 hx208 (show mx_Sn _ _ 22 (mx_callv 175 2 12 25) from sn_175 22) a56 s56 hc218 rfl rfl rfl ?_
        refine mx_J.step (sn_175 25) (fun _ _ => rfl) ?_
        refine JcI (z := 3006) (show mx_Sn _ _ 26 (mx_const (.int 3006) 29) from sn_175 26) rfl ?_
        have eq243 : Z218 56 8 = Z 56 8 := ((hf218 56 8 rfl).trans (hf208 56 8 rfl))
        have rp242 := QR_n r218
        obtain ⟨Z242, h242, hc242, hx242, hG242, hf242, b242⟩ := ct_169_56_3006 (a0 := a0) (g0 := g0) (T := T) (N := N) (sg := unX T N (lvI T N (x0 + 1)) (gAd T N sg)) (d := d + 10) (l := l) (D := D) (b0 := b0) (ad := ad) (Hb := Hb) (tau := tau) hx218 hG218  (show (Z218 56 11 = 0 → Z218 60 61 ≤ 899) by first | omega | (simp only [eq243]; omega)) (show a0 ≤ Z218 60 61 by first | omega | (simp only [eq243]; omega)) (show 0 ≤ a0 by first | omega | (simp only [eq243]; omega)) (show 0 ≤ g0 by first | omega | (simp only [eq243]; omega)) br218
        try rw [eq243] at b242
        obtain ⟨br242, b242⟩ := b242
        obtain ⟨bq242, b242⟩ := b242
        have b244 : 0 ≤ Z242 60 61 ∧ Z242 60 61 ≤ 900 := by have hq := GI_ex hG242 60 61; replace hq : f60 (61 % 962) (Z242 60 61) := hq; unfold f60 at hq; omega
        have b245 : (-2147483648) ≤ Z242 60 61 ∧ Z242 60 61 ≤ 2147483647 := hG242.pr 60 61
        have b246 : (-2147483648) ≤ Z242 60 0 ∧ Z242 60 0 ≤ 2147483647 := hG242.pr 60 0
        have b247 : 0 ≤ Z242 60 1 ∧ Z242 60 1 ≤ 18 := by have hq := GI_ex hG242 60 1; replace hq : f60 (1 % 962) (Z242 60 1) := hq; unfold f60 at hq; omega
        have b248 : (-2147483648) ≤ Z242 60 1 ∧ Z242 60 1 ≤ 2147483647 := hG242.pr 60 1
        have b249 : 0 ≤ Z242 60 2 ∧ Z242 60 2 ≤ 18 := by have hq := GI_ex hG242 60 2; replace hq : f60 (2 % 962) (Z242 60 2) := hq; unfold f60 at hq; omega
        have b250 : (-2147483648) ≤ Z242 60 2 ∧ Z242 60 2 ≤ 2147483647 := hG242.pr 60 2
        have rn242 := QR_n r218
        have r242 := QR_c (d2 := 1) (c2 := 0) r218 bq242 (by omega) (hf242 56 11 rfl) (hf242 56 6 rfl) (by decide) (by decide) (by decide)
        refine Jcv0 hx218 (show mx_Sn _ _ 29 (mx_callv 169 2 12 32) from sn_175 29) a56 s56 hc242 rfl rfl rfl ?_
        have eq251 : Z242 56 6 = Z218 56 6 := (hf242 56 6 rfl)
        have eq252 : Z242 56 7 = Z218 56 7 := (hf242 56 7 rfl)
        have eq253 : Z242 56 9 = Z218 56 9 := (hf242 56 9 rfl)
        have eq254 : Z242 56 11 = Z218 56 11 := (hf242 56 11 rfl)
        have eq255 : Z242 56 6 = Z218 56 6 := (hf242 56 6 rfl)
        have eq256 : Z242 56 7 = Z218 56 7 := (hf242 56 7 rfl)
        have eq257 : Z242 56 8 = Z 56 8 := ((hf242 56 8 rfl).trans ((hf218 56 8 rfl).trans (hf208 56 8 rfl)))
        have eq258 : Z242 56 9 = Z218 56 9 := (hf242 56 9 rfl)
        have eq259 : Z242 56 11 = Z218 56 11 := (hf242 56 11 rfl)
        exact mx_J.ret (sn_175 32) (fun _ _ => rfl) (hP Z242 h242 hx242 hG242 (fr_tr (M := [(56, 6), (56, 7), (56, 9), (56, 10), (56, 11), (56, 12), (60, (-1))]) (fr_tr (M := [(56, 6), (56, 7), (56, 9), (56, 10), (56, 11), (56, 12), (60, (-1))]) (fr_tr (M := [(56, 6), (56, 7), (56, 9), (56, 10), (56, 11), (56, 12), (60, (-1))]) fr_rf (hf208) (M1 := []) rfl rfl) (hf218) rfl rfl) (hf242) rfl rfl) ⟨(RM_e br242 ((un_t ((RM_is (k := 15) hr).mp (by omega))).trans (in_y hx5))), (QR_le r242 (by decide)), by omega⟩)
      · skip
        have eq260 : Z208 60 61 = Z 60 61 := (hf208 60 61 rfl)
        have b261 : 0 ≤ Z 60 61 ∧ Z 60 61 ≤ 900 := by have hq := GI_ex hG 60 61; replace hq : f60 (61 % 962) (Z 60 61) := hq; unfold f60 at hq; omega
        have b262 : (-2147483648) ≤ Z 60 61 ∧ Z 60 61 ≤ 2147483647 := hG.pr 60 61
        have eq263 : Z208 60 0 = Z 60 0 := (hf208 60 0 rfl)
        have b264 : (-2147483648) ≤ Z 60 0 ∧ Z 60 0 ≤ 2147483647 := hG.pr 60 0
        have eq265 : Z208 60 1 = Z 60 1 := (hf208 60 1 rfl)
        have b266 : 0 ≤ Z 60 1 ∧ Z 60 1 ≤ 18 := by have hq := GI_ex hG 60 1; replace hq : f60 (1 % 962) (Z 60 1) := hq; unfold f60 at hq; omega
        have b267 : (-2147483648) ≤ Z 60 1 ∧ Z 60 1 ≤ 2147483647 := hG.pr 60 1
        have eq268 : Z208 60 2 = Z 60 2 := (hf208 60 2 rfl)
        have b269 : 0 ≤ Z 60 2 ∧ Z 60 2 ≤ 18 := by have hq := GI_ex hG 60 2; replace hq : f60 (2 % 962) (Z 60 2) := hq; unfold f60 at hq; omega
        have b270 : (-2147483648) ≤ Z 60 2 ∧ Z 60 2 ≤ 2147483647 := hG.pr 60 2
        have eq271 : Z208 56 8 = Z 56 8 := (hf208 56 8 rfl)
        have eq272 : Z208 60 61 = Z 60 61 := (hf208 60 61 rfl)
        have eq273 : Z208 60 0 = Z 60 0 := (hf208 60 0 rfl)
        have eq274 : Z208 60 1 = Z 60 1 := (hf208 60 1 rfl)
        have eq275 : Z208 60 2 = Z 60 2 := (hf208 60 2 rfl)
        exact mx_J.ret (sn_175 17) (fun _ _ => rfl) (hP Z208 h208 hx208 hG208 (fr_tr (M := [(56, 6), (56, 7), (56, 9), (56, 10), (56, 11), (56, 12), (60, (-1))]) fr_rf (hf208) (M1 := []) rfl rfl) ⟨(RM_e br208 (((un_t ((RM_is (k := 15) hr).mp (by omega))).trans (in_n (by omega))).trans (gEn_n (by omega)).symm)), (QR_f (by omega)), by omega⟩)
theorem ct_175_56_s {l : Launch} {D : va_G} {b0 : Nat} {ad : Nat → Nat} {Hb : Heap} {tau : Nat → Int64} {d n s : Nat} {S : Nat → xS} {Z : xZ} {h : mx_H} {a0 : Int} {g0 : Int} {T : Int → Int} {N : Int} {sg : SS} (hx : XH n s S Z h) (hG : GI n S Z)  {x0 : Int} (p0 : 0 ≤ x0 ∧ x0 ≤ 6) (k0 : (Z 56 6 ≤ Z 56 7 ∧ Z 56 7 ≤ Z 56 8 ∧ (Z 56 9 = 24 ∨ Z 56 6 < Z 56 7))) (k1 : Z 60 61 ≤ Z 56 6) (k2 : a0 ≤ Z 60 61) (k3 : 0 ≤ a0) (k4 : 0 ≤ g0) (hr : RM g0 T N Z sg) {kk : Nat} (IH : RBnh l D b0 ad Hb tau kk x0) (hd : kk ≤ d) : ∃ (Z' : xZ) (h' : mx_H), mx_Ca (tB l D b0 ad Hb tau) (d + 12) 175 [.ref 56, xI x0] h (none, h') ∧ XH n s S Z' h' ∧ GI n S Z' ∧ fr' [(56, 6), (56, 7), (56, 9), (56, 10), (56, 11), (56, 12), (60, (-1))] Z Z' ∧ (RM g0 T N Z' (unX T N (lvI T N x0) sg) ∧ QR Z Z' a0 1 0 ∧ ((Z' 56 6 ≤ Z' 56 7 ∧ Z' 56 7 ≤ Z 56 8 ∧ (Z' 56 9 = 24 ∨ Z' 56 6 < Z' 56 7)) ∧ Z' 60 0 = Z 60 0 ∧ Z' 60 1 = Z 60 1 ∧ Z' 60 2 = Z 60 2 ∧ Z 56 6 ≤ Z' 56 6 ∧ Z 60 61 ≤ Z' 60 61 ∧ Z' 60 61 - Z 60 61 ≤ Z' 56 6 - Z 56 6)) := by
  obtain ⟨r, hca, Z', h', e, q⟩ := Jmt (B := tB l D b0 ad Hb tau) (M := mt_175) (mi := 175) (as := [.ref 56, xI x0]) (d := d + 11) (ls := [some (.ref 56), some (xI x0), none]) rfl rfl rfl rfl rfl rfl (cw_175_56_s (l := l) (D := D) (b0 := b0) (ad := ad) (Hb := Hb) (tau := tau) (d := d) (Post := fun r => ∃ (Z' : xZ) (h' : mx_H), r = (none, h') ∧ XH n s S Z' h' ∧ GI n S Z' ∧ fr' [(56, 6), (56, 7), (56, 9), (56, 10), (56, 11), (56, 12), (60, (-1))] Z Z' ∧ (RM g0 T N Z' (unX T N (lvI T N x0) sg) ∧ QR Z Z' a0 1 0 ∧ ((Z' 56 6 ≤ Z' 56 7 ∧ Z' 56 7 ≤ Z 56 8 ∧ (Z' 56 9 = 24 ∨ Z' 56 6 < Z' 56 7)) ∧ Z' 60 0 = Z 60 0 ∧ Z' 60 1 = Z 60 1 ∧ Z' 60 2 = Z 60 2 ∧ Z 56 6 ≤ Z' 56 6 ∧ Z 60 61 ≤ Z' 60 61 ∧ Z' 60 61 - Z 60 61 ≤ Z' 56 6 - Z 56 6))) hx hG p0 k0 k1 k2 k3 k4 hr IH hd (fun Z' h' q1 q2 q3 q4 => ⟨Z', h', rfl, q1, q2, q3, q4⟩))
  subst e; exact ⟨Z', h', hca, q⟩
set_option maxHeartbeats 8000000 in
set_option maxRecDepth 100000 in
theorem cw_176_56_s {l : Launch} {D : va_G} {b0 : Nat} {ad : Nat → Nat} {Hb : Heap} {tau : Nat → Int64} {d n s : Nat} {S : Nat → xS} {Z : xZ} {h : mx_H} {Post : mx_R → Prop} {a0 : Int} {g0 : Int} {T : Int → Int} {N : Int} {sg : SS} (hx : XH n s S Z h) (hG : GI n S Z)  {x0 : Int} (p0 : 0 ≤ x0 ∧ x0 ≤ 6) (k0 : (Z 56 6 ≤ Z 56 7 ∧ Z 56 7 ≤ Z 56 8 ∧ (Z 56 9 = 24 ∨ Z 56 6 < Z 56 7))) (k1 : Z 60 61 ≤ Z 56 6) (k2 : a0 ≤ Z 60 61) (k3 : 0 ≤ a0) (k4 : 0 ≤ g0) (hr : RM g0 T N Z sg) {kk : Nat} (IH : RBnh l D b0 ad Hb tau kk x0) (hd : kk ≤ d) (hP : ∀ (Z' : xZ) (h' : mx_H), XH n s S Z' h' → GI n S Z' → fr' [(56, 6), (56, 7), (56, 9), (56, 10), (56, 11), (56, 12), (60, (-1))] Z Z' → RM g0 T N Z' (boX T N (lvI T N x0) sg) ∧ QR Z Z' a0 1 0 ∧ ((Z' 56 6 ≤ Z' 56 7 ∧ Z' 56 7 ≤ Z 56 8 ∧ (Z' 56 9 = 24 ∨ Z' 56 6 < Z' 56 7)) ∧ Z' 60 0 = Z 60 0 ∧ Z' 60 1 = Z 60 1 ∧ Z' 60 2 = Z 60 2 ∧ Z 56 6 ≤ Z' 56 6 ∧ Z 60 61 ≤ Z' 60 61 ∧ Z' 60 61 - Z 60 61 ≤ Z' 56 6 - Z 56 6) → Post (none, h')) : mx_J (tB l D b0 ad Hb tau) mt_176 (d + 12) 0 [some (.ref 56), some (xI x0)] [] h Post := by
    have a56 : 56 < n := lt83 (GI_n hG) rfl
    have s56 : S 56 = .inl (12, [0, 2, 2, 2, 2, 0, 0, 0, 0, 0, 0, 0, 0, 0, 0, 2, 2, 2, 0, 2, 2, 2, 0, 0, 2, 2, 2, 2, 2, 2, 0, 0, 2, 2, 2, 2, 2, 2, 2, 2, 2, 2]) := GI_s hG 56 rfl
    refine mx_J.step (sn_176 0) (fun _ _ => rfl) ?_
    refine mx_J.step (sn_176 1) (fun _ _ => rfl) ?_
    have b2 : 0 ≤ Z 56 6 ∧ Z 56 6 ≤ 900 := hG.pr 56 6
    have b3 : 0 ≤ Z 56 7 ∧ Z 56 7 ≤ 900 := hG.pr 56 7
    have b4 : 0 ≤ Z 56 8 ∧ Z 56 8 ≤ 900 := hG.pr 56 8
    have b5 : 0 ≤ Z 56 9 ∧ Z 56 9 ≤ 100 := hG.pr 56 9
    have b6 : 0 ≤ Z 56 11 ∧ Z 56 11 ≤ 4 := hG.pr 56 11
    have b7 : 0 ≤ Z 60 61 ∧ Z 60 61 ≤ 900 := by have hq := GI_ex hG 60 61; replace hq : f60 (61 % 962) (Z 60 61) := hq; unfold f60 at hq; omega
    have b8 : (-2147483648) ≤ Z 60 61 ∧ Z 60 61 ≤ 2147483647 := hG.pr 60 61
    have b9 : (-2147483648) ≤ Z 60 0 ∧ Z 60 0 ≤ 2147483647 := hG.pr 60 0
    have b10 : 0 ≤ Z 60 1 ∧ Z 60 1 ≤ 18 := by have hq := GI_ex hG 60 1; replace hq : f60 (1 % 962) (Z 60 1) := hq; unfold f60 at hq; omega
    have b11 : (-2147483648) ≤ Z 60 1 ∧ Z 60 1 ≤ 2147483647 := hG.pr 60 1
    have b12 : 0 ≤ Z 60 2 ∧ Z 60 2 ≤ 18 := by have hq := GI_ex hG 60 2; replace hq : f60 (2 % 962) (Z 60 2) := hq; unfold f60 at hq; omega
    have b13 : (-2147483648) ≤ Z 60 2 ∧ Z 60 2 ≤ 2147483647 := hG.pr 60 2
    obtain ⟨Z1, h1, hc1, hx1, hG1, hf1, b1⟩ := ct_175_56_s (a0 := a0) (g0 := g0) (T := T) (N := N) (sg := sg) (d := d + 0) (l := l) (D := D) (b0 := b0) (ad := ad) (Hb := Hb) (tau := tau) hx hG (show 0 ≤ x0 ∧ x0 ≤ 6 by omega) (show (Z 56 6 ≤ Z 56 7 ∧ Z 56 7 ≤ Z 56 8 ∧ (Z 56 9 = 24 ∨ Z 56 6 < Z 56 7)) by omega) (show Z 60 61 ≤ Z 56 6 by omega) (show a0 ≤ Z 60 61 by omega) (show 0 ≤ a0 by omega) (show 0 ≤ g0 by omega) hr IH (by omega)
    obtain ⟨br1, b1⟩ := b1
    obtain ⟨bq1, b1⟩ := b1
    have b14 : 0 ≤ Z1 56 6 ∧ Z1 56 6 ≤ 900 := hG1.pr 56 6
    have b15 : 0 ≤ Z1 56 7 ∧ Z1 56 7 ≤ 900 := hG1.pr 56 7
    have b16 : 0 ≤ Z1 56 9 ∧ Z1 56 9 ≤ 100 := hG1.pr 56 9
    have b17 : 0 ≤ Z1 56 11 ∧ Z1 56 11 ≤ 4 := hG1.pr 56 11
    have b18 : 0 ≤ Z1 60 61 ∧ Z1 60 61 ≤ 900 := by have hq := GI_ex hG1 60 61; replace hq : f60 (61 % 962) (Z1 60 61) := hq; unfold f60 at hq; omega
    have b19 : (-2147483648) ≤ Z1 60 61 ∧ Z1 60 61 ≤ 2147483647 := hG1.pr 60 61
    have b20 : (-2147483648) ≤ Z1 60 0 ∧ Z1 60 0 ≤ 2147483647 := hG1.pr 60 0
    have b21 : 0 ≤ Z1 60 1 ∧ Z1 60 1 ≤ 18 := by have hq := GI_ex hG1 60 1; replace hq : f60 (1 % 962) (Z1 60 1) := hq; unfold f60 at hq; omega
    have b22 : (-2147483648) ≤ Z1 60 1 ∧ Z1 60 1 ≤ 2147483647 := hG1.pr 60 1
    have b23 : 0 ≤ Z1 60 2 ∧ Z1 60 2 ≤ 18 := by have hq := GI_ex hG1 60 2; replace hq : f60 (2 % 962) (Z1 60 2) := hq; unfold f60 at hq; omega
    have b24 : (-2147483648) ≤ Z1 60 2 ∧ Z1 60 2 ≤ 2147483647 := hG1.pr 60 2
    have r1 := QR_tr (d := 1) (c := 0) (QR_rf (Z := Z) (a := a0)) bq1 (by decide) (by decide) (by decide)
    refine Jcv0 hx (show mx_Sn _ _ 2 (mx_callv 175 2 12 5) from sn_176 2) a56 s56 hc1 rfl rfl rfl ?_
    have c5 : ∀ (m25 : Nat) (sg25 : SS) (Z26 : xZ) (h26 : mx_H), (((Z 56 8 - Z26 56 6).toNat : Nat) : Int) < (m25 : Int) → RM g0 T N Z26 sg25 → (Z26 56 6 ≤ Z26 56 7 ∧ Z26 56 7 ≤ Z 56 8) → (Z26 56 9 = 24 ∨ Z26 56 6 < Z26 56 7) → (Z 56 6 ≤ Z26 56 6 ∧ Z 60 61 ≤ Z26 60 61 ∧ Z26 60 61 - Z 60 61 ≤ Z26 56 6 - Z 56 6) → (Z26 60 0 = Z 60 0 ∧ Z26 60 1 = Z 60 1 ∧ Z26 60 2 = Z 60 2) → QR Z Z26 a0 1 0 → boL T N (lvI T N x0) sg25 = boX T N (lvI T N x0) sg → XH n s S Z26 h26 → GI n S Z26 → fr' [(56, 6), (56, 7), (56, 9), (56, 10), (56, 11), (56, 12), (60, (-1))] Z1 Z26 → mx_J (tB l D b0 ad Hb tau) mt_176 (d + 12) 5 [some (.ref 56), some (xI x0)] [] h26 Post := by
      intro m25
      induction m25 with
      | zero => intro sg25 Z26 h26 q25 f25_0 f25_1 f25_2 f25_3 f25_4 f25_5 f25_6 hx26 hG26 hf26; exact absurd q25 (by omega)
      | succ m25 ih25 =>
        intro sg25 Z26 h26 q25 f25_0 f25_1 f25_2 f25_3 f25_4 f25_5 f25_6 hx26 hG26 hf26
        have b27 : 0 ≤ Z26 56 6 ∧ Z26 56 6 ≤ 900 := hG26.pr 56 6
        have b28 : 0 ≤ Z26 56 7 ∧ Z26 56 7 ≤ 900 := hG26.pr 56 7
        have b29 : 0 ≤ Z26 56 9 ∧ Z26 56 9 ≤ 100 := hG26.pr 56 9
        have b30 : 0 ≤ Z26 60 61 ∧ Z26 60 61 ≤ 900 := by have hq := GI_ex hG26 60 61; replace hq : f60 (61 % 962) (Z26 60 61) := hq; unfold f60 at hq; omega
        have b31 : (-2147483648) ≤ Z26 60 61 ∧ Z26 60 61 ≤ 2147483647 := hG26.pr 60 61
        have b32 : (-2147483648) ≤ Z26 60 0 ∧ Z26 60 0 ≤ 2147483647 := hG26.pr 60 0
        have b33 : 0 ≤ Z26 60 1 ∧ Z26 60 1 ≤ 18 := by have hq := GI_ex hG26 60 1; replace hq : f60 (1 % 962) (Z26 60 1) := hq; unfold f60 at hq; omega
        have b34 : (-2147483648) ≤ Z26 60 1 ∧ Z26 60 1 ≤ 2147483647 := hG26.pr 60 1
        have b35 : 0 ≤ Z26 60 2 ∧ Z26 60 2 ≤ 18 := by have hq := GI_ex hG26 60 2; replace hq : f60 (2 % 962) (Z26 60 2) := hq; unfold f60 at hq; omega
        have b36 : (-2147483648) ≤ Z26 60 2 ∧ Z26 60 2 ≤ 2147483647 := hG26.pr 60 2
        refine mx_J.step (sn_176 5) (fun _ _ => rfl) ?_
        refine JcI (z := 13) (show mx_Sn _ _ 6 (mx_const (.int 13) 8) from sn_176 6) rfl ?_
        have gt := RM_is (k := 13) f25_0
        have gn := RM_N f25_0
        have eq38 : Z26 56 8 = Z 56 8 := ((hf26 56 8 rfl).trans (hf1 56 8 rfl))
        have b39 : 0 ≤ Z26 56 11 ∧ Z26 56 11 ≤ 4 := hG26.pr 56 11
        obtain ⟨z37, Z37, h37, hc37, hx37, hG37, hf37, b37⟩ := ct_165_56 (g0 := g0) (T := T) (N := N) (sg := sg25) (d := d + 5) (l := l) (D := D) (b0 := b0) (ad := ad) (Hb := Hb) (tau := tau) hx26 hG26 (show 0 ≤ 13 ∧ 13 ≤ 100 by omega) (show (Z26 56 6 ≤ Z26 56 7 ∧ Z26 56 7 ≤ Z26 56 8 ∧ (Z26 56 9 = 24 ∨ Z26 56 6 < Z26 56 7)) by first | omega | (simp only [eq38]; omega)) (show ¬ 13 = 24 by first | omega | (simp only [eq38]; omega)) f25_0
        try rw [eq38] at b37
        obtain ⟨br37, b37⟩ := b37
        have b40 : 0 ≤ Z37 56 6 ∧ Z37 56 6 ≤ 900 := hG37.pr 56 6
        have b41 : 0 ≤ Z37 56 7 ∧ Z37 56 7 ≤ 900 := hG37.pr 56 7
        have b42 : 0 ≤ Z37 56 9 ∧ Z37 56 9 ≤ 100 := hG37.pr 56 9
        have r37 := QR_g (k := 0) (c2 := 0) f25_5 (fun e => (hf37 56 11 rfl).symm.trans e) (fun i => hf37 60 i rfl) (fun e => by omega) (by decide)
        have rk37 : z37 = 1 → QR Z Z37 a0 1 1 := fun ez => QR_g (k := 1) f25_5 (fun e => (hf37 56 11 rfl).symm.trans e) (fun i => hf37 60 i rfl) (fun e => by omega) (by decide)
        refine Jcv hx26 (show mx_Sn _ _ 8 (mx_callv 165 2 12 11) from sn_176 8) a56 s56 hc37 rfl rfl rfl ?_
        refine Jif_eq (show mx_Sn _ _ 11 (mx_if_eq 29 14) from sn_176 11) (by omega) (fun q43 => ?_) (fun q43 => ?_)
        · skip
          have eq44 : Z37 56 11 = Z26 56 11 := (hf37 56 11 rfl)
          have eq45 : Z37 60 61 = Z26 60 61 := (hf37 60 61 rfl)
          have eq46 : Z37 60 0 = Z26 60 0 := (hf37 60 0 rfl)
          have eq47 : Z37 60 1 = Z26 60 1 := (hf37 60 1 rfl)
          have eq48 : Z37 60 2 = Z26 60 2 := (hf37 60 2 rfl)
          have eq49 : Z37 56 8 = Z 56 8 := ((hf37 56 8 rfl).trans ((hf26 56 8 rfl).trans (hf1 56 8 rfl)))
          have eq50 : Z37 56 11 = Z26 56 11 := (hf37 56 11 rfl)
          have eq51 : Z37 60 61 = Z26 60 61 := (hf37 60 61 rfl)
          have eq52 : Z37 60 0 = Z26 60 0 := (hf37 60 0 rfl)
          have eq53 : Z37 60 1 = Z26 60 1 := (hf37 60 1 rfl)
          have eq54 : Z37 60 2 = Z26 60 2 := (hf37 60 2 rfl)
          exact mx_J.ret (sn_176 29) (fun _ _ => rfl) (hP Z37 h37 hx37 hG37 (fr_tr (M := [(56, 6), (56, 7), (56, 9), (56, 10), (56, 11), (56, 12), (60, (-1))]) (fr_tr (M := [(56, 6), (56, 7), (56, 9), (56, 10), (56, 11), (56, 12), (60, (-1))]) (fr_tr (M := [(56, 6), (56, 7), (56, 9), (56, 10), (56, 11), (56, 12), (60, (-1))]) fr_rf (hf1) (M1 := []) rfl rfl) (hf26) rfl rfl) (hf37) rfl rfl) ⟨(RM_e br37 (((by assumption : boL T N (lvI T N x0) sg25 = boX T N (lvI T N x0) sg).symm.trans (boL_n (fun q => by have := gt.mpr q; omega))).trans (gEt_n (fun q => by have := gt.mpr q; omega)).symm)), (QR_le r37 (by decide)), by omega⟩)
        · skip
          have rc55 : RM g0 T N Z37 (gAd T N sg25) := RM_e br37 ((gEt_y (gt.mp (by omega))).symm)
          refine mx_J.step (sn_176 14) (fun _ _ => rfl) ?_
          refine mx_J.step (sn_176 15) (fun _ _ => rfl) ?_
          have eq57 : Z37 56 8 = Z 56 8 := ((hf37 56 8 rfl).trans ((hf26 56 8 rfl).trans (hf1 56 8 rfl)))
          have eq58 : Z37 56 11 = Z26 56 11 := (hf37 56 11 rfl)
          have eq59 : Z37 60 61 = Z26 60 61 := (hf37 60 61 rfl)
          have eq60 : Z37 60 0 = Z26 60 0 := (hf37 60 0 rfl)
          have eq61 : Z37 60 1 = Z26 60 1 := (hf37 60 1 rfl)
          have eq62 : Z37 60 2 = Z26 60 2 := (hf37 60 2 rfl)
          obtain ⟨Z56, h56, hc56, hx56, hG56, hf56, b56⟩ := ct_175_56_s (a0 := a0) (g0 := g0) (T := T) (N := N) (sg := gAd T N sg25) (d := d + 0) (l := l) (D := D) (b0 := b0) (ad := ad) (Hb := Hb) (tau := tau) hx37 hG37 (show 0 ≤ x0 ∧ x0 ≤ 6 by omega) (show (Z37 56 6 ≤ Z37 56 7 ∧ Z37 56 7 ≤ Z37 56 8 ∧ (Z37 56 9 = 24 ∨ Z37 56 6 < Z37 56 7)) by first | omega | (simp only [eq57, eq58, eq59, eq60, eq61, eq62]; omega)) (show Z37 60 61 ≤ Z37 56 6 by first | omega | (simp only [eq57, eq58, eq59, eq60, eq61, eq62]; omega)) (show a0 ≤ Z37 60 61 by first | omega | (simp only [eq57, eq58, eq59, eq60, eq61, eq62]; omega)) (show 0 ≤ a0 by first | omega | (simp only [eq57, eq58, eq59, eq60, eq61, eq62]; omega)) (show 0 ≤ g0 by first | omega | (simp only [eq57, eq58, eq59, eq60, eq61, eq62]; omega)) rc55 IH (by omega)
          try rw [eq57] at b56
          try rw [eq58] at b56
          try rw [eq59] at b56
          try rw [eq60] at b56
          try rw [eq61] at b56
          try rw [eq62] at b56
          obtain ⟨br56, b56⟩ := b56
          obtain ⟨bq56, b56⟩ := b56
          have b63 : 0 ≤ Z56 56 6 ∧ Z56 56 6 ≤ 900 := hG56.pr 56 6
          have b64 : 0 ≤ Z56 56 7 ∧ Z56 56 7 ≤ 900 := hG56.pr 56 7
          have b65 : 0 ≤ Z56 56 9 ∧ Z56 56 9 ≤ 100 := hG56.pr 56 9
          have b66 : 0 ≤ Z56 56 11 ∧ Z56 56 11 ≤ 4 := hG56.pr 56 11
          have b67 : 0 ≤ Z56 60 61 ∧ Z56 60 61 ≤ 900 := by have hq := GI_ex hG56 60 61; replace hq : f60 (61 % 962) (Z56 60 61) := hq; unfold f60 at hq; omega
          have b68 : (-2147483648) ≤ Z56 60 61 ∧ Z56 60 61 ≤ 2147483647 := hG56.pr 60 61
          have b69 : (-2147483648) ≤ Z56 60 0 ∧ Z56 60 0 ≤ 2147483647 := hG56.pr 60 0
          have b70 : 0 ≤ Z56 60 1 ∧ Z56 60 1 ≤ 18 := by have hq := GI_ex hG56 60 1; replace hq : f60 (1 % 962) (Z56 60 1) := hq; unfold f60 at hq; omega
          have b71 : (-2147483648) ≤ Z56 60 1 ∧ Z56 60 1 ≤ 2147483647 := hG56.pr 60 1
          have b72 : 0 ≤ Z56 60 2 ∧ Z56 60 2 ≤ 18 := by have hq := GI_ex hG56 60 2; replace hq : f60 (2 % 962) (Z56 60 2) := hq; unfold f60 at hq; omega
          have b73 : (-2147483648) ≤ Z56 60 2 ∧ Z56 60 2 ≤ 2147483647 := hG56.pr 60 2
          have r56 := QR_tr (d := 2) (c := 1) (rk37 (by omega)) bq56 (by decide) (by decide) (by decide)
          refine Jcv0 hx37 (show mx_Sn _ _ 16 (mx_callv 175 2 12 19) from sn_176 16) a56 s56 hc56 rfl rfl rfl ?_
          refine mx_J.step (sn_176 19) (fun _ _ => rfl) ?_
          refine JcI (z := 3007) (show mx_Sn _ _ 20 (mx_const (.int 3007) 23) from sn_176 20) rfl ?_
          have eq75 : Z56 56 8 = Z 56 8 := ((hf56 56 8 rfl).trans ((hf37 56 8 rfl).trans ((hf26 56 8 rfl).trans (hf1 56 8 rfl))))
          have rp74 := QR_n r56
          obtain ⟨Z74, h74, hc74, hx74, hG74, hf74, b74⟩ := ct_169_56_3007 (a0 := a0) (g0 := g0) (T := T) (N := N) (sg := unX T N (lvI T N x0) (gAd T N sg25)) (d := d + 11) (l := l) (D := D) (b0 := b0) (ad := ad) (Hb := Hb) (tau := tau) hx56 hG56  (show (Z56 56 11 = 0 → Z56 60 61 ≤ 899) by first | omega | (simp only [eq75]; omega)) (show a0 ≤ Z56 60 61 by first | omega | (simp only [eq75]; omega)) (show 0 ≤ a0 by first | omega | (simp only [eq75]; omega)) (show 0 ≤ g0 by first | omega | (simp only [eq75]; omega)) br56
          try rw [eq75] at b74
          obtain ⟨br74, b74⟩ := b74
          obtain ⟨bq74, b74⟩ := b74
          have b76 : 0 ≤ Z74 60 61 ∧ Z74 60 61 ≤ 900 := by have hq := GI_ex hG74 60 61; replace hq : f60 (61 % 962) (Z74 60 61) := hq; unfold f60 at hq; omega
          have b77 : (-2147483648) ≤ Z74 60 61 ∧ Z74 60 61 ≤ 2147483647 := hG74.pr 60 61
          have b78 : (-2147483648) ≤ Z74 60 0 ∧ Z74 60 0 ≤ 2147483647 := hG74.pr 60 0
          have b79 : 0 ≤ Z74 60 1 ∧ Z74 60 1 ≤ 18 := by have hq := GI_ex hG74 60 1; replace hq : f60 (1 % 962) (Z74 60 1) := hq; unfold f60 at hq; omega
          have b80 : (-2147483648) ≤ Z74 60 1 ∧ Z74 60 1 ≤ 2147483647 := hG74.pr 60 1
          have b81 : 0 ≤ Z74 60 2 ∧ Z74 60 2 ≤ 18 := by have hq := GI_ex hG74 60 2; replace hq : f60 (2 % 962) (Z74 60 2) := hq; unfold f60 at hq; omega
          have b82 : (-2147483648) ≤ Z74 60 2 ∧ Z74 60 2 ≤ 2147483647 := hG74.pr 60 2
          have rn74 := QR_n r56
          have r74 := QR_c (d2 := 1) (c2 := 0) r56 bq74 (by omega) (hf74 56 11 rfl) (hf74 56 6 rfl) (by decide) (by decide) (by decide)
          refine Jcv0 hx56 (show mx_Sn _ _ 23 (mx_callv 169 2 12 26) from sn_176 23) a56 s56 hc74 rfl rfl rfl ?_
          refine mx_J.step (sn_176 26) (fun _ _ => rfl) ?_
          have eq83 : Z74 56 6 = Z56 56 6 := (hf74 56 6 rfl)
          have eq84 : Z74 56 7 = Z56 56 7 := (hf74 56 7 rfl)
          have eq85 : Z74 56 6 = Z56 56 6 := (hf74 56 6 rfl)
          have eq86 : Z74 56 7 = Z56 56 7 := (hf74 56 7 rfl)
          have eq87 : Z74 56 9 = Z56 56 9 := (hf74 56 9 rfl)
          have eq88 : Z74 56 6 = Z56 56 6 := (hf74 56 6 rfl)
          have eq89 : Z74 56 6 = Z56 56 6 := (hf74 56 6 rfl)
          exact ih25 (gEm (1016) (unX T N (lvI T N x0) (gAd T N sg25))) Z74 h74 (by omega) br74 (by omega) (by omega) (by omega) (by omega) (QR_le r74 (by decide)) ((boL_s (lvI_go _) gn (gt.mp (by omega))).symm.trans (by assumption)) hx74 hG74 (fr_tr (M := [(56, 6), (56, 7), (56, 9), (56, 10), (56, 11), (56, 12), (60, (-1))]) (fr_tr (M := [(56, 6), (56, 7), (56, 9), (56, 10), (56, 11), (56, 12), (60, (-1))]) (fr_tr (M := [(56, 6), (56, 7), (56, 9), (56, 10), (56, 11), (56, 12), (60, (-1))]) (fr_tr (M := [(56, 6), (56, 7), (56, 9), (56, 10), (56, 11), (56, 12), (60, (-1))]) fr_rf (hf26) (M1 := []) rfl rfl) (hf37) rfl rfl) (hf56) rfl rfl) (hf74) rfl rfl)
    exact c5 (Int.toNat ((((Z 56 8 - Z1 56 6).toNat : Nat) : Int)) + 1) (unX T N (lvI T N x0) sg) Z1 h1 (by omega) br1 (by omega) (by omega) (by omega) (by omega) (QR_le r1 (by decide)) (rfl) hx1 hG1 fr_rf
theorem ct_176_56_s {l : Launch} {D : va_G} {b0 : Nat} {ad : Nat → Nat} {Hb : Heap} {tau : Nat → Int64} {d n s : Nat} {S : Nat → xS} {Z : xZ} {h : mx_H} {a0 : Int} {g0 : Int} {T : Int → Int} {N : Int} {sg : SS} (hx : XH n s S Z h) (hG : GI n S Z)  {x0 : Int} (p0 : 0 ≤ x0 ∧ x0 ≤ 6) (k0 : (Z 56 6 ≤ Z 56 7 ∧ Z 56 7 ≤ Z 56 8 ∧ (Z 56 9 = 24 ∨ Z 56 6 < Z 56 7))) (k1 : Z 60 61 ≤ Z 56 6) (k2 : a0 ≤ Z 60 61) (k3 : 0 ≤ a0) (k4 : 0 ≤ g0) (hr : RM g0 T N Z sg) {kk : Nat} (IH : RBnh l D b0 ad Hb tau kk x0) (hd : kk ≤ d) : ∃ (Z' : xZ) (h' : mx_H), mx_Ca (tB l D b0 ad Hb tau) (d + 13) 176 [.ref 56, xI x0] h (none, h') ∧ XH n s S Z' h' ∧ GI n S Z' ∧ fr' [(56, 6), (56, 7), (56, 9), (56, 10), (56, 11), (56, 12), (60, (-1))] Z Z' ∧ (RM g0 T N Z' (boX T N (lvI T N x0) sg) ∧ QR Z Z' a0 1 0 ∧ ((Z' 56 6 ≤ Z' 56 7 ∧ Z' 56 7 ≤ Z 56 8 ∧ (Z' 56 9 = 24 ∨ Z' 56 6 < Z' 56 7)) ∧ Z' 60 0 = Z 60 0 ∧ Z' 60 1 = Z 60 1 ∧ Z' 60 2 = Z 60 2 ∧ Z 56 6 ≤ Z' 56 6 ∧ Z 60 61 ≤ Z' 60 61 ∧ Z' 60 61 - Z 60 61 ≤ Z' 56 6 - Z 56 6)) := by
  obtain ⟨r, hca, Z', h', e, q⟩ := Jmt (B := tB l D b0 ad Hb tau) (M := mt_176) (mi := 176) (as := [.ref 56, xI x0]) (d := d + 12) (ls := [some (.ref 56), some (xI x0)]) rfl rfl rfl rfl rfl rfl (cw_176_56_s (l := l) (D := D) (b0 := b0) (ad := ad) (Hb := Hb) (tau := tau) (d := d) (Post := fun r => ∃ (Z' : xZ) (h' : mx_H), r = (none, h') ∧ XH n s S Z' h' ∧ GI n S Z' ∧ fr' [(56, 6), (56, 7), (56, 9), (56, 10), (56, 11), (56, 12), (60, (-1))] Z Z' ∧ (RM g0 T N Z' (boX T N (lvI T N x0) sg) ∧ QR Z Z' a0 1 0 ∧ ((Z' 56 6 ≤ Z' 56 7 ∧ Z' 56 7 ≤ Z 56 8 ∧ (Z' 56 9 = 24 ∨ Z' 56 6 < Z' 56 7)) ∧ Z' 60 0 = Z 60 0 ∧ Z' 60 1 = Z 60 1 ∧ Z' 60 2 = Z 60 2 ∧ Z 56 6 ≤ Z' 56 6 ∧ Z 60 61 ≤ Z' 60 61 ∧ Z' 60 61 - Z 60 61 ≤ Z' 56 6 - Z 56 6))) hx hG p0 k0 k1 k2 k3 k4 hr IH hd (fun Z' h' q1 q2 q3 q4 => ⟨Z', h', rfl, q1, q2, q3, q4⟩))
  subst e; exact ⟨Z', h', hca, q⟩
set_option maxHeartbeats 8000000 in
set_option maxRecDepth 100000 in
theorem cw_177_56_s {l : Launch} {D : va_G} {b0 : Nat} {ad : Nat → Nat} {Hb : Heap} {tau : Nat → Int64} {d n s : Nat} {S : Nat → xS} {Z : xZ} {h : mx_H} {Post : mx_R → Prop} {a0 : Int} {g0 : Int} {T : Int → Int} {N : Int} {sg : SS} (hx : XH n s S Z h) (hG : GI n S Z)  {x0 : Int} (p0 : 0 ≤ x0 ∧ x0 ≤ 6) (k0 : (Z 56 6 ≤ Z 56 7 ∧ Z 56 7 ≤ Z 56 8 ∧ (Z 56 9 = 24 ∨ Z 56 6 < Z 56 7))) (k1 : Z 60 61 ≤ Z 56 6) (k2 : a0 ≤ Z 60 61) (k3 : 0 ≤ a0) (k4 : 0 ≤ g0) (hr : RM g0 T N Z sg) {kk : Nat} (IH : RBnh l D b0 ad Hb tau kk x0) (hd : kk ≤ d) (hP : ∀ (Z' : xZ) (h' : mx_H), XH n s S Z' h' → GI n S Z' → fr' [(56, 6), (56, 7), (56, 9), (56, 10), (56, 11), (56, 12), (60, (-1))] Z Z' → RM g0 T N Z' (trX T N (lvI T N x0) sg) ∧ QR Z Z' a0 1 0 ∧ ((Z' 56 6 ≤ Z' 56 7 ∧ Z' 56 7 ≤ Z 56 8 ∧ (Z' 56 9 = 24 ∨ Z' 56 6 < Z' 56 7)) ∧ Z' 60 0 = Z 60 0 ∧ Z' 60 1 = Z 60 1 ∧ Z' 60 2 = Z 60 2 ∧ Z 56 6 ≤ Z' 56 6 ∧ Z 60 61 ≤ Z' 60 61 ∧ Z' 60 61 - Z 60 61 ≤ Z' 56 6 - Z 56 6) → Post (none, h')) : mx_J (tB l D b0 ad Hb tau) mt_177 (d + 13) 0 [some (.ref 56), some (xI x0)] [] h Post := by
    have a56 : 56 < n := lt83 (GI_n hG) rfl
    have s56 : S 56 = .inl (12, [0, 2, 2, 2, 2, 0, 0, 0, 0, 0, 0, 0, 0, 0, 0, 2, 2, 2, 0, 2, 2, 2, 0, 0, 2, 2, 2, 2, 2, 2, 0, 0, 2, 2, 2, 2, 2, 2, 2, 2, 2, 2]) := GI_s hG 56 rfl
    refine mx_J.step (sn_177 0) (fun _ _ => rfl) ?_
    refine mx_J.step (sn_177 1) (fun _ _ => rfl) ?_
    have b2 : 0 ≤ Z 56 6 ∧ Z 56 6 ≤ 900 := hG.pr 56 6
    have b3 : 0 ≤ Z 56 7 ∧ Z 56 7 ≤ 900 := hG.pr 56 7
    have b4 : 0 ≤ Z 56 8 ∧ Z 56 8 ≤ 900 := hG.pr 56 8
    have b5 : 0 ≤ Z 56 9 ∧ Z 56 9 ≤ 100 := hG.pr 56 9
    have b6 : 0 ≤ Z 56 11 ∧ Z 56 11 ≤ 4 := hG.pr 56 11
    have b7 : 0 ≤ Z 60 61 ∧ Z 60 61 ≤ 900 := by have hq := GI_ex hG 60 61; replace hq : f60 (61 % 962) (Z 60 61) := hq; unfold f60 at hq; omega
    have b8 : (-2147483648) ≤ Z 60 61 ∧ Z 60 61 ≤ 2147483647 := hG.pr 60 61
    have b9 : (-2147483648) ≤ Z 60 0 ∧ Z 60 0 ≤ 2147483647 := hG.pr 60 0
    have b10 : 0 ≤ Z 60 1 ∧ Z 60 1 ≤ 18 := by have hq := GI_ex hG 60 1; replace hq : f60 (1 % 962) (Z 60 1) := hq; unfold f60 at hq; omega
    have b11 : (-2147483648) ≤ Z 60 1 ∧ Z 60 1 ≤ 2147483647 := hG.pr 60 1
    have b12 : 0 ≤ Z 60 2 ∧ Z 60 2 ≤ 18 := by have hq := GI_ex hG 60 2; replace hq : f60 (2 % 962) (Z 60 2) := hq; unfold f60 at hq; omega
    have b13 : (-2147483648) ≤ Z 60 2 ∧ Z 60 2 ≤ 2147483647 := hG.pr 60 2
    obtain ⟨Z1, h1, hc1, hx1, hG1, hf1, b1⟩ := ct_176_56_s (a0 := a0) (g0 := g0) (T := T) (N := N) (sg := sg) (d := d + 0) (l := l) (D := D) (b0 := b0) (ad := ad) (Hb := Hb) (tau := tau) hx hG (show 0 ≤ x0 ∧ x0 ≤ 6 by omega) (show (Z 56 6 ≤ Z 56 7 ∧ Z 56 7 ≤ Z 56 8 ∧ (Z 56 9 = 24 ∨ Z 56 6 < Z 56 7)) by omega) (show Z 60 61 ≤ Z 56 6 by omega) (show a0 ≤ Z 60 61 by omega) (show 0 ≤ a0 by omega) (show 0 ≤ g0 by omega) hr IH (by omega)
    obtain ⟨br1, b1⟩ := b1
    obtain ⟨bq1, b1⟩ := b1
    have b14 : 0 ≤ Z1 56 6 ∧ Z1 56 6 ≤ 900 := hG1.pr 56 6
    have b15 : 0 ≤ Z1 56 7 ∧ Z1 56 7 ≤ 900 := hG1.pr 56 7
    have b16 : 0 ≤ Z1 56 9 ∧ Z1 56 9 ≤ 100 := hG1.pr 56 9
    have b17 : 0 ≤ Z1 56 11 ∧ Z1 56 11 ≤ 4 := hG1.pr 56 11
    have b18 : 0 ≤ Z1 60 61 ∧ Z1 60 61 ≤ 900 := by have hq := GI_ex hG1 60 61; replace hq : f60 (61 % 962) (Z1 60 61) := hq; unfold f60 at hq; omega
    have b19 : (-2147483648) ≤ Z1 60 61 ∧ Z1 60 61 ≤ 2147483647 := hG1.pr 60 61
    have b20 : (-2147483648) ≤ Z1 60 0 ∧ Z1 60 0 ≤ 2147483647 := hG1.pr 60 0
    have b21 : 0 ≤ Z1 60 1 ∧ Z1 60 1 ≤ 18 := by have hq := GI_ex hG1 60 1; replace hq : f60 (1 % 962) (Z1 60 1) := hq; unfold f60 at hq; omega
    have b22 : (-2147483648) ≤ Z1 60 1 ∧ Z1 60 1 ≤ 2147483647 := hG1.pr 60 1
    have b23 : 0 ≤ Z1 60 2 ∧ Z1 60 2 ≤ 18 := by have hq := GI_ex hG1 60 2; replace hq : f60 (2 % 962) (Z1 60 2) := hq; unfold f60 at hq; omega
    have b24 : (-2147483648) ≤ Z1 60 2 ∧ Z1 60 2 ≤ 2147483647 := hG1.pr 60 2
    have r1 := QR_tr (d := 1) (c := 0) (QR_rf (Z := Z) (a := a0)) bq1 (by decide) (by decide) (by decide)
    refine Jcv0 hx (show mx_Sn _ _ 2 (mx_callv 176 2 12 5) from sn_177 2) a56 s56 hc1 rfl rfl rfl ?_
    have c5 : ∀ (m25 : Nat) (sg25 : SS) (Z26 : xZ) (h26 : mx_H), (((Z 56 8 - Z26 56 6).toNat : Nat) : Int) < (m25 : Int) → RM g0 T N Z26 sg25 → (Z26 56 6 ≤ Z26 56 7 ∧ Z26 56 7 ≤ Z 56 8) → (Z26 56 9 = 24 ∨ Z26 56 6 < Z26 56 7) → (Z 56 6 ≤ Z26 56 6 ∧ Z 60 61 ≤ Z26 60 61 ∧ Z26 60 61 - Z 60 61 ≤ Z26 56 6 - Z 56 6) → (Z26 60 0 = Z 60 0 ∧ Z26 60 1 = Z 60 1 ∧ Z26 60 2 = Z 60 2) → QR Z Z26 a0 1 0 → trL T N (lvI T N x0) sg25 = trX T N (lvI T N x0) sg → XH n s S Z26 h26 → GI n S Z26 → fr' [(56, 6), (56, 7), (56, 9), (56, 10), (56, 11), (56, 12), (60, (-1))] Z1 Z26 → mx_J (tB l D b0 ad Hb tau) mt_177 (d + 13) 5 [some (.ref 56), some (xI x0)] [] h26 Post := by
      intro m25
      induction m25 with
      | zero => intro sg25 Z26 h26 q25 f25_0 f25_1 f25_2 f25_3 f25_4 f25_5 f25_6 hx26 hG26 hf26; exact absurd q25 (by omega)
      | succ m25 ih25 =>
        intro sg25 Z26 h26 q25 f25_0 f25_1 f25_2 f25_3 f25_4 f25_5 f25_6 hx26 hG26 hf26
        have b27 : 0 ≤ Z26 56 6 ∧ Z26 56 6 ≤ 900 := hG26.pr 56 6
        have b28 : 0 ≤ Z26 56 7 ∧ Z26 56 7 ≤ 900 := hG26.pr 56 7
        have b29 : 0 ≤ Z26 56 9 ∧ Z26 56 9 ≤ 100 := hG26.pr 56 9
        have b30 : 0 ≤ Z26 60 61 ∧ Z26 60 61 ≤ 900 := by have hq := GI_ex hG26 60 61; replace hq : f60 (61 % 962) (Z26 60 61) := hq; unfold f60 at hq; omega
        have b31 : (-2147483648) ≤ Z26 60 61 ∧ Z26 60 61 ≤ 2147483647 := hG26.pr 60 61
        have b32 : (-2147483648) ≤ Z26 60 0 ∧ Z26 60 0 ≤ 2147483647 := hG26.pr 60 0
        have b33 : 0 ≤ Z26 60 1 ∧ Z26 60 1 ≤ 18 := by have hq := GI_ex hG26 60 1; replace hq : f60 (1 % 962) (Z26 60 1) := hq; unfold f60 at hq; omega
        have b34 : (-2147483648) ≤ Z26 60 1 ∧ Z26 60 1 ≤ 2147483647 := hG26.pr 60 1
        have b35 : 0 ≤ Z26 60 2 ∧ Z26 60 2 ≤ 18 := by have hq := GI_ex hG26 60 2; replace hq : f60 (2 % 962) (Z26 60 2) := hq; unfold f60 at hq; omega
        have b36 : (-2147483648) ≤ Z26 60 2 ∧ Z26 60 2 ≤ 2147483647 := hG26.pr 60 2
        refine mx_J.step (sn_177 5) (fun _ _ => rfl) ?_
        refine JcI (z := 14) (show mx_Sn _ _ 6 (mx_const (.int 14) 8) from sn_177 6) rfl ?_
        have gt := RM_is (k := 14) f25_0
        have gn := RM_N f25_0
        have eq38 : Z26 56 8 = Z 56 8 := ((hf26 56 8 rfl).trans (hf1 56 8 rfl))
        have b39 : 0 ≤ Z26 56 11 ∧ Z26 56 11 ≤ 4 := hG26.pr 56 11
        obtain ⟨z37, Z37, h37, hc37, hx37, hG37, hf37, b37⟩ := ct_165_56 (g0 := g0) (T := T) (N := N) (sg := sg25) (d := d + 6) (l := l) (D := D) (b0 := b0) (ad := ad) (Hb := Hb) (tau := tau) hx26 hG26 (show 0 ≤ 14 ∧ 14 ≤ 100 by omega) (show (Z26 56 6 ≤ Z26 56 7 ∧ Z26 56 7 ≤ Z26 56 8 ∧ (Z26 56 9 = 24 ∨ Z26 56 6 < Z26 56 7)) by first | omega | (simp only [eq38]; omega)) (show ¬ 14 = 24 by first | omega | (simp only [eq38]; omega)) f25_0
        try rw [eq38] at b37
        obtain ⟨br37, b37⟩ := b37
        have b40 : 0 ≤ Z37 56 6 ∧ Z37 56 6 ≤ 900 := hG37.pr 56 6
        have b41 : 0 ≤ Z37 56 7 ∧ Z37 56 7 ≤ 900 := hG37.pr 56 7
        have b42 : 0 ≤ Z37 56 9 ∧ Z37 56 9 ≤ 100 := hG37.pr 56 9
        have r37 := QR_g (k := 0) (c2 := 0) f25_5 (fun e => (hf37 56 11 rfl).symm.trans e) (fun i => hf37 60 i rfl) (fun e => by omega) (by decide)
        have rk37 : z37 = 1 → QR Z Z37 a0 1 1 := fun ez => QR_g (k := 1) f25_5 (fun e => (hf37 56 11 rfl).symm.trans e) (fun i => hf37 60 i rfl) (fun e => by omega) (by decide)
        refine Jcv hx26 (show mx_Sn _ _ 8 (mx_callv 165 2 12 11) from sn_177 8) a56 s56 hc37 rfl rfl rfl ?_
        refine Jif_eq (show mx_Sn _ _ 11 (mx_if_eq 29 14) from sn_177 11) (by omega) (fun q43 => ?_) (fun q43 => ?_)
        · skip
          have eq44 : Z37 56 11 = Z26 56 11 := (hf37 56 11 rfl)
          have eq45 : Z37 60 61 = Z26 60 61 := (hf37 60 61 rfl)
          have eq46 : Z37 60 0 = Z26 60 0 := (hf37 60 0 rfl)
          have eq47 : Z37 60 1 = Z26 60 1 := (hf37 60 1 rfl)
          have eq48 : Z37 60 2 = Z26 60 2 := (hf37 60 2 rfl)
          have eq49 : Z37 56 8 = Z 56 8 := ((hf37 56 8 rfl).trans ((hf26 56 8 rfl).trans (hf1 56 8 rfl)))
          have eq50 : Z37 56 11 = Z26 56 11 := (hf37 56 11 rfl)
          have eq51 : Z37 60 61 = Z26 60 61 := (hf37 60 61 rfl)
          have eq52 : Z37 60 0 = Z26 60 0 := (hf37 60 0 rfl)
          have eq53 : Z37 60 1 = Z26 60 1 := (hf37 60 1 rfl)
          have eq54 : Z37 60 2 = Z26 60 2 := (hf37 60 2 rfl)
          exact mx_J.ret (sn_177 29) (fun _ _ => rfl) (hP Z37 h37 hx37 hG37 (fr_tr (M := [(56, 6), (56, 7), (56, 9), (56, 10), (56, 11), (56, 12), (60, (-1))]) (fr_tr (M := [(56, 6), (56, 7), (56, 9), (56, 10), (56, 11), (56, 12), (60, (-1))]) (fr_tr (M := [(56, 6), (56, 7), (56, 9), (56, 10), (56, 11), (56, 12), (60, (-1))]) fr_rf (hf1) (M1 := []) rfl rfl) (hf26) rfl rfl) (hf37) rfl rfl) ⟨(RM_e br37 (((by assumption : trL T N (lvI T N x0) sg25 = trX T N (lvI T N x0) sg).symm.trans (trL_n (fun q => by have := gt.mpr q; omega))).trans (gEt_n (fun q => by have := gt.mpr q; omega)).symm)), (QR_le r37 (by decide)), by omega⟩)
        · skip
          have rc55 : RM g0 T N Z37 (gAd T N sg25) := RM_e br37 ((gEt_y (gt.mp (by omega))).symm)
          refine mx_J.step (sn_177 14) (fun _ _ => rfl) ?_
          refine mx_J.step (sn_177 15) (fun _ _ => rfl) ?_
          have eq57 : Z37 56 8 = Z 56 8 := ((hf37 56 8 rfl).trans ((hf26 56 8 rfl).trans (hf1 56 8 rfl)))
          have eq58 : Z37 56 11 = Z26 56 11 := (hf37 56 11 rfl)
          have eq59 : Z37 60 61 = Z26 60 61 := (hf37 60 61 rfl)
          have eq60 : Z37 60 0 = Z26 60 0 := (hf37 60 0 rfl)
          have eq61 : Z37 60 1 = Z26 60 1 := (hf37 60 1 rfl)
          have eq62 : Z37 60 2 = Z26 60 2 := (hf37 60 2 rfl)
          obtain ⟨Z56, h56, hc56, hx56, hG56, hf56, b56⟩ := ct_176_56_s (a0 := a0) (g0 := g0) (T := T) (N := N) (sg := gAd T N sg25) (d := d + 0) (l := l) (D := D) (b0 := b0) (ad := ad) (Hb := Hb) (tau := tau) hx37 hG37 (show 0 ≤ x0 ∧ x0 ≤ 6 by omega) (show (Z37 56 6 ≤ Z37 56 7 ∧ Z37 56 7 ≤ Z37 56 8 ∧ (Z37 56 9 = 24 ∨ Z37 56 6 < Z37 56 7)) by first | omega | (simp only [eq57, eq58, eq59, eq60, eq61, eq62]; omega)) (show Z37 60 61 ≤ Z37 56 6 by first | omega | (simp only [eq57, eq58, eq59, eq60, eq61, eq62]; omega)) (show a0 ≤ Z37 60 61 by first | omega | (simp only [eq57, eq58, eq59, eq60, eq61, eq62]; omega)) (show 0 ≤ a0 by first | omega | (simp only [eq57, eq58, eq59, eq60, eq61, eq62]; omega)) (show 0 ≤ g0 by first | omega | (simp only [eq57, eq58, eq59, eq60, eq61, eq62]; omega)) rc55 IH (by omega)
          try rw [eq57] at b56
          try rw [eq58] at b56
          try rw [eq59] at b56
          try rw [eq60] at b56
          try rw [eq61] at b56
          try rw [eq62] at b56
          obtain ⟨br56, b56⟩ := b56
          obtain ⟨bq56, b56⟩ := b56
          have b63 : 0 ≤ Z56 56 6 ∧ Z56 56 6 ≤ 900 := hG56.pr 56 6
          have b64 : 0 ≤ Z56 56 7 ∧ Z56 56 7 ≤ 900 := hG56.pr 56 7
          have b65 : 0 ≤ Z56 56 9 ∧ Z56 56 9 ≤ 100 := hG56.pr 56 9
          have b66 : 0 ≤ Z56 56 11 ∧ Z56 56 11 ≤ 4 := hG56.pr 56 11
          have b67 : 0 ≤ Z56 60 61 ∧ Z56 60 61 ≤ 900 := by have hq := GI_ex hG56 60 61; replace hq : f60 (61 % 962) (Z56 60 61) := hq; unfold f60 at hq; omega
          have b68 : (-2147483648) ≤ Z56 60 61 ∧ Z56 60 61 ≤ 2147483647 := hG56.pr 60 61
          have b69 : (-2147483648) ≤ Z56 60 0 ∧ Z56 60 0 ≤ 2147483647 := hG56.pr 60 0
          have b70 : 0 ≤ Z56 60 1 ∧ Z56 60 1 ≤ 18 := by have hq := GI_ex hG56 60 1; replace hq : f60 (1 % 962) (Z56 60 1) := hq; unfold f60 at hq; omega
          have b71 : (-2147483648) ≤ Z56 60 1 ∧ Z56 60 1 ≤ 2147483647 := hG56.pr 60 1
          have b72 : 0 ≤ Z56 60 2 ∧ Z56 60 2 ≤ 18 := by have hq := GI_ex hG56 60 2; replace hq : f60 (2 % 962) (Z56 60 2) := hq; unfold f60 at hq; omega
          have b73 : (-2147483648) ≤ Z56 60 2 ∧ Z56 60 2 ≤ 2147483647 := hG56.pr 60 2
          have r56 := QR_tr (d := 2) (c := 1) (rk37 (by omega)) bq56 (by decide) (by decide) (by decide)
          refine Jcv0 hx37 (show mx_Sn _ _ 16 (mx_callv 176 2 12 19) from sn_177 16) a56 s56 hc56 rfl rfl rfl ?_
          refine mx_J.step (sn_177 19) (fun _ _ => rfl) ?_
          refine JcI (z := 3008) (show mx_Sn _ _ 20 (mx_const (.int 3008) 23) from sn_177 20) rfl ?_
          have eq75 : Z56 56 8 = Z 56 8 := ((hf56 56 8 rfl).trans ((hf37 56 8 rfl).trans ((hf26 56 8 rfl).trans (hf1 56 8 rfl))))
          have rp74 := QR_n r56
          obtain ⟨Z74, h74, hc74, hx74, hG74, hf74, b74⟩ := ct_169_56_3008 (a0 := a0) (g0 := g0) (T := T) (N := N) (sg := boX T N (lvI T N x0) (gAd T N sg25)) (d := d + 12) (l := l) (D := D) (b0 := b0) (ad := ad) (Hb := Hb) (tau := tau) hx56 hG56  (show (Z56 56 11 = 0 → Z56 60 61 ≤ 899) by first | omega | (simp only [eq75]; omega)) (show a0 ≤ Z56 60 61 by first | omega | (simp only [eq75]; omega)) (show 0 ≤ a0 by first | omega | (simp only [eq75]; omega)) (show 0 ≤ g0 by first | omega | (simp only [eq75]; omega)) br56
          try rw [eq75] at b74
          obtain ⟨br74, b74⟩ := b74
          obtain ⟨bq74, b74⟩ := b74
          have b76 : 0 ≤ Z74 60 61 ∧ Z74 60 61 ≤ 900 := by have hq := GI_ex hG74 60 61; replace hq : f60 (61 % 962) (Z74 60 61) := hq; unfold f60 at hq; omega
          have b77 : (-2147483648) ≤ Z74 60 61 ∧ Z74 60 61 ≤ 2147483647 := hG74.pr 60 61
          have b78 : (-2147483648) ≤ Z74 60 0 ∧ Z74 60 0 ≤ 2147483647 := hG74.pr 60 0
          have b79 : 0 ≤ Z74 60 1 ∧ Z74 60 1 ≤ 18 := by have hq := GI_ex hG74 60 1; replace hq : f60 (1 % 962) (Z74 60 1) := hq; unfold f60 at hq; omega
          have b80 : (-2147483648) ≤ Z74 60 1 ∧ Z74 60 1 ≤ 2147483647 := hG74.pr 60 1
          have b81 : 0 ≤ Z74 60 2 ∧ Z74 60 2 ≤ 18 := by have hq := GI_ex hG74 60 2; replace hq : f60 (2 % 962) (Z74 60 2) := hq; unfold f60 at hq; omega
          have b82 : (-2147483648) ≤ Z74 60 2 ∧ Z74 60 2 ≤ 2147483647 := hG74.pr 60 2
          have rn74 := QR_n r56
          have r74 := QR_c (d2 := 1) (c2 := 0) r56 bq74 (by omega) (hf74 56 11 rfl) (hf74 56 6 rfl) (by decide) (by decide) (by decide)
          refine Jcv0 hx56 (show mx_Sn _ _ 23 (mx_callv 169 2 12 26) from sn_177 23) a56 s56 hc74 rfl rfl rfl ?_
          refine mx_J.step (sn_177 26) (fun _ _ => rfl) ?_
          have eq83 : Z74 56 6 = Z56 56 6 := (hf74 56 6 rfl)
          have eq84 : Z74 56 7 = Z56 56 7 := (hf74 56 7 rfl)
          have eq85 : Z74 56 6 = Z56 56 6 := (hf74 56 6 rfl)
          have eq86 : Z74 56 7 = Z56 56 7 := (hf74 56 7 rfl)
          have eq87 : Z74 56 9 = Z56 56 9 := (hf74 56 9 rfl)
          have eq88 : Z74 56 6 = Z56 56 6 := (hf74 56 6 rfl)
          have eq89 : Z74 56 6 = Z56 56 6 := (hf74 56 6 rfl)
          exact ih25 (gEm (1017) (boX T N (lvI T N x0) (gAd T N sg25))) Z74 h74 (by omega) br74 (by omega) (by omega) (by omega) (by omega) (QR_le r74 (by decide)) ((trL_s (lvI_go _) gn (gt.mp (by omega))).symm.trans (by assumption)) hx74 hG74 (fr_tr (M := [(56, 6), (56, 7), (56, 9), (56, 10), (56, 11), (56, 12), (60, (-1))]) (fr_tr (M := [(56, 6), (56, 7), (56, 9), (56, 10), (56, 11), (56, 12), (60, (-1))]) (fr_tr (M := [(56, 6), (56, 7), (56, 9), (56, 10), (56, 11), (56, 12), (60, (-1))]) (fr_tr (M := [(56, 6), (56, 7), (56, 9), (56, 10), (56, 11), (56, 12), (60, (-1))]) fr_rf (hf26) (M1 := []) rfl rfl) (hf37) rfl rfl) (hf56) rfl rfl) (hf74) rfl rfl)
    exact c5 (Int.toNat ((((Z 56 8 - Z1 56 6).toNat : Nat) : Int)) + 1) (boX T N (lvI T N x0) sg) Z1 h1 (by omega) br1 (by omega) (by omega) (by omega) (by omega) (QR_le r1 (by decide)) (rfl) hx1 hG1 fr_rf
theorem ct_177_56_s {l : Launch} {D : va_G} {b0 : Nat} {ad : Nat → Nat} {Hb : Heap} {tau : Nat → Int64} {d n s : Nat} {S : Nat → xS} {Z : xZ} {h : mx_H} {a0 : Int} {g0 : Int} {T : Int → Int} {N : Int} {sg : SS} (hx : XH n s S Z h) (hG : GI n S Z)  {x0 : Int} (p0 : 0 ≤ x0 ∧ x0 ≤ 6) (k0 : (Z 56 6 ≤ Z 56 7 ∧ Z 56 7 ≤ Z 56 8 ∧ (Z 56 9 = 24 ∨ Z 56 6 < Z 56 7))) (k1 : Z 60 61 ≤ Z 56 6) (k2 : a0 ≤ Z 60 61) (k3 : 0 ≤ a0) (k4 : 0 ≤ g0) (hr : RM g0 T N Z sg) {kk : Nat} (IH : RBnh l D b0 ad Hb tau kk x0) (hd : kk ≤ d) : ∃ (Z' : xZ) (h' : mx_H), mx_Ca (tB l D b0 ad Hb tau) (d + 14) 177 [.ref 56, xI x0] h (none, h') ∧ XH n s S Z' h' ∧ GI n S Z' ∧ fr' [(56, 6), (56, 7), (56, 9), (56, 10), (56, 11), (56, 12), (60, (-1))] Z Z' ∧ (RM g0 T N Z' (trX T N (lvI T N x0) sg) ∧ QR Z Z' a0 1 0 ∧ ((Z' 56 6 ≤ Z' 56 7 ∧ Z' 56 7 ≤ Z 56 8 ∧ (Z' 56 9 = 24 ∨ Z' 56 6 < Z' 56 7)) ∧ Z' 60 0 = Z 60 0 ∧ Z' 60 1 = Z 60 1 ∧ Z' 60 2 = Z 60 2 ∧ Z 56 6 ≤ Z' 56 6 ∧ Z 60 61 ≤ Z' 60 61 ∧ Z' 60 61 - Z 60 61 ≤ Z' 56 6 - Z 56 6)) := by
  obtain ⟨r, hca, Z', h', e, q⟩ := Jmt (B := tB l D b0 ad Hb tau) (M := mt_177) (mi := 177) (as := [.ref 56, xI x0]) (d := d + 13) (ls := [some (.ref 56), some (xI x0)]) rfl rfl rfl rfl rfl rfl (cw_177_56_s (l := l) (D := D) (b0 := b0) (ad := ad) (Hb := Hb) (tau := tau) (d := d) (Post := fun r => ∃ (Z' : xZ) (h' : mx_H), r = (none, h') ∧ XH n s S Z' h' ∧ GI n S Z' ∧ fr' [(56, 6), (56, 7), (56, 9), (56, 10), (56, 11), (56, 12), (60, (-1))] Z Z' ∧ (RM g0 T N Z' (trX T N (lvI T N x0) sg) ∧ QR Z Z' a0 1 0 ∧ ((Z' 56 6 ≤ Z' 56 7 ∧ Z' 56 7 ≤ Z 56 8 ∧ (Z' 56 9 = 24 ∨ Z' 56 6 < Z' 56 7)) ∧ Z' 60 0 = Z 60 0 ∧ Z' 60 1 = Z 60 1 ∧ Z' 60 2 = Z 60 2 ∧ Z 56 6 ≤ Z' 56 6 ∧ Z 60 61 ≤ Z' 60 61 ∧ Z' 60 61 - Z 60 61 ≤ Z' 56 6 - Z 56 6))) hx hG p0 k0 k1 k2 k3 k4 hr IH hd (fun Z' h' q1 q2 q3 q4 => ⟨Z', h', rfl, q1, q2, q3, q4⟩))
  subst e; exact ⟨Z', h', hca, q⟩
theorem lev_n {l : Launch} {D : va_G} {b0 : Nat} {ad : Nat → Nat} {Hb : Heap} {tau : Nat → Int64} {x0 : Int} (p0 : 0 ≤ x0 ∧ x0 ≤ 6) {kk : Nat} (IH : RBnh l D b0 ad Hb tau kk x0) : RBn l D b0 ad Hb tau (kk + 14) x0 := by
  refine ⟨?_, ?_, ?_⟩
  · intro a0 g0 T N sg d n s S Z h hd hx hG k0 k1 k2 k3 k4 hr
    obtain ⟨e, rfl⟩ : ∃ e, d = e + 11 := ⟨d - 11, by omega⟩
    obtain ⟨Z', h', hca, q1, q2, q3, q4⟩ := ct_174_56_s (a0 := a0) (g0 := g0) (T := T) (N := N) (sg := sg) (d := e) (l := l) (D := D) (b0 := b0) (ad := ad) (Hb := Hb) (tau := tau) hx hG p0 k0 k1 k2 k3 k4 hr IH (by omega)
    exact ⟨Z', h', hca, q1, q2, fr_tr (M1 := []) fr_rf q3 rfl rfl, q4⟩
  · intro a0 g0 T N sg d n s S Z h hd hx hG k0 k1 k2 k3 k4 hr
    obtain ⟨e, rfl⟩ : ∃ e, d = e + 12 := ⟨d - 12, by omega⟩
    obtain ⟨Z', h', hca, q1, q2, q3, q4⟩ := ct_175_56_s (a0 := a0) (g0 := g0) (T := T) (N := N) (sg := sg) (d := e) (l := l) (D := D) (b0 := b0) (ad := ad) (Hb := Hb) (tau := tau) hx hG p0 k0 k1 k2 k3 k4 hr IH (by omega)
    exact ⟨Z', h', hca, q1, q2, fr_tr (M1 := []) fr_rf q3 rfl rfl, q4⟩
  · intro a0 g0 T N sg d n s S Z h hd hx hG k0 k1 k2 k3 k4 hr
    obtain ⟨e, rfl⟩ : ∃ e, d = e + 14 := ⟨d - 14, by omega⟩
    obtain ⟨Z', h', hca, q1, q2, q3, q4⟩ := ct_177_56_s (a0 := a0) (g0 := g0) (T := T) (N := N) (sg := sg) (d := e) (l := l) (D := D) (b0 := b0) (ad := ad) (Hb := Hb) (tau := tau) hx hG p0 k0 k1 k2 k3 k4 hr IH (by omega)
    exact ⟨Z', h', hca, q1, q2, fr_tr (M1 := []) fr_rf q3 rfl rfl, q4⟩
theorem all_n {l : Launch} {D : va_G} {b0 : Nat} {ad : Nat → Nat} {Hb : Heap} {tau : Nat → Int64} : ∀ (e : Nat) (x0 : Int), x0 = 6 - (e : Int) → 0 ≤ x0 → RBn l D b0 ad Hb tau (14 * (e + 1)) x0
  | 0, x0, h, h0 => (show RBn l D b0 ad Hb tau (0 + 14) x0 from lev_n (kk := 0) (by omega) (fun q => absurd q (by omega)))
  | e + 1, x0, h, h0 => (show RBn l D b0 ad Hb tau (14 * (e + 1) + 14) x0 from lev_n (kk := 14 * (e + 1)) (by omega) (fun _ => all_n e (x0 + 1) (by omega) (by omega)))
theorem ct_174_56_i0r {l : Launch} {D : va_G} {b0 : Nat} {ad : Nat → Nat} {Hb : Heap} {tau : Nat → Int64} {a0 : Int} {g0 : Int} {T : Int → Int} {N : Int} {sg : SS} {d n s : Nat} {S : Nat → xS} {Z : xZ} {h : mx_H} (hx : XH n s S Z h) (hG : GI n S Z) (k0 : (Z 56 6 ≤ Z 56 7 ∧ Z 56 7 ≤ Z 56 8 ∧ (Z 56 9 = 24 ∨ Z 56 6 < Z 56 7))) (k1 : Z 60 61 ≤ Z 56 6) (k2 : a0 ≤ Z 60 61) (k3 : 0 ≤ a0) (k4 : 0 ≤ g0) (hr : RM g0 T N Z (sg)) : ∃ (Z' : xZ) (h' : mx_H), mx_Ca (tB l D b0 ad Hb tau) (d + 98) 174 [.ref 56, xI 0] h (none, h') ∧ XH n s S Z' h' ∧ GI n S Z' ∧ fr' [(56, 6), (56, 7), (56, 9), (56, 10), (56, 11), (56, 12), (60, (-1))] Z Z' ∧ (RM g0 T N Z' (smX T N (lvI T N 0) sg) ∧ QR Z Z' a0 1 0 ∧ ((Z' 56 6 ≤ Z' 56 7 ∧ Z' 56 7 ≤ Z 56 8 ∧ (Z' 56 9 = 24 ∨ Z' 56 6 < Z' 56 7)) ∧ Z' 60 0 = Z 60 0 ∧ Z' 60 1 = Z 60 1 ∧ Z' 60 2 = Z 60 2 ∧ Z 56 6 ≤ Z' 56 6 ∧ Z 60 61 ≤ Z' 60 61 ∧ Z' 60 61 - Z 60 61 ≤ Z' 56 6 - Z 56 6)) := (all_n 6 0 (by decide) (by decide)).1 a0 g0 T N sg (d + 98) n s S Z h (by omega) hx hG k0 k1 k2 k3 k4 hr
theorem ct_177_56_i0r {l : Launch} {D : va_G} {b0 : Nat} {ad : Nat → Nat} {Hb : Heap} {tau : Nat → Int64} {a0 : Int} {g0 : Int} {T : Int → Int} {N : Int} {sg : SS} {d n s : Nat} {S : Nat → xS} {Z : xZ} {h : mx_H} (hx : XH n s S Z h) (hG : GI n S Z) (k0 : (Z 56 6 ≤ Z 56 7 ∧ Z 56 7 ≤ Z 56 8 ∧ (Z 56 9 = 24 ∨ Z 56 6 < Z 56 7))) (k1 : Z 60 61 ≤ Z 56 6) (k2 : a0 ≤ Z 60 61) (k3 : 0 ≤ a0) (k4 : 0 ≤ g0) (hr : RM g0 T N Z (sg)) : ∃ (Z' : xZ) (h' : mx_H), mx_Ca (tB l D b0 ad Hb tau) (d + 98) 177 [.ref 56, xI 0] h (none, h') ∧ XH n s S Z' h' ∧ GI n S Z' ∧ fr' [(56, 6), (56, 7), (56, 9), (56, 10), (56, 11), (56, 12), (60, (-1))] Z Z' ∧ (RM g0 T N Z' (trX T N (lvI T N 0) sg) ∧ QR Z Z' a0 1 0 ∧ ((Z' 56 6 ≤ Z' 56 7 ∧ Z' 56 7 ≤ Z 56 8 ∧ (Z' 56 9 = 24 ∨ Z' 56 6 < Z' 56 7)) ∧ Z' 60 0 = Z 60 0 ∧ Z' 60 1 = Z 60 1 ∧ Z' 60 2 = Z 60 2 ∧ Z 56 6 ≤ Z' 56 6 ∧ Z 60 61 ≤ Z' 60 61 ∧ Z' 60 61 - Z 60 61 ≤ Z' 56 6 - Z 56 6)) := (all_n 6 0 (by decide) (by decide)).2.2 a0 g0 T N sg (d + 98) n s S Z h (by omega) hx hG k0 k1 k2 k3 k4 hr
theorem ct_174_56_i0x {l : Launch} {D : va_G} {b0 : Nat} {ad : Nat → Nat} {Hb : Heap} {tau : Nat → Int64} {a0 : Int} {T : Int → Int} {N : Int} {sg : SS} {d n s : Nat} {S : Nat → xS} {Z : xZ} {h : mx_H} (hx : XH n s S Z h) (hG : GI n S Z) (k0 : (Z 56 6 ≤ Z 56 7 ∧ Z 56 7 ≤ Z 56 8 ∧ (Z 56 9 = 24 ∨ Z 56 6 < Z 56 7))) (k1 : Z 60 61 ≤ Z 56 6) (k2 : a0 ≤ Z 60 61) (k3 : 0 ≤ a0) (hr : RMx T N Z sg) : ∃ (Z' : xZ) (h' : mx_H), mx_Ca (tB l D b0 ad Hb tau) (d + 98) 174 [.ref 56, xI 0] h (none, h') ∧ XH n s S Z' h' ∧ GI n S Z' ∧ fr' [(56, 6), (56, 7), (56, 9), (56, 10), (56, 11), (56, 12), (60, (-1))] Z Z' ∧ (RMx T N Z' (smX T N (lvI T N 0) (gRs sg)) ∧ QR Z Z' a0 1 0 ∧ ((Z' 56 6 ≤ Z' 56 7 ∧ Z' 56 7 ≤ Z 56 8 ∧ (Z' 56 9 = 24 ∨ Z' 56 6 < Z' 56 7)) ∧ Z' 60 0 = Z 60 0 ∧ Z' 60 1 = Z 60 1 ∧ Z' 60 2 = Z 60 2 ∧ Z 56 6 ≤ Z' 56 6 ∧ Z 60 61 ≤ Z' 60 61 ∧ Z' 60 61 - Z 60 61 ≤ Z' 56 6 - Z 56 6)) := by
  have h0 : 0 ≤ Z 60 61 := by omega
  obtain ⟨Z', h', hca, q1, q2, q3, q5, q4⟩ := ct_174_56_i0r (a0 := a0) (g0 := Z 60 61) (T := T) (N := N) (sg := gRs sg) (d := d) (l := l) (D := D) (b0 := b0) (ad := ad) (Hb := Hb) (tau := tau) hx hG k0 k1 k2 k3 h0 (RMx_rs hr)
  exact ⟨Z', h', hca, q1, q2, q3, ⟨_, h0, q5⟩, q4⟩
theorem ct_177_56_i0x {l : Launch} {D : va_G} {b0 : Nat} {ad : Nat → Nat} {Hb : Heap} {tau : Nat → Int64} {a0 : Int} {T : Int → Int} {N : Int} {sg : SS} {d n s : Nat} {S : Nat → xS} {Z : xZ} {h : mx_H} (hx : XH n s S Z h) (hG : GI n S Z) (k0 : (Z 56 6 ≤ Z 56 7 ∧ Z 56 7 ≤ Z 56 8 ∧ (Z 56 9 = 24 ∨ Z 56 6 < Z 56 7))) (k1 : Z 60 61 ≤ Z 56 6) (k2 : a0 ≤ Z 60 61) (k3 : 0 ≤ a0) (hr : RMx T N Z sg) : ∃ (Z' : xZ) (h' : mx_H), mx_Ca (tB l D b0 ad Hb tau) (d + 98) 177 [.ref 56, xI 0] h (none, h') ∧ XH n s S Z' h' ∧ GI n S Z' ∧ fr' [(56, 6), (56, 7), (56, 9), (56, 10), (56, 11), (56, 12), (60, (-1))] Z Z' ∧ (RMx T N Z' (trX T N (lvI T N 0) (gRs sg)) ∧ QR Z Z' a0 1 0 ∧ ((Z' 56 6 ≤ Z' 56 7 ∧ Z' 56 7 ≤ Z 56 8 ∧ (Z' 56 9 = 24 ∨ Z' 56 6 < Z' 56 7)) ∧ Z' 60 0 = Z 60 0 ∧ Z' 60 1 = Z 60 1 ∧ Z' 60 2 = Z 60 2 ∧ Z 56 6 ≤ Z' 56 6 ∧ Z 60 61 ≤ Z' 60 61 ∧ Z' 60 61 - Z 60 61 ≤ Z' 56 6 - Z 56 6)) := by
  have h0 : 0 ≤ Z 60 61 := by omega
  obtain ⟨Z', h', hca, q1, q2, q3, q5, q4⟩ := ct_177_56_i0r (a0 := a0) (g0 := Z 60 61) (T := T) (N := N) (sg := gRs sg) (d := d) (l := l) (D := D) (b0 := b0) (ad := ad) (Hb := Hb) (tau := tau) hx hG k0 k1 k2 k3 h0 (RMx_rs hr)
  exact ⟨Z', h', hca, q1, q2, q3, ⟨_, h0, q5⟩, q4⟩
theorem ct_162_56rx {l : Launch} {D : va_G} {b0 : Nat} {ad : Nat → Nat} {Hb : Heap} {tau : Nat → Int64} {T : Int → Int} {N : Int} {sg : SS} {d n s : Nat} {S : Nat → xS} {Z : xZ} {h : mx_H} (hx : XH n s S Z h) (hG : GI n S Z)   (k0 : Z 56 7 ≤ Z 56 8) (k1 : Z 56 11 = 0) (hr : RMx T N Z sg) : ∃ (Z' : xZ) (h' : mx_H), mx_Ca (tB l D b0 ad Hb tau) (d + 6) 162 [.ref 56] h (none, h') ∧ XH n s S Z' h' ∧ GI n S Z' ∧ fr' [(56, 6), (56, 7), (56, 9), (56, 10)] Z Z' ∧ (RMx T N Z' (gAd T N sg) ∧ ((Z' 56 6 ≤ Z' 56 7 ∧ Z' 56 7 ≤ Z 56 8 ∧ (Z' 56 9 = 24 ∨ Z' 56 6 < Z' 56 7)) ∧ Z 56 7 ≤ Z' 56 6)) := by
  obtain ⟨g, hg, hr⟩ := hr
  obtain ⟨Z', h', hca, q1, q2, q3, q5, q4⟩ := ct_162_56r (g0 := g) (T := T) (N := N) (sg := sg) (d := d) (l := l) (D := D) (b0 := b0) (ad := ad) (Hb := Hb) (tau := tau) hx hG  k0 k1 hr
  exact ⟨Z', h', hca, q1, q2, q3, ⟨g, hg, q5⟩, q4⟩
