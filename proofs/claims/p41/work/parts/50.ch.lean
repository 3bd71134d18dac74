set_option maxRecDepth 100000 in
theorem cw_292_4100 {l : Launch} {D : va_G} {b0 : Nat} {ad : Nat → Nat} {Hb : Heap} {tau : Nat → Int64} {d n s : Nat} {S : Nat → xS} {Z : xZ} {h : mx_H} {Post : mx_R → Prop} (hx : XH n s S Z h) (hG : GI n S Z)  {x0 : Int} (p0 : 0 ≤ x0 ∧ x0 ≤ 76) (hP : ∀ z : Int, 32 ≤ z ∧ z ≤ 122 ∧ (z = 32 ∨ x0 ≤ 75) → Post (some (xI z), h)) : mx_J (tB l D b0 ad Hb tau) mt_292 (d + 3) 0 [some (.ref 4100), some (xI x0)] [] h Post := by
    refine mx_J.step (sn_292 0) (fun _ _ => rfl) ?_
    obtain ⟨z1, hc1, b1⟩ := ct_289_4100 (d := d + 2) (l := l) (D := D) (b0 := b0) (ad := ad) (Hb := Hb) (tau := tau) hx hG 
    refine Jck (show mx_Sn _ _ 1 (mx_callk 289 1 4) from sn_292 1) rfl hc1 rfl rfl rfl ?_
    refine Jif_eq (show mx_Sn _ _ 4 (mx_if_eq 16 7) from sn_292 4) (by omega) (fun q2 => ?_) (fun q2 => ?_)
    · skip
      exfalso; omega
    · skip
      refine mx_J.step (sn_292 7) (fun _ _ => rfl) ?_
      refine mx_J.step (sn_292 8) (fun _ _ => rfl) ?_
      refine mx_J.step (sn_292 11) (fun _ _ => rfl) ?_
      obtain ⟨z3, hc3, b3⟩ := ct_288_4101 (d := d + 0) (l := l) (D := D) (b0 := b0) (ad := ad) (Hb := Hb) (tau := tau) hx hG (show 0 ≤ x0 ∧ x0 ≤ 76 by omega)
      refine Jcs (show mx_Sn _ _ 12 (mx_calls 288 2 15) from sn_292 12) hc3 rfl rfl rfl ?_
      exact mx_J.ret (show mx_Sn _ _ 15 (mx_nret .char) from sn_292 15) (fun _ _ => nr_ok_char (by omega)) (hP z3 (by omega))
theorem ct_292_4100 {l : Launch} {D : va_G} {b0 : Nat} {ad : Nat → Nat} {Hb : Heap} {tau : Nat → Int64} {d n s : Nat} {S : Nat → xS} {Z : xZ} {h : mx_H} (hx : XH n s S Z h) (hG : GI n S Z)  {x0 : Int} (p0 : 0 ≤ x0 ∧ x0 ≤ 76) : ∃ z : Int, mx_Ca (tB l D b0 ad Hb tau) (d + 4) 292 [.ref 4100, xI x0] h (some (xI z), h) ∧ (32 ≤ z ∧ z ≤ 122 ∧ (z = 32 ∨ x0 ≤ 75)) := by
  obtain ⟨r, hca, z, e, hp⟩ := Jmt (B := tB l D b0 ad Hb tau) (M := mt_292) (mi := 292) (as := [.ref 4100, xI x0]) (d := d + 3) (ls := [some (.ref 4100), some (xI x0)]) rfl rfl rfl rfl rfl rfl (cw_292_4100 (l := l) (D := D) (b0 := b0) (ad := ad) (Hb := Hb) (tau := tau) (d := d) (Post := fun r => ∃ z : Int, r = (some (xI z), h) ∧ (32 ≤ z ∧ z ≤ 122 ∧ (z = 32 ∨ x0 ≤ 75))) hx hG p0 (fun z hz => ⟨z, rfl, hz⟩))
  subst e; exact ⟨z, hca, hp⟩
set_option maxRecDepth 100000 in
theorem cw_290_4102 {l : Launch} {D : va_G} {b0 : Nat} {ad : Nat → Nat} {Hb : Heap} {tau : Nat → Int64} {d n s : Nat} {S : Nat → xS} {Z : xZ} {h : mx_H} {Post : mx_R → Prop} (hx : XH n s S Z h) (hG : GI n S Z)   (hP : ∀ z : Int, 0 ≤ z ∧ z ≤ 0 → Post (some (xI z), h)) : mx_J (tB l D b0 ad Hb tau) mt_290 (d + 0) 0 [some (.ref 4102)] [] h Post := by
    refine JcI (z := 1) (show mx_Sn _ _ 0 (mx_const (.int 1) 3) from sn_290 0) rfl ?_
    refine Jif_eq (show mx_Sn _ _ 3 (mx_if_eq 13 6) from sn_290 3) (by omega) (fun q1 => ?_) (fun q1 => ?_)
    · skip
      exfalso; omega
    · skip
      refine mx_J.step (sn_290 6) (fun _ _ => rfl) ?_
      refine Jscod (L := sb_1) (show mx_Sn _ _ 7 (mx_scod 10) from sn_290 7) rfl ?_
      refine mx_J.step (sn_290 10) (fun _ _ => rfl) ?_
      exact mx_J.ret (show mx_Sn _ _ 14 (mx_nret .byte) from sn_290 14) (fun _ _ => nr_ok_byte (by omega)) (hP 0 (by omega))
theorem ct_290_4102 {l : Launch} {D : va_G} {b0 : Nat} {ad : Nat → Nat} {Hb : Heap} {tau : Nat → Int64} {d n s : Nat} {S : Nat → xS} {Z : xZ} {h : mx_H} (hx : XH n s S Z h) (hG : GI n S Z)   : ∃ z : Int, mx_Ca (tB l D b0 ad Hb tau) (d + 1) 290 [.ref 4102] h (some (xI z), h) ∧ (0 ≤ z ∧ z ≤ 0) := by
  obtain ⟨r, hca, z, e, hp⟩ := Jmt (B := tB l D b0 ad Hb tau) (M := mt_290) (mi := 290) (as := [.ref 4102]) (d := d + 0) (ls := [some (.ref 4102)]) rfl rfl rfl rfl rfl rfl (cw_290_4102 (l := l) (D := D) (b0 := b0) (ad := ad) (Hb := Hb) (tau := tau) (d := d) (Post := fun r => ∃ z : Int, r = (some (xI z), h) ∧ (0 ≤ z ∧ z ≤ 0)) hx hG  (fun z hz => ⟨z, rfl, hz⟩))
  subst e; exact ⟨z, hca, hp⟩
set_option maxRecDepth 100000 in
theorem cw_289_4102 {l : Launch} {D : va_G} {b0 : Nat} {ad : Nat → Nat} {Hb : Heap} {tau : Nat → Int64} {d n s : Nat} {S : Nat → xS} {Z : xZ} {h : mx_H} {Post : mx_R → Prop} (hx : XH n s S Z h) (hG : GI n S Z)   (hP : ∀ z : Int, 1 ≤ z ∧ z ≤ 1 → Post (some (xI z), h)) : mx_J (tB l D b0 ad Hb tau) mt_289 (d + 0) 0 [some (.ref 4102)] [] h Post := by
    refine JcI (z := 1) (show mx_Sn _ _ 0 (mx_const (.int 1) 3) from sn_289 0) rfl ?_
    refine Jif_eq (show mx_Sn _ _ 3 (mx_if_eq 17 6) from sn_289 3) (by omega) (fun q1 => ?_) (fun q1 => ?_)
    · skip
      exfalso; omega
    · skip
      refine mx_J.step (sn_289 6) (fun _ _ => rfl) ?_
      refine Jscod (L := sb_1) (show mx_Sn _ _ 7 (mx_scod 10) from sn_289 7) rfl ?_
      refine Jif_ne (show mx_Sn _ _ 10 (mx_if_ne 17 13) from sn_289 10) (by omega) (fun q2 => ?_) (fun q2 => ?_)
      · skip
        exfalso; omega
      · skip
        refine JcI (z := 1) (show mx_Sn _ _ 13 (mx_const (.int 1) 14) from sn_289 13) rfl ?_
        refine mx_J.step (sn_289 14) (fun _ _ => rfl) ?_
        exact mx_J.ret (show mx_Sn _ _ 18 (mx_zret) from sn_289 18) (fun _ _ => zr_ok (by omega)) (hP 1 (by omega))
theorem ct_289_4102 {l : Launch} {D : va_G} {b0 : Nat} {ad : Nat → Nat} {Hb : Heap} {tau : Nat → Int64} {d n s : Nat} {S : Nat → xS} {Z : xZ} {h : mx_H} (hx : XH n s S Z h) (hG : GI n S Z)   : ∃ z : Int, mx_Ca (tB l D b0 ad Hb tau) (d + 1) 289 [.ref 4102] h (some (xI z), h) ∧ (1 ≤ z ∧ z ≤ 1) := by
  obtain ⟨r, hca, z, e, hp⟩ := Jmt (B := tB l D b0 ad Hb tau) (M := mt_289) (mi := 289) (as := [.ref 4102]) (d := d + 0) (ls := [some (.ref 4102)]) rfl rfl rfl rfl rfl rfl (cw_289_4102 (l := l) (D := D) (b0 := b0) (ad := ad) (Hb := Hb) (tau := tau) (d := d) (Post := fun r => ∃ z : Int, r = (some (xI z), h) ∧ (1 ≤ z ∧ z ≤ 1)) hx hG  (fun z hz => ⟨z, rfl, hz⟩))
  subst e; exact ⟨z, hca, hp⟩
set_option maxRecDepth 100000 in
theorem cw_291_4102 {l : Launch} {D : va_G} {b0 : Nat} {ad : Nat → Nat} {Hb : Heap} {tau : Nat → Int64} {d n s : Nat} {S : Nat → xS} {Z : xZ} {h : mx_H} {Post : mx_R → Prop} (hx : XH n s S Z h) (hG : GI n S Z)   (hP : ∀ z : Int, 12 ≤ z ∧ z ≤ 12 → Post (some (xI z), h)) : mx_J (tB l D b0 ad Hb tau) mt_291 (d + 1) 0 [some (.ref 4102)] [] h Post := by
    refine mx_J.step (sn_291 0) (fun _ _ => rfl) ?_
    refine mx_J.step (sn_291 1) (fun _ _ => rfl) ?_
    refine Jsalen (L := sb_1) (z := 12) (show mx_Sn _ _ 4 (mx_salen 5) from sn_291 4) rfl rfl ?_
    refine mx_J.step (sn_291 5) (fun _ _ => rfl) ?_
    obtain ⟨z1, hc1, b1⟩ := ct_290_4102 (d := d + 0) (l := l) (D := D) (b0 := b0) (ad := ad) (Hb := Hb) (tau := tau) hx hG 
    refine Jck (show mx_Sn _ _ 6 (mx_callk 290 1 9) from sn_291 6) rfl hc1 rfl rfl rfl ?_
    refine Jishr0 (show mx_Sn _ _ 9 (mx_ishr 10) from sn_291 9) (by omega) ?_
    exact mx_J.ret (sn_291 10) (fun _ _ => rfl) (hP 12 (by omega))
theorem ct_291_4102 {l : Launch} {D : va_G} {b0 : Nat} {ad : Nat → Nat} {Hb : Heap} {tau : Nat → Int64} {d n s : Nat} {S : Nat → xS} {Z : xZ} {h : mx_H} (hx : XH n s S Z h) (hG : GI n S Z)   : ∃ z : Int, mx_Ca (tB l D b0 ad Hb tau) (d + 2) 291 [.ref 4102] h (some (xI z), h) ∧ (12 ≤ z ∧ z ≤ 12) := by
  obtain ⟨r, hca, z, e, hp⟩ := Jmt (B := tB l D b0 ad Hb tau) (M := mt_291) (mi := 291) (as := [.ref 4102]) (d := d + 1) (ls := [some (.ref 4102)]) rfl rfl rfl rfl rfl rfl (cw_291_4102 (l := l) (D := D) (b0 := b0) (ad := ad) (Hb := Hb) (tau := tau) (d := d) (Post := fun r => ∃ z : Int, r = (some (xI z), h) ∧ (12 ≤ z ∧ z ≤ 12)) hx hG  (fun z hz => ⟨z, rfl, hz⟩))
  subst e; exact ⟨z, hca, hp⟩
set_option maxRecDepth 100000 in
theorem cw_288_4103 {l : Launch} {D : va_G} {b0 : Nat} {ad : Nat → Nat} {Hb : Heap} {tau : Nat → Int64} {d n s : Nat} {S : Nat → xS} {Z : xZ} {h : mx_H} {Post : mx_R → Prop} (hx : XH n s S Z h) (hG : GI n S Z)  {x0 : Int} (p0 : 0 ≤ x0 ∧ x0 ≤ 11) (hP : ∀ z : Int, 32 ≤ z ∧ z ≤ 122 → Post (some (xI z), h)) : mx_J (tB l D b0 ad Hb tau) mt_288 (d + 2) 0 [some (.ref 4103), some (xI x0)] [] h Post := by
    refine mx_J.step (sn_288 0) (fun _ _ => rfl) ?_
    refine mx_J.step (sn_288 1) (fun _ _ => rfl) ?_
    refine Jsalen (L := sb_1) (z := 12) (show mx_Sn _ _ 2 (mx_salen 3) from sn_288 2) rfl rfl ?_
    have hc1 := ct_287_ (d := d + 0) (l := l) (D := D) (b0 := b0) (ad := ad) (Hb := Hb) (tau := tau) hx hG (show 0 ≤ x0 ∧ x0 ≤ 100 by omega) (show 0 ≤ 12 ∧ 12 ≤ 100 by omega) (show x0 < 12 by omega)
    refine Jcs0 (show mx_Sn _ _ 3 (mx_calls 287 2 6) from sn_288 3) hc1 rfl rfl rfl ?_
    refine mx_J.step (sn_288 6) (fun _ _ => rfl) ?_
    refine mx_J.step (sn_288 7) (fun _ _ => rfl) ?_
    refine Jsb_1 (show mx_Sn _ _ 8 (mx_sbald 9) from sn_288 8) rfl (by omega) (fun y2 hy2 => ?_)
    refine JcI (z := 255) (show mx_Sn _ _ 9 (mx_const (.int 255) 12) from sn_288 9) rfl ?_
    refine JiandM (q := 256) 8 (show mx_Sn _ _ 12 (mx_iand 13) from sn_288 12) rfl rfl rfl ?_
    refine Ji2c (show mx_Sn _ _ 13 (mx_i2c 14) from sn_288 13) (by omega) ?_
    exact mx_J.ret (show mx_Sn _ _ 14 (mx_nret .char) from sn_288 14) (fun _ _ => nr_ok_char (by omega)) (hP (y2 % 256) (by omega))
theorem ct_288_4103 {l : Launch} {D : va_G} {b0 : Nat} {ad : Nat → Nat} {Hb : Heap} {tau : Nat → Int64} {d n s : Nat} {S : Nat → xS} {Z : xZ} {h : mx_H} (hx : XH n s S Z h) (hG : GI n S Z)  {x0 : Int} (p0 : 0 ≤ x0 ∧ x0 ≤ 11) : ∃ z : Int, mx_Ca (tB l D b0 ad Hb tau) (d + 3) 288 [.ref 4103, xI x0] h (some (xI z), h) ∧ (32 ≤ z ∧ z ≤ 122) := by
  obtain ⟨r, hca, z, e, hp⟩ := Jmt (B := tB l D b0 ad Hb tau) (M := mt_288) (mi := 288) (as := [.ref 4103, xI x0]) (d := d + 2) (ls := [some (.ref 4103), some (xI x0)]) rfl rfl rfl rfl rfl rfl (cw_288_4103 (l := l) (D := D) (b0 := b0) (ad := ad) (Hb := Hb) (tau := tau) (d := d) (Post := fun r => ∃ z : Int, r = (some (xI z), h) ∧ (32 ≤ z ∧ z ≤ 122)) hx hG p0 (fun z hz => ⟨z, rfl, hz⟩))
  subst e; exact ⟨z, hca, hp⟩
set_option maxRecDepth 100000 in
theorem cw_292_4102 {l : Launch} {D : va_G} {b0 : Nat} {ad : Nat → Nat} {Hb : Heap} {tau : Nat → Int64} {d n s : Nat} {S : Nat → xS} {Z : xZ} {h : mx_H} {Post : mx_R → Prop} (hx : XH n s S Z h) (hG : GI n S Z)  {x0 : Int} (p0 : 0 ≤ x0 ∧ x0 ≤ 11) (hP : ∀ z : Int, 32 ≤ z ∧ z ≤ 122 → Post (some (xI z), h)) : mx_J (tB l D b0 ad Hb tau) mt_292 (d + 3) 0 [some (.ref 4102), some (xI x0)] [] h Post := by
    refine mx_J.step (sn_292 0) (fun _ _ => rfl) ?_
    obtain ⟨z1, hc1, b1⟩ := ct_289_4102 (d := d + 2) (l := l) (D := D) (b0 := b0) (ad := ad) (Hb := Hb) (tau := tau) hx hG 
    refine Jck (show mx_Sn _ _ 1 (mx_callk 289 1 4) from sn_292 1) rfl hc1 rfl rfl rfl ?_
    refine Jif_eq (show mx_Sn _ _ 4 (mx_if_eq 16 7) from sn_292 4) (by omega) (fun q2 => ?_) (fun q2 => ?_)
    · skip
      exfalso; omega
    · skip
      refine mx_J.step (sn_292 7) (fun _ _ => rfl) ?_
      refine mx_J.step (sn_292 8) (fun _ _ => rfl) ?_
      refine mx_J.step (sn_292 11) (fun _ _ => rfl) ?_
      obtain ⟨z3, hc3, b3⟩ := ct_288_4103 (d := d + 0) (l := l) (D := D) (b0 := b0) (ad := ad) (Hb := Hb) (tau := tau) hx hG (show 0 ≤ x0 ∧ x0 ≤ 11 by omega)
      refine Jcs (show mx_Sn _ _ 12 (mx_calls 288 2 15) from sn_292 12) hc3 rfl rfl rfl ?_
      exact mx_J.ret (show mx_Sn _ _ 15 (mx_nret .char) from sn_292 15) (fun _ _ => nr_ok_char (by omega)) (hP z3 (by omega))
theorem ct_292_4102 {l : Launch} {D : va_G} {b0 : Nat} {ad : Nat → Nat} {Hb : Heap} {tau : Nat → Int64} {d n s : Nat} {S : Nat → xS} {Z : xZ} {h : mx_H} (hx : XH n s S Z h) (hG : GI n S Z)  {x0 : Int} (p0 : 0 ≤ x0 ∧ x0 ≤ 11) : ∃ z : Int, mx_Ca (tB l D b0 ad Hb tau) (d + 4) 292 [.ref 4102, xI x0] h (some (xI z), h) ∧ (32 ≤ z ∧ z ≤ 122) := by
  obtain ⟨r, hca, z, e, hp⟩ := Jmt (B := tB l D b0 ad Hb tau) (M := mt_292) (mi := 292) (as := [.ref 4102, xI x0]) (d := d + 3) (ls := [some (.ref 4102), some (xI x0)]) rfl rfl rfl rfl rfl rfl (cw_292_4102 (l := l) (D := D) (b0 := b0) (ad := ad) (Hb := Hb) (tau := tau) (d := d) (Post := fun r => ∃ z : Int, r = (some (xI z), h) ∧ (32 ≤ z ∧ z ≤ 122)) hx hG p0 (fun z hz => ⟨z, rfl, hz⟩))
  subst e; exact ⟨z, hca, hp⟩
set_option maxRecDepth 100000 in
theorem cw_158_56 {l : Launch} {D : va_G} {b0 : Nat} {ad : Nat → Nat} {Hb : Heap} {tau : Nat → Int64} {d n s : Nat} {S : Nat → xS} {Z : xZ} {h : mx_H} {Post : mx_R → Prop} (hx : XH n s S Z h) (hG : GI n S Z)  {x0 : Int} (p0 : 0 ≤ x0 ∧ x0 ≤ 901) (hP : ∀ z : Int, (-1) ≤ z ∧ z ≤ 255 ∧ ((x0 < Z 56 8 → z = Z 59 x0) ∧ (Z 56 8 ≤ x0 → z = -1)) → Post (some (xI z), h)) : mx_J (tB l D b0 ad Hb tau) mt_158 (d + 0) 0 [some (.ref 56), some (xI x0)] [] h Post := by
    have a56 : 56 < n := lt83 (GI_n hG) rfl
    have s56 : S 56 = .inl (12, [0, 2, 2, 2, 2, 0, 0, 0, 0, 0, 0, 0, 0, 0, 0, 2, 2, 2, 0, 2, 2, 2, 0, 0, 2, 2, 2, 2, 2, 2, 0, 0, 2, 2, 2, 2, 2, 2, 2, 2, 2, 2]) := GI_s hG 56 rfl
    have a59 : 59 < n := lt83 (GI_n hG) rfl
    have s59 : S 59 = .inr (.int, 900, 0) := GI_s hG 59 rfl
    refine mx_J.step (sn_158 0) (fun _ _ => rfl) ?_
    refine mx_J.step (sn_158 1) (fun _ _ => rfl) ?_
    have b2 : 0 ≤ Z 56 8 ∧ Z 56 8 ≤ 900 := hG.pr 56 8
    refine JgetI (g := 8) (z := Z 56 8) hx (show mx_Sn _ _ 2 (mx_getf 12 8 5) from sn_158 2) a56 s56 rfl rfl rfl ?_
    have c18 : ∀ (k3_0 : Int), (-1) ≤ k3_0 ∧ k3_0 ≤ 255 → ((x0 < Z 56 8 → k3_0 = Z 59 x0) ∧ (Z 56 8 ≤ x0 → k3_0 = -1)) → mx_J (tB l D b0 ad Hb tau) mt_158 (d + 0) 18 [some (.ref 56), some (xI x0)] [xI k3_0] h Post := by
      intro k3_0 f3_0 f3_1
      have b4 : 0 ≤ Z 56 8 ∧ Z 56 8 ≤ 900 := hG.pr 56 8
      have b5 : 0 ≤ Z 59 x0 ∧ Z 59 x0 ≤ 255 := hG.pr 59 x0
      exact mx_J.ret (sn_158 18) (fun _ _ => rfl) (hP k3_0 (by omega))
    refine Jicmp_ge (show mx_Sn _ _ 5 (mx_icmp_ge 17 8) from sn_158 5) (by omega) (by omega) (fun q6 => ?_) (fun q6 => ?_)
    · skip
      refine JcI (z := (-1)) (show mx_Sn _ _ 17 (mx_const (.int (-1)) 18) from sn_158 17) rfl ?_
      exact c18 (-1) (by omega) (by omega)
    · skip
      refine mx_J.step (sn_158 8) (fun _ _ => rfl) ?_
      refine JgetR (g := 3) (b := 59) hx (show mx_Sn _ _ 9 (mx_getf 12 3 12) from sn_158 9) a56 s56 rfl rfl (hG.prr 56 3 rfl) ?_
      refine mx_J.step (sn_158 12) (fun _ _ => rfl) ?_
      have b8 : 0 ≤ Z 59 x0 ∧ Z 59 x0 ≤ 255 := hG.pr 59 x0
      refine JialdI (z := Z 59 x0) hx (show mx_Sn _ _ 13 (mx_iald 14) from sn_158 13) a59 s59 (by omega) rfl ?_
      refine mx_J.step (sn_158 14) (fun _ _ => rfl) ?_
      exact c18 (Z 59 x0) (by omega) (by omega)
theorem ct_158_56 {l : Launch} {D : va_G} {b0 : Nat} {ad : Nat → Nat} {Hb : Heap} {tau : Nat → Int64} {d n s : Nat} {S : Nat → xS} {Z : xZ} {h : mx_H} (hx : XH n s S Z h) (hG : GI n S Z)  {x0 : Int} (p0 : 0 ≤ x0 ∧ x0 ≤ 901) : ∃ z : Int, mx_Ca (tB l D b0 ad Hb tau) (d + 1) 158 [.ref 56, xI x0] h (some (xI z), h) ∧ ((-1) ≤ z ∧ z ≤ 255 ∧ ((x0 < Z 56 8 → z = Z 59 x0) ∧ (Z 56 8 ≤ x0 → z = -1))) := by
  obtain ⟨r, hca, z, e, hp⟩ := Jmt (B := tB l D b0 ad Hb tau) (M := mt_158) (mi := 158) (as := [.ref 56, xI x0]) (d := d + 0) (ls := [some (.ref 56), some (xI x0)]) rfl rfl rfl rfl rfl rfl (cw_158_56 (l := l) (D := D) (b0 := b0) (ad := ad) (Hb := Hb) (tau := tau) (d := d) (Post := fun r => ∃ z : Int, r = (some (xI z), h) ∧ ((-1) ≤ z ∧ z ≤ 255 ∧ ((x0 < Z 56 8 → z = Z 59 x0) ∧ (Z 56 8 ≤ x0 → z = -1)))) hx hG p0 (fun z hz => ⟨z, rfl, hz⟩))
  subst e; exact ⟨z, hca, hp⟩
set_option maxRecDepth 100000 in
theorem cw_159_ {l : Launch} {D : va_G} {b0 : Nat} {ad : Nat → Nat} {Hb : Heap} {tau : Nat → Int64} {d n s : Nat} {S : Nat → xS} {Z : xZ} {h : mx_H} {Post : mx_R → Prop} (hx : XH n s S Z h) (hG : GI n S Z)  {x0 : Int} (p0 : (-2147483648) ≤ x0 ∧ x0 ≤ 2147483647) (hP : ∀ z : Int, 0 ≤ z ∧ z ≤ 1 ∧ ((z = 1 ∧ 97 ≤ x0 ∧ x0 ≤ 122) ∨ (z = 0 ∧ ¬ (97 ≤ x0 ∧ x0 ≤ 122))) → Post (some (xI z), h)) : mx_J (tB l D b0 ad Hb tau) mt_159 (d + 0) 0 [some (xI x0)] [] h Post := by
    refine mx_J.step (sn_159 0) (fun _ _ => rfl) ?_
    refine JcI (z := 97) (show mx_Sn _ _ 1 (mx_const (.int 97) 3) from sn_159 1) rfl ?_
    have c17 : ∀ (k1_0 : Int), 0 ≤ k1_0 ∧ k1_0 ≤ 1 → ((k1_0 = 1 ∧ 97 ≤ x0 ∧ x0 ≤ 122) ∨ (k1_0 = 0 ∧ ¬ (97 ≤ x0 ∧ x0 ≤ 122))) → mx_J (tB l D b0 ad Hb tau) mt_159 (d + 0) 17 [some (xI x0)] [xI k1_0] h Post := by
      intro k1_0 f1_0 f1_1
      exact mx_J.ret (show mx_Sn _ _ 17 (mx_zret) from sn_159 17) (fun _ _ => zr_ok (by omega)) (hP k1_0 (by omega))
    have c16 : ¬ (97 ≤ x0 ∧ x0 ≤ 122) → mx_J (tB l D b0 ad Hb tau) mt_159 (d + 0) 16 [some (xI x0)] [] h Post := by
      intro f2_0
      refine JcI (z := 0) (show mx_Sn _ _ 16 (mx_const (.int 0) 17) from sn_159 16) rfl ?_
      exact c17 0 (by omega) (by omega)
    refine Jicmp_lt (show mx_Sn _ _ 3 (mx_icmp_lt 16 6) from sn_159 3) (by omega) (by omega) (fun q3 => ?_) (fun q3 => ?_)
    · skip
      exact c16 (by omega)
    · skip
      refine mx_J.step (sn_159 6) (fun _ _ => rfl) ?_
      refine JcI (z := 122) (show mx_Sn _ _ 7 (mx_const (.int 122) 9) from sn_159 7) rfl ?_
      refine Jicmp_gt (show mx_Sn _ _ 9 (mx_icmp_gt 16 12) from sn_159 9) (by omega) (by omega) (fun q4 => ?_) (fun q4 => ?_)
      · skip
        exact c16 (by omega)
      · skip
        refine JcI (z := 1) (show mx_Sn _ _ 12 (mx_const (.int 1) 13) from sn_159 12) rfl ?_
        refine mx_J.step (sn_159 13) (fun _ _ => rfl) ?_
        exact c17 1 (by omega) (by omega)
theorem ct_159_ {l : Launch} {D : va_G} {b0 : Nat} {ad : Nat → Nat} {Hb : Heap} {tau : Nat → Int64} {d n s : Nat} {S : Nat → xS} {Z : xZ} {h : mx_H} (hx : XH n s S Z h) (hG : GI n S Z)  {x0 : Int} (p0 : (-2147483648) ≤ x0 ∧ x0 ≤ 2147483647) : ∃ z : Int, mx_Ca (tB l D b0 ad Hb tau) (d + 1) 159 [xI x0] h (some (xI z), h) ∧ (0 ≤ z ∧ z ≤ 1 ∧ ((z = 1 ∧ 97 ≤ x0 ∧ x0 ≤ 122) ∨ (z = 0 ∧ ¬ (97 ≤ x0 ∧ x0 ≤ 122)))) := by
  obtain ⟨r, hca, z, e, hp⟩ := Jmt (B := tB l D b0 ad Hb tau) (M := mt_159) (mi := 159) (as := [xI x0]) (d := d + 0) (ls := [some (xI x0)]) rfl rfl rfl rfl rfl rfl (cw_159_ (l := l) (D := D) (b0 := b0) (ad := ad) (Hb := Hb) (tau := tau) (d := d) (Post := fun r => ∃ z : Int, r = (some (xI z), h) ∧ (0 ≤ z ∧ z ≤ 1 ∧ ((z = 1 ∧ 97 ≤ x0 ∧ x0 ≤ 122) ∨ (z = 0 ∧ ¬ (97 ≤ x0 ∧ x0 ≤ 122))))) hx hG p0 (fun z hz => ⟨z, rfl, hz⟩))
  subst e; exact ⟨z, hca, hp⟩
set_option maxRecDepth 100000 in
theorem cw_160_ {l : Launch} {D : va_G} {b0 : Nat} {ad : Nat → Nat} {Hb : Heap} {tau : Nat → Int64} {d n s : Nat} {S : Nat → xS} {Z : xZ} {h : mx_H} {Post : mx_R → Prop} (hx : XH n s S Z h) (hG : GI n S Z)  {x0 : Int} (p0 : (-2147483648) ≤ x0 ∧ x0 ≤ 2147483647) (hP : ∀ z : Int, 0 ≤ z ∧ z ≤ 1 ∧ ((z = 1 ∧ 48 ≤ x0 ∧ x0 ≤ 57) ∨ (z = 0 ∧ ¬ (48 ≤ x0 ∧ x0 ≤ 57))) → Post (some (xI z), h)) : mx_J (tB l D b0 ad Hb tau) mt_160 (d + 0) 0 [some (xI x0)] [] h Post := by
    refine mx_J.step (sn_160 0) (fun _ _ => rfl) ?_
    refine JcI (z := 48) (show mx_Sn _ _ 1 (mx_const (.int 48) 3) from sn_160 1) rfl ?_
    have c17 : ∀ (k1_0 : Int), 0 ≤ k1_0 ∧ k1_0 ≤ 1 → ((k1_0 = 1 ∧ 48 ≤ x0 ∧ x0 ≤ 57) ∨ (k1_0 = 0 ∧ ¬ (48 ≤ x0 ∧ x0 ≤ 57))) → mx_J (tB l D b0 ad Hb tau) mt_160 (d + 0) 17 [some (xI x0)] [xI k1_0] h Post := by
      intro k1_0 f1_0 f1_1
      exact mx_J.ret (show mx_Sn _ _ 17 (mx_zret) from sn_160 17) (fun _ _ => zr_ok (by omega)) (hP k1_0 (by omega))
    have c16 : ¬ (48 ≤ x0 ∧ x0 ≤ 57) → mx_J (tB l D b0 ad Hb tau) mt_160 (d + 0) 16 [some (xI x0)] [] h Post := by
      intro f2_0
      refine JcI (z := 0) (show mx_Sn _ _ 16 (mx_const (.int 0) 17) from sn_160 16) rfl ?_
      exact c17 0 (by omega) (by omega)
    refine Jicmp_lt (show mx_Sn _ _ 3 (mx_icmp_lt 16 6) from sn_160 3) (by omega) (by omega) (fun q3 => ?_) (fun q3 => ?_)
    · skip
      exact c16 (by omega)
    · skip
      refine mx_J.step (sn_160 6) (fun _ _ => rfl) ?_
      refine JcI (z := 57) (show mx_Sn _ _ 7 (mx_const (.int 57) 9) from sn_160 7) rfl ?_
      refine Jicmp_gt (show mx_Sn _ _ 9 (mx_icmp_gt 16 12) from sn_160 9) (by omega) (by omega) (fun q4 => ?_) (fun q4 => ?_)
      · skip
        exact c16 (by omega)
      · skip
        refine JcI (z := 1) (show mx_Sn _ _ 12 (mx_const (.int 1) 13) from sn_160 12) rfl ?_
        refine mx_J.step (sn_160 13) (fun _ _ => rfl) ?_
        exact c17 1 (by omega) (by omega)
theorem ct_160_ {l : Launch} {D : va_G} {b0 : Nat} {ad : Nat → Nat} {Hb : Heap} {tau : Nat → Int64} {d n s : Nat} {S : Nat → xS} {Z : xZ} {h : mx_H} (hx : XH n s S Z h) (hG : GI n S Z)  {x0 : Int} (p0 : (-2147483648) ≤ x0 ∧ x0 ≤ 2147483647) : ∃ z : Int, mx_Ca (tB l D b0 ad Hb tau) (d + 1) 160 [xI x0] h (some (xI z), h) ∧ (0 ≤ z ∧ z ≤ 1 ∧ ((z = 1 ∧ 48 ≤ x0 ∧ x0 ≤ 57) ∨ (z = 0 ∧ ¬ (48 ≤ x0 ∧ x0 ≤ 57)))) := by
  obtain ⟨r, hca, z, e, hp⟩ := Jmt (B := tB l D b0 ad Hb tau) (M := mt_160) (mi := 160) (as := [xI x0]) (d := d + 0) (ls := [some (xI x0)]) rfl rfl rfl rfl rfl rfl (cw_160_ (l := l) (D := D) (b0 := b0) (ad := ad) (Hb := Hb) (tau := tau) (d := d) (Post := fun r => ∃ z : Int, r = (some (xI z), h) ∧ (0 ≤ z ∧ z ≤ 1 ∧ ((z = 1 ∧ 48 ≤ x0 ∧ x0 ≤ 57) ∨ (z = 0 ∧ ¬ (48 ≤ x0 ∧ x0 ≤ 57))))) hx hG p0 (fun z hz => ⟨z, rfl, hz⟩))
  subst e; exact ⟨z, hca, hp⟩
set_option maxRecDepth 100000 in
theorem cw_161_56 {l : Launch} {D : va_G} {b0 : Nat} {ad : Nat → Nat} {Hb : Heap} {tau : Nat → Int64} {d n s : Nat} {S : Nat → xS} {Z : xZ} {h : mx_H} {Post : mx_R → Prop} (hx : XH n s S Z h) (hG : GI n S Z)   (k0 : Z 56 7 ≤ Z 56 8) (hP : ∀ z : Int, 0 ≤ z ∧ z ≤ 77 → Post (some (xI z), h)) : mx_J (tB l D b0 ad Hb tau) mt_161 (d + 4) 0 [some (.ref 56), none, none, none] [] h Post := by
    have a56 : 56 < n := lt83 (GI_n hG) rfl
    have s56 : S 56 = .inl (12, [0, 2, 2, 2, 2, 0, 0, 0, 0, 0, 0, 0, 0, 0, 0, 2, 2, 2, 0, 2, 2, 2, 0, 0, 2, 2, 2, 2, 2, 2, 0, 0, 2, 2, 2, 2, 2, 2, 2, 2, 2, 2]) := GI_s hG 56 rfl
    have a59 : 59 < n := lt83 (GI_n hG) rfl
    have s59 : S 59 = .inr (.int, 900, 0) := GI_s hG 59 rfl
    refine JcI (z := 0) (show mx_Sn _ _ 0 (mx_const (.int 0) 1) from sn_161 0) rfl ?_
    refine mx_J.step (ls2 := [some (.ref 56), some (xI 0), none, none]) (sn_161 1) (fun _ _ => rfl) ?_
    refine JcI (z := 1) (show mx_Sn _ _ 2 (mx_const (.int 1) 3) from sn_161 2) rfl ?_
    refine mx_J.step (ls2 := [some (.ref 56), some (xI 0), some (xI 1), none]) (sn_161 3) (fun _ _ => rfl) ?_
    have c4 : ∀ (m1 : Nat) (w1_1 : Int) (w1_2 : Int) (u1_3 : Option Value), 77 - w1_1 < (m1 : Int) → 0 ≤ w1_1 ∧ w1_1 ≤ 76 → 1 ≤ w1_2 ∧ w1_2 ≤ 77 → w1_1 < w1_2 → mx_J (tB l D b0 ad Hb tau) mt_161 (d + 4) 4 [some (.ref 56), some (xI w1_1), some (xI w1_2), u1_3] [] h Post := by
      intro m1
      induction m1 with
      | zero => intro w1_1 w1_2 u1_3 q1 f1_0 f1_1 f1_2; exact absurd q1 (by omega)
      | succ m1 ih1 =>
        intro w1_1 w1_2 u1_3 q1 f1_0 f1_1 f1_2
        refine mx_J.step (sn_161 4) (fun _ _ => rfl) ?_
        refine mx_J.step (sn_161 5) (fun _ _ => rfl) ?_
        obtain ⟨z2, hc2, b2⟩ := ct_291_4100 (d := d + 2) (l := l) (D := D) (b0 := b0) (ad := ad) (Hb := Hb) (tau := tau) hx hG 
        refine Jck (show mx_Sn _ _ 7 (mx_callk 291 1 10) from sn_161 7) rfl hc2 rfl rfl rfl ?_
        refine Jicmp_ge (show mx_Sn _ _ 10 (mx_icmp_ge 123 13) from sn_161 10) (by omega) (by omega) (fun q3 => ?_) (fun q3 => ?_)
        · skip
          refine JcI (z := 22) (show mx_Sn _ _ 123 (mx_const (.int 22) 125) from sn_161 123) rfl ?_
          have b4 : 0 ≤ Z 56 7 ∧ Z 56 7 ≤ 900 := hG.pr 56 7
          have b5 : 0 ≤ Z 56 8 ∧ Z 56 8 ≤ 900 := hG.pr 56 8
          exact mx_J.ret (sn_161 125) (fun _ _ => rfl) (hP 22 (by omega))
        · skip
          refine JcI (z := 0) (show mx_Sn _ _ 13 (mx_const (.int 0) 14) from sn_161 13) rfl ?_
          refine mx_J.step (ls2 := [some (.ref 56), some (xI w1_1), some (xI w1_2), some (xI 0)]) (sn_161 14) (fun _ _ => rfl) ?_
          have c15 : ∀ (m6 : Nat) (w6_3 : Int), 75 - w6_3 < (m6 : Int) → 0 ≤ w6_3 ∧ w6_3 ≤ 75 → w1_2 + w6_3 ≤ 76 → mx_J (tB l D b0 ad Hb tau) mt_161 (d + 4) 15 [some (.ref 56), some (xI w1_1), some (xI w1_2), some (xI w6_3)] [] h Post := by
            intro m6
            induction m6 with
            | zero => intro w6_3 q6 f6_0 f6_1; exact absurd q6 (by omega)
            | succ m6 ih6 =>
              intro w6_3 q6 f6_0 f6_1
              refine mx_J.step (sn_161 15) (fun _ _ => rfl) ?_
              refine mx_J.step (sn_161 17) (fun _ _ => rfl) ?_
              refine mx_J.step (sn_161 18) (fun _ _ => rfl) ?_
              refine Jiadd (show mx_Sn _ _ 19 (mx_iadd 20) from sn_161 19) ?_
              obtain ⟨z7, hc7, b7⟩ := ct_292_4100 (d := d + 0) (l := l) (D := D) (b0 := b0) (ad := ad) (Hb := Hb) (tau := tau) hx hG (show 0 ≤ w1_2 + w6_3 ∧ w1_2 + w6_3 ≤ 76 by omega)
              refine Jck (show mx_Sn _ _ 20 (mx_callk 292 2 23) from sn_161 20) rfl hc7 rfl rfl rfl ?_
              refine JcI (z := 32) (show mx_Sn _ _ 23 (mx_const (.int 32) 25) from sn_161 23) rfl ?_
              have c69 : w1_2 + w6_3 ≤ 76 → mx_J (tB l D b0 ad Hb tau) mt_161 (d + 4) 69 [some (.ref 56), some (xI w1_1), some (xI w1_2), some (xI w6_3)] [] h Post := by
                intro f8_0
                refine mx_J.step (sn_161 69) (fun _ _ => rfl) ?_
                refine mx_J.step (sn_161 71) (fun _ _ => rfl) ?_
                refine mx_J.step (sn_161 72) (fun _ _ => rfl) ?_
                refine Jiadd (show mx_Sn _ _ 73 (mx_iadd 74) from sn_161 73) ?_
                obtain ⟨z9, hc9, b9⟩ := ct_292_4100 (d := d + 0) (l := l) (D := D) (b0 := b0) (ad := ad) (Hb := Hb) (tau := tau) hx hG (show 0 ≤ w1_2 + w6_3 ∧ w1_2 + w6_3 ≤ 76 by omega)
                refine Jck (show mx_Sn _ _ 74 (mx_callk 292 2 77) from sn_161 74) rfl hc9 rfl rfl rfl ?_
                refine JcI (z := 32) (show mx_Sn _ _ 77 (mx_const (.int 32) 79) from sn_161 77) rfl ?_
                have c97 : ∀ (m10 : Nat) (w10_2 : Int), 76 - w10_2 < (m10 : Int) → 1 ≤ w10_2 ∧ w10_2 ≤ 76 → w1_1 < w10_2 → mx_J (tB l D b0 ad Hb tau) mt_161 (d + 4) 97 [some (.ref 56), some (xI w1_1), some (xI w10_2), some (xI w6_3)] [] h Post := by
                  intro m10
                  induction m10 with
                  | zero => intro w10_2 q10 f10_0 f10_1; exact absurd q10 (by omega)
                  | succ m10 ih10 =>
                    intro w10_2 q10 f10_0 f10_1
                    refine mx_J.step (sn_161 97) (fun _ _ => rfl) ?_
                    refine mx_J.step (sn_161 99) (fun _ _ => rfl) ?_
                    obtain ⟨z11, hc11, b11⟩ := ct_292_4100 (d := d + 0) (l := l) (D := D) (b0 := b0) (ad := ad) (Hb := Hb) (tau := tau) hx hG (show 0 ≤ w10_2 ∧ w10_2 ≤ 76 by omega)
                    refine Jck (show mx_Sn _ _ 100 (mx_callk 292 2 103) from sn_161 100) rfl hc11 rfl rfl rfl ?_
                    refine JcI (z := 32) (show mx_Sn _ _ 103 (mx_const (.int 32) 105) from sn_161 103) rfl ?_
                    refine Jicmp_eq (show mx_Sn _ _ 105 (mx_icmp_eq 114 108) from sn_161 105) (by omega) (by omega) (fun q12 => ?_) (fun q12 => ?_)
                    · skip
                      refine Jiinc (z := w10_2) (cz := 1) (ls2 := [some (.ref 56), some (xI w1_1), some (xI (w10_2 + 1)), some (xI w6_3)]) (show mx_Sn _ _ 114 (mx_iinc 2 1 117) from sn_161 114) rfl rfl rfl rfl ?_
                      refine Jiinc (z := w1_1) (cz := 1) (ls2 := [some (.ref 56), some (xI (w1_1 + 1)), some (xI (w10_2 + 1)), some (xI w6_3)]) (show mx_Sn _ _ 117 (mx_iinc 1 1 120) from sn_161 117) rfl rfl rfl rfl ?_
                      refine mx_J.step (sn_161 120) (fun _ _ => rfl) ?_
                      exact ih1 (w1_1 + 1) (w10_2 + 1) (some (xI w6_3)) (by omega) (by omega) (by omega) (by omega)
                    · skip
                      refine Jiinc (z := w10_2) (cz := 1) (ls2 := [some (.ref 56), some (xI w1_1), some (xI (w10_2 + 1)), some (xI w6_3)]) (show mx_Sn _ _ 108 (mx_iinc 2 1 111) from sn_161 108) rfl rfl rfl rfl ?_
                      refine mx_J.step (sn_161 111) (fun _ _ => rfl) ?_
                      exact ih10 (w10_2 + 1) (by omega) (by omega) (by omega)
                refine Jicmp_ne (show mx_Sn _ _ 79 (mx_icmp_ne 97 82) from sn_161 79) (by omega) (by omega) (fun q13 => ?_) (fun q13 => ?_)
                · skip
                  exact c97 (Int.toNat (76 - w1_2) + 1) w1_2 (by omega) (by omega) (by omega)
                · skip
                  refine mx_J.step (sn_161 82) (fun _ _ => rfl) ?_
                  have b15 : 0 ≤ Z 56 6 ∧ Z 56 6 ≤ 900 := hG.pr 56 6
                  refine JgetI (g := 6) (z := Z 56 6) hx (show mx_Sn _ _ 83 (mx_getf 12 6 86) from sn_161 83) a56 s56 rfl rfl rfl ?_
                  refine mx_J.step (sn_161 86) (fun _ _ => rfl) ?_
                  refine Jiadd (show mx_Sn _ _ 87 (mx_iadd 88) from sn_161 87) ?_
                  refine mx_J.step (sn_161 88) (fun _ _ => rfl) ?_
                  have b17 : 0 ≤ Z 56 7 ∧ Z 56 7 ≤ 900 := hG.pr 56 7
                  refine JgetI (g := 7) (z := Z 56 7) hx (show mx_Sn _ _ 89 (mx_getf 12 7 92) from sn_161 89) a56 s56 rfl rfl rfl ?_
                  refine Jicmp_ne (show mx_Sn _ _ 92 (mx_icmp_ne 97 95) from sn_161 92) (by omega) (by omega) (fun q18 => ?_) (fun q18 => ?_)
                  · skip
                    exact c97 (Int.toNat (76 - w1_2) + 1) w1_2 (by omega) (by omega) (by omega)
                  · skip
                    refine mx_J.step (sn_161 95) (fun _ _ => rfl) ?_
                    have b19 : 0 ≤ Z 56 7 ∧ Z 56 7 ≤ 900 := hG.pr 56 7
                    have b20 : 0 ≤ Z 56 8 ∧ Z 56 8 ≤ 900 := hG.pr 56 8
                    exact mx_J.ret (sn_161 96) (fun _ _ => rfl) (hP w1_1 (by omega))
              refine Jicmp_eq (show mx_Sn _ _ 25 (mx_icmp_eq 69 28) from sn_161 25) (by omega) (by omega) (fun q21 => ?_) (fun q21 => ?_)
              · skip
                exact c69 (by omega)
              · skip
                refine mx_J.step (sn_161 28) (fun _ _ => rfl) ?_
                have b23 : 0 ≤ Z 56 6 ∧ Z 56 6 ≤ 900 := hG.pr 56 6
                refine JgetI (g := 6) (z := Z 56 6) hx (show mx_Sn _ _ 29 (mx_getf 12 6 32) from sn_161 29) a56 s56 rfl rfl rfl ?_
                refine mx_J.step (sn_161 32) (fun _ _ => rfl) ?_
                refine Jiadd (show mx_Sn _ _ 33 (mx_iadd 34) from sn_161 33) ?_
                refine mx_J.step (sn_161 34) (fun _ _ => rfl) ?_
                have b25 : 0 ≤ Z 56 7 ∧ Z 56 7 ≤ 900 := hG.pr 56 7
                refine JgetI (g := 7) (z := Z 56 7) hx (show mx_Sn _ _ 35 (mx_getf 12 7 38) from sn_161 35) a56 s56 rfl rfl rfl ?_
                refine Jicmp_ge (show mx_Sn _ _ 38 (mx_icmp_ge 69 41) from sn_161 38) (by omega) (by omega) (fun q26 => ?_) (fun q26 => ?_)
                · skip
                  exact c69 (by omega)
                · skip
                  refine mx_J.step (sn_161 41) (fun _ _ => rfl) ?_
                  refine JgetR (g := 3) (b := 59) hx (show mx_Sn _ _ 42 (mx_getf 12 3 45) from sn_161 42) a56 s56 rfl rfl (hG.prr 56 3 rfl) ?_
                  refine mx_J.step (sn_161 45) (fun _ _ => rfl) ?_
                  have b29 : 0 ≤ Z 56 6 ∧ Z 56 6 ≤ 900 := hG.pr 56 6
                  refine JgetI (g := 6) (z := Z 56 6) hx (show mx_Sn _ _ 46 (mx_getf 12 6 49) from sn_161 46) a56 s56 rfl rfl rfl ?_
                  refine mx_J.step (sn_161 49) (fun _ _ => rfl) ?_
                  refine Jiadd (show mx_Sn _ _ 50 (mx_iadd 51) from sn_161 50) ?_
                  have b30 : 0 ≤ Z 59 ((Z 56 6) + w6_3) ∧ Z 59 ((Z 56 6) + w6_3) ≤ 255 := hG.pr 59 ((Z 56 6) + w6_3)
                  refine JialdI (z := Z 59 ((Z 56 6) + w6_3)) hx (show mx_Sn _ _ 51 (mx_iald 52) from sn_161 51) a59 s59 (by omega) rfl ?_
                  refine mx_J.step (sn_161 52) (fun _ _ => rfl) ?_
                  refine mx_J.step (sn_161 54) (fun _ _ => rfl) ?_
                  refine mx_J.step (sn_161 55) (fun _ _ => rfl) ?_
                  refine Jiadd (show mx_Sn _ _ 56 (mx_iadd 57) from sn_161 56) ?_
                  obtain ⟨z31, hc31, b31⟩ := ct_292_4100 (d := d + 0) (l := l) (D := D) (b0 := b0) (ad := ad) (Hb := Hb) (tau := tau) hx hG (show 0 ≤ w1_2 + w6_3 ∧ w1_2 + w6_3 ≤ 76 by omega)
                  refine Jck (show mx_Sn _ _ 57 (mx_callk 292 2 60) from sn_161 57) rfl hc31 rfl rfl rfl ?_
                  refine Jicmp_ne (show mx_Sn _ _ 60 (mx_icmp_ne 69 63) from sn_161 60) (by omega) (by omega) (fun q32 => ?_) (fun q32 => ?_)
                  · skip
                    exact c69 (by omega)
                  · skip
                    refine Jiinc (z := w6_3) (cz := 1) (ls2 := [some (.ref 56), some (xI w1_1), some (xI w1_2), some (xI (w6_3 + 1))]) (show mx_Sn _ _ 63 (mx_iinc 3 1 66) from sn_161 63) rfl rfl rfl rfl ?_
                    refine mx_J.step (sn_161 66) (fun _ _ => rfl) ?_
                    exact ih6 (w6_3 + 1) (by omega) (by omega) (by omega)
          exact c15 (Int.toNat (75 - 0) + 1) 0 (by omega) (by omega) (by omega)
    exact c4 (Int.toNat (77 - 0) + 1) 0 1 none (by omega) (by omega) (by omega) (by omega)
theorem ct_161_56 {l : Launch} {D : va_G} {b0 : Nat} {ad : Nat → Nat} {Hb : Heap} {tau : Nat → Int64} {d n s : Nat} {S : Nat → xS} {Z : xZ} {h : mx_H} (hx : XH n s S Z h) (hG : GI n S Z)   (k0 : Z 56 7 ≤ Z 56 8) : ∃ z : Int, mx_Ca (tB l D b0 ad Hb tau) (d + 5) 161 [.ref 56] h (some (xI z), h) ∧ (0 ≤ z ∧ z ≤ 77) := by
  obtain ⟨r, hca, z, e, hp⟩ := Jmt (B := tB l D b0 ad Hb tau) (M := mt_161) (mi := 161) (as := [.ref 56]) (d := d + 4) (ls := [some (.ref 56), none, none, none]) rfl rfl rfl rfl rfl rfl (cw_161_56 (l := l) (D := D) (b0 := b0) (ad := ad) (Hb := Hb) (tau := tau) (d := d) (Post := fun r => ∃ z : Int, r = (some (xI z), h) ∧ (0 ≤ z ∧ z ≤ 77)) hx hG k0 (fun z hz => ⟨z, rfl, hz⟩))
  subst e; exact ⟨z, hca, hp⟩
set_option maxRecDepth 100000 in
theorem cw_162_56 {l : Launch} {D : va_G} {b0 : Nat} {ad : Nat → Nat} {Hb : Heap} {tau : Nat → Int64} {d n s : Nat} {S : Nat → xS} {Z : xZ} {h : mx_H} {Post : mx_R → Prop} (hx : XH n s S Z h) (hG : GI n S Z)   (k0 : Z 56 7 ≤ Z 56 8) (hP : ∀ (Z' : xZ) (h' : mx_H), XH n s S Z' h' → GI n S Z' → fr' [(56, 6), (56, 7), (56, 9), (56, 10)] Z Z' → ((Z' 56 6 ≤ Z' 56 7 ∧ Z' 56 7 ≤ Z 56 8 ∧ (Z' 56 9 = 24 ∨ Z' 56 6 < Z' 56 7)) ∧ Z 56 7 ≤ Z' 56 6) → Post (none, h')) : mx_J (tB l D b0 ad Hb tau) mt_162 (d + 5) 0 [some (.ref 56), none] [] h Post := by
    have a56 : 56 < n := lt83 (GI_n hG) rfl
    have s56 : S 56 = .inl (12, [0, 2, 2, 2, 2, 0, 0, 0, 0, 0, 0, 0, 0, 0, 0, 2, 2, 2, 0, 2, 2, 2, 0, 0, 2, 2, 2, 2, 2, 2, 0, 0, 2, 2, 2, 2, 2, 2, 2, 2, 2, 2]) := GI_s hG 56 rfl
    refine mx_J.step (sn_162 0) (fun _ _ => rfl) ?_
    refine mx_J.step (sn_162 1) (fun _ _ => rfl) ?_
    have b2 : 0 ≤ Z 56 7 ∧ Z 56 7 ≤ 900 := hG.pr 56 7
    refine JgetI (g := 7) (z := Z 56 7) hx (show mx_Sn _ _ 2 (mx_getf 12 7 5) from sn_162 2) a56 s56 rfl rfl rfl ?_
    refine JputI (g := 6) hx (show mx_Sn _ _ 5 (mx_putf 1 12 6 (.int) 8) from sn_162 5) a56 s56 rfl rfl rfl rfl (fun Z3 h3 hx3 hE3 => ?_)
    have hG3 := GI_up hG hE3 (show 0 ≤ Z 56 7 ∧ Z 56 7 ≤ 900 by omega) trivial rfl
    have c8 : ∀ (m4 : Nat)  (Z5 : xZ) (h5 : mx_H), Z 56 8 - Z5 56 6 < (m4 : Int) → (Z5 56 6 ≤ Z 56 8 ∧ Z 56 7 ≤ Z5 56 6) → XH n s S Z5 h5 → GI n S Z5 → fr' [(56, 6)] Z3 Z5 → mx_J (tB l D b0 ad Hb tau) mt_162 (d + 5) 8 [some (.ref 56), none] [] h5 Post := by
      intro m4
      induction m4 with
      | zero => intro Z5 h5 q4 f4_0 hx5 hG5 hf5; exact absurd q4 (by omega)
      | succ m4 ih4 =>
        intro Z5 h5 q4 f4_0 hx5 hG5 hf5
        have b6 : 0 ≤ Z5 56 6 ∧ Z5 56 6 ≤ 900 := hG5.pr 56 6
        have b7 : 0 ≤ Z5 56 6 ∧ Z5 56 6 ≤ 900 := hG5.pr 56 6
        refine mx_J.step (sn_162 8) (fun _ _ => rfl) ?_
        refine mx_J.step (sn_162 9) (fun _ _ => rfl) ?_
        have b9 : 0 ≤ Z5 56 6 ∧ Z5 56 6 ≤ 900 := hG5.pr 56 6
        refine JgetI (g := 6) (z := Z5 56 6) hx5 (show mx_Sn _ _ 10 (mx_getf 12 6 13) from sn_162 10) a56 s56 rfl rfl rfl ?_
        have eq11 : Z5 56 8 = Z 56 8 := ((hf5 56 8 rfl).trans (up_ni hE3 (by decide)))
        have b12 : 0 ≤ Z 56 8 ∧ Z 56 8 ≤ 900 := hG.pr 56 8
        have eq13 : Z5 59 (Z5 56 6) = Z 59 (Z5 56 6) := ((hf5 59 (Z5 56 6) rfl).trans (up_nk hE3 rfl))
        have b14 : 0 ≤ Z 59 (Z5 56 6) ∧ Z 59 (Z5 56 6) ≤ 255 := hG.pr 59 (Z5 56 6)
        obtain ⟨z10, hc10, b10⟩ := ct_158_56 (d := d + 4) (l := l) (D := D) (b0 := b0) (ad := ad) (Hb := Hb) (tau := tau) hx5 hG5 (show 0 ≤ Z5 56 6 ∧ Z5 56 6 ≤ 901 by omega)
        try rw [eq11] at b10
        try rw [eq13] at b10
        refine Jcv hx5 (show mx_Sn _ _ 13 (mx_callv 158 2 12 16) from sn_162 13) a56 s56 hc10 rfl rfl rfl ?_
        refine JcI (z := 10) (show mx_Sn _ _ 16 (mx_const (.int 10) 18) from sn_162 16) rfl ?_
        have c34 : (Z5 56 6 < Z 56 8) → mx_J (tB l D b0 ad Hb tau) mt_162 (d + 5) 34 [some (.ref 56), none] [] h5 Post := by
          intro f15_0
          refine mx_J.step (sn_162 34) (fun _ _ => rfl) ?_
          refine mx_J.step (sn_162 35) (fun _ _ => rfl) ?_
          have b17 : 0 ≤ Z5 56 6 ∧ Z5 56 6 ≤ 900 := hG5.pr 56 6
          refine JgetI (g := 6) (z := Z5 56 6) hx5 (show mx_Sn _ _ 36 (mx_getf 12 6 39) from sn_162 36) a56 s56 rfl rfl rfl ?_
          refine JcI (z := 1) (show mx_Sn _ _ 39 (mx_const (.int 1) 40) from sn_162 39) rfl ?_
          refine Jiadd (show mx_Sn _ _ 40 (mx_iadd 41) from sn_162 40) ?_
          refine JputI (g := 6) hx5 (show mx_Sn _ _ 41 (mx_putf 1 12 6 (.int) 44) from sn_162 41) a56 s56 rfl rfl rfl rfl (fun Z18 h18 hx18 hE18 => ?_)
          have hG18 := GI_up hG5 hE18 (show 0 ≤ (Z5 56 6) + 1 ∧ (Z5 56 6) + 1 ≤ 900 by omega) trivial rfl
          refine mx_J.step (sn_162 44) (fun _ _ => rfl) ?_
          have eq19 : Z18 56 6 = (Z5 56 6) + 1 := (up_at hE18)
          have eq20 : Z18 56 6 = (Z5 56 6) + 1 := (up_at hE18)
          exact ih4 Z18 h18 (by omega) (by omega) hx18 hG18 (fr_tr (M := [(56, 6)]) (fr_tr (M := [(56, 6)]) fr_rf (hf5) (M1 := []) rfl rfl) (fr_up hE18) rfl rfl)
        refine Jicmp_eq (show mx_Sn _ _ 18 (mx_icmp_eq 34 21) from sn_162 18) (by omega) (by omega) (fun q21 => ?_) (fun q21 => ?_)
        · skip
          exact c34 (by omega)
        · skip
          refine mx_J.step (sn_162 21) (fun _ _ => rfl) ?_
          refine mx_J.step (sn_162 22) (fun _ _ => rfl) ?_
          have b23 : 0 ≤ Z5 56 6 ∧ Z5 56 6 ≤ 900 := hG5.pr 56 6
          refine JgetI (g := 6) (z := Z5 56 6) hx5 (show mx_Sn _ _ 23 (mx_getf 12 6 26) from sn_162 23) a56 s56 rfl rfl rfl ?_
          have eq25 : Z5 56 8 = Z 56 8 := ((hf5 56 8 rfl).trans (up_ni hE3 (by decide)))
          have b26 : 0 ≤ Z 56 8 ∧ Z 56 8 ≤ 900 := hG.pr 56 8
          have eq27 : Z5 59 (Z5 56 6) = Z 59 (Z5 56 6) := ((hf5 59 (Z5 56 6) rfl).trans (up_nk hE3 rfl))
          have b28 : 0 ≤ Z 59 (Z5 56 6) ∧ Z 59 (Z5 56 6) ≤ 255 := hG.pr 59 (Z5 56 6)
          obtain ⟨z24, hc24, b24⟩ := ct_158_56 (d := d + 4) (l := l) (D := D) (b0 := b0) (ad := ad) (Hb := Hb) (tau := tau) hx5 hG5 (show 0 ≤ Z5 56 6 ∧ Z5 56 6 ≤ 901 by omega)
          try rw [eq25] at b24
          try rw [eq27] at b24
          refine Jcv hx5 (show mx_Sn _ _ 26 (mx_callv 158 2 12 29) from sn_162 26) a56 s56 hc24 rfl rfl rfl ?_
          refine JcI (z := 32) (show mx_Sn _ _ 29 (mx_const (.int 32) 31) from sn_162 29) rfl ?_
          refine Jicmp_ne (show mx_Sn _ _ 31 (mx_icmp_ne 47 34) from sn_162 31) (by omega) (by omega) (fun q29 => ?_) (fun q29 => ?_)
          · skip
            refine mx_J.step (sn_162 47) (fun _ _ => rfl) ?_
            refine mx_J.step (sn_162 48) (fun _ _ => rfl) ?_
            have b31 : 0 ≤ Z5 56 6 ∧ Z5 56 6 ≤ 900 := hG5.pr 56 6
            refine JgetI (g := 6) (z := Z5 56 6) hx5 (show mx_Sn _ _ 49 (mx_getf 12 6 52) from sn_162 49) a56 s56 rfl rfl rfl ?_
            refine JputI (g := 7) hx5 (show mx_Sn _ _ 52 (mx_putf 1 12 7 (.int) 55) from sn_162 52) a56 s56 rfl rfl rfl rfl (fun Z32 h32 hx32 hE32 => ?_)
            have hG32 := GI_up hG5 hE32 (show 0 ≤ Z5 56 6 ∧ Z5 56 6 ≤ 900 by omega) trivial rfl
            refine mx_J.step (sn_162 55) (fun _ _ => rfl) ?_
            have b34 : 0 ≤ Z5 56 6 ∧ Z5 56 6 ≤ 900 := hG5.pr 56 6
            refine JgetI (g := 6) (z := Z5 56 6) hx32 (show mx_Sn _ _ 56 (mx_getf 12 6 59) from sn_162 56) a56 s56 rfl rfl (up_ni hE32 (by decide)) ?_
            refine mx_J.step (sn_162 59) (fun _ _ => rfl) ?_
            have b36 : 0 ≤ Z 56 8 ∧ Z 56 8 ≤ 900 := hG.pr 56 8
            refine JgetI (g := 8) (z := Z 56 8) hx32 (show mx_Sn _ _ 60 (mx_getf 12 8 63) from sn_162 60) a56 s56 rfl rfl ((up_ni hE32 (by decide)).trans ((hf5 56 8 rfl).trans (up_ni hE3 (by decide)))) ?_
            have c294 : ∀ (u37_1 : Option Value) (Z38 : xZ) (h38 : mx_H), (Z38 56 6 ≤ Z38 56 7 ∧ Z38 56 7 ≤ Z 56 8 ∧ Z 56 7 ≤ Z38 56 6 ∧ (Z38 56 9 = 24 ∨ Z38 56 6 < Z38 56 7)) → XH n s S Z38 h38 → GI n S Z38 → fr' [(56, 7), (56, 9), (56, 10)] Z32 Z38 → mx_J (tB l D b0 ad Hb tau) mt_162 (d + 5) 294 [some (.ref 56), u37_1] [] h38 Post := by
              intro u37_1 Z38 h38 f37_0 hx38 hG38 hf38
              have eq39 : Z38 56 6 = Z5 56 6 := ((hf38 56 6 rfl).trans (up_ni hE32 (by decide)))
              have b40 : 0 ≤ Z5 56 6 ∧ Z5 56 6 ≤ 900 := hG5.pr 56 6
              have b41 : 0 ≤ Z38 56 7 ∧ Z38 56 7 ≤ 900 := hG38.pr 56 7
              have b42 : 0 ≤ Z38 56 9 ∧ Z38 56 9 ≤ 100 := hG38.pr 56 9
              have eq43 : Z38 56 6 = Z5 56 6 := ((hf38 56 6 rfl).trans (up_ni hE32 (by decide)))
              have b44 : 0 ≤ Z5 56 6 ∧ Z5 56 6 ≤ 900 := hG5.pr 56 6
              have b45 : 0 ≤ Z38 56 7 ∧ Z38 56 7 ≤ 900 := hG38.pr 56 7
              have b46 : 0 ≤ Z38 56 9 ∧ Z38 56 9 ≤ 100 := hG38.pr 56 9
              have b47 : 0 ≤ Z38 56 7 ∧ Z38 56 7 ≤ 900 := hG38.pr 56 7
              have eq48 : Z38 56 8 = Z 56 8 := ((hf38 56 8 rfl).trans ((up_ni hE32 (by decide)).trans ((hf5 56 8 rfl).trans (up_ni hE3 (by decide)))))
              have b49 : 0 ≤ Z 56 8 ∧ Z 56 8 ≤ 900 := hG.pr 56 8
              exact mx_J.ret (sn_162 294) (fun _ _ => rfl) (hP Z38 h38 hx38 hG38 (fr_tr (M := [(56, 6), (56, 7), (56, 9), (56, 10)]) (fr_tr (M := [(56, 6), (56, 7), (56, 9), (56, 10)]) (fr_tr (M := [(56, 6), (56, 7), (56, 9), (56, 10)]) (fr_tr (M := [(56, 6), (56, 7), (56, 9), (56, 10)]) fr_rf (fr_up hE3) (M1 := []) rfl rfl) (hf5) rfl rfl) (fr_up hE32) rfl rfl) (hf38) rfl rfl) (by omega))
            refine Jicmp_lt (show mx_Sn _ _ 63 (mx_icmp_lt 75 66) from sn_162 63) (by omega) (by omega) (fun q50 => ?_) (fun q50 => ?_)
            · skip
              refine mx_J.step (sn_162 75) (fun _ _ => rfl) ?_
              refine mx_J.step (sn_162 76) (fun _ _ => rfl) ?_
              have b52 : 0 ≤ Z5 56 6 ∧ Z5 56 6 ≤ 900 := hG5.pr 56 6
              refine JgetI (g := 6) (z := Z5 56 6) hx32 (show mx_Sn _ _ 77 (mx_getf 12 6 80) from sn_162 77) a56 s56 rfl rfl (up_ni hE32 (by decide)) ?_
              have eq54 : Z32 56 8 = Z 56 8 := ((up_ni hE32 (by decide)).trans ((hf5 56 8 rfl).trans (up_ni hE3 (by decide))))
              have b55 : 0 ≤ Z 56 8 ∧ Z 56 8 ≤ 900 := hG.pr 56 8
              have eq56 : Z32 59 (Z5 56 6) = Z 59 (Z5 56 6) := ((up_nk hE32 rfl).trans ((hf5 59 (Z5 56 6) rfl).trans (up_nk hE3 rfl)))
              have b57 : 0 ≤ Z 59 (Z5 56 6) ∧ Z 59 (Z5 56 6) ≤ 255 := hG.pr 59 (Z5 56 6)
              obtain ⟨z53, hc53, b53⟩ := ct_158_56 (d := d + 4) (l := l) (D := D) (b0 := b0) (ad := ad) (Hb := Hb) (tau := tau) hx32 hG32 (show 0 ≤ Z5 56 6 ∧ Z5 56 6 ≤ 901 by omega)
              try rw [eq54] at b53
              try rw [eq56] at b53
              refine Jcv hx32 (show mx_Sn _ _ 80 (mx_callv 158 2 12 83) from sn_162 80) a56 s56 hc53 rfl rfl rfl ?_
              obtain ⟨z58, hc58, b58⟩ := ct_159_ (d := d + 4) (l := l) (D := D) (b0 := b0) (ad := ad) (Hb := Hb) (tau := tau) hx32 hG32 (show (-2147483648) ≤ z53 ∧ z53 ≤ 2147483647 by omega)
              refine Jcs (show mx_Sn _ _ 83 (mx_calls 159 1 86) from sn_162 83) hc58 rfl rfl rfl ?_
              refine Jif_eq (show mx_Sn _ _ 86 (mx_if_eq 127 89) from sn_162 86) (by omega) (fun q59 => ?_) (fun q59 => ?_)
              · skip
                refine mx_J.step (sn_162 127) (fun _ _ => rfl) ?_
                refine mx_J.step (sn_162 128) (fun _ _ => rfl) ?_
                have b61 : 0 ≤ Z5 56 6 ∧ Z5 56 6 ≤ 900 := hG5.pr 56 6
                refine JgetI (g := 6) (z := Z5 56 6) hx32 (show mx_Sn _ _ 129 (mx_getf 12 6 132) from sn_162 129) a56 s56 rfl rfl (up_ni hE32 (by decide)) ?_
                have eq63 : Z32 56 8 = Z 56 8 := ((up_ni hE32 (by decide)).trans ((hf5 56 8 rfl).trans (up_ni hE3 (by decide))))
                have b64 : 0 ≤ Z 56 8 ∧ Z 56 8 ≤ 900 := hG.pr 56 8
                have eq65 : Z32 59 (Z5 56 6) = Z 59 (Z5 56 6) := ((up_nk hE32 rfl).trans ((hf5 59 (Z5 56 6) rfl).trans (up_nk hE3 rfl)))
                have b66 : 0 ≤ Z 59 (Z5 56 6) ∧ Z 59 (Z5 56 6) ≤ 255 := hG.pr 59 (Z5 56 6)
                obtain ⟨z62, hc62, b62⟩ := ct_158_56 (d := d + 4) (l := l) (D := D) (b0 := b0) (ad := ad) (Hb := Hb) (tau := tau) hx32 hG32 (show 0 ≤ Z5 56 6 ∧ Z5 56 6 ≤ 901 by omega)
                try rw [eq63] at b62
                try rw [eq65] at b62
                refine Jcv hx32 (show mx_Sn _ _ 132 (mx_callv 158 2 12 135) from sn_162 132) a56 s56 hc62 rfl rfl rfl ?_
                obtain ⟨z67, hc67, b67⟩ := ct_160_ (d := d + 4) (l := l) (D := D) (b0 := b0) (ad := ad) (Hb := Hb) (tau := tau) hx32 hG32 (show (-2147483648) ≤ z62 ∧ z62 ≤ 2147483647 by omega)
                refine Jcs (show mx_Sn _ _ 135 (mx_calls 160 1 138) from sn_162 135) hc67 rfl rfl rfl ?_
                refine Jif_eq (show mx_Sn _ _ 138 (mx_if_eq 236 141) from sn_162 138) (by omega) (fun q68 => ?_) (fun q68 => ?_)
                · skip
                  refine mx_J.step (sn_162 236) (fun _ _ => rfl) ?_
                  refine mx_J.step (sn_162 237) (fun _ _ => rfl) ?_
                  refine JgetI (g := 7) (z := Z5 56 6) hx32 (show mx_Sn _ _ 238 (mx_getf 12 7 241) from sn_162 238) a56 s56 rfl rfl (up_at hE32) ?_
                  refine JcI (z := 1) (show mx_Sn _ _ 241 (mx_const (.int 1) 242) from sn_162 241) rfl ?_
                  refine Jiadd (show mx_Sn _ _ 242 (mx_iadd 243) from sn_162 242) ?_
                  refine JputI (g := 7) hx32 (show mx_Sn _ _ 243 (mx_putf 1 12 7 (.int) 246) from sn_162 243) a56 s56 rfl rfl rfl rfl (fun Z70 h70 hx70 hE70 => ?_)
                  have hG70 := GI_up hG32 hE70 (show 0 ≤ (Z5 56 6) + 1 ∧ (Z5 56 6) + 1 ≤ 900 by omega) trivial rfl
                  refine mx_J.step (sn_162 246) (fun _ _ => rfl) ?_
                  refine JcI (z := 25) (show mx_Sn _ _ 247 (mx_const (.int 25) 249) from sn_162 247) rfl ?_
                  refine JputI (g := 9) hx70 (show mx_Sn _ _ 249 (mx_putf 1 12 9 (.int) 252) from sn_162 249) a56 s56 rfl rfl rfl rfl (fun Z71 h71 hx71 hE71 => ?_)
                  have hG71 := GI_up hG70 hE71 (show 0 ≤ 25 ∧ 25 ≤ 100 by omega) trivial rfl
                  refine JcI (z := 0) (show mx_Sn _ _ 252 (mx_const (.int 0) 253) from sn_162 252) rfl ?_
                  refine mx_J.step (ls2 := [some (.ref 56), some (xI 0)]) (sn_162 253) (fun _ _ => rfl) ?_
                  have c254 : ∀ (m72 : Nat) (w72_1 : Int) (Z73 : xZ) (h73 : mx_H), 12 - w72_1 < (m72 : Int) → 0 ≤ w72_1 ∧ w72_1 ≤ 12 → XH n s S Z73 h73 → GI n S Z73 → fr' [(56, 9)] Z71 Z73 → mx_J (tB l D b0 ad Hb tau) mt_162 (d + 5) 254 [some (.ref 56), some (xI w72_1)] [] h73 Post := by
                    intro m72
                    induction m72 with
                    | zero => intro w72_1 Z73 h73 q72 f72_0 hx73 hG73 hf73; exact absurd q72 (by omega)
                    | succ m72 ih72 =>
                      intro w72_1 Z73 h73 q72 f72_0 hx73 hG73 hf73
                      refine mx_J.step (sn_162 254) (fun _ _ => rfl) ?_
                      refine mx_J.step (sn_162 255) (fun _ _ => rfl) ?_
                      obtain ⟨z74, hc74, b74⟩ := ct_291_4102 (d := d + 3) (l := l) (D := D) (b0 := b0) (ad := ad) (Hb := Hb) (tau := tau) hx73 hG73 
                      refine Jck (show mx_Sn _ _ 257 (mx_callk 291 1 260) from sn_162 257) rfl hc74 rfl rfl rfl ?_
                      refine Jicmp_ge (show mx_Sn _ _ 260 (mx_icmp_ge 294 263) from sn_162 260) (by omega) (by omega) (fun q75 => ?_) (fun q75 => ?_)
                      · skip
                        have eq76 : Z73 56 6 = Z5 56 6 := ((hf73 56 6 rfl).trans ((up_ni hE71 (by decide)).trans ((up_ni hE70 (by decide)).trans (up_ni hE32 (by decide)))))
                        have b77 : 0 ≤ Z5 56 6 ∧ Z5 56 6 ≤ 900 := hG5.pr 56 6
                        have eq78 : Z73 56 7 = (Z5 56 6) + 1 := ((hf73 56 7 rfl).trans ((up_ni hE71 (by decide)).trans (up_at hE70)))
                        have b79 : 0 ≤ Z73 56 9 ∧ Z73 56 9 ≤ 100 := hG73.pr 56 9
                        exact c294 (some (xI w72_1)) Z73 h73 (by omega) hx73 hG73 (fr_tr (M := [(56, 7), (56, 9), (56, 10)]) (fr_tr (M := [(56, 7), (56, 9), (56, 10)]) (fr_tr (M := [(56, 7), (56, 9), (56, 10)]) fr_rf (fr_up hE70) (M1 := []) rfl rfl) (fr_up hE71) rfl rfl) (hf73) rfl rfl)
                      · skip
                        refine mx_J.step (sn_162 263) (fun _ _ => rfl) ?_
                        refine mx_J.step (sn_162 264) (fun _ _ => rfl) ?_
                        have b81 : 0 ≤ Z5 56 6 ∧ Z5 56 6 ≤ 900 := hG5.pr 56 6
                        refine JgetI (g := 6) (z := Z5 56 6) hx73 (show mx_Sn _ _ 265 (mx_getf 12 6 268) from sn_162 265) a56 s56 rfl rfl ((hf73 56 6 rfl).trans ((up_ni hE71 (by decide)).trans ((up_ni hE70 (by decide)).trans (up_ni hE32 (by decide))))) ?_
                        have eq83 : Z73 56 8 = Z 56 8 := ((hf73 56 8 rfl).trans ((up_ni hE71 (by decide)).trans ((up_ni hE70 (by decide)).trans ((up_ni hE32 (by decide)).trans ((hf5 56 8 rfl).trans (up_ni hE3 (by decide)))))))
                        have b84 : 0 ≤ Z 56 8 ∧ Z 56 8 ≤ 900 := hG.pr 56 8
                        have eq85 : Z73 59 (Z5 56 6) = Z 59 (Z5 56 6) := ((hf73 59 (Z5 56 6) rfl).trans ((up_nk hE71 rfl).trans ((up_nk hE70 rfl).trans ((up_nk hE32 rfl).trans ((hf5 59 (Z5 56 6) rfl).trans (up_nk hE3 rfl))))))
                        have b86 : 0 ≤ Z 59 (Z5 56 6) ∧ Z 59 (Z5 56 6) ≤ 255 := hG.pr 59 (Z5 56 6)
                        obtain ⟨z82, hc82, b82⟩ := ct_158_56 (d := d + 4) (l := l) (D := D) (b0 := b0) (ad := ad) (Hb := Hb) (tau := tau) hx73 hG73 (show 0 ≤ Z5 56 6 ∧ Z5 56 6 ≤ 901 by omega)
                        try rw [eq83] at b82
                        try rw [eq85] at b82
                        refine Jcv hx73 (show mx_Sn _ _ 268 (mx_callv 158 2 12 271) from sn_162 268) a56 s56 hc82 rfl rfl rfl ?_
                        refine mx_J.step (sn_162 271) (fun _ _ => rfl) ?_
                        refine mx_J.step (sn_162 273) (fun _ _ => rfl) ?_
                        obtain ⟨z87, hc87, b87⟩ := ct_292_4102 (d := d + 1) (l := l) (D := D) (b0 := b0) (ad := ad) (Hb := Hb) (tau := tau) hx73 hG73 (show 0 ≤ w72_1 ∧ w72_1 ≤ 11 by omega)
                        refine Jck (show mx_Sn _ _ 274 (mx_callk 292 2 277) from sn_162 274) rfl hc87 rfl rfl rfl ?_
                        have c288 : ∀  (Z89 : xZ) (h89 : mx_H), XH n s S Z89 h89 → GI n S Z89 → fr' [(56, 9)] Z73 Z89 → mx_J (tB l D b0 ad Hb tau) mt_162 (d + 5) 288 [some (.ref 56), some (xI w72_1)] [] h89 Post := by
                          intro Z89 h89 hx89 hG89 hf89
                          refine Jiinc (z := w72_1) (cz := 1) (ls2 := [some (.ref 56), some (xI (w72_1 + 1))]) (show mx_Sn _ _ 288 (mx_iinc 1 1 291) from sn_162 288) rfl rfl rfl rfl ?_
                          refine mx_J.step (sn_162 291) (fun _ _ => rfl) ?_
                          exact ih72 (w72_1 + 1) Z89 h89 (by omega) (by omega) hx89 hG89 (fr_tr (M := [(56, 9)]) (fr_tr (M := [(56, 9)]) fr_rf (hf73) (M1 := []) rfl rfl) (hf89) rfl rfl)
                        refine Jicmp_ne (show mx_Sn _ _ 277 (mx_icmp_ne 288 280) from sn_162 277) (by omega) (by omega) (fun q90 => ?_) (fun q90 => ?_)
                        · skip
                          exact c288 Z73 h73 hx73 hG73 fr_rf
                        · skip
                          refine mx_J.step (sn_162 280) (fun _ _ => rfl) ?_
                          refine JcI (z := 30) (show mx_Sn _ _ 281 (mx_const (.int 30) 283) from sn_162 281) rfl ?_
                          refine mx_J.step (sn_162 283) (fun _ _ => rfl) ?_
                          refine Jiadd (show mx_Sn _ _ 284 (mx_iadd 285) from sn_162 284) ?_
                          refine JputI (g := 9) hx73 (show mx_Sn _ _ 285 (mx_putf 1 12 9 (.int) 288) from sn_162 285) a56 s56 rfl rfl rfl rfl (fun Z91 h91 hx91 hE91 => ?_)
                          have hG91 := GI_up hG73 hE91 (show 0 ≤ 30 + w72_1 ∧ 30 + w72_1 ≤ 100 by omega) trivial rfl
                          exact c288 Z91 h91 hx91 hG91 (fr_tr (M := [(56, 9)]) fr_rf (fr_up hE91) (M1 := []) rfl rfl)
                  exact c254 (Int.toNat (12 - 0) + 1) 0 Z71 h71 (by omega) (by omega) hx71 hG71 fr_rf
                · skip
                  refine mx_J.step (sn_162 141) (fun _ _ => rfl) ?_
                  refine JcI (z := 0) (show mx_Sn _ _ 142 (mx_const (.int 0) 143) from sn_162 142) rfl ?_
                  refine JputI (g := 10) hx32 (show mx_Sn _ _ 143 (mx_putf 1 12 10 (.int) 146) from sn_162 143) a56 s56 rfl rfl rfl rfl (fun Z92 h92 hx92 hE92 => ?_)
                  have hG92 := GI_up hG32 hE92 (show 0 ≤ 0 ∧ 0 ≤ 999 by omega) trivial rfl
                  have c146 : ∀ (m93 : Nat)  (Z94 : xZ) (h94 : mx_H), Z 56 8 - Z94 56 7 < (m93 : Int) → (Z94 56 6 ≤ Z94 56 7 ∧ Z94 56 7 ≤ Z 56 8 ∧ (Z94 56 6 < Z94 56 7 ∨ (48 ≤ Z 59 (Z5 56 6) ∧ Z 59 (Z5 56 6) ≤ 57)) ∧ (Z94 56 7 = Z94 56 6 → Z94 56 10 = 0) ∧ (Z94 56 7 ≤ Z94 56 6 + 1 → Z94 56 10 ≤ 9) ∧ (Z94 56 7 ≤ Z94 56 6 + 2 → Z94 56 10 ≤ 99)) → XH n s S Z94 h94 → GI n S Z94 → fr' [(56, 7), (56, 10)] Z92 Z94 → mx_J (tB l D b0 ad Hb tau) mt_162 (d + 5) 146 [some (.ref 56), none] [] h94 Post := by
                    intro m93
                    induction m93 with
                    | zero => intro Z94 h94 q93 f93_0 hx94 hG94 hf94; exact absurd q93 (by omega)
                    | succ m93 ih93 =>
                      intro Z94 h94 q93 f93_0 hx94 hG94 hf94
                      have eq95 : Z94 56 6 = Z5 56 6 := ((hf94 56 6 rfl).trans ((up_ni hE92 (by decide)).trans (up_ni hE32 (by decide))))
                      have b96 : 0 ≤ Z5 56 6 ∧ Z5 56 6 ≤ 900 := hG5.pr 56 6
                      have b97 : 0 ≤ Z94 56 7 ∧ Z94 56 7 ≤ 900 := hG94.pr 56 7
                      have b98 : 0 ≤ Z94 56 10 ∧ Z94 56 10 ≤ 999 := hG94.pr 56 10
                      have b99 : 0 ≤ Z94 56 7 ∧ Z94 56 7 ≤ 900 := hG94.pr 56 7
                      refine mx_J.step (sn_162 146) (fun _ _ => rfl) ?_
                      refine mx_J.step (sn_162 147) (fun _ _ => rfl) ?_
                      have b101 : 0 ≤ Z94 56 7 ∧ Z94 56 7 ≤ 900 := hG94.pr 56 7
                      refine JgetI (g := 7) (z := Z94 56 7) hx94 (show mx_Sn _ _ 148 (mx_getf 12 7 151) from sn_162 148) a56 s56 rfl rfl rfl ?_
                      have eq103 : Z94 56 8 = Z 56 8 := ((hf94 56 8 rfl).trans ((up_ni hE92 (by decide)).trans ((up_ni hE32 (by decide)).trans ((hf5 56 8 rfl).trans (up_ni hE3 (by decide))))))
                      have b104 : 0 ≤ Z 56 8 ∧ Z 56 8 ≤ 900 := hG.pr 56 8
                      have eq105 : Z94 59 (Z94 56 7) = Z 59 (Z94 56 7) := ((hf94 59 (Z94 56 7) rfl).trans ((up_nk hE92 rfl).trans ((up_nk hE32 rfl).trans ((hf5 59 (Z94 56 7) rfl).trans (up_nk hE3 rfl)))))
                      have b106 : 0 ≤ Z 59 (Z94 56 7) ∧ Z 59 (Z94 56 7) ≤ 255 := hG.pr 59 (Z94 56 7)
                      obtain ⟨z102, hc102, b102⟩ := ct_158_56 (d := d + 4) (l := l) (D := D) (b0 := b0) (ad := ad) (Hb := Hb) (tau := tau) hx94 hG94 (show 0 ≤ Z94 56 7 ∧ Z94 56 7 ≤ 901 by omega)
                      try rw [eq103] at b102
                      try rw [eq105] at b102
                      refine Jcv hx94 (show mx_Sn _ _ 151 (mx_callv 158 2 12 154) from sn_162 151) a56 s56 hc102 rfl rfl rfl ?_
                      have cg94 : (Z94 56 7) = (Z5 56 6) → Z 59 (Z94 56 7) = Z 59 (Z5 56 6) := fun e => by rw [e]
                      obtain ⟨z107, hc107, b107⟩ := ct_160_ (d := d + 4) (l := l) (D := D) (b0 := b0) (ad := ad) (Hb := Hb) (tau := tau) hx94 hG94 (show (-2147483648) ≤ z102 ∧ z102 ≤ 2147483647 by omega)
                      refine Jcs (show mx_Sn _ _ 154 (mx_calls 160 1 157) from sn_162 154) hc107 rfl rfl rfl ?_
                      refine Jif_eq (show mx_Sn _ _ 157 (mx_if_eq 209 160) from sn_162 157) (by omega) (fun q108 => ?_) (fun q108 => ?_)
                      · skip
                        refine mx_J.step (sn_162 209) (fun _ _ => rfl) ?_
                        refine mx_J.step (sn_162 210) (fun _ _ => rfl) ?_
                        have b110 : 0 ≤ Z94 56 7 ∧ Z94 56 7 ≤ 900 := hG94.pr 56 7
                        refine JgetI (g := 7) (z := Z94 56 7) hx94 (show mx_Sn _ _ 211 (mx_getf 12 7 214) from sn_162 211) a56 s56 rfl rfl rfl ?_
                        refine mx_J.step (sn_162 214) (fun _ _ => rfl) ?_
                        have b112 : 0 ≤ Z5 56 6 ∧ Z5 56 6 ≤ 900 := hG5.pr 56 6
                        refine JgetI (g := 6) (z := Z5 56 6) hx94 (show mx_Sn _ _ 215 (mx_getf 12 6 218) from sn_162 215) a56 s56 rfl rfl ((hf94 56 6 rfl).trans ((up_ni hE92 (by decide)).trans (up_ni hE32 (by decide)))) ?_
                        refine Jisub (show mx_Sn _ _ 218 (mx_isub 219) from sn_162 218) ?_
                        refine JcI (z := 3) (show mx_Sn _ _ 219 (mx_const (.int 3) 220) from sn_162 219) rfl ?_
                        have c230 : ∀ (k113_1 : Int), 23 ≤ k113_1 ∧ k113_1 ≤ 25 → mx_J (tB l D b0 ad Hb tau) mt_162 (d + 5) 230 [some (.ref 56), none] [xI k113_1, .ref 56] h94 Post := by
                          intro k113_1 f113_0
                          refine JputI (g := 9) hx94 (show mx_Sn _ _ 230 (mx_putf 1 12 9 (.int) 233) from sn_162 230) a56 s56 rfl rfl rfl rfl (fun Z114 h114 hx114 hE114 => ?_)
                          have hG114 := GI_up hG94 hE114 (show 0 ≤ k113_1 ∧ k113_1 ≤ 100 by omega) trivial rfl
                          refine mx_J.step (sn_162 233) (fun _ _ => rfl) ?_
                          have eq115 : Z114 56 6 = Z5 56 6 := ((up_ni hE114 (by decide)).trans ((hf94 56 6 rfl).trans ((up_ni hE92 (by decide)).trans (up_ni hE32 (by decide)))))
                          have b116 : 0 ≤ Z5 56 6 ∧ Z5 56 6 ≤ 900 := hG5.pr 56 6
                          have eq117 : Z114 56 7 = Z94 56 7 := (up_ni hE114 (by decide))
                          have b118 : 0 ≤ Z94 56 7 ∧ Z94 56 7 ≤ 900 := hG94.pr 56 7
                          have eq119 : Z114 56 9 = k113_1 := (up_at hE114)
                          exact c294 none Z114 h114 (by omega) hx114 hG114 (fr_tr (M := [(56, 7), (56, 9), (56, 10)]) (fr_tr (M := [(56, 7), (56, 9), (56, 10)]) (fr_tr (M := [(56, 7), (56, 9), (56, 10)]) fr_rf (fr_up hE92) (M1 := []) rfl rfl) (hf94) rfl rfl) (fr_up hE114) rfl rfl)
                        refine Jicmp_le (show mx_Sn _ _ 220 (mx_icmp_le 228 223) from sn_162 220) (by omega) (by omega) (fun q120 => ?_) (fun q120 => ?_)
                        · skip
                          refine JcI (z := 23) (show mx_Sn _ _ 228 (mx_const (.int 23) 230) from sn_162 228) rfl ?_
                          exact c230 23 (by omega)
                        · skip
                          refine JcI (z := 25) (show mx_Sn _ _ 223 (mx_const (.int 25) 225) from sn_162 223) rfl ?_
                          refine mx_J.step (sn_162 225) (fun _ _ => rfl) ?_
                          exact c230 25 (by omega)
                      · skip
                        refine mx_J.step (sn_162 160) (fun _ _ => rfl) ?_
                        have b122 : 0 ≤ Z94 56 7 ∧ Z94 56 7 ≤ 900 := hG94.pr 56 7
                        refine JgetI (g := 7) (z := Z94 56 7) hx94 (show mx_Sn _ _ 161 (mx_getf 12 7 164) from sn_162 161) a56 s56 rfl rfl rfl ?_
                        refine mx_J.step (sn_162 164) (fun _ _ => rfl) ?_
                        have b124 : 0 ≤ Z5 56 6 ∧ Z5 56 6 ≤ 900 := hG5.pr 56 6
                        refine JgetI (g := 6) (z := Z5 56 6) hx94 (show mx_Sn _ _ 165 (mx_getf 12 6 168) from sn_162 165) a56 s56 rfl rfl ((hf94 56 6 rfl).trans ((up_ni hE92 (by decide)).trans (up_ni hE32 (by decide)))) ?_
                        refine Jisub (show mx_Sn _ _ 168 (mx_isub 169) from sn_162 168) ?_
                        refine JcI (z := 3) (show mx_Sn _ _ 169 (mx_const (.int 3) 170) from sn_162 169) rfl ?_
                        have c196 : ∀  (Z126 : xZ) (h126 : mx_H), ((Z126 56 7 ≤ Z126 56 6 → Z126 56 10 ≤ 9) ∧ (Z126 56 7 ≤ Z126 56 6 + 1 → Z126 56 10 ≤ 99) ∧ Z126 56 7 < Z 56 8) → XH n s S Z126 h126 → GI n S Z126 → fr' [(56, 10)] Z94 Z126 → mx_J (tB l D b0 ad Hb tau) mt_162 (d + 5) 196 [some (.ref 56), none] [] h126 Post := by
                          intro Z126 h126 f125_0 hx126 hG126 hf126
                          have eq127 : Z126 56 6 = Z5 56 6 := ((hf126 56 6 rfl).trans ((hf94 56 6 rfl).trans ((up_ni hE92 (by decide)).trans (up_ni hE32 (by decide)))))
                          have b128 : 0 ≤ Z5 56 6 ∧ Z5 56 6 ≤ 900 := hG5.pr 56 6
                          have eq129 : Z126 56 7 = Z94 56 7 := (hf126 56 7 rfl)
                          have b130 : 0 ≤ Z94 56 7 ∧ Z94 56 7 ≤ 900 := hG94.pr 56 7
                          have b131 : 0 ≤ Z126 56 10 ∧ Z126 56 10 ≤ 999 := hG126.pr 56 10
                          refine mx_J.step (sn_162 196) (fun _ _ => rfl) ?_
                          refine mx_J.step (sn_162 197) (fun _ _ => rfl) ?_
                          have b133 : 0 ≤ Z94 56 7 ∧ Z94 56 7 ≤ 900 := hG94.pr 56 7
                          refine JgetI (g := 7) (z := Z94 56 7) hx126 (show mx_Sn _ _ 198 (mx_getf 12 7 201) from sn_162 198) a56 s56 rfl rfl (hf126 56 7 rfl) ?_
                          refine JcI (z := 1) (show mx_Sn _ _ 201 (mx_const (.int 1) 202) from sn_162 201) rfl ?_
                          refine Jiadd (show mx_Sn _ _ 202 (mx_iadd 203) from sn_162 202) ?_
                          refine JputI (g := 7) hx126 (show mx_Sn _ _ 203 (mx_putf 1 12 7 (.int) 206) from sn_162 203) a56 s56 rfl rfl rfl rfl (fun Z134 h134 hx134 hE134 => ?_)
                          have hG134 := GI_up hG126 hE134 (show 0 ≤ (Z94 56 7) + 1 ∧ (Z94 56 7) + 1 ≤ 900 by omega) trivial rfl
                          refine mx_J.step (sn_162 206) (fun _ _ => rfl) ?_
                          have eq135 : Z134 56 6 = Z5 56 6 := ((up_ni hE134 (by decide)).trans ((hf126 56 6 rfl).trans ((hf94 56 6 rfl).trans ((up_ni hE92 (by decide)).trans (up_ni hE32 (by decide))))))
                          have b136 : 0 ≤ Z5 56 6 ∧ Z5 56 6 ≤ 900 := hG5.pr 56 6
                          have eq137 : Z134 56 7 = (Z94 56 7) + 1 := (up_at hE134)
                          have eq138 : Z134 56 10 = Z126 56 10 := (up_ni hE134 (by decide))
                          have b139 : 0 ≤ Z126 56 10 ∧ Z126 56 10 ≤ 999 := hG126.pr 56 10
                          have eq140 : Z134 56 7 = (Z94 56 7) + 1 := (up_at hE134)
                          exact ih93 Z134 h134 (by omega) (by omega) hx134 hG134 (fr_tr (M := [(56, 7), (56, 10)]) (fr_tr (M := [(56, 7), (56, 10)]) (fr_tr (M := [(56, 7), (56, 10)]) fr_rf (hf94) (M1 := []) rfl rfl) (hf126) rfl rfl) (fr_up hE134) rfl rfl)
                        refine Jicmp_ge (show mx_Sn _ _ 170 (mx_icmp_ge 196 173) from sn_162 170) (by omega) (by omega) (fun q141 => ?_) (fun q141 => ?_)
                        · skip
                          have eq142 : Z94 56 6 = Z5 56 6 := ((hf94 56 6 rfl).trans ((up_ni hE92 (by decide)).trans (up_ni hE32 (by decide))))
                          have b143 : 0 ≤ Z5 56 6 ∧ Z5 56 6 ≤ 900 := hG5.pr 56 6
                          have b144 : 0 ≤ Z94 56 7 ∧ Z94 56 7 ≤ 900 := hG94.pr 56 7
                          have b145 : 0 ≤ Z94 56 10 ∧ Z94 56 10 ≤ 999 := hG94.pr 56 10
                          exact c196 Z94 h94 (by omega) hx94 hG94 fr_rf
                        · skip
                          refine mx_J.step (sn_162 173) (fun _ _ => rfl) ?_
                          refine JcI (z := 10) (show mx_Sn _ _ 174 (mx_const (.int 10) 176) from sn_162 174) rfl ?_
                          refine mx_J.step (sn_162 176) (fun _ _ => rfl) ?_
                          have b147 : 0 ≤ Z94 56 10 ∧ Z94 56 10 ≤ 999 := hG94.pr 56 10
                          refine JgetI (g := 10) (z := Z94 56 10) hx94 (show mx_Sn _ _ 177 (mx_getf 12 10 180) from sn_162 177) a56 s56 rfl rfl rfl ?_
                          refine Jimul (show mx_Sn _ _ 180 (mx_imul 181) from sn_162 180) ?_
                          refine mx_J.step (sn_162 181) (fun _ _ => rfl) ?_
                          refine mx_J.step (sn_162 182) (fun _ _ => rfl) ?_
                          have b149 : 0 ≤ Z94 56 7 ∧ Z94 56 7 ≤ 900 := hG94.pr 56 7
                          refine JgetI (g := 7) (z := Z94 56 7) hx94 (show mx_Sn _ _ 183 (mx_getf 12 7 186) from sn_162 183) a56 s56 rfl rfl rfl ?_
                          have eq151 : Z94 56 8 = Z 56 8 := ((hf94 56 8 rfl).trans ((up_ni hE92 (by decide)).trans ((up_ni hE32 (by decide)).trans ((hf5 56 8 rfl).trans (up_ni hE3 (by decide))))))
                          have b152 : 0 ≤ Z 56 8 ∧ Z 56 8 ≤ 900 := hG.pr 56 8
                          have eq153 : Z94 59 (Z94 56 7) = Z 59 (Z94 56 7) := ((hf94 59 (Z94 56 7) rfl).trans ((up_nk hE92 rfl).trans ((up_nk hE32 rfl).trans ((hf5 59 (Z94 56 7) rfl).trans (up_nk hE3 rfl)))))
                          have b154 : 0 ≤ Z 59 (Z94 56 7) ∧ Z 59 (Z94 56 7) ≤ 255 := hG.pr 59 (Z94 56 7)
                          obtain ⟨z150, hc150, b150⟩ := ct_158_56 (d := d + 4) (l := l) (D := D) (b0 := b0) (ad := ad) (Hb := Hb) (tau := tau) hx94 hG94 (show 0 ≤ Z94 56 7 ∧ Z94 56 7 ≤ 901 by omega)
                          try rw [eq151] at b150
                          try rw [eq153] at b150
                          refine Jcv hx94 (show mx_Sn _ _ 186 (mx_callv 158 2 12 189) from sn_162 186) a56 s56 hc150 rfl rfl rfl ?_
                          refine Jiadd (show mx_Sn _ _ 189 (mx_iadd 190) from sn_162 189) ?_
                          refine JcI (z := 48) (show mx_Sn _ _ 190 (mx_const (.int 48) 192) from sn_162 190) rfl ?_
                          refine Jisub (show mx_Sn _ _ 192 (mx_isub 193) from sn_162 192) ?_
                          refine JputI (g := 10) hx94 (show mx_Sn _ _ 193 (mx_putf 1 12 10 (.int) 196) from sn_162 193) a56 s56 rfl rfl rfl rfl (fun Z155 h155 hx155 hE155 => ?_)
                          have hG155 := GI_up hG94 hE155 (show 0 ≤ ((10 * (Z94 56 10)) + z150) - 48 ∧ ((10 * (Z94 56 10)) + z150) - 48 ≤ 999 by omega) trivial rfl
                          have eq156 : Z155 56 6 = Z5 56 6 := ((up_ni hE155 (by decide)).trans ((hf94 56 6 rfl).trans ((up_ni hE92 (by decide)).trans (up_ni hE32 (by decide)))))
                          have b157 : 0 ≤ Z5 56 6 ∧ Z5 56 6 ≤ 900 := hG5.pr 56 6
                          have eq158 : Z155 56 7 = Z94 56 7 := (up_ni hE155 (by decide))
                          have b159 : 0 ≤ Z94 56 7 ∧ Z94 56 7 ≤ 900 := hG94.pr 56 7
                          have eq160 : Z155 56 10 = ((10 * (Z94 56 10)) + z150) - 48 := (up_at hE155)
                          exact c196 Z155 h155 (by omega) hx155 hG155 (fr_tr (M := [(56, 10)]) fr_rf (fr_up hE155) (M1 := []) rfl rfl)
                  have eq161 : Z92 56 6 = Z5 56 6 := ((up_ni hE92 (by decide)).trans (up_ni hE32 (by decide)))
                  have b162 : 0 ≤ Z5 56 6 ∧ Z5 56 6 ≤ 900 := hG5.pr 56 6
                  have eq163 : Z92 56 7 = Z5 56 6 := ((up_ni hE92 (by decide)).trans (up_at hE32))
                  have eq164 : Z92 56 10 = 0 := (up_at hE92)
                  have eq165 : Z92 56 7 = Z5 56 6 := ((up_ni hE92 (by decide)).trans (up_at hE32))
                  exact c146 (Int.toNat (Z 56 8 - Z92 56 7) + 1) Z92 h92 (by omega) (by omega) hx92 hG92 fr_rf
              · skip
                have c89 : ∀ (m166 : Nat)  (Z167 : xZ) (h167 : mx_H), Z 56 8 - Z167 56 7 < (m166 : Int) → (Z167 56 6 ≤ Z167 56 7 ∧ Z167 56 7 ≤ Z 56 8 ∧ (Z167 56 6 < Z167 56 7 ∨ (97 ≤ Z 59 (Z5 56 6) ∧ Z 59 (Z5 56 6) ≤ 122))) → XH n s S Z167 h167 → GI n S Z167 → fr' [(56, 7)] Z32 Z167 → mx_J (tB l D b0 ad Hb tau) mt_162 (d + 5) 89 [some (.ref 56), none] [] h167 Post := by
                  intro m166
                  induction m166 with
                  | zero => intro Z167 h167 q166 f166_0 hx167 hG167 hf167; exact absurd q166 (by omega)
                  | succ m166 ih166 =>
                    intro Z167 h167 q166 f166_0 hx167 hG167 hf167
                    have eq168 : Z167 56 6 = Z5 56 6 := ((hf167 56 6 rfl).trans (up_ni hE32 (by decide)))
                    have b169 : 0 ≤ Z5 56 6 ∧ Z5 56 6 ≤ 900 := hG5.pr 56 6
                    have b170 : 0 ≤ Z167 56 7 ∧ Z167 56 7 ≤ 900 := hG167.pr 56 7
                    have b171 : 0 ≤ Z167 56 7 ∧ Z167 56 7 ≤ 900 := hG167.pr 56 7
                    refine mx_J.step (sn_162 89) (fun _ _ => rfl) ?_
                    refine mx_J.step (sn_162 90) (fun _ _ => rfl) ?_
                    have b173 : 0 ≤ Z167 56 7 ∧ Z167 56 7 ≤ 900 := hG167.pr 56 7
                    refine JgetI (g := 7) (z := Z167 56 7) hx167 (show mx_Sn _ _ 91 (mx_getf 12 7 94) from sn_162 91) a56 s56 rfl rfl rfl ?_
                    have eq175 : Z167 56 8 = Z 56 8 := ((hf167 56 8 rfl).trans ((up_ni hE32 (by decide)).trans ((hf5 56 8 rfl).trans (up_ni hE3 (by decide)))))
                    have b176 : 0 ≤ Z 56 8 ∧ Z 56 8 ≤ 900 := hG.pr 56 8
                    have eq177 : Z167 59 (Z167 56 7) = Z 59 (Z167 56 7) := ((hf167 59 (Z167 56 7) rfl).trans ((up_nk hE32 rfl).trans ((hf5 59 (Z167 56 7) rfl).trans (up_nk hE3 rfl))))
                    have b178 : 0 ≤ Z 59 (Z167 56 7) ∧ Z 59 (Z167 56 7) ≤ 255 := hG.pr 59 (Z167 56 7)
                    obtain ⟨z174, hc174, b174⟩ := ct_158_56 (d := d + 4) (l := l) (D := D) (b0 := b0) (ad := ad) (Hb := Hb) (tau := tau) hx167 hG167 (show 0 ≤ Z167 56 7 ∧ Z167 56 7 ≤ 901 by omega)
                    try rw [eq175] at b174
                    try rw [eq177] at b174
                    refine Jcv hx167 (show mx_Sn _ _ 94 (mx_callv 158 2 12 97) from sn_162 94) a56 s56 hc174 rfl rfl rfl ?_
                    have cg167 : (Z167 56 7) = (Z5 56 6) → Z 59 (Z167 56 7) = Z 59 (Z5 56 6) := fun e => by rw [e]
                    obtain ⟨z179, hc179, b179⟩ := ct_159_ (d := d + 4) (l := l) (D := D) (b0 := b0) (ad := ad) (Hb := Hb) (tau := tau) hx167 hG167 (show (-2147483648) ≤ z174 ∧ z174 ≤ 2147483647 by omega)
                    refine Jcs (show mx_Sn _ _ 97 (mx_calls 159 1 100) from sn_162 97) hc179 rfl rfl rfl ?_
                    refine Jif_eq (show mx_Sn _ _ 100 (mx_if_eq 116 103) from sn_162 100) (by omega) (fun q180 => ?_) (fun q180 => ?_)
                    · skip
                      refine mx_J.step (sn_162 116) (fun _ _ => rfl) ?_
                      refine mx_J.step (sn_162 117) (fun _ _ => rfl) ?_
                      have b182 : 0 ≤ Z167 56 7 ∧ Z167 56 7 ≤ 900 := hG167.pr 56 7
                      have eq183 : Z167 56 8 = Z 56 8 := ((hf167 56 8 rfl).trans ((up_ni hE32 (by decide)).trans ((hf5 56 8 rfl).trans (up_ni hE3 (by decide)))))
                      have b184 : 0 ≤ Z 56 8 ∧ Z 56 8 ≤ 900 := hG.pr 56 8
                      obtain ⟨z181, hc181, b181⟩ := ct_161_56 (d := d + 0) (l := l) (D := D) (b0 := b0) (ad := ad) (Hb := Hb) (tau := tau) hx167 hG167  (show Z167 56 7 ≤ Z167 56 8 by first | omega | (simp only [eq183]; omega))
                      try rw [eq183] at b181
                      refine Jcv hx167 (show mx_Sn _ _ 118 (mx_callv 161 1 12 121) from sn_162 118) a56 s56 hc181 rfl rfl rfl ?_
                      refine JputI (g := 9) hx167 (show mx_Sn _ _ 121 (mx_putf 1 12 9 (.int) 124) from sn_162 121) a56 s56 rfl rfl rfl rfl (fun Z185 h185 hx185 hE185 => ?_)
                      have hG185 := GI_up hG167 hE185 (show 0 ≤ z181 ∧ z181 ≤ 100 by omega) trivial rfl
                      refine mx_J.step (sn_162 124) (fun _ _ => rfl) ?_
                      have eq186 : Z185 56 6 = Z5 56 6 := ((up_ni hE185 (by decide)).trans ((hf167 56 6 rfl).trans (up_ni hE32 (by decide))))
                      have b187 : 0 ≤ Z5 56 6 ∧ Z5 56 6 ≤ 900 := hG5.pr 56 6
                      have eq188 : Z185 56 7 = Z167 56 7 := (up_ni hE185 (by decide))
                      have b189 : 0 ≤ Z167 56 7 ∧ Z167 56 7 ≤ 900 := hG167.pr 56 7
                      have eq190 : Z185 56 9 = z181 := (up_at hE185)
                      exact c294 none Z185 h185 (by omega) hx185 hG185 (fr_tr (M := [(56, 7), (56, 9), (56, 10)]) (fr_tr (M := [(56, 7), (56, 9), (56, 10)]) fr_rf (hf167) (M1 := []) rfl rfl) (fr_up hE185) rfl rfl)
                    · skip
                      refine mx_J.step (sn_162 103) (fun _ _ => rfl) ?_
                      refine mx_J.step (sn_162 104) (fun _ _ => rfl) ?_
                      have b192 : 0 ≤ Z167 56 7 ∧ Z167 56 7 ≤ 900 := hG167.pr 56 7
                      refine JgetI (g := 7) (z := Z167 56 7) hx167 (show mx_Sn _ _ 105 (mx_getf 12 7 108) from sn_162 105) a56 s56 rfl rfl rfl ?_
                      refine JcI (z := 1) (show mx_Sn _ _ 108 (mx_const (.int 1) 109) from sn_162 108) rfl ?_
                      refine Jiadd (show mx_Sn _ _ 109 (mx_iadd 110) from sn_162 109) ?_
                      refine JputI (g := 7) hx167 (show mx_Sn _ _ 110 (mx_putf 1 12 7 (.int) 113) from sn_162 110) a56 s56 rfl rfl rfl rfl (fun Z193 h193 hx193 hE193 => ?_)
                      have hG193 := GI_up hG167 hE193 (show 0 ≤ (Z167 56 7) + 1 ∧ (Z167 56 7) + 1 ≤ 900 by omega) trivial rfl
                      refine mx_J.step (sn_162 113) (fun _ _ => rfl) ?_
                      have eq194 : Z193 56 6 = Z5 56 6 := ((up_ni hE193 (by decide)).trans ((hf167 56 6 rfl).trans (up_ni hE32 (by decide))))
                      have b195 : 0 ≤ Z5 56 6 ∧ Z5 56 6 ≤ 900 := hG5.pr 56 6
                      have eq196 : Z193 56 7 = (Z167 56 7) + 1 := (up_at hE193)
                      have eq197 : Z193 56 7 = (Z167 56 7) + 1 := (up_at hE193)
                      exact ih166 Z193 h193 (by omega) (by omega) hx193 hG193 (fr_tr (M := [(56, 7)]) (fr_tr (M := [(56, 7)]) fr_rf (hf167) (M1 := []) rfl rfl) (fr_up hE193) rfl rfl)
                have eq198 : Z32 56 6 = Z5 56 6 := (up_ni hE32 (by decide))
                have b199 : 0 ≤ Z5 56 6 ∧ Z5 56 6 ≤ 900 := hG5.pr 56 6
                have eq200 : Z32 56 7 = Z5 56 6 := (up_at hE32)
                have eq201 : Z32 56 7 = Z5 56 6 := (up_at hE32)
                exact c89 (Int.toNat (Z 56 8 - Z32 56 7) + 1) Z32 h32 (by omega) (by omega) hx32 hG32 fr_rf
            · skip
              refine mx_J.step (sn_162 66) (fun _ _ => rfl) ?_
              refine JcI (z := 24) (show mx_Sn _ _ 67 (mx_const (.int 24) 69) from sn_162 67) rfl ?_
              refine JputI (g := 9) hx32 (show mx_Sn _ _ 69 (mx_putf 1 12 9 (.int) 72) from sn_162 69) a56 s56 rfl rfl rfl rfl (fun Z202 h202 hx202 hE202 => ?_)
              have hG202 := GI_up hG32 hE202 (show 0 ≤ 24 ∧ 24 ≤ 100 by omega) trivial rfl
              refine mx_J.step (sn_162 72) (fun _ _ => rfl) ?_
              have eq203 : Z202 56 6 = Z5 56 6 := ((up_ni hE202 (by decide)).trans (up_ni hE32 (by decide)))
              have b204 : 0 ≤ Z5 56 6 ∧ Z5 56 6 ≤ 900 := hG5.pr 56 6
              have eq205 : Z202 56 7 = Z5 56 6 := ((up_ni hE202 (by decide)).trans (up_at hE32))
              have eq206 : Z202 56 9 = 24 := (up_at hE202)
              exact c294 none Z202 h202 (by omega) hx202 hG202 (fr_tr (M := [(56, 7), (56, 9), (56, 10)]) fr_rf (fr_up hE202) (M1 := []) rfl rfl)
          · skip
            exact c34 (by omega)
    have eq207 : Z3 56 6 = Z 56 7 := (up_at hE3)
    have eq208 : Z3 56 6 = Z 56 7 := (up_at hE3)
    exact c8 (Int.toNat (Z 56 8 - Z3 56 6) + 1) Z3 h3 (by omega) (by omega) hx3 hG3 fr_rf
theorem ct_162_56 {l : Launch} {D : va_G} {b0 : Nat} {ad : Nat → Nat} {Hb : Heap} {tau : Nat → Int64} {d n s : Nat} {S : Nat → xS} {Z : xZ} {h : mx_H} (hx : XH n s S Z h) (hG : GI n S Z)   (k0 : Z 56 7 ≤ Z 56 8) : ∃ (Z' : xZ) (h' : mx_H), mx_Ca (tB l D b0 ad Hb tau) (d + 6) 162 [.ref 56] h (none, h') ∧ XH n s S Z' h' ∧ GI n S Z' ∧ fr' [(56, 6), (56, 7), (56, 9), (56, 10)] Z Z' ∧ (((Z' 56 6 ≤ Z' 56 7 ∧ Z' 56 7 ≤ Z 56 8 ∧ (Z' 56 9 = 24 ∨ Z' 56 6 < Z' 56 7)) ∧ Z 56 7 ≤ Z' 56 6)) := by
  obtain ⟨r, hca, Z', h', e, q⟩ := Jmt (B := tB l D b0 ad Hb tau) (M := mt_162) (mi := 162) (as := [.ref 56]) (d := d + 5) (ls := [some (.ref 56), none]) rfl rfl rfl rfl rfl rfl (cw_162_56 (l := l) (D := D) (b0 := b0) (ad := ad) (Hb := Hb) (tau := tau) (d := d) (Post := fun r => ∃ (Z' : xZ) (h' : mx_H), r = (none, h') ∧ XH n s S Z' h' ∧ GI n S Z' ∧ fr' [(56, 6), (56, 7), (56, 9), (56, 10)] Z Z' ∧ (((Z' 56 6 ≤ Z' 56 7 ∧ Z' 56 7 ≤ Z 56 8 ∧ (Z' 56 9 = 24 ∨ Z' 56 6 < Z' 56 7)) ∧ Z 56 7 ≤ Z' 56 6))) hx hG k0 (fun Z' h' q1 q2 q3 q4 => ⟨Z', h', rfl, q1, q2, q3, q4⟩))
  subst e; exact ⟨Z', h', hca, q⟩
set_option maxRecDepth 100000 in
theorem cw_163_56 {l : Launch} {D : va_G} {b0 : Nat} {ad : Nat → Nat} {Hb : Heap} {tau : Nat → Int64} {d n s : Nat} {S : Nat → xS} {Z : xZ} {h : mx_H} {Post : mx_R → Prop} (hx : XH n s S Z h) (hG : GI n S Z)  {x0 : Int} (p0 : 1 ≤ x0 ∧ x0 ≤ 4) (hP : ∀ (Z' : xZ) (h' : mx_H), XH n s S Z' h' → GI n S Z' → fr' [(56, 11), (56, 12)] Z Z' → (¬ Z' 56 11 = 0) → Post (none, h')) : mx_J (tB l D b0 ad Hb tau) mt_163 (d + 0) 0 [some (.ref 56), some (xI x0)] [] h Post := by
    have a56 : 56 < n := lt83 (GI_n hG) rfl
    have s56 : S 56 = .inl (12, [0, 2, 2, 2, 2, 0, 0, 0, 0, 0, 0, 0, 0, 0, 0, 2, 2, 2, 0, 2, 2, 2, 0, 0, 2, 2, 2, 2, 2, 2, 0, 0, 2, 2, 2, 2, 2, 2, 2, 2, 2, 2]) := GI_s hG 56 rfl
    refine mx_J.step (sn_163 0) (fun _ _ => rfl) ?_
    have b2 : 0 ≤ Z 56 11 ∧ Z 56 11 ≤ 4 := hG.pr 56 11
    refine JgetI (g := 11) (z := Z 56 11) hx (show mx_Sn _ _ 1 (mx_getf 12 11 4) from sn_163 1) a56 s56 rfl rfl rfl ?_
    refine Jif_eq (show mx_Sn _ _ 4 (mx_if_eq 8 7) from sn_163 4) (by omega) (fun q3 => ?_) (fun q3 => ?_)
    · skip
      refine mx_J.step (sn_163 8) (fun _ _ => rfl) ?_
      refine mx_J.step (sn_163 9) (fun _ _ => rfl) ?_
      have b5 : 0 ≤ Z 56 9 ∧ Z 56 9 ≤ 100 := hG.pr 56 9
      refine JgetI (g := 9) (z := Z 56 9) hx (show mx_Sn _ _ 10 (mx_getf 12 9 13) from sn_163 10) a56 s56 rfl rfl rfl ?_
      refine JcI (z := 25) (show mx_Sn _ _ 13 (mx_const (.int 25) 15) from sn_163 13) rfl ?_
      have c23 : ∀ (k6_1 : Int), 1 ≤ k6_1 ∧ k6_1 ≤ 4 → mx_J (tB l D b0 ad Hb tau) mt_163 (d + 0) 23 [some (.ref 56), some (xI x0)] [xI k6_1, .ref 56] h Post := by
        intro k6_1 f6_0
        refine JputI (g := 11) hx (show mx_Sn _ _ 23 (mx_putf 1 12 11 (.int) 26) from sn_163 23) a56 s56 rfl rfl rfl rfl (fun Z7 h7 hx7 hE7 => ?_)
        have hG7 := GI_up hG hE7 (show 0 ≤ k6_1 ∧ k6_1 ≤ 4 by omega) trivial rfl
        refine mx_J.step (sn_163 26) (fun _ _ => rfl) ?_
        refine mx_J.step (sn_163 27) (fun _ _ => rfl) ?_
        have b9 : 0 ≤ Z 56 6 ∧ Z 56 6 ≤ 900 := hG.pr 56 6
        refine JgetI (g := 6) (z := Z 56 6) hx7 (show mx_Sn _ _ 28 (mx_getf 12 6 31) from sn_163 28) a56 s56 rfl rfl (up_ni hE7 (by decide)) ?_
        refine JputI (g := 12) hx7 (show mx_Sn _ _ 31 (mx_putf 1 12 12 (.int) 34) from sn_163 31) a56 s56 rfl rfl rfl rfl (fun Z10 h10 hx10 hE10 => ?_)
        have hG10 := GI_up hG7 hE10 (show 0 ≤ Z 56 6 ∧ Z 56 6 ≤ 900 by omega) trivial rfl
        have eq11 : Z10 56 11 = k6_1 := ((up_ni hE10 (by decide)).trans (up_at hE7))
        exact mx_J.ret (sn_163 34) (fun _ _ => rfl) (hP Z10 h10 hx10 hG10 (fr_tr (M := [(56, 11), (56, 12)]) (fr_tr (M := [(56, 11), (56, 12)]) fr_rf (fr_up hE7) (M1 := []) rfl rfl) (fr_up hE10) rfl rfl) (by omega))
      refine Jicmp_ne (show mx_Sn _ _ 15 (mx_icmp_ne 22 18) from sn_163 15) (by omega) (by omega) (fun q12 => ?_) (fun q12 => ?_)
      · skip
        refine mx_J.step (sn_163 22) (fun _ _ => rfl) ?_
        exact c23 x0 (by omega)
      · skip
        refine JcI (z := 1) (show mx_Sn _ _ 18 (mx_const (.int 1) 19) from sn_163 18) rfl ?_
        refine mx_J.step (sn_163 19) (fun _ _ => rfl) ?_
        exact c23 1 (by omega)
    · skip
      have b13 : 0 ≤ Z 56 11 ∧ Z 56 11 ≤ 4 := hG.pr 56 11
      exact mx_J.ret (sn_163 7) (fun _ _ => rfl) (hP Z h hx hG fr_rf (by omega))
theorem ct_163_56 {l : Launch} {D : va_G} {b0 : Nat} {ad : Nat → Nat} {Hb : Heap} {tau : Nat → Int64} {d n s : Nat} {S : Nat → xS} {Z : xZ} {h : mx_H} (hx : XH n s S Z h) (hG : GI n S Z)  {x0 : Int} (p0 : 1 ≤ x0 ∧ x0 ≤ 4) : ∃ (Z' : xZ) (h' : mx_H), mx_Ca (tB l D b0 ad Hb tau) (d + 1) 163 [.ref 56, xI x0] h (none, h') ∧ XH n s S Z' h' ∧ GI n S Z' ∧ fr' [(56, 11), (56, 12)] Z Z' ∧ ((¬ Z' 56 11 = 0)) := by
  obtain ⟨r, hca, Z', h', e, q⟩ := Jmt (B := tB l D b0 ad Hb tau) (M := mt_163) (mi := 163) (as := [.ref 56, xI x0]) (d := d + 0) (ls := [some (.ref 56), some (xI x0)]) rfl rfl rfl rfl rfl rfl (cw_163_56 (l := l) (D := D) (b0 := b0) (ad := ad) (Hb := Hb) (tau := tau) (d := d) (Post := fun r => ∃ (Z' : xZ) (h' : mx_H), r = (none, h') ∧ XH n s S Z' h' ∧ GI n S Z' ∧ fr' [(56, 11), (56, 12)] Z Z' ∧ ((¬ Z' 56 11 = 0))) hx hG p0 (fun Z' h' q1 q2 q3 q4 => ⟨Z', h', rfl, q1, q2, q3, q4⟩))
  subst e; exact ⟨Z', h', hca, q⟩
set_option maxRecDepth 100000 in
theorem cw_164_56 {l : Launch} {D : va_G} {b0 : Nat} {ad : Nat → Nat} {Hb : Heap} {tau : Nat → Int64} {d n s : Nat} {S : Nat → xS} {Z : xZ} {h : mx_H} {Post : mx_R → Prop} (hx : XH n s S Z h) (hG : GI n S Z)  {x0 : Int} (p0 : 0 ≤ x0 ∧ x0 ≤ 100) (hP : ∀ z : Int, 0 ≤ z ∧ z ≤ 1 ∧ ((z = 1 ∧ Z 56 11 = 0 ∧ Z 56 9 = x0) ∨ (z = 0 ∧ ¬ (Z 56 11 = 0 ∧ Z 56 9 = x0))) → Post (some (xI z), h)) : mx_J (tB l D b0 ad Hb tau) mt_164 (d + 0) 0 [some (.ref 56), some (xI x0)] [] h Post := by
    have a56 : 56 < n := lt83 (GI_n hG) rfl
    have s56 : S 56 = .inl (12, [0, 2, 2, 2, 2, 0, 0, 0, 0, 0, 0, 0, 0, 0, 0, 2, 2, 2, 0, 2, 2, 2, 0, 0, 2, 2, 2, 2, 2, 2, 0, 0, 2, 2, 2, 2, 2, 2, 2, 2, 2, 2]) := GI_s hG 56 rfl
    refine mx_J.step (sn_164 0) (fun _ _ => rfl) ?_
    have b2 : 0 ≤ Z 56 11 ∧ Z 56 11 ≤ 4 := hG.pr 56 11
    refine JgetI (g := 11) (z := Z 56 11) hx (show mx_Sn _ _ 1 (mx_getf 12 11 4) from sn_164 1) a56 s56 rfl rfl rfl ?_
    have c20 : ∀ (k3_0 : Int), 0 ≤ k3_0 ∧ k3_0 ≤ 1 → ((k3_0 = 1 ∧ Z 56 11 = 0 ∧ Z 56 9 = x0) ∨ (k3_0 = 0 ∧ ¬ (Z 56 11 = 0 ∧ Z 56 9 = x0))) → mx_J (tB l D b0 ad Hb tau) mt_164 (d + 0) 20 [some (.ref 56), some (xI x0)] [xI k3_0] h Post := by
      intro k3_0 f3_0 f3_1
      have b4 : 0 ≤ Z 56 9 ∧ Z 56 9 ≤ 100 := hG.pr 56 9
      have b5 : 0 ≤ Z 56 11 ∧ Z 56 11 ≤ 4 := hG.pr 56 11
      exact mx_J.ret (show mx_Sn _ _ 20 (mx_zret) from sn_164 20) (fun _ _ => zr_ok (by omega)) (hP k3_0 (by omega))
    have c19 : ¬ (Z 56 11 = 0 ∧ Z 56 9 = x0) → mx_J (tB l D b0 ad Hb tau) mt_164 (d + 0) 19 [some (.ref 56), some (xI x0)] [] h Post := by
      intro f6_0
      refine JcI (z := 0) (show mx_Sn _ _ 19 (mx_const (.int 0) 20) from sn_164 19) rfl ?_
      exact c20 0 (by omega) (by omega)
    refine Jif_ne (show mx_Sn _ _ 4 (mx_if_ne 19 7) from sn_164 4) (by omega) (fun q7 => ?_) (fun q7 => ?_)
    · skip
      exact c19 (by omega)
    · skip
      refine mx_J.step (sn_164 7) (fun _ _ => rfl) ?_
      have b9 : 0 ≤ Z 56 9 ∧ Z 56 9 ≤ 100 := hG.pr 56 9
      refine JgetI (g := 9) (z := Z 56 9) hx (show mx_Sn _ _ 8 (mx_getf 12 9 11) from sn_164 8) a56 s56 rfl rfl rfl ?_
      refine mx_J.step (sn_164 11) (fun _ _ => rfl) ?_
      refine Jicmp_ne (show mx_Sn _ _ 12 (mx_icmp_ne 19 15) from sn_164 12) (by omega) (by omega) (fun q10 => ?_) (fun q10 => ?_)
      · skip
        exact c19 (by omega)
      · skip
        refine JcI (z := 1) (show mx_Sn _ _ 15 (mx_const (.int 1) 16) from sn_164 15) rfl ?_
        refine mx_J.step (sn_164 16) (fun _ _ => rfl) ?_
        exact c20 1 (by omega) (by omega)
theorem ct_164_56 {l : Launch} {D : va_G} {b0 : Nat} {ad : Nat → Nat} {Hb : Heap} {tau : Nat → Int64} {d n s : Nat} {S : Nat → xS} {Z : xZ} {h : mx_H} (hx : XH n s S Z h) (hG : GI n S Z)  {x0 : Int} (p0 : 0 ≤ x0 ∧ x0 ≤ 100) : ∃ z : Int, mx_Ca (tB l D b0 ad Hb tau) (d + 1) 164 [.ref 56, xI x0] h (some (xI z), h) ∧ (0 ≤ z ∧ z ≤ 1 ∧ ((z = 1 ∧ Z 56 11 = 0 ∧ Z 56 9 = x0) ∨ (z = 0 ∧ ¬ (Z 56 11 = 0 ∧ Z 56 9 = x0)))) := by
  obtain ⟨r, hca, z, e, hp⟩ := Jmt (B := tB l D b0 ad Hb tau) (M := mt_164) (mi := 164) (as := [.ref 56, xI x0]) (d := d + 0) (ls := [some (.ref 56), some (xI x0)]) rfl rfl rfl rfl rfl rfl (cw_164_56 (l := l) (D := D) (b0 := b0) (ad := ad) (Hb := Hb) (tau := tau) (d := d) (Post := fun r => ∃ z : Int, r = (some (xI z), h) ∧ (0 ≤ z ∧ z ≤ 1 ∧ ((z = 1 ∧ Z 56 11 = 0 ∧ Z 56 9 = x0) ∨ (z = 0 ∧ ¬ (Z 56 11 = 0 ∧ Z 56 9 = x0))))) hx hG p0 (fun z hz => ⟨z, rfl, hz⟩))
  subst e; exact ⟨z, hca, hp⟩
set_option maxRecDepth 100000 in
theorem cw_165_56 {l : Launch} {D : va_G} {b0 : Nat} {ad : Nat → Nat} {Hb : Heap} {tau : Nat → Int64} {d n s : Nat} {S : Nat → xS} {Z : xZ} {h : mx_H} {Post : mx_R → Prop} (hx : XH n s S Z h) (hG : GI n S Z)  {x0 : Int} (p0 : 0 ≤ x0 ∧ x0 ≤ 100) (k0 : (Z 56 6 ≤ Z 56 7 ∧ Z 56 7 ≤ Z 56 8 ∧ (Z 56 9 = 24 ∨ Z 56 6 < Z 56 7))) (k1 : ¬ x0 = 24) (hP : ∀ (z : Int) (Z' : xZ) (h' : mx_H), XH n s S Z' h' → GI n S Z' → fr' [(56, 6), (56, 7), (56, 9), (56, 10)] Z Z' → 0 ≤ z ∧ z ≤ 1 ∧ ((Z' 56 6 ≤ Z' 56 7 ∧ Z' 56 7 ≤ Z 56 8 ∧ (Z' 56 9 = 24 ∨ Z' 56 6 < Z' 56 7)) ∧ Z 56 6 ≤ Z' 56 6 ∧ (z = 1 → Z 56 11 = 0 ∧ Z 56 9 = x0 ∧ Z 56 6 + 1 ≤ Z' 56 6) ∧ (z = 0 → Z' 56 6 = Z 56 6 ∧ ¬ (Z 56 11 = 0 ∧ Z 56 9 = x0))) → Post (some (xI z), h')) : mx_J (tB l D b0 ad Hb tau) mt_165 (d + 6) 0 [some (.ref 56), some (xI x0)] [] h Post := by
    have a56 : 56 < n := lt83 (GI_n hG) rfl
    have s56 : S 56 = .inl (12, [0, 2, 2, 2, 2, 0, 0, 0, 0, 0, 0, 0, 0, 0, 0, 2, 2, 2, 0, 2, 2, 2, 0, 0, 2, 2, 2, 2, 2, 2, 0, 0, 2, 2, 2, 2, 2, 2, 2, 2, 2, 2]) := GI_s hG 56 rfl
    refine mx_J.step (sn_165 0) (fun _ _ => rfl) ?_
    refine mx_J.step (sn_165 1) (fun _ _ => rfl) ?_
    have b2 : 0 ≤ Z 56 9 ∧ Z 56 9 ≤ 100 := hG.pr 56 9
    have b3 : 0 ≤ Z 56 11 ∧ Z 56 11 ≤ 4 := hG.pr 56 11
    obtain ⟨z1, hc1, b1⟩ := ct_164_56 (d := d + 5) (l := l) (D := D) (b0 := b0) (ad := ad) (Hb := Hb) (tau := tau) hx hG (show 0 ≤ x0 ∧ x0 ≤ 100 by omega)
    refine Jcv hx (show mx_Sn _ _ 2 (mx_callv 164 2 12 5) from sn_165 2) a56 s56 hc1 rfl rfl rfl ?_
    refine Jif_ne (show mx_Sn _ _ 5 (mx_if_ne 10 8) from sn_165 5) (by omega) (fun q4 => ?_) (fun q4 => ?_)
    · skip
      refine mx_J.step (sn_165 10) (fun _ _ => rfl) ?_
      have b6 : 0 ≤ Z 56 7 ∧ Z 56 7 ≤ 900 := hG.pr 56 7
      have b7 : 0 ≤ Z 56 8 ∧ Z 56 8 ≤ 900 := hG.pr 56 8
      obtain ⟨Z5, h5, hc5, hx5, hG5, hf5, b5⟩ := ct_162_56 (d := d + 0) (l := l) (D := D) (b0 := b0) (ad := ad) (Hb := Hb) (tau := tau) hx hG  (show Z 56 7 ≤ Z 56 8 by omega)
      have b8 : 0 ≤ Z5 56 6 ∧ Z5 56 6 ≤ 900 := hG5.pr 56 6
      have b9 : 0 ≤ Z5 56 7 ∧ Z5 56 7 ≤ 900 := hG5.pr 56 7
      have b10 : 0 ≤ Z5 56 9 ∧ Z5 56 9 ≤ 100 := hG5.pr 56 9
      refine Jcv0 hx (show mx_Sn _ _ 11 (mx_callv 162 1 12 14) from sn_165 11) a56 s56 hc5 rfl rfl rfl ?_
      refine JcI (z := 1) (show mx_Sn _ _ 14 (mx_const (.int 1) 15) from sn_165 14) rfl ?_
      have b11 : 0 ≤ Z5 56 6 ∧ Z5 56 6 ≤ 900 := hG5.pr 56 6
      have b12 : 0 ≤ Z5 56 7 ∧ Z5 56 7 ≤ 900 := hG5.pr 56 7
      have b13 : 0 ≤ Z5 56 9 ∧ Z5 56 9 ≤ 100 := hG5.pr 56 9
      have b14 : 0 ≤ Z5 56 6 ∧ Z5 56 6 ≤ 900 := hG5.pr 56 6
      have b15 : 0 ≤ Z5 56 7 ∧ Z5 56 7 ≤ 900 := hG5.pr 56 7
      have eq16 : Z5 56 8 = Z 56 8 := (hf5 56 8 rfl)
      have b17 : 0 ≤ Z 56 8 ∧ Z 56 8 ≤ 900 := hG.pr 56 8
      have b18 : 0 ≤ Z5 56 9 ∧ Z5 56 9 ≤ 100 := hG5.pr 56 9
      have eq19 : Z5 56 11 = Z 56 11 := (hf5 56 11 rfl)
      have b20 : 0 ≤ Z 56 11 ∧ Z 56 11 ≤ 4 := hG.pr 56 11
      exact mx_J.ret (show mx_Sn _ _ 15 (mx_zret) from sn_165 15) (fun _ _ => zr_ok (by omega)) (hP 1 Z5 h5 hx5 hG5 (fr_tr (M := [(56, 6), (56, 7), (56, 9), (56, 10)]) fr_rf (hf5) (M1 := []) rfl rfl) (by omega))
    · skip
      refine JcI (z := 0) (show mx_Sn _ _ 8 (mx_const (.int 0) 9) from sn_165 8) rfl ?_
      have b21 : 0 ≤ Z 56 6 ∧ Z 56 6 ≤ 900 := hG.pr 56 6
      have b22 : 0 ≤ Z 56 7 ∧ Z 56 7 ≤ 900 := hG.pr 56 7
      have b23 : 0 ≤ Z 56 9 ∧ Z 56 9 ≤ 100 := hG.pr 56 9
      have b24 : 0 ≤ Z 56 6 ∧ Z 56 6 ≤ 900 := hG.pr 56 6
      have b25 : 0 ≤ Z 56 7 ∧ Z 56 7 ≤ 900 := hG.pr 56 7
      have b26 : 0 ≤ Z 56 8 ∧ Z 56 8 ≤ 900 := hG.pr 56 8
      have b27 : 0 ≤ Z 56 9 ∧ Z 56 9 ≤ 100 := hG.pr 56 9
      have b28 : 0 ≤ Z 56 11 ∧ Z 56 11 ≤ 4 := hG.pr 56 11
      exact mx_J.ret (show mx_Sn _ _ 9 (mx_zret) from sn_165 9) (fun _ _ => zr_ok (by omega)) (hP 0 Z h hx hG fr_rf (by omega))
theorem ct_165_56 {l : Launch} {D : va_G} {b0 : Nat} {ad : Nat → Nat} {Hb : Heap} {tau : Nat → Int64} {d n s : Nat} {S : Nat → xS} {Z : xZ} {h : mx_H} (hx : XH n s S Z h) (hG : GI n S Z)  {x0 : Int} (p0 : 0 ≤ x0 ∧ x0 ≤ 100) (k0 : (Z 56 6 ≤ Z 56 7 ∧ Z 56 7 ≤ Z 56 8 ∧ (Z 56 9 = 24 ∨ Z 56 6 < Z 56 7))) (k1 : ¬ x0 = 24) : ∃ (z : Int) (Z' : xZ) (h' : mx_H), mx_Ca (tB l D b0 ad Hb tau) (d + 7) 165 [.ref 56, xI x0] h (some (xI z), h') ∧ XH n s S Z' h' ∧ GI n S Z' ∧ fr' [(56, 6), (56, 7), (56, 9), (56, 10)] Z Z' ∧ (0 ≤ z ∧ z ≤ 1 ∧ ((Z' 56 6 ≤ Z' 56 7 ∧ Z' 56 7 ≤ Z 56 8 ∧ (Z' 56 9 = 24 ∨ Z' 56 6 < Z' 56 7)) ∧ Z 56 6 ≤ Z' 56 6 ∧ (z = 1 → Z 56 11 = 0 ∧ Z 56 9 = x0 ∧ Z 56 6 + 1 ≤ Z' 56 6) ∧ (z = 0 → Z' 56 6 = Z 56 6 ∧ ¬ (Z 56 11 = 0 ∧ Z 56 9 = x0)))) := by
  obtain ⟨r, hca, z, Z', h', e, q⟩ := Jmt (B := tB l D b0 ad Hb tau) (M := mt_165) (mi := 165) (as := [.ref 56, xI x0]) (d := d + 6) (ls := [some (.ref 56), some (xI x0)]) rfl rfl rfl rfl rfl rfl (cw_165_56 (l := l) (D := D) (b0 := b0) (ad := ad) (Hb := Hb) (tau := tau) (d := d) (Post := fun r => ∃ (z : Int) (Z' : xZ) (h' : mx_H), r = (some (xI z), h') ∧ XH n s S Z' h' ∧ GI n S Z' ∧ fr' [(56, 6), (56, 7), (56, 9), (56, 10)] Z Z' ∧ (0 ≤ z ∧ z ≤ 1 ∧ ((Z' 56 6 ≤ Z' 56 7 ∧ Z' 56 7 ≤ Z 56 8 ∧ (Z' 56 9 = 24 ∨ Z' 56 6 < Z' 56 7)) ∧ Z 56 6 ≤ Z' 56 6 ∧ (z = 1 → Z 56 11 = 0 ∧ Z 56 9 = x0 ∧ Z 56 6 + 1 ≤ Z' 56 6) ∧ (z = 0 → Z' 56 6 = Z 56 6 ∧ ¬ (Z 56 11 = 0 ∧ Z 56 9 = x0))))) hx hG p0 k0 k1 (fun z Z' h' q1 q2 q3 q4 => ⟨z, Z', h', rfl, q1, q2, q3, q4⟩))
  subst e; exact ⟨z, Z', h', hca, q⟩
set_option maxRecDepth 100000 in
theorem cw_169_56_0 {l : Launch} {D : va_G} {b0 : Nat} {ad : Nat → Nat} {Hb : Heap} {tau : Nat → Int64} {d n s : Nat} {S : Nat → xS} {Z : xZ} {h : mx_H} {Post : mx_R → Prop} {a0 : Int} (hx : XH n s S Z h) (hG : GI n S Z)  {x0 : Int} (p0 : 0 ≤ x0 ∧ x0 ≤ 1004) (k0 : (Z 56 11 = 0 → Z 60 61 ≤ 899)) (k1 : a0 ≤ Z 60 61) (k2 : 0 ≤ a0) (hP : ∀ (Z' : xZ) (h' : mx_H), XH n s S Z' h' → GI n S Z' → fr' [(60, (-1))] Z Z' → (Z' 60 1 = Z 60 1 ∧ Z' 60 2 = Z 60 2 ∧ ((¬ Z 56 11 = 0 ∧ Z' 60 61 = Z 60 61 ∧ DP Z' a0 = DP Z a0 ∧ MW Z' a0 = MW Z a0 ∧ WFF Z' = WFF Z) ∨ (Z 56 11 = 0 ∧ Z' 60 61 = Z 60 61 + 1 ∧ DP Z' a0 = DP Z a0 + (1) ∧ (MW Z a0 = 1 → 0 ≤ DP Z a0 → MW Z' a0 = 1) ∧ (WFF Z = 1 → WFF Z' = 1)))) → Post (none, h')) : mx_J (tB l D b0 ad Hb tau) mt_169 (d + 0) 0 [some (.ref 56), some (xI x0)] [] h Post := by
    have a56 : 56 < n := lt83 (GI_n hG) rfl
    have s56 : S 56 = .inl (12, [0, 2, 2, 2, 2, 0, 0, 0, 0, 0, 0, 0, 0, 0, 0, 2, 2, 2, 0, 2, 2, 2, 0, 0, 2, 2, 2, 2, 2, 2, 0, 0, 2, 2, 2, 2, 2, 2, 2, 2, 2, 2]) := GI_s hG 56 rfl
    have a60 : 60 < n := lt83 (GI_n hG) rfl
    have s60 : S 60 = .inr (.int, 962, 0) := GI_s hG 60 rfl
    refine mx_J.step (sn_169 0) (fun _ _ => rfl) ?_
    have b2 : 0 ≤ Z 56 11 ∧ Z 56 11 ≤ 4 := hG.pr 56 11
    refine JgetI (g := 11) (z := Z 56 11) hx (show mx_Sn _ _ 1 (mx_getf 12 11 4) from sn_169 1) a56 s56 rfl rfl rfl ?_
    refine Jif_eq (show mx_Sn _ _ 4 (mx_if_eq 8 7) from sn_169 4) (by omega) (fun q3 => ?_) (fun q3 => ?_)
    · skip
      refine mx_J.step (sn_169 8) (fun _ _ => rfl) ?_
      refine JgetR (g := 4) (b := 60) hx (show mx_Sn _ _ 9 (mx_getf 12 4 12) from sn_169 9) a56 s56 rfl rfl (hG.prr 56 4 rfl) ?_
      refine JcI (z := 62) (show mx_Sn _ _ 12 (mx_const (.int 62) 14) from sn_169 12) rfl ?_
      refine mx_J.step (sn_169 14) (fun _ _ => rfl) ?_
      refine JgetR (g := 4) (b := 60) hx (show mx_Sn _ _ 15 (mx_getf 12 4 18) from sn_169 15) a56 s56 rfl rfl (hG.prr 56 4 rfl) ?_
      refine JcI (z := 61) (show mx_Sn _ _ 18 (mx_const (.int 61) 20) from sn_169 18) rfl ?_
      have b6 : 0 ≤ Z 60 61 ∧ Z 60 61 ≤ 900 := by have hq := GI_ex hG 60 61; replace hq : f60 (61 % 962) (Z 60 61) := hq; unfold f60 at hq; omega
      have b7 : (-2147483648) ≤ Z 60 61 ∧ Z 60 61 ≤ 2147483647 := hG.pr 60 61
      refine JialdI (z := Z 60 61) hx (show mx_Sn _ _ 20 (mx_iald 21) from sn_169 20) a60 s60 (by omega) rfl ?_
      refine Jiadd (show mx_Sn _ _ 21 (mx_iadd 22) from sn_169 21) ?_
      refine mx_J.step (sn_169 22) (fun _ _ => rfl) ?_
      refine JiastI hx (show mx_Sn _ _ 23 (mx_iast 1 24) from sn_169 23) a60 s60 rfl (by omega) (fun Z8 h8 hx8 hE8 => ?_)
      have hG8 := GI_up hG hE8 (show (-2147483648) ≤ x0 ∧ x0 ≤ 2147483647 by omega) (show f60 ((62 + (Z 60 61)) % 962) (x0) by first | (rw [Int.emod_eq_of_lt (by omega) (by omega)]; unfold f60; omega) | assumption | (unfold f60; omega) | (unfold f60 at *; omega)) rfl
      refine mx_J.step (sn_169 24) (fun _ _ => rfl) ?_
      refine JgetR (g := 4) (b := 60) hx8 (show mx_Sn _ _ 25 (mx_getf 12 4 28) from sn_169 25) a56 s56 rfl rfl (hG8.prr 56 4 rfl) ?_
      refine JcI (z := 61) (show mx_Sn _ _ 28 (mx_const (.int 61) 30) from sn_169 28) rfl ?_
      refine mx_J.step (sn_169 30) (fun _ _ => rfl) ?_
      have b10 : 0 ≤ Z 60 61 ∧ Z 60 61 ≤ 900 := by have hq := GI_ex hG 60 61; replace hq : f60 (61 % 962) (Z 60 61) := hq; unfold f60 at hq; omega
      have b11 : (-2147483648) ≤ Z 60 61 ∧ Z 60 61 ≤ 2147483647 := hG.pr 60 61
      refine JialdI (z := Z 60 61) hx8 (show mx_Sn _ _ 31 (mx_iald 32) from sn_169 31) a60 s60 (by omega) (up_ni hE8 (by omega)) ?_
      refine JcI (z := 1) (show mx_Sn _ _ 32 (mx_const (.int 1) 33) from sn_169 32) rfl ?_
      refine Jiadd (show mx_Sn _ _ 33 (mx_iadd 34) from sn_169 33) ?_
      refine JiastI hx8 (show mx_Sn _ _ 34 (mx_iast 1 35) from sn_169 34) a60 s60 rfl (by omega) (fun Z12 h12 hx12 hE12 => ?_)
      have hG12 := GI_up hG8 hE12 (show (-2147483648) ≤ (Z 60 61) + 1 ∧ (Z 60 61) + 1 ≤ 2147483647 by omega) (show f60 ((61) % 962) ((Z 60 61) + 1) by first | assumption | (unfold f60; omega) | (unfold f60 at *; omega)) rfl
      have c1 := cd_dp (a := a0) hE8 hE12 (by omega) (by omega)
      have dv := dl_e x0
      have c2 : MW Z a0 = 1 → nd x0 ≤ DP Z a0 → MW Z12 a0 = 1 := fun h1 h2 => cd_mw hE8 hE12 h1 (by unfold okc; omega) h2
      have c3 : WFF Z = 1 → WFF Z12 = 1 := cd_wf hE8 hE12 (by omega)
      have eq13 : Z12 60 61 = (Z 60 61) + 1 := (up_at hE12)
      have eq14 : Z12 60 1 = Z 60 1 := ((up_ni hE12 (by decide)).trans (up_ni hE8 (by omega)))
      have b15 : 0 ≤ Z 60 1 ∧ Z 60 1 ≤ 18 := by have hq := GI_ex hG 60 1; replace hq : f60 (1 % 962) (Z 60 1) := hq; unfold f60 at hq; omega
      have b16 : (-2147483648) ≤ Z 60 1 ∧ Z 60 1 ≤ 2147483647 := hG.pr 60 1
      have eq17 : Z12 60 2 = Z 60 2 := ((up_ni hE12 (by decide)).trans (up_ni hE8 (by omega)))
      have b18 : 0 ≤ Z 60 2 ∧ Z 60 2 ≤ 18 := by have hq := GI_ex hG 60 2; replace hq : f60 (2 % 962) (Z 60 2) := hq; unfold f60 at hq; omega
      have b19 : (-2147483648) ≤ Z 60 2 ∧ Z 60 2 ≤ 2147483647 := hG.pr 60 2
      have eq20 : Z12 56 8 = Z 56 8 := ((up_nk hE12 rfl).trans (up_nk hE8 rfl))
      have b21 : 0 ≤ Z 56 8 ∧ Z 56 8 ≤ 900 := hG.pr 56 8
      have eq22 : Z12 56 11 = Z 56 11 := ((up_nk hE12 rfl).trans (up_nk hE8 rfl))
      have b23 : 0 ≤ Z 56 11 ∧ Z 56 11 ≤ 4 := hG.pr 56 11
      have eq24 : Z12 60 61 = (Z 60 61) + 1 := (up_at hE12)
      have eq25 : Z12 60 1 = Z 60 1 := ((up_ni hE12 (by decide)).trans (up_ni hE8 (by omega)))
      have b26 : 0 ≤ Z 60 1 ∧ Z 60 1 ≤ 18 := by have hq := GI_ex hG 60 1; replace hq : f60 (1 % 962) (Z 60 1) := hq; unfold f60 at hq; omega
      have b27 : (-2147483648) ≤ Z 60 1 ∧ Z 60 1 ≤ 2147483647 := hG.pr 60 1
      have eq28 : Z12 60 2 = Z 60 2 := ((up_ni hE12 (by decide)).trans (up_ni hE8 (by omega)))
      have b29 : 0 ≤ Z 60 2 ∧ Z 60 2 ≤ 18 := by have hq := GI_ex hG 60 2; replace hq : f60 (2 % 962) (Z 60 2) := hq; unfold f60 at hq; omega
      have b30 : (-2147483648) ≤ Z 60 2 ∧ Z 60 2 ≤ 2147483647 := hG.pr 60 2
      exact mx_J.ret (sn_169 35) (fun _ _ => rfl) (hP Z12 h12 hx12 hG12 (fr_tr (M := [(60, (-1))]) (fr_tr (M := [(60, (-1))]) fr_rf (fr_ua hE8) (M1 := []) rfl rfl) (fr_ua hE12) rfl rfl) (by omega))
    · skip
      have b31 : 0 ≤ Z 60 61 ∧ Z 60 61 ≤ 900 := by have hq := GI_ex hG 60 61; replace hq : f60 (61 % 962) (Z 60 61) := hq; unfold f60 at hq; omega
      have b32 : (-2147483648) ≤ Z 60 61 ∧ Z 60 61 ≤ 2147483647 := hG.pr 60 61
      have b33 : 0 ≤ Z 60 1 ∧ Z 60 1 ≤ 18 := by have hq := GI_ex hG 60 1; replace hq : f60 (1 % 962) (Z 60 1) := hq; unfold f60 at hq; omega
      have b34 : (-2147483648) ≤ Z 60 1 ∧ Z 60 1 ≤ 2147483647 := hG.pr 60 1
      have b35 : 0 ≤ Z 60 2 ∧ Z 60 2 ≤ 18 := by have hq := GI_ex hG 60 2; replace hq : f60 (2 % 962) (Z 60 2) := hq; unfold f60 at hq; omega
      have b36 : (-2147483648) ≤ Z 60 2 ∧ Z 60 2 ≤ 2147483647 := hG.pr 60 2
      have b37 : 0 ≤ Z 56 8 ∧ Z 56 8 ≤ 900 := hG.pr 56 8
      have b38 : 0 ≤ Z 56 11 ∧ Z 56 11 ≤ 4 := hG.pr 56 11
      have b39 : 0 ≤ Z 60 61 ∧ Z 60 61 ≤ 900 := by have hq := GI_ex hG 60 61; replace hq : f60 (61 % 962) (Z 60 61) := hq; unfold f60 at hq; omega
      have b40 : (-2147483648) ≤ Z 60 61 ∧ Z 60 61 ≤ 2147483647 := hG.pr 60 61
      have b41 : 0 ≤ Z 60 1 ∧ Z 60 1 ≤ 18 := by have hq := GI_ex hG 60 1; replace hq : f60 (1 % 962) (Z 60 1) := hq; unfold f60 at hq; omega
      have b42 : (-2147483648) ≤ Z 60 1 ∧ Z 60 1 ≤ 2147483647 := hG.pr 60 1
      have b43 : 0 ≤ Z 60 2 ∧ Z 60 2 ≤ 18 := by have hq := GI_ex hG 60 2; replace hq : f60 (2 % 962) (Z 60 2) := hq; unfold f60 at hq; omega
      have b44 : (-2147483648) ≤ Z 60 2 ∧ Z 60 2 ≤ 2147483647 := hG.pr 60 2
      exact mx_J.ret (sn_169 7) (fun _ _ => rfl) (hP Z h hx hG fr_rf (by omega))
theorem ct_169_56_0 {l : Launch} {D : va_G} {b0 : Nat} {ad : Nat → Nat} {Hb : Heap} {tau : Nat → Int64} {d n s : Nat} {S : Nat → xS} {Z : xZ} {h : mx_H} {a0 : Int} (hx : XH n s S Z h) (hG : GI n S Z)  {x0 : Int} (p0 : 0 ≤ x0 ∧ x0 ≤ 1004) (k0 : (Z 56 11 = 0 → Z 60 61 ≤ 899)) (k1 : a0 ≤ Z 60 61) (k2 : 0 ≤ a0) : ∃ (Z' : xZ) (h' : mx_H), mx_Ca (tB l D b0 ad Hb tau) (d + 1) 169 [.ref 56, xI x0] h (none, h') ∧ XH n s S Z' h' ∧ GI n S Z' ∧ fr' [(60, (-1))] Z Z' ∧ ((Z' 60 1 = Z 60 1 ∧ Z' 60 2 = Z 60 2 ∧ ((¬ Z 56 11 = 0 ∧ Z' 60 61 = Z 60 61 ∧ DP Z' a0 = DP Z a0 ∧ MW Z' a0 = MW Z a0 ∧ WFF Z' = WFF Z) ∨ (Z 56 11 = 0 ∧ Z' 60 61 = Z 60 61 + 1 ∧ DP Z' a0 = DP Z a0 + (1) ∧ (MW Z a0 = 1 → 0 ≤ DP Z a0 → MW Z' a0 = 1) ∧ (WFF Z = 1 → WFF Z' = 1))))) := by
  obtain ⟨r, hca, Z', h', e, q⟩ := Jmt (B := tB l D b0 ad Hb tau) (M := mt_169) (mi := 169) (as := [.ref 56, xI x0]) (d := d + 0) (ls := [some (.ref 56), some (xI x0)]) rfl rfl rfl rfl rfl rfl (cw_169_56_0 (l := l) (D := D) (b0 := b0) (ad := ad) (Hb := Hb) (tau := tau) (d := d) (Post := fun r => ∃ (Z' : xZ) (h' : mx_H), r = (none, h') ∧ XH n s S Z' h' ∧ GI n S Z' ∧ fr' [(60, (-1))] Z Z' ∧ ((Z' 60 1 = Z 60 1 ∧ Z' 60 2 = Z 60 2 ∧ ((¬ Z 56 11 = 0 ∧ Z' 60 61 = Z 60 61 ∧ DP Z' a0 = DP Z a0 ∧ MW Z' a0 = MW Z a0 ∧ WFF Z' = WFF Z) ∨ (Z 56 11 = 0 ∧ Z' 60 61 = Z 60 61 + 1 ∧ DP Z' a0 = DP Z a0 + (1) ∧ (MW Z a0 = 1 → 0 ≤ DP Z a0 → MW Z' a0 = 1) ∧ (WFF Z = 1 → WFF Z' = 1)))))) hx hG p0 k0 k1 k2 (fun Z' h' q1 q2 q3 q4 => ⟨Z', h', rfl, q1, q2, q3, q4⟩))
  subst e; exact ⟨Z', h', hca, q⟩
set_option maxRecDepth 100000 in
theorem cw_169_56_3006 {l : Launch} {D : va_G} {b0 : Nat} {ad : Nat → Nat} {Hb : Heap} {tau : Nat → Int64} {d n s : Nat} {S : Nat → xS} {Z : xZ} {h : mx_H} {Post : mx_R → Prop} {a0 : Int} (hx : XH n s S Z h) (hG : GI n S Z)   (k0 : (Z 56 11 = 0 → Z 60 61 ≤ 899)) (k1 : a0 ≤ Z 60 61) (k2 : 0 ≤ a0) (hP : ∀ (Z' : xZ) (h' : mx_H), XH n s S Z' h' → GI n S Z' → fr' [(60, (-1))] Z Z' → (Z' 60 1 = Z 60 1 ∧ Z' 60 2 = Z 60 2 ∧ ((¬ Z 56 11 = 0 ∧ Z' 60 61 = Z 60 61 ∧ DP Z' a0 = DP Z a0 ∧ MW Z' a0 = MW Z a0 ∧ WFF Z' = WFF Z) ∨ (Z 56 11 = 0 ∧ Z' 60 61 = Z 60 61 + 1 ∧ DP Z' a0 = DP Z a0 + (0) ∧ (MW Z a0 = 1 → 1 ≤ DP Z a0 → MW Z' a0 = 1) ∧ (WFF Z = 1 → WFF Z' = 1)))) → Post (none, h')) : mx_J (tB l D b0 ad Hb tau) mt_169 (d + 0) 0 [some (.ref 56), some (xI 3006)] [] h Post := by
    have a56 : 56 < n := lt83 (GI_n hG) rfl
    have s56 : S 56 = .inl (12, [0, 2, 2, 2, 2, 0, 0, 0, 0, 0, 0, 0, 0, 0, 0, 2, 2, 2, 0, 2, 2, 2, 0, 0, 2, 2, 2, 2, 2, 2, 0, 0, 2, 2, 2, 2, 2, 2, 2, 2, 2, 2]) := GI_s hG 56 rfl
    have a60 : 60 < n := lt83 (GI_n hG) rfl
    have s60 : S 60 = .inr (.int, 962, 0) := GI_s hG 60 rfl
    refine mx_J.step (sn_169 0) (fun _ _ => rfl) ?_
    have b2 : 0 ≤ Z 56 11 ∧ Z 56 11 ≤ 4 := hG.pr 56 11
    refine JgetI (g := 11) (z := Z 56 11) hx (show mx_Sn _ _ 1 (mx_getf 12 11 4) from sn_169 1) a56 s56 rfl rfl rfl ?_
    refine Jif_eq (show mx_Sn _ _ 4 (mx_if_eq 8 7) from sn_169 4) (by omega) (fun q3 => ?_) (fun q3 => ?_)
    · skip
      refine mx_J.step (sn_169 8) (fun _ _ => rfl) ?_
      refine JgetR (g := 4) (b := 60) hx (show mx_Sn _ _ 9 (mx_getf 12 4 12) from sn_169 9) a56 s56 rfl rfl (hG.prr 56 4 rfl) ?_
      refine JcI (z := 62) (show mx_Sn _ _ 12 (mx_const (.int 62) 14) from sn_169 12) rfl ?_
      refine mx_J.step (sn_169 14) (fun _ _ => rfl) ?_
      refine JgetR (g := 4) (b := 60) hx (show mx_Sn _ _ 15 (mx_getf 12 4 18) from sn_169 15) a56 s56 rfl rfl (hG.prr 56 4 rfl) ?_
      refine JcI (z := 61) (show mx_Sn _ _ 18 (mx_const (.int 61) 20) from sn_169 18) rfl ?_
      have b6 : 0 ≤ Z 60 61 ∧ Z 60 61 ≤ 900 := by have hq := GI_ex hG 60 61; replace hq : f60 (61 % 962) (Z 60 61) := hq; unfold f60 at hq; omega
      have b7 : (-2147483648) ≤ Z 60 61 ∧ Z 60 61 ≤ 2147483647 := hG.pr 60 61
      refine JialdI (z := Z 60 61) hx (show mx_Sn _ _ 20 (mx_iald 21) from sn_169 20) a60 s60 (by omega) rfl ?_
      refine Jiadd (show mx_Sn _ _ 21 (mx_iadd 22) from sn_169 21) ?_
      refine mx_J.step (sn_169 22) (fun _ _ => rfl) ?_
      refine JiastI hx (show mx_Sn _ _ 23 (mx_iast 1 24) from sn_169 23) a60 s60 rfl (by omega) (fun Z8 h8 hx8 hE8 => ?_)
      have hG8 := GI_up hG hE8 (show (-2147483648) ≤ 3006 ∧ 3006 ≤ 2147483647 by omega) (show f60 ((62 + (Z 60 61)) % 962) (3006) by first | (rw [Int.emod_eq_of_lt (by omega) (by omega)]; unfold f60; omega) | assumption | (unfold f60; omega) | (unfold f60 at *; omega)) rfl
      refine mx_J.step (sn_169 24) (fun _ _ => rfl) ?_
      refine JgetR (g := 4) (b := 60) hx8 (show mx_Sn _ _ 25 (mx_getf 12 4 28) from sn_169 25) a56 s56 rfl rfl (hG8.prr 56 4 rfl) ?_
      refine JcI (z := 61) (show mx_Sn _ _ 28 (mx_const (.int 61) 30) from sn_169 28) rfl ?_
      refine mx_J.step (sn_169 30) (fun _ _ => rfl) ?_
      have b10 : 0 ≤ Z 60 61 ∧ Z 60 61 ≤ 900 := by have hq := GI_ex hG 60 61; replace hq : f60 (61 % 962) (Z 60 61) := hq; unfold f60 at hq; omega
      have b11 : (-2147483648) ≤ Z 60 61 ∧ Z 60 61 ≤ 2147483647 := hG.pr 60 61
      refine JialdI (z := Z 60 61) hx8 (show mx_Sn _ _ 31 (mx_iald 32) from sn_169 31) a60 s60 (by omega) (up_ni hE8 (by omega)) ?_
      refine JcI (z := 1) (show mx_Sn _ _ 32 (mx_const (.int 1) 33) from sn_169 32) rfl ?_
      refine Jiadd (show mx_Sn _ _ 33 (mx_iadd 34) from sn_169 33) ?_
      refine JiastI hx8 (show mx_Sn _ _ 34 (mx_iast 1 35) from sn_169 34) a60 s60 rfl (by omega) (fun Z12 h12 hx12 hE12 => ?_)
      have hG12 := GI_up hG8 hE12 (show (-2147483648) ≤ (Z 60 61) + 1 ∧ (Z 60 61) + 1 ≤ 2147483647 by omega) (show f60 ((61) % 962) ((Z 60 61) + 1) by first | assumption | (unfold f60; omega) | (unfold f60 at *; omega)) rfl
      have c1 := cd_dp (a := a0) hE8 hE12 (by omega) (by omega)
      have dv := dl_e 3006
      have c2 : MW Z a0 = 1 → nd 3006 ≤ DP Z a0 → MW Z12 a0 = 1 := fun h1 h2 => cd_mw hE8 hE12 h1 (by unfold okc; omega) h2
      have c3 : WFF Z = 1 → WFF Z12 = 1 := cd_wf hE8 hE12 (by omega)
      have eq13 : Z12 60 61 = (Z 60 61) + 1 := (up_at hE12)
      have eq14 : Z12 60 1 = Z 60 1 := ((up_ni hE12 (by decide)).trans (up_ni hE8 (by omega)))
      have b15 : 0 ≤ Z 60 1 ∧ Z 60 1 ≤ 18 := by have hq := GI_ex hG 60 1; replace hq : f60 (1 % 962) (Z 60 1) := hq; unfold f60 at hq; omega
      have b16 : (-2147483648) ≤ Z 60 1 ∧ Z 60 1 ≤ 2147483647 := hG.pr 60 1
      have eq17 : Z12 60 2 = Z 60 2 := ((up_ni hE12 (by decide)).trans (up_ni hE8 (by omega)))
      have b18 : 0 ≤ Z 60 2 ∧ Z 60 2 ≤ 18 := by have hq := GI_ex hG 60 2; replace hq : f60 (2 % 962) (Z 60 2) := hq; unfold f60 at hq; omega
      have b19 : (-2147483648) ≤ Z 60 2 ∧ Z 60 2 ≤ 2147483647 := hG.pr 60 2
      have eq20 : Z12 56 8 = Z 56 8 := ((up_nk hE12 rfl).trans (up_nk hE8 rfl))
      have b21 : 0 ≤ Z 56 8 ∧ Z 56 8 ≤ 900 := hG.pr 56 8
      have eq22 : Z12 56 11 = Z 56 11 := ((up_nk hE12 rfl).trans (up_nk hE8 rfl))
      have b23 : 0 ≤ Z 56 11 ∧ Z 56 11 ≤ 4 := hG.pr 56 11
      have eq24 : Z12 60 61 = (Z 60 61) + 1 := (up_at hE12)
      have eq25 : Z12 60 1 = Z 60 1 := ((up_ni hE12 (by decide)).trans (up_ni hE8 (by omega)))
      have b26 : 0 ≤ Z 60 1 ∧ Z 60 1 ≤ 18 := by have hq := GI_ex hG 60 1; replace hq : f60 (1 % 962) (Z 60 1) := hq; unfold f60 at hq; omega
      have b27 : (-2147483648) ≤ Z 60 1 ∧ Z 60 1 ≤ 2147483647 := hG.pr 60 1
      have eq28 : Z12 60 2 = Z 60 2 := ((up_ni hE12 (by decide)).trans (up_ni hE8 (by omega)))
      have b29 : 0 ≤ Z 60 2 ∧ Z 60 2 ≤ 18 := by have hq := GI_ex hG 60 2; replace hq : f60 (2 % 962) (Z 60 2) := hq; unfold f60 at hq; omega
      have b30 : (-2147483648) ≤ Z 60 2 ∧ Z 60 2 ≤ 2147483647 := hG.pr 60 2
      exact mx_J.ret (sn_169 35) (fun _ _ => rfl) (hP Z12 h12 hx12 hG12 (fr_tr (M := [(60, (-1))]) (fr_tr (M := [(60, (-1))]) fr_rf (fr_ua hE8) (M1 := []) rfl rfl) (fr_ua hE12) rfl rfl) (by omega))
    · skip
      have b31 : 0 ≤ Z 60 61 ∧ Z 60 61 ≤ 900 := by have hq := GI_ex hG 60 61; replace hq : f60 (61 % 962) (Z 60 61) := hq; unfold f60 at hq; omega
      have b32 : (-2147483648) ≤ Z 60 61 ∧ Z 60 61 ≤ 2147483647 := hG.pr 60 61
      have b33 : 0 ≤ Z 60 1 ∧ Z 60 1 ≤ 18 := by have hq := GI_ex hG 60 1; replace hq : f60 (1 % 962) (Z 60 1) := hq; unfold f60 at hq; omega
      have b34 : (-2147483648) ≤ Z 60 1 ∧ Z 60 1 ≤ 2147483647 := hG.pr 60 1
      have b35 : 0 ≤ Z 60 2 ∧ Z 60 2 ≤ 18 := by have hq := GI_ex hG 60 2; replace hq : f60 (2 % 962) (Z 60 2) := hq; unfold f60 at hq; omega
      have b36 : (-2147483648) ≤ Z 60 2 ∧ Z 60 2 ≤ 2147483647 := hG.pr 60 2
      have b37 : 0 ≤ Z 56 8 ∧ Z 56 8 ≤ 900 := hG.pr 56 8
      have b38 : 0 ≤ Z 56 11 ∧ Z 56 11 ≤ 4 := hG.pr 56 11
      have b39 : 0 ≤ Z 60 61 ∧ Z 60 61 ≤ 900 := by have hq := GI_ex hG 60 61; replace hq : f60 (61 % 962) (Z 60 61) := hq; unfold f60 at hq; omega
      have b40 : (-2147483648) ≤ Z 60 61 ∧ Z 60 61 ≤ 2147483647 := hG.pr 60 61
      have b41 : 0 ≤ Z 60 1 ∧ Z 60 1 ≤ 18 := by have hq := GI_ex hG 60 1; replace hq : f60 (1 % 962) (Z 60 1) := hq; unfold f60 at hq; omega
      have b42 : (-2147483648) ≤ Z 60 1 ∧ Z 60 1 ≤ 2147483647 := hG.pr 60 1
      have b43 : 0 ≤ Z 60 2 ∧ Z 60 2 ≤ 18 := by have hq := GI_ex hG 60 2; replace hq : f60 (2 % 962) (Z 60 2) := hq; unfold f60 at hq; omega
      have b44 : (-2147483648) ≤ Z 60 2 ∧ Z 60 2 ≤ 2147483647 := hG.pr 60 2
      exact mx_J.ret (sn_169 7) (fun _ _ => rfl) (hP Z h hx hG fr_rf (by omega))
theorem ct_169_56_3006 {l : Launch} {D : va_G} {b0 : Nat} {ad : Nat → Nat} {Hb : Heap} {tau : Nat → Int64} {d n s : Nat} {S : Nat → xS} {Z : xZ} {h : mx_H} {a0 : Int} (hx : XH n s S Z h) (hG : GI n S Z)   (k0 : (Z 56 11 = 0 → Z 60 61 ≤ 899)) (k1 : a0 ≤ Z 60 61) (k2 : 0 ≤ a0) : ∃ (Z' : xZ) (h' : mx_H), mx_Ca (tB l D b0 ad Hb tau) (d + 1) 169 [.ref 56, xI 3006] h (none, h') ∧ XH n s S Z' h' ∧ GI n S Z' ∧ fr' [(60, (-1))] Z Z' ∧ ((Z' 60 1 = Z 60 1 ∧ Z' 60 2 = Z 60 2 ∧ ((¬ Z 56 11 = 0 ∧ Z' 60 61 = Z 60 61 ∧ DP Z' a0 = DP Z a0 ∧ MW Z' a0 = MW Z a0 ∧ WFF Z' = WFF Z) ∨ (Z 56 11 = 0 ∧ Z' 60 61 = Z 60 61 + 1 ∧ DP Z' a0 = DP Z a0 + (0) ∧ (MW Z a0 = 1 → 1 ≤ DP Z a0 → MW Z' a0 = 1) ∧ (WFF Z = 1 → WFF Z' = 1))))) := by
  obtain ⟨r, hca, Z', h', e, q⟩ := Jmt (B := tB l D b0 ad Hb tau) (M := mt_169) (mi := 169) (as := [.ref 56, xI 3006]) (d := d + 0) (ls := [some (.ref 56), some (xI 3006)]) rfl rfl rfl rfl rfl rfl (cw_169_56_3006 (l := l) (D := D) (b0 := b0) (ad := ad) (Hb := Hb) (tau := tau) (d := d) (Post := fun r => ∃ (Z' : xZ) (h' : mx_H), r = (none, h') ∧ XH n s S Z' h' ∧ GI n S Z' ∧ fr' [(60, (-1))] Z Z' ∧ ((Z' 60 1 = Z 60 1 ∧ Z' 60 2 = Z 60 2 ∧ ((¬ Z 56 11 = 0 ∧ Z' 60 61 = Z 60 61 ∧ DP Z' a0 = DP Z a0 ∧ MW Z' a0 = MW Z a0 ∧ WFF Z' = WFF Z) ∨ (Z 56 11 = 0 ∧ Z' 60 61 = Z 60 61 + 1 ∧ DP Z' a0 = DP Z a0 + (0) ∧ (MW Z a0 = 1 → 1 ≤ DP Z a0 → MW Z' a0 = 1) ∧ (WFF Z = 1 → WFF Z' = 1)))))) hx hG k0 k1 k2 (fun Z' h' q1 q2 q3 q4 => ⟨Z', h', rfl, q1, q2, q3, q4⟩))
  subst e; exact ⟨Z', h', hca, q⟩
set_option maxRecDepth 100000 in
theorem cw_169_56_3009 {l : Launch} {D : va_G} {b0 : Nat} {ad : Nat → Nat} {Hb : Heap} {tau : Nat → Int64} {d n s : Nat} {S : Nat → xS} {Z : xZ} {h : mx_H} {Post : mx_R → Prop} {a0 : Int} (hx : XH n s S Z h) (hG : GI n S Z)   (k0 : (Z 56 11 = 0 → Z 60 61 ≤ 899)) (k1 : a0 ≤ Z 60 61) (k2 : 0 ≤ a0) (hP : ∀ (Z' : xZ) (h' : mx_H), XH n s S Z' h' → GI n S Z' → fr' [(60, (-1))] Z Z' → (Z' 60 1 = Z 60 1 ∧ Z' 60 2 = Z 60 2 ∧ ((¬ Z 56 11 = 0 ∧ Z' 60 61 = Z 60 61 ∧ DP Z' a0 = DP Z a0 ∧ MW Z' a0 = MW Z a0 ∧ WFF Z' = WFF Z) ∨ (Z 56 11 = 0 ∧ Z' 60 61 = Z 60 61 + 1 ∧ DP Z' a0 = DP Z a0 + (-2) ∧ (MW Z a0 = 1 → 3 ≤ DP Z a0 → MW Z' a0 = 1) ∧ (WFF Z = 1 → WFF Z' = 1)))) → Post (none, h')) : mx_J (tB l D b0 ad Hb tau) mt_169 (d + 0) 0 [some (.ref 56), some (xI 3009)] [] h Post := by
    have a56 : 56 < n := lt83 (GI_n hG) rfl
    have s56 : S 56 = .inl (12, [0, 2, 2, 2, 2, 0, 0, 0, 0, 0, 0, 0, 0, 0, 0, 2, 2, 2, 0, 2, 2, 2, 0, 0, 2, 2, 2, 2, 2, 2, 0, 0, 2, 2, 2, 2, 2, 2, 2, 2, 2, 2]) := GI_s hG 56 rfl
    have a60 : 60 < n := lt83 (GI_n hG) rfl
    have s60 : S 60 = .inr (.int, 962, 0) := GI_s hG 60 rfl
    refine mx_J.step (sn_169 0) (fun _ _ => rfl) ?_
    have b2 : 0 ≤ Z 56 11 ∧ Z 56 11 ≤ 4 := hG.pr 56 11
    refine JgetI (g := 11) (z := Z 56 11) hx (show mx_Sn _ _ 1 (mx_getf 12 11 4) from sn_169 1) a56 s56 rfl rfl rfl ?_
    refine Jif_eq (show mx_Sn _ _ 4 (mx_if_eq 8 7) from sn_169 4) (by omega) (fun q3 => ?_) (fun q3 => ?_)
    · skip
      refine mx_J.step (sn_169 8) (fun _ _ => rfl) ?_
      refine JgetR (g := 4) (b := 60) hx (show mx_Sn _ _ 9 (mx_getf 12 4 12) from sn_169 9) a56 s56 rfl rfl (hG.prr 56 4 rfl) ?_
      refine JcI (z := 62) (show mx_Sn _ _ 12 (mx_const (.int 62) 14) from sn_169 12) rfl ?_
      refine mx_J.step (sn_169 14) (fun _ _ => rfl) ?_
      refine JgetR (g := 4) (b := 60) hx (show mx_Sn _ _ 15 (mx_getf 12 4 18) from sn_169 15) a56 s56 rfl rfl (hG.prr 56 4 rfl) ?_
      refine JcI (z := 61) (show mx_Sn _ _ 18 (mx_const (.int 61) 20) from sn_169 18) rfl ?_
      have b6 : 0 ≤ Z 60 61 ∧ Z 60 61 ≤ 900 := by have hq := GI_ex hG 60 61; replace hq : f60 (61 % 962) (Z 60 61) := hq; unfold f60 at hq; omega
      have b7 : (-2147483648) ≤ Z 60 61 ∧ Z 60 61 ≤ 2147483647 := hG.pr 60 61
      refine JialdI (z := Z 60 61) hx (show mx_Sn _ _ 20 (mx_iald 21) from sn_169 20) a60 s60 (by omega) rfl ?_
      refine Jiadd (show mx_Sn _ _ 21 (mx_iadd 22) from sn_169 21) ?_
      refine mx_J.step (sn_169 22) (fun _ _ => rfl) ?_
      refine JiastI hx (show mx_Sn _ _ 23 (mx_iast 1 24) from sn_169 23) a60 s60 rfl (by omega) (fun Z8 h8 hx8 hE8 => ?_)
      have hG8 := GI_up hG hE8 (show (-2147483648) ≤ 3009 ∧ 3009 ≤ 2147483647 by omega) (show f60 ((62 + (Z 60 61)) % 962) (3009) by first | (rw [Int.emod_eq_of_lt (by omega) (by omega)]; unfold f60; omega) | assumption | (unfold f60; omega) | (unfold f60 at *; omega)) rfl
      refine mx_J.step (sn_169 24) (fun _ _ => rfl) ?_
      refine JgetR (g := 4) (b := 60) hx8 (show mx_Sn _ _ 25 (mx_getf 12 4 28) from sn_169 25) a56 s56 rfl rfl (hG8.prr 56 4 rfl) ?_
      refine JcI (z := 61) (show mx_Sn _ _ 28 (mx_const (.int 61) 30) from sn_169 28) rfl ?_
      refine mx_J.step (sn_169 30) (fun _ _ => rfl) ?_
      have b10 : 0 ≤ Z 60 61 ∧ Z 60 61 ≤ 900 := by have hq := GI_ex hG 60 61; replace hq : f60 (61 % 962) (Z 60 61) := hq; unfold f60 at hq; omega
      have b11 : (-2147483648) ≤ Z 60 61 ∧ Z 60 61 ≤ 2147483647 := hG.pr 60 61
      refine JialdI (z := Z 60 61) hx8 (show mx_Sn _ _ 31 (mx_iald 32) from sn_169 31) a60 s60 (by omega) (up_ni hE8 (by omega)) ?_
      refine JcI (z := 1) (show mx_Sn _ _ 32 (mx_const (.int 1) 33) from sn_169 32) rfl ?_
      refine Jiadd (show mx_Sn _ _ 33 (mx_iadd 34) from sn_169 33) ?_
      refine JiastI hx8 (show mx_Sn _ _ 34 (mx_iast 1 35) from sn_169 34) a60 s60 rfl (by omega) (fun Z12 h12 hx12 hE12 => ?_)
      have hG12 := GI_up hG8 hE12 (show (-2147483648) ≤ (Z 60 61) + 1 ∧ (Z 60 61) + 1 ≤ 2147483647 by omega) (show f60 ((61) % 962) ((Z 60 61) + 1) by first | assumption | (unfold f60; omega) | (unfold f60 at *; omega)) rfl
      have c1 := cd_dp (a := a0) hE8 hE12 (by omega) (by omega)
      have dv := dl_e 3009
      have c2 : MW Z a0 = 1 → nd 3009 ≤ DP Z a0 → MW Z12 a0 = 1 := fun h1 h2 => cd_mw hE8 hE12 h1 (by unfold okc; omega) h2
      have c3 : WFF Z = 1 → WFF Z12 = 1 := cd_wf hE8 hE12 (by omega)
      have eq13 : Z12 60 61 = (Z 60 61) + 1 := (up_at hE12)
      have eq14 : Z12 60 1 = Z 60 1 := ((up_ni hE12 (by decide)).trans (up_ni hE8 (by omega)))
      have b15 : 0 ≤ Z 60 1 ∧ Z 60 1 ≤ 18 := by have hq := GI_ex hG 60 1; replace hq : f60 (1 % 962) (Z 60 1) := hq; unfold f60 at hq; omega
      have b16 : (-2147483648) ≤ Z 60 1 ∧ Z 60 1 ≤ 2147483647 := hG.pr 60 1
      have eq17 : Z12 60 2 = Z 60 2 := ((up_ni hE12 (by decide)).trans (up_ni hE8 (by omega)))
      have b18 : 0 ≤ Z 60 2 ∧ Z 60 2 ≤ 18 := by have hq := GI_ex hG 60 2; replace hq : f60 (2 % 962) (Z 60 2) := hq; unfold f60 at hq; omega
      have b19 : (-2147483648) ≤ Z 60 2 ∧ Z 60 2 ≤ 2147483647 := hG.pr 60 2
      have eq20 : Z12 56 8 = Z 56 8 := ((up_nk hE12 rfl).trans (up_nk hE8 rfl))
      have b21 : 0 ≤ Z 56 8 ∧ Z 56 8 ≤ 900 := hG.pr 56 8
      have eq22 : Z12 56 11 = Z 56 11 := ((up_nk hE12 rfl).trans (up_nk hE8 rfl))
      have b23 : 0 ≤ Z 56 11 ∧ Z 56 11 ≤ 4 := hG.pr 56 11
      have eq24 : Z12 60 61 = (Z 60 61) + 1 := (up_at hE12)
      have eq25 : Z12 60 1 = Z 60 1 := ((up_ni hE12 (by decide)).trans (up_ni hE8 (by omega)))
      have b26 : 0 ≤ Z 60 1 ∧ Z 60 1 ≤ 18 := by have hq := GI_ex hG 60 1; replace hq : f60 (1 % 962) (Z 60 1) := hq; unfold f60 at hq; omega
      have b27 : (-2147483648) ≤ Z 60 1 ∧ Z 60 1 ≤ 2147483647 := hG.pr 60 1
      have eq28 : Z12 60 2 = Z 60 2 := ((up_ni hE12 (by decide)).trans (up_ni hE8 (by omega)))
      have b29 : 0 ≤ Z 60 2 ∧ Z 60 2 ≤ 18 := by have hq := GI_ex hG 60 2; replace hq : f60 (2 % 962) (Z 60 2) := hq; unfold f60 at hq; omega
      have b30 : (-2147483648) ≤ Z 60 2 ∧ Z 60 2 ≤ 2147483647 := hG.pr 60 2
      exact mx_J.ret (sn_169 35) (fun _ _ => rfl) (hP Z12 h12 hx12 hG12 (fr_tr (M := [(60, (-1))]) (fr_tr (M := [(60, (-1))]) fr_rf (fr_ua hE8) (M1 := []) rfl rfl) (fr_ua hE12) rfl rfl) (by omega))
    · skip
      have b31 : 0 ≤ Z 60 61 ∧ Z 60 61 ≤ 900 := by have hq := GI_ex hG 60 61; replace hq : f60 (61 % 962) (Z 60 61) := hq; unfold f60 at hq; omega
      have b32 : (-2147483648) ≤ Z 60 61 ∧ Z 60 61 ≤ 2147483647 := hG.pr 60 61
      have b33 : 0 ≤ Z 60 1 ∧ Z 60 1 ≤ 18 := by have hq := GI_ex hG 60 1; replace hq : f60 (1 % 962) (Z 60 1) := hq; unfold f60 at hq; omega
      have b34 : (-2147483648) ≤ Z 60 1 ∧ Z 60 1 ≤ 2147483647 := hG.pr 60 1
      have b35 : 0 ≤ Z 60 2 ∧ Z 60 2 ≤ 18 := by have hq := GI_ex hG 60 2; replace hq : f60 (2 % 962) (Z 60 2) := hq; unfold f60 at hq; omega
      have b36 : (-2147483648) ≤ Z 60 2 ∧ Z 60 2 ≤ 2147483647 := hG.pr 60 2
      have b37 : 0 ≤ Z 56 8 ∧ Z 56 8 ≤ 900 := hG.pr 56 8
      have b38 : 0 ≤ Z 56 11 ∧ Z 56 11 ≤ 4 := hG.pr 56 11
      have b39 : 0 ≤ Z 60 61 ∧ Z 60 61 ≤ 900 := by have hq := GI_ex hG 60 61; replace hq : f60 (61 % 962) (Z 60 61) := hq; unfold f60 at hq; omega
      have b40 : (-2147483648) ≤ Z 60 61 ∧ Z 60 61 ≤ 2147483647 := hG.pr 60 61
      have b41 : 0 ≤ Z 60 1 ∧ Z 60 1 ≤ 18 := by have hq := GI_ex hG 60 1; replace hq : f60 (1 % 962) (Z 60 1) := hq; unfold f60 at hq; omega
      have b42 : (-2147483648) ≤ Z 60 1 ∧ Z 60 1 ≤ 2147483647 := hG.pr 60 1
      have b43 : 0 ≤ Z 60 2 ∧ Z 60 2 ≤ 18 := by have hq := GI_ex hG 60 2; replace hq : f60 (2 % 962) (Z 60 2) := hq; unfold f60 at hq; omega
      have b44 : (-2147483648) ≤ Z 60 2 ∧ Z 60 2 ≤ 2147483647 := hG.pr 60 2
      exact mx_J.ret (sn_169 7) (fun _ _ => rfl) (hP Z h hx hG fr_rf (by omega))
theorem ct_169_56_3009 {l : Launch} {D : va_G} {b0 : Nat} {ad : Nat → Nat} {Hb : Heap} {tau : Nat → Int64} {d n s : Nat} {S : Nat → xS} {Z : xZ} {h : mx_H} {a0 : Int} (hx : XH n s S Z h) (hG : GI n S Z)   (k0 : (Z 56 11 = 0 → Z 60 61 ≤ 899)) (k1 : a0 ≤ Z 60 61) (k2 : 0 ≤ a0) : ∃ (Z' : xZ) (h' : mx_H), mx_Ca (tB l D b0 ad Hb tau) (d + 1) 169 [.ref 56, xI 3009] h (none, h') ∧ XH n s S Z' h' ∧ GI n S Z' ∧ fr' [(60, (-1))] Z Z' ∧ ((Z' 60 1 = Z 60 1 ∧ Z' 60 2 = Z 60 2 ∧ ((¬ Z 56 11 = 0 ∧ Z' 60 61 = Z 60 61 ∧ DP Z' a0 = DP Z a0 ∧ MW Z' a0 = MW Z a0 ∧ WFF Z' = WFF Z) ∨ (Z 56 11 = 0 ∧ Z' 60 61 = Z 60 61 + 1 ∧ DP Z' a0 = DP Z a0 + (-2) ∧ (MW Z a0 = 1 → 3 ≤ DP Z a0 → MW Z' a0 = 1) ∧ (WFF Z = 1 → WFF Z' = 1))))) := by
  obtain ⟨r, hca, Z', h', e, q⟩ := Jmt (B := tB l D b0 ad Hb tau) (M := mt_169) (mi := 169) (as := [.ref 56, xI 3009]) (d := d + 0) (ls := [some (.ref 56), some (xI 3009)]) rfl rfl rfl rfl rfl rfl (cw_169_56_3009 (l := l) (D := D) (b0 := b0) (ad := ad) (Hb := Hb) (tau := tau) (d := d) (Post := fun r => ∃ (Z' : xZ) (h' : mx_H), r = (none, h') ∧ XH n s S Z' h' ∧ GI n S Z' ∧ fr' [(60, (-1))] Z Z' ∧ ((Z' 60 1 = Z 60 1 ∧ Z' 60 2 = Z 60 2 ∧ ((¬ Z 56 11 = 0 ∧ Z' 60 61 = Z 60 61 ∧ DP Z' a0 = DP Z a0 ∧ MW Z' a0 = MW Z a0 ∧ WFF Z' = WFF Z) ∨ (Z 56 11 = 0 ∧ Z' 60 61 = Z 60 61 + 1 ∧ DP Z' a0 = DP Z a0 + (-2) ∧ (MW Z a0 = 1 → 3 ≤ DP Z a0 → MW Z' a0 = 1) ∧ (WFF Z = 1 → WFF Z' = 1)))))) hx hG k0 k1 k2 (fun Z' h' q1 q2 q3 q4 => ⟨Z', h', rfl, q1, q2, q3, q4⟩))
  subst e; exact ⟨Z', h', hca, q⟩
set_option maxRecDepth 100000 in
theorem cw_169_56_3000 {l : Launch} {D : va_G} {b0 : Nat} {ad : Nat → Nat} {Hb : Heap} {tau : Nat → Int64} {d n s : Nat} {S : Nat → xS} {Z : xZ} {h : mx_H} {Post : mx_R → Prop} {a0 : Int} (hx : XH n s S Z h) (hG : GI n S Z)  {x0 : Int} (p0 : 3000 ≤ x0 ∧ x0 ≤ 3005) (k0 : (Z 56 11 = 0 → Z 60 61 ≤ 899)) (k1 : a0 ≤ Z 60 61) (k2 : 0 ≤ a0) (hP : ∀ (Z' : xZ) (h' : mx_H), XH n s S Z' h' → GI n S Z' → fr' [(60, (-1))] Z Z' → (Z' 60 1 = Z 60 1 ∧ Z' 60 2 = Z 60 2 ∧ ((¬ Z 56 11 = 0 ∧ Z' 60 61 = Z 60 61 ∧ DP Z' a0 = DP Z a0 ∧ MW Z' a0 = MW Z a0 ∧ WFF Z' = WFF Z) ∨ (Z 56 11 = 0 ∧ Z' 60 61 = Z 60 61 + 1 ∧ DP Z' a0 = DP Z a0 + (-1) ∧ (MW Z a0 = 1 → 2 ≤ DP Z a0 → MW Z' a0 = 1) ∧ (WFF Z = 1 → WFF Z' = 1)))) → Post (none, h')) : mx_J (tB l D b0 ad Hb tau) mt_169 (d + 0) 0 [some (.ref 56), some (xI x0)] [] h Post := by
    have a56 : 56 < n := lt83 (GI_n hG) rfl
    have s56 : S 56 = .inl (12, [0, 2, 2, 2, 2, 0, 0, 0, 0, 0, 0, 0, 0, 0, 0, 2, 2, 2, 0, 2, 2, 2, 0, 0, 2, 2, 2, 2, 2, 2, 0, 0, 2, 2, 2, 2, 2, 2, 2, 2, 2, 2]) := GI_s hG 56 rfl
    have a60 : 60 < n := lt83 (GI_n hG) rfl
    have s60 : S 60 = .inr (.int, 962, 0) := GI_s hG 60 rfl
    refine mx_J.step (sn_169 0) (fun _ _ => rfl) ?_
    have b2 : 0 ≤ Z 56 11 ∧ Z 56 11 ≤ 4 := hG.pr 56 11
    refine JgetI (g := 11) (z := Z 56 11) hx (show mx_Sn _ _ 1 (mx_getf 12 11 4) from sn_169 1) a56 s56 rfl rfl rfl ?_
    refine Jif_eq (show mx_Sn _ _ 4 (mx_if_eq 8 7) from sn_169 4) (by omega) (fun q3 => ?_) (fun q3 => ?_)
    · skip
      refine mx_J.step (sn_169 8) (fun _ _ => rfl) ?_
      refine JgetR (g := 4) (b := 60) hx (show mx_Sn _ _ 9 (mx_getf 12 4 12) from sn_169 9) a56 s56 rfl rfl (hG.prr 56 4 rfl) ?_
      refine JcI (z := 62) (show mx_Sn _ _ 12 (mx_const (.int 62) 14) from sn_169 12) rfl ?_
      refine mx_J.step (sn_169 14) (fun _ _ => rfl) ?_
      refine JgetR (g := 4) (b := 60) hx (show mx_Sn _ _ 15 (mx_getf 12 4 18) from sn_169 15) a56 s56 rfl rfl (hG.prr 56 4 rfl) ?_
      refine JcI (z := 61) (show mx_Sn _ _ 18 (mx_const (.int 61) 20) from sn_169 18) rfl ?_
      have b6 : 0 ≤ Z 60 61 ∧ Z 60 61 ≤ 900 := by have hq := GI_ex hG 60 61; replace hq : f60 (61 % 962) (Z 60 61) := hq; unfold f60 at hq; omega
      have b7 : (-2147483648) ≤ Z 60 61 ∧ Z 60 61 ≤ 2147483647 := hG.pr 60 61
      refine JialdI (z := Z 60 61) hx (show mx_Sn _ _ 20 (mx_iald 21) from sn_169 20) a60 s60 (by omega) rfl ?_
      refine Jiadd (show mx_Sn _ _ 21 (mx_iadd 22) from sn_169 21) ?_
      refine mx_J.step (sn_169 22) (fun _ _ => rfl) ?_
      refine JiastI hx (show mx_Sn _ _ 23 (mx_iast 1 24) from sn_169 23) a60 s60 rfl (by omega) (fun Z8 h8 hx8 hE8 => ?_)
      have hG8 := GI_up hG hE8 (show (-2147483648) ≤ x0 ∧ x0 ≤ 2147483647 by omega) (show f60 ((62 + (Z 60 61)) % 962) (x0) by first | (rw [Int.emod_eq_of_lt (by omega) (by omega)]; unfold f60; omega) | assumption | (unfold f60; omega) | (unfold f60 at *; omega)) rfl
      refine mx_J.step (sn_169 24) (fun _ _ => rfl) ?_
      refine JgetR (g := 4) (b := 60) hx8 (show mx_Sn _ _ 25 (mx_getf 12 4 28) from sn_169 25) a56 s56 rfl rfl (hG8.prr 56 4 rfl) ?_
      refine JcI (z := 61) (show mx_Sn _ _ 28 (mx_const (.int 61) 30) from sn_169 28) rfl ?_
      refine mx_J.step (sn_169 30) (fun _ _ => rfl) ?_
      have b10 : 0 ≤ Z 60 61 ∧ Z 60 61 ≤ 900 := by have hq := GI_ex hG 60 61; replace hq : f60 (61 % 962) (Z 60 61) := hq; unfold f60 at hq; omega
      have b11 : (-2147483648) ≤ Z 60 61 ∧ Z 60 61 ≤ 2147483647 := hG.pr 60 61
      refine JialdI (z := Z 60 61) hx8 (show mx_Sn _ _ 31 (mx_iald 32) from sn_169 31) a60 s60 (by omega) (up_ni hE8 (by omega)) ?_
      refine JcI (z := 1) (show mx_Sn _ _ 32 (mx_const (.int 1) 33) from sn_169 32) rfl ?_
      refine Jiadd (show mx_Sn _ _ 33 (mx_iadd 34) from sn_169 33) ?_
      refine JiastI hx8 (show mx_Sn _ _ 34 (mx_iast 1 35) from sn_169 34) a60 s60 rfl (by omega) (fun Z12 h12 hx12 hE12 => ?_)
      have hG12 := GI_up hG8 hE12 (show (-2147483648) ≤ (Z 60 61) + 1 ∧ (Z 60 61) + 1 ≤ 2147483647 by omega) (show f60 ((61) % 962) ((Z 60 61) + 1) by first | assumption | (unfold f60; omega) | (unfold f60 at *; omega)) rfl
      have c1 := cd_dp (a := a0) hE8 hE12 (by omega) (by omega)
      have dv := dl_e x0
      have c2 : MW Z a0 = 1 → nd x0 ≤ DP Z a0 → MW Z12 a0 = 1 := fun h1 h2 => cd_mw hE8 hE12 h1 (by unfold okc; omega) h2
      have c3 : WFF Z = 1 → WFF Z12 = 1 := cd_wf hE8 hE12 (by omega)
      have eq13 : Z12 60 61 = (Z 60 61) + 1 := (up_at hE12)
      have eq14 : Z12 60 1 = Z 60 1 := ((up_ni hE12 (by decide)).trans (up_ni hE8 (by omega)))
      have b15 : 0 ≤ Z 60 1 ∧ Z 60 1 ≤ 18 := by have hq := GI_ex hG 60 1; replace hq : f60 (1 % 962) (Z 60 1) := hq; unfold f60 at hq; omega
      have b16 : (-2147483648) ≤ Z 60 1 ∧ Z 60 1 ≤ 2147483647 := hG.pr 60 1
      have eq17 : Z12 60 2 = Z 60 2 := ((up_ni hE12 (by decide)).trans (up_ni hE8 (by omega)))
      have b18 : 0 ≤ Z 60 2 ∧ Z 60 2 ≤ 18 := by have hq := GI_ex hG 60 2; replace hq : f60 (2 % 962) (Z 60 2) := hq; unfold f60 at hq; omega
      have b19 : (-2147483648) ≤ Z 60 2 ∧ Z 60 2 ≤ 2147483647 := hG.pr 60 2
      have eq20 : Z12 56 8 = Z 56 8 := ((up_nk hE12 rfl).trans (up_nk hE8 rfl))
      have b21 : 0 ≤ Z 56 8 ∧ Z 56 8 ≤ 900 := hG.pr 56 8
      have eq22 : Z12 56 11 = Z 56 11 := ((up_nk hE12 rfl).trans (up_nk hE8 rfl))
      have b23 : 0 ≤ Z 56 11 ∧ Z 56 11 ≤ 4 := hG.pr 56 11
      have eq24 : Z12 60 61 = (Z 60 61) + 1 := (up_at hE12)
      have eq25 : Z12 60 1 = Z 60 1 := ((up_ni hE12 (by decide)).trans (up_ni hE8 (by omega)))
      have b26 : 0 ≤ Z 60 1 ∧ Z 60 1 ≤ 18 := by have hq := GI_ex hG 60 1; replace hq : f60 (1 % 962) (Z 60 1) := hq; unfold f60 at hq; omega
      have b27 : (-2147483648) ≤ Z 60 1 ∧ Z 60 1 ≤ 2147483647 := hG.pr 60 1
      have eq28 : Z12 60 2 = Z 60 2 := ((up_ni hE12 (by decide)).trans (up_ni hE8 (by omega)))
      have b29 : 0 ≤ Z 60 2 ∧ Z 60 2 ≤ 18 := by have hq := GI_ex hG 60 2; replace hq : f60 (2 % 962) (Z 60 2) := hq; unfold f60 at hq; omega
      have b30 : (-2147483648) ≤ Z 60 2 ∧ Z 60 2 ≤ 2147483647 := hG.pr 60 2
      exact mx_J.ret (sn_169 35) (fun _ _ => rfl) (hP Z12 h12 hx12 hG12 (fr_tr (M := [(60, (-1))]) (fr_tr (M := [(60, (-1))]) fr_rf (fr_ua hE8) (M1 := []) rfl rfl) (fr_ua hE12) rfl rfl) (by omega))
    · skip
      have b31 : 0 ≤ Z 60 61 ∧ Z 60 61 ≤ 900 := by have hq := GI_ex hG 60 61; replace hq : f60 (61 % 962) (Z 60 61) := hq; unfold f60 at hq; omega
      have b32 : (-2147483648) ≤ Z 60 61 ∧ Z 60 61 ≤ 2147483647 := hG.pr 60 61
      have b33 : 0 ≤ Z 60 1 ∧ Z 60 1 ≤ 18 := by have hq := GI_ex hG 60 1; replace hq : f60 (1 % 962) (Z 60 1) := hq; unfold f60 at hq; omega
      have b34 : (-2147483648) ≤ Z 60 1 ∧ Z 60 1 ≤ 2147483647 := hG.pr 60 1
      have b35 : 0 ≤ Z 60 2 ∧ Z 60 2 ≤ 18 := by have hq := GI_ex hG 60 2; replace hq : f60 (2 % 962) (Z 60 2) := hq; unfold f60 at hq; omega
      have b36 : (-2147483648) ≤ Z 60 2 ∧ Z 60 2 ≤ 2147483647 := hG.pr 60 2
      have b37 : 0 ≤ Z 56 8 ∧ Z 56 8 ≤ 900 := hG.pr 56 8
      have b38 : 0 ≤ Z 56 11 ∧ Z 56 11 ≤ 4 := hG.pr 56 11
      have b39 : 0 ≤ Z 60 61 ∧ Z 60 61 ≤ 900 := by have hq := GI_ex hG 60 61; replace hq : f60 (61 % 962) (Z 60 61) := hq; unfold f60 at hq; omega
      have b40 : (-2147483648) ≤ Z 60 61 ∧ Z 60 61 ≤ 2147483647 := hG.pr 60 61
      have b41 : 0 ≤ Z 60 1 ∧ Z 60 1 ≤ 18 := by have hq := GI_ex hG 60 1; replace hq : f60 (1 % 962) (Z 60 1) := hq; unfold f60 at hq; omega
      have b42 : (-2147483648) ≤ Z 60 1 ∧ Z 60 1 ≤ 2147483647 := hG.pr 60 1
      have b43 : 0 ≤ Z 60 2 ∧ Z 60 2 ≤ 18 := by have hq := GI_ex hG 60 2; replace hq : f60 (2 % 962) (Z 60 2) := hq; unfold f60 at hq; omega
      have b44 : (-2147483648) ≤ Z 60 2 ∧ Z 60 2 ≤ 2147483647 := hG.pr 60 2
      exact mx_J.ret (sn_169 7) (fun _ _ => rfl) (hP Z h hx hG fr_rf (by omega))
theorem ct_169_56_3000 {l : Launch} {D : va_G} {b0 : Nat} {ad : Nat → Nat} {Hb : Heap} {tau : Nat → Int64} {d n s : Nat} {S : Nat → xS} {Z : xZ} {h : mx_H} {a0 : Int} (hx : XH n s S Z h) (hG : GI n S Z)  {x0 : Int} (p0 : 3000 ≤ x0 ∧ x0 ≤ 3005) (k0 : (Z 56 11 = 0 → Z 60 61 ≤ 899)) (k1 : a0 ≤ Z 60 61) (k2 : 0 ≤ a0) : ∃ (Z' : xZ) (h' : mx_H), mx_Ca (tB l D b0 ad Hb tau) (d + 1) 169 [.ref 56, xI x0] h (none, h') ∧ XH n s S Z' h' ∧ GI n S Z' ∧ fr' [(60, (-1))] Z Z' ∧ ((Z' 60 1 = Z 60 1 ∧ Z' 60 2 = Z 60 2 ∧ ((¬ Z 56 11 = 0 ∧ Z' 60 61 = Z 60 61 ∧ DP Z' a0 = DP Z a0 ∧ MW Z' a0 = MW Z a0 ∧ WFF Z' = WFF Z) ∨ (Z 56 11 = 0 ∧ Z' 60 61 = Z 60 61 + 1 ∧ DP Z' a0 = DP Z a0 + (-1) ∧ (MW Z a0 = 1 → 2 ≤ DP Z a0 → MW Z' a0 = 1) ∧ (WFF Z = 1 → WFF Z' = 1))))) := by
  obtain ⟨r, hca, Z', h', e, q⟩ := Jmt (B := tB l D b0 ad Hb tau) (M := mt_169) (mi := 169) (as := [.ref 56, xI x0]) (d := d + 0) (ls := [some (.ref 56), some (xI x0)]) rfl rfl rfl rfl rfl rfl (cw_169_56_3000 (l := l) (D := D) (b0 := b0) (ad := ad) (Hb := Hb) (tau := tau) (d := d) (Post := fun r => ∃ (Z' : xZ) (h' : mx_H), r = (none, h') ∧ XH n s S Z' h' ∧ GI n S Z' ∧ fr' [(60, (-1))] Z Z' ∧ ((Z' 60 1 = Z 60 1 ∧ Z' 60 2 = Z 60 2 ∧ ((¬ Z 56 11 = 0 ∧ Z' 60 61 = Z 60 61 ∧ DP Z' a0 = DP Z a0 ∧ MW Z' a0 = MW Z a0 ∧ WFF Z' = WFF Z) ∨ (Z 56 11 = 0 ∧ Z' 60 61 = Z 60 61 + 1 ∧ DP Z' a0 = DP Z a0 + (-1) ∧ (MW Z a0 = 1 → 2 ≤ DP Z a0 → MW Z' a0 = 1) ∧ (WFF Z = 1 → WFF Z' = 1)))))) hx hG p0 k0 k1 k2 (fun Z' h' q1 q2 q3 q4 => ⟨Z', h', rfl, q1, q2, q3, q4⟩))
  subst e; exact ⟨Z', h', hca, q⟩
set_option maxRecDepth 100000 in
theorem cw_169_56_3007 {l : Launch} {D : va_G} {b0 : Nat} {ad : Nat → Nat} {Hb : Heap} {tau : Nat → Int64} {d n s : Nat} {S : Nat → xS} {Z : xZ} {h : mx_H} {Post : mx_R → Prop} {a0 : Int} (hx : XH n s S Z h) (hG : GI n S Z)  {x0 : Int} (p0 : 3007 ≤ x0 ∧ x0 ≤ 3008) (k0 : (Z 56 11 = 0 → Z 60 61 ≤ 899)) (k1 : a0 ≤ Z 60 61) (k2 : 0 ≤ a0) (hP : ∀ (Z' : xZ) (h' : mx_H), XH n s S Z' h' → GI n S Z' → fr' [(60, (-1))] Z Z' → (Z' 60 1 = Z 60 1 ∧ Z' 60 2 = Z 60 2 ∧ ((¬ Z 56 11 = 0 ∧ Z' 60 61 = Z 60 61 ∧ DP Z' a0 = DP Z a0 ∧ MW Z' a0 = MW Z a0 ∧ WFF Z' = WFF Z) ∨ (Z 56 11 = 0 ∧ Z' 60 61 = Z 60 61 + 1 ∧ DP Z' a0 = DP Z a0 + (-1) ∧ (MW Z a0 = 1 → 2 ≤ DP Z a0 → MW Z' a0 = 1) ∧ (WFF Z = 1 → WFF Z' = 1)))) → Post (none, h')) : mx_J (tB l D b0 ad Hb tau) mt_169 (d + 0) 0 [some (.ref 56), some (xI x0)] [] h Post := by
    have a56 : 56 < n := lt83 (GI_n hG) rfl
    have s56 : S 56 = .inl (12, [0, 2, 2, 2, 2, 0, 0, 0, 0, 0, 0, 0, 0, 0, 0, 2, 2, 2, 0, 2, 2, 2, 0, 0, 2, 2, 2, 2, 2, 2, 0, 0, 2, 2, 2, 2, 2, 2, 2, 2, 2, 2]) := GI_s hG 56 rfl
    have a60 : 60 < n := lt83 (GI_n hG) rfl
    have s60 : S 60 = .inr (.int, 962, 0) := GI_s hG 60 rfl
    refine mx_J.step (sn_169 0) (fun _ _ => rfl) ?_
    have b2 : 0 ≤ Z 56 11 ∧ Z 56 11 ≤ 4 := hG.pr 56 11
    refine JgetI (g := 11) (z := Z 56 11) hx (show mx_Sn _ _ 1 (mx_getf 12 11 4) from sn_169 1) a56 s56 rfl rfl rfl ?_
    refine Jif_eq (show mx_Sn _ _ 4 (mx_if_eq 8 7) from sn_169 4) (by omega) (fun q3 => ?_) (fun q3 => ?_)
    · skip
      refine mx_J.step (sn_169 8) (fun _ _ => rfl) ?_
      refine JgetR (g := 4) (b := 60) hx (show mx_Sn _ _ 9 (mx_getf 12 4 12) from sn_169 9) a56 s56 rfl rfl (hG.prr 56 4 rfl) ?_
      refine JcI (z := 62) (show mx_Sn _ _ 12 (mx_const (.int 62) 14) from sn_169 12) rfl ?_
      refine mx_J.step (sn_169 14) (fun _ _ => rfl) ?_
      refine JgetR (g := 4) (b := 60) hx (show mx_Sn _ _ 15 (mx_getf 12 4 18) from sn_169 15) a56 s56 rfl rfl (hG.prr 56 4 rfl) ?_
      refine JcI (z := 61) (show mx_Sn _ _ 18 (mx_const (.int 61) 20) from sn_169 18) rfl ?_
      have b6 : 0 ≤ Z 60 61 ∧ Z 60 61 ≤ 900 := by have hq := GI_ex hG 60 61; replace hq : f60 (61 % 962) (Z 60 61) := hq; unfold f60 at hq; omega
      have b7 : (-2147483648) ≤ Z 60 61 ∧ Z 60 61 ≤ 2147483647 := hG.pr 60 61
      refine JialdI (z := Z 60 61) hx (show mx_Sn _ _ 20 (mx_iald 21) from sn_169 20) a60 s60 (by omega) rfl ?_
      refine Jiadd (show mx_Sn _ _ 21 (mx_iadd 22) from sn_169 21) ?_
      refine mx_J.step (sn_169 22) (fun _ _ => rfl) ?_
      refine JiastI hx (show mx_Sn _ _ 23 (mx_iast 1 24) from sn_169 23) a60 s60 rfl (by omega) (fun Z8 h8 hx8 hE8 => ?_)
      have hG8 := GI_up hG hE8 (show (-2147483648) ≤ x0 ∧ x0 ≤ 2147483647 by omega) (show f60 ((62 + (Z 60 61)) % 962) (x0) by first | (rw [Int.emod_eq_of_lt (by omega) (by omega)]; unfold f60; omega) | assumption | (unfold f60; omega) | (unfold f60 at *; omega)) rfl
      refine mx_J.step (sn_169 24) (fun _ _ => rfl) ?_
      refine JgetR (g := 4) (b := 60) hx8 (show mx_Sn _ _ 25 (mx_getf 12 4 28) from sn_169 25) a56 s56 rfl rfl (hG8.prr 56 4 rfl) ?_
      refine JcI (z := 61) (show mx_Sn _ _ 28 (mx_const (.int 61) 30) from sn_169 28) rfl ?_
      refine mx_J.step (sn_169 30) (fun _ _ => rfl) ?_
      have b10 : 0 ≤ Z 60 61 ∧ Z 60 61 ≤ 900 := by have hq := GI_ex hG 60 61; replace hq : f60 (61 % 962) (Z 60 61) := hq; unfold f60 at hq; omega
      have b11 : (-2147483648) ≤ Z 60 61 ∧ Z 60 61 ≤ 2147483647 := hG.pr 60 61
      refine JialdI (z := Z 60 61) hx8 (show mx_Sn _ _ 31 (mx_iald 32) from sn_169 31) a60 s60 (by omega) (up_ni hE8 (by omega)) ?_
      refine JcI (z := 1) (show mx_Sn _ _ 32 (mx_const (.int 1) 33) from sn_169 32) rfl ?_
      refine Jiadd (show mx_Sn _ _ 33 (mx_iadd 34) from sn_169 33) ?_
      refine JiastI hx8 (show mx_Sn _ _ 34 (mx_iast 1 35) from sn_169 34) a60 s60 rfl (by omega) (fun Z12 h12 hx12 hE12 => ?_)
      have hG12 := GI_up hG8 hE12 (show (-2147483648) ≤ (Z 60 61) + 1 ∧ (Z 60 61) + 1 ≤ 2147483647 by omega) (show f60 ((61) % 962) ((Z 60 61) + 1) by first | assumption | (unfold f60; omega) | (unfold f60 at *; omega)) rfl
      have c1 := cd_dp (a := a0) hE8 hE12 (by omega) (by omega)
      have dv := dl_e x0
      have c2 : MW Z a0 = 1 → nd x0 ≤ DP Z a0 → MW Z12 a0 = 1 := fun h1 h2 => cd_mw hE8 hE12 h1 (by unfold okc; omega) h2
      have c3 : WFF Z = 1 → WFF Z12 = 1 := cd_wf hE8 hE12 (by omega)
      have eq13 : Z12 60 61 = (Z 60 61) + 1 := (up_at hE12)
      have eq14 : Z12 60 1 = Z 60 1 := ((up_ni hE12 (by decide)).trans (up_ni hE8 (by omega)))
      have b15 : 0 ≤ Z 60 1 ∧ Z 60 1 ≤ 18 := by have hq := GI_ex hG 60 1; replace hq : f60 (1 % 962) (Z 60 1) := hq; unfold f60 at hq; omega
      have b16 : (-2147483648) ≤ Z 60 1 ∧ Z 60 1 ≤ 2147483647 := hG.pr 60 1
      have eq17 : Z12 60 2 = Z 60 2 := ((up_ni hE12 (by decide)).trans (up_ni hE8 (by omega)))
      have b18 : 0 ≤ Z 60 2 ∧ Z 60 2 ≤ 18 := by have hq := GI_ex hG 60 2; replace hq : f60 (2 % 962) (Z 60 2) := hq; unfold f60 at hq; omega
      have b19 : (-2147483648) ≤ Z 60 2 ∧ Z 60 2 ≤ 2147483647 := hG.pr 60 2
      have eq20 : Z12 56 8 = Z 56 8 := ((up_nk hE12 rfl).trans (up_nk hE8 rfl))
      have b21 : 0 ≤ Z 56 8 ∧ Z 56 8 ≤ 900 := hG.pr 56 8
      have eq22 : Z12 56 11 = Z 56 11 := ((up_nk hE12 rfl).trans (up_nk hE8 rfl))
      have b23 : 0 ≤ Z 56 11 ∧ Z 56 11 ≤ 4 := hG.pr 56 11
      have eq24 : Z12 60 61 = (Z 60 61) + 1 := (up_at hE12)
      have eq25 : Z12 60 1 = Z 60 1 := ((up_ni hE12 (by decide)).trans (up_ni hE8 (by omega)))
      have b26 : 0 ≤ Z 60 1 ∧ Z 60 1 ≤ 18 := by have hq := GI_ex hG 60 1; replace hq : f60 (1 % 962) (Z 60 1) := hq; unfold f60 at hq; omega
      have b27 : (-2147483648) ≤ Z 60 1 ∧ Z 60 1 ≤ 2147483647 := hG.pr 60 1
      have eq28 : Z12 60 2 = Z 60 2 := ((up_ni hE12 (by decide)).trans (up_ni hE8 (by omega)))
      have b29 : 0 ≤ Z 60 2 ∧ Z 60 2 ≤ 18 := by have hq := GI_ex hG 60 2; replace hq : f60 (2 % 962) (Z 60 2) := hq; unfold f60 at hq; omega
      have b30 : (-2147483648) ≤ Z 60 2 ∧ Z 60 2 ≤ 2147483647 := hG.pr 60 2
      exact mx_J.ret (sn_169 35) (fun _ _ => rfl) (hP Z12 h12 hx12 hG12 (fr_tr (M := [(60, (-1))]) (fr_tr (M := [(60, (-1))]) fr_rf (fr_ua hE8) (M1 := []) rfl rfl) (fr_ua hE12) rfl rfl) (by omega))
    · skip
      have b31 : 0 ≤ Z 60 61 ∧ Z 60 61 ≤ 900 := by have hq := GI_ex hG 60 61; replace hq : f60 (61 % 962) (Z 60 61) := hq; unfold f60 at hq; omega
      have b32 : (-2147483648) ≤ Z 60 61 ∧ Z 60 61 ≤ 2147483647 := hG.pr 60 61
      have b33 : 0 ≤ Z 60 1 ∧ Z 60 1 ≤ 18 := by have hq := GI_ex hG 60 1; replace hq : f60 (1 % 962) (Z 60 1) := hq; unfold f60 at hq; omega
      have b34 : (-2147483648) ≤ Z 60 1 ∧ Z 60 1 ≤ 2147483647 := hG.pr 60 1
      have b35 : 0 ≤ Z 60 2 ∧ Z 60 2 ≤ 18 := by have hq := GI_ex hG 60 2; replace hq : f60 (2 % 962) (Z 60 2) := hq; unfold f60 at hq; omega
      have b36 : (-2147483648) ≤ Z 60 2 ∧ Z 60 2 ≤ 2147483647 := hG.pr 60 2
      have b37 : 0 ≤ Z 56 8 ∧ Z 56 8 ≤ 900 := hG.pr 56 8
      have b38 : 0 ≤ Z 56 11 ∧ Z 56 11 ≤ 4 := hG.pr 56 11
      have b39 : 0 ≤ Z 60 61 ∧ Z 60 61 ≤ 900 := by have hq := GI_ex hG 60 61; replace hq : f60 (61 % 962) (Z 60 61) := hq; unfold f60 at hq; omega
      have b40 : (-2147483648) ≤ Z 60 61 ∧ Z 60 61 ≤ 2147483647 := hG.pr 60 61
      have b41 : 0 ≤ Z 60 1 ∧ Z 60 1 ≤ 18 := by have hq := GI_ex hG 60 1; replace hq : f60 (1 % 962) (Z 60 1) := hq; unfold f60 at hq; omega
      have b42 : (-2147483648) ≤ Z 60 1 ∧ Z 60 1 ≤ 2147483647 := hG.pr 60 1
      have b43 : 0 ≤ Z 60 2 ∧ Z 60 2 ≤ 18 := by have hq := GI_ex hG 60 2; replace hq : f60 (2 % 962) (Z 60 2) := hq; unfold f60 at hq; omega
      have b44 : (-2147483648) ≤ Z 60 2 ∧ Z 60 2 ≤ 2147483647 := hG.pr 60 2
      exact mx_J.ret (sn_169 7) (fun _ _ => rfl) (hP Z h hx hG fr_rf (by omega))
theorem ct_169_56_3007 {l : Launch} {D : va_G} {b0 : Nat} {ad : Nat → Nat} {Hb : Heap} {tau : Nat → Int64} {d n s : Nat} {S : Nat → xS} {Z : xZ} {h : mx_H} {a0 : Int} (hx : XH n s S Z h) (hG : GI n S Z)  {x0 : Int} (p0 : 3007 ≤ x0 ∧ x0 ≤ 3008) (k0 : (Z 56 11 = 0 → Z 60 61 ≤ 899)) (k1 : a0 ≤ Z 60 61) (k2 : 0 ≤ a0) : ∃ (Z' : xZ) (h' : mx_H), mx_Ca (tB l D b0 ad Hb tau) (d + 1) 169 [.ref 56, xI x0] h (none, h') ∧ XH n s S Z' h' ∧ GI n S Z' ∧ fr' [(60, (-1))] Z Z' ∧ ((Z' 60 1 = Z 60 1 ∧ Z' 60 2 = Z 60 2 ∧ ((¬ Z 56 11 = 0 ∧ Z' 60 61 = Z 60 61 ∧ DP Z' a0 = DP Z a0 ∧ MW Z' a0 = MW Z a0 ∧ WFF Z' = WFF Z) ∨ (Z 56 11 = 0 ∧ Z' 60 61 = Z 60 61 + 1 ∧ DP Z' a0 = DP Z a0 + (-1) ∧ (MW Z a0 = 1 → 2 ≤ DP Z a0 → MW Z' a0 = 1) ∧ (WFF Z = 1 → WFF Z' = 1))))) := by
  obtain ⟨r, hca, Z', h', e, q⟩ := Jmt (B := tB l D b0 ad Hb tau) (M := mt_169) (mi := 169) (as := [.ref 56, xI x0]) (d := d + 0) (ls := [some (.ref 56), some (xI x0)]) rfl rfl rfl rfl rfl rfl (cw_169_56_3007 (l := l) (D := D) (b0 := b0) (ad := ad) (Hb := Hb) (tau := tau) (d := d) (Post := fun r => ∃ (Z' : xZ) (h' : mx_H), r = (none, h') ∧ XH n s S Z' h' ∧ GI n S Z' ∧ fr' [(60, (-1))] Z Z' ∧ ((Z' 60 1 = Z 60 1 ∧ Z' 60 2 = Z 60 2 ∧ ((¬ Z 56 11 = 0 ∧ Z' 60 61 = Z 60 61 ∧ DP Z' a0 = DP Z a0 ∧ MW Z' a0 = MW Z a0 ∧ WFF Z' = WFF Z) ∨ (Z 56 11 = 0 ∧ Z' 60 61 = Z 60 61 + 1 ∧ DP Z' a0 = DP Z a0 + (-1) ∧ (MW Z a0 = 1 → 2 ≤ DP Z a0 → MW Z' a0 = 1) ∧ (WFF Z = 1 → WFF Z' = 1)))))) hx hG p0 k0 k1 k2 (fun Z' h' q1 q2 q3 q4 => ⟨Z', h', rfl, q1, q2, q3, q4⟩))
  subst e; exact ⟨Z', h', hca, q⟩
set_option maxRecDepth 100000 in
theorem cw_166_56 {l : Launch} {D : va_G} {b0 : Nat} {ad : Nat → Nat} {Hb : Heap} {tau : Nat → Int64} {d n s : Nat} {S : Nat → xS} {Z : xZ} {h : mx_H} {Post : mx_R → Prop} (hx : XH n s S Z h) (hG : GI n S Z)  {x0 x1 : Int} (p0 : 0 ≤ x0 ∧ x0 ≤ 1) (p1 : 0 ≤ x1 ∧ x1 ≤ 18) (k0 : (Z 56 6 ≤ Z 56 7 ∧ Z 56 7 ≤ Z 56 8 ∧ (Z 56 9 = 24 ∨ Z 56 6 < Z 56 7))) (hP : ∀ (z : Int) (Z' : xZ) (h' : mx_H), XH n s S Z' h' → GI n S Z' → fr' [(56, 6), (56, 7), (56, 9), (56, 10), (56, 11), (56, 12)] Z Z' → 0 ≤ z ∧ z ≤ 999 ∧ ((Z' 56 6 ≤ Z' 56 7 ∧ Z' 56 7 ≤ Z 56 8 ∧ (Z' 56 9 = 24 ∨ Z' 56 6 < Z' 56 7)) ∧ Z 56 6 ≤ Z' 56 6 ∧ (Z' 56 11 = 0 → Z 56 11 = 0 ∧ x0 ≤ z ∧ z ≤ x1 ∧ Z 56 6 + 1 ≤ Z' 56 6) ∧ 0 ≤ z ∧ z ≤ 999) → Post (some (xI z), h')) : mx_J (tB l D b0 ad Hb tau) mt_166 (d + 6) 0 [some (.ref 56), some (xI x0), some (xI x1), none] [] h Post := by
    have a56 : 56 < n := lt83 (GI_n hG) rfl
    have s56 : S 56 = .inl (12, [0, 2, 2, 2, 2, 0, 0, 0, 0, 0, 0, 0, 0, 0, 0, 2, 2, 2, 0, 2, 2, 2, 0, 0, 2, 2, 2, 2, 2, 2, 0, 0, 2, 2, 2, 2, 2, 2, 2, 2, 2, 2]) := GI_s hG 56 rfl
    refine mx_J.step (sn_166 0) (fun _ _ => rfl) ?_
    refine JcI (z := 23) (show mx_Sn _ _ 1 (mx_const (.int 23) 3) from sn_166 1) rfl ?_
    have b2 : 0 ≤ Z 56 9 ∧ Z 56 9 ≤ 100 := hG.pr 56 9
    have b3 : 0 ≤ Z 56 11 ∧ Z 56 11 ≤ 4 := hG.pr 56 11
    obtain ⟨z1, hc1, b1⟩ := ct_164_56 (d := d + 5) (l := l) (D := D) (b0 := b0) (ad := ad) (Hb := Hb) (tau := tau) hx hG (show 0 ≤ 23 ∧ 23 ≤ 100 by omega)
    refine Jcv hx (show mx_Sn _ _ 3 (mx_callv 164 2 12 6) from sn_166 3) a56 s56 hc1 rfl rfl rfl ?_
    have c37 : ∀  (Z5 : xZ) (h5 : mx_H), (Z5 56 11 = 0 → Z 56 11 = 0 ∧ Z 56 9 = 23 ∧ x0 ≤ Z 56 10 ∧ Z 56 10 ≤ x1) → XH n s S Z5 h5 → GI n S Z5 → fr' [(56, 11), (56, 12)] Z Z5 → mx_J (tB l D b0 ad Hb tau) mt_166 (d + 6) 37 [some (.ref 56), some (xI x0), some (xI x1), none] [] h5 Post := by
      intro Z5 h5 f4_0 hx5 hG5 hf5
      have b6 : 0 ≤ Z5 56 11 ∧ Z5 56 11 ≤ 4 := hG5.pr 56 11
      refine mx_J.step (sn_166 37) (fun _ _ => rfl) ?_
      have b8 : 0 ≤ Z 56 10 ∧ Z 56 10 ≤ 999 := hG.pr 56 10
      refine JgetI (g := 10) (z := Z 56 10) hx5 (show mx_Sn _ _ 38 (mx_getf 12 10 41) from sn_166 38) a56 s56 rfl rfl (hf5 56 10 rfl) ?_
      refine mx_J.step (ls2 := [some (.ref 56), some (xI x0), some (xI x1), some (xI (Z 56 10))]) (sn_166 41) (fun _ _ => rfl) ?_
      refine mx_J.step (sn_166 42) (fun _ _ => rfl) ?_
      have b10 : 0 ≤ Z5 56 11 ∧ Z5 56 11 ≤ 4 := hG5.pr 56 11
      refine JgetI (g := 11) (z := Z5 56 11) hx5 (show mx_Sn _ _ 43 (mx_getf 12 11 46) from sn_166 43) a56 s56 rfl rfl rfl ?_
      have c53 : ∀  (Z12 : xZ) (h12 : mx_H), (Z12 56 6 ≤ Z12 56 7 ∧ Z12 56 7 ≤ Z 56 8 ∧ (Z12 56 9 = 24 ∨ Z12 56 6 < Z12 56 7) ∧ Z 56 6 ≤ Z12 56 6 ∧ (Z12 56 11 = 0 → Z 56 11 = 0 ∧ x0 ≤ (Z 56 10) ∧ (Z 56 10) ≤ x1 ∧ Z 56 6 + 1 ≤ Z12 56 6)) → XH n s S Z12 h12 → GI n S Z12 → fr' [(56, 6), (56, 7), (56, 9), (56, 10)] Z5 Z12 → mx_J (tB l D b0 ad Hb tau) mt_166 (d + 6) 53 [some (.ref 56), some (xI x0), some (xI x1), some (xI (Z 56 10))] [] h12 Post := by
        intro Z12 h12 f11_0 hx12 hG12 hf12
        have b13 : 0 ≤ Z12 56 6 ∧ Z12 56 6 ≤ 900 := hG12.pr 56 6
        have b14 : 0 ≤ Z12 56 7 ∧ Z12 56 7 ≤ 900 := hG12.pr 56 7
        have b15 : 0 ≤ Z12 56 9 ∧ Z12 56 9 ≤ 100 := hG12.pr 56 9
        have eq16 : Z12 56 11 = Z5 56 11 := (hf12 56 11 rfl)
        have b17 : 0 ≤ Z5 56 11 ∧ Z5 56 11 ≤ 4 := hG5.pr 56 11
        refine mx_J.step (sn_166 53) (fun _ _ => rfl) ?_
        have b18 : 0 ≤ Z12 56 6 ∧ Z12 56 6 ≤ 900 := hG12.pr 56 6
        have b19 : 0 ≤ Z12 56 7 ∧ Z12 56 7 ≤ 900 := hG12.pr 56 7
        have b20 : 0 ≤ Z12 56 9 ∧ Z12 56 9 ≤ 100 := hG12.pr 56 9
        have eq21 : Z12 56 11 = Z5 56 11 := (hf12 56 11 rfl)
        have b22 : 0 ≤ Z5 56 11 ∧ Z5 56 11 ≤ 4 := hG5.pr 56 11
        have b23 : 0 ≤ Z12 56 6 ∧ Z12 56 6 ≤ 900 := hG12.pr 56 6
        have b24 : 0 ≤ Z12 56 7 ∧ Z12 56 7 ≤ 900 := hG12.pr 56 7
        have eq25 : Z12 56 8 = Z 56 8 := ((hf12 56 8 rfl).trans (hf5 56 8 rfl))
        have b26 : 0 ≤ Z 56 8 ∧ Z 56 8 ≤ 900 := hG.pr 56 8
        have b27 : 0 ≤ Z12 56 9 ∧ Z12 56 9 ≤ 100 := hG12.pr 56 9
        have eq28 : Z12 56 11 = Z5 56 11 := (hf12 56 11 rfl)
        have b29 : 0 ≤ Z5 56 11 ∧ Z5 56 11 ≤ 4 := hG5.pr 56 11
        have b30 : 0 ≤ Z12 56 10 ∧ Z12 56 10 ≤ 999 := hG12.pr 56 10
        exact mx_J.ret (sn_166 54) (fun _ _ => rfl) (hP (Z 56 10) Z12 h12 hx12 hG12 (fr_tr (M := [(56, 6), (56, 7), (56, 9), (56, 10), (56, 11), (56, 12)]) (fr_tr (M := [(56, 6), (56, 7), (56, 9), (56, 10), (56, 11), (56, 12)]) fr_rf (hf5) (M1 := []) rfl rfl) (hf12) rfl rfl) (by omega))
      refine Jif_ne (show mx_Sn _ _ 46 (mx_if_ne 53 49) from sn_166 46) (by omega) (fun q31 => ?_) (fun q31 => ?_)
      · skip
        have eq32 : Z5 56 6 = Z 56 6 := (hf5 56 6 rfl)
        have b33 : 0 ≤ Z 56 6 ∧ Z 56 6 ≤ 900 := hG.pr 56 6
        have eq34 : Z5 56 7 = Z 56 7 := (hf5 56 7 rfl)
        have b35 : 0 ≤ Z 56 7 ∧ Z 56 7 ≤ 900 := hG.pr 56 7
        have eq36 : Z5 56 9 = Z 56 9 := (hf5 56 9 rfl)
        have b37 : 0 ≤ Z 56 9 ∧ Z 56 9 ≤ 100 := hG.pr 56 9
        have b38 : 0 ≤ Z5 56 11 ∧ Z5 56 11 ≤ 4 := hG5.pr 56 11
        exact c53 Z5 h5 (by omega) hx5 hG5 fr_rf
      · skip
        refine mx_J.step (sn_166 49) (fun _ _ => rfl) ?_
        have eq40 : Z5 56 7 = Z 56 7 := (hf5 56 7 rfl)
        have b41 : 0 ≤ Z 56 7 ∧ Z 56 7 ≤ 900 := hG.pr 56 7
        have eq42 : Z5 56 8 = Z 56 8 := (hf5 56 8 rfl)
        have b43 : 0 ≤ Z 56 8 ∧ Z 56 8 ≤ 900 := hG.pr 56 8
        obtain ⟨Z39, h39, hc39, hx39, hG39, hf39, b39⟩ := ct_162_56 (d := d + 0) (l := l) (D := D) (b0 := b0) (ad := ad) (Hb := Hb) (tau := tau) hx5 hG5  (show Z5 56 7 ≤ Z5 56 8 by first | omega | (simp only [eq40, eq42]; omega))
        try rw [eq40] at b39
        try rw [eq42] at b39
        have b44 : 0 ≤ Z39 56 6 ∧ Z39 56 6 ≤ 900 := hG39.pr 56 6
        have b45 : 0 ≤ Z39 56 7 ∧ Z39 56 7 ≤ 900 := hG39.pr 56 7
        have b46 : 0 ≤ Z39 56 9 ∧ Z39 56 9 ≤ 100 := hG39.pr 56 9
        refine Jcv0 hx5 (show mx_Sn _ _ 50 (mx_callv 162 1 12 53) from sn_166 50) a56 s56 hc39 rfl rfl rfl ?_
        have b47 : 0 ≤ Z39 56 6 ∧ Z39 56 6 ≤ 900 := hG39.pr 56 6
        have b48 : 0 ≤ Z39 56 7 ∧ Z39 56 7 ≤ 900 := hG39.pr 56 7
        have b49 : 0 ≤ Z39 56 9 ∧ Z39 56 9 ≤ 100 := hG39.pr 56 9
        have eq50 : Z39 56 11 = Z5 56 11 := (hf39 56 11 rfl)
        have b51 : 0 ≤ Z5 56 11 ∧ Z5 56 11 ≤ 4 := hG5.pr 56 11
        exact c53 Z39 h39 (by omega) hx39 hG39 (fr_tr (M := [(56, 6), (56, 7), (56, 9), (56, 10)]) fr_rf (hf39) (M1 := []) rfl rfl)
    refine Jif_ne (show mx_Sn _ _ 6 (mx_if_ne 17 9) from sn_166 6) (by omega) (fun q52 => ?_) (fun q52 => ?_)
    · skip
      refine mx_J.step (sn_166 17) (fun _ _ => rfl) ?_
      have b54 : 0 ≤ Z 56 10 ∧ Z 56 10 ≤ 999 := hG.pr 56 10
      refine JgetI (g := 10) (z := Z 56 10) hx (show mx_Sn _ _ 18 (mx_getf 12 10 21) from sn_166 18) a56 s56 rfl rfl rfl ?_
      refine Ji2l (show mx_Sn _ _ 21 (mx_i2l 22) from sn_166 21) (by omega) ?_
      refine mx_J.step (sn_166 22) (fun _ _ => rfl) ?_
      refine Ji2l (show mx_Sn _ _ 23 (mx_i2l 24) from sn_166 23) (by omega) ?_
      refine mx_J.step (sn_166 24) (fun _ _ => rfl) ?_
      refine Ji2l (show mx_Sn _ _ 25 (mx_i2l 26) from sn_166 25) (by omega) ?_
      obtain ⟨z55, hc55, b55⟩ := ct_154_ (d := d + 5) (l := l) (D := D) (b0 := b0) (ad := ad) (Hb := Hb) (tau := tau) hx hG (show (-9223372036854775808) ≤ Z 56 10 ∧ Z 56 10 ≤ 9223372036854775807 by omega) (show (-9223372036854775808) ≤ x0 ∧ x0 ≤ 9223372036854775807 by omega) (show (-9223372036854775808) ≤ x1 ∧ x1 ≤ 9223372036854775807 by omega)
      refine Jcs (show mx_Sn _ _ 26 (mx_calls 154 3 29) from sn_166 26) hc55 rfl rfl rfl ?_
      refine Jif_ne (show mx_Sn _ _ 29 (mx_if_ne 37 32) from sn_166 29) (by omega) (fun q56 => ?_) (fun q56 => ?_)
      · skip
        have b57 : 0 ≤ Z 56 11 ∧ Z 56 11 ≤ 4 := hG.pr 56 11
        exact c37 Z h (by omega) hx hG fr_rf
      · skip
        refine mx_J.step (sn_166 32) (fun _ _ => rfl) ?_
        refine JcI (z := 3) (show mx_Sn _ _ 33 (mx_const (.int 3) 34) from sn_166 33) rfl ?_
        obtain ⟨Z58, h58, hc58, hx58, hG58, hf58, b58⟩ := ct_163_56 (d := d + 5) (l := l) (D := D) (b0 := b0) (ad := ad) (Hb := Hb) (tau := tau) hx hG (show 1 ≤ 3 ∧ 3 ≤ 4 by omega)
        have b59 : 0 ≤ Z58 56 11 ∧ Z58 56 11 ≤ 4 := hG58.pr 56 11
        refine Jcv0 hx (show mx_Sn _ _ 34 (mx_callv 163 2 12 37) from sn_166 34) a56 s56 hc58 rfl rfl rfl ?_
        have b60 : 0 ≤ Z58 56 11 ∧ Z58 56 11 ≤ 4 := hG58.pr 56 11
        exact c37 Z58 h58 (by omega) hx58 hG58 (fr_tr (M := [(56, 11), (56, 12)]) fr_rf (hf58) (M1 := []) rfl rfl)
    · skip
      refine mx_J.step (sn_166 9) (fun _ _ => rfl) ?_
      refine JcI (z := 2) (show mx_Sn _ _ 10 (mx_const (.int 2) 11) from sn_166 10) rfl ?_
      obtain ⟨Z61, h61, hc61, hx61, hG61, hf61, b61⟩ := ct_163_56 (d := d + 5) (l := l) (D := D) (b0 := b0) (ad := ad) (Hb := Hb) (tau := tau) hx hG (show 1 ≤ 2 ∧ 2 ≤ 4 by omega)
      have b62 : 0 ≤ Z61 56 11 ∧ Z61 56 11 ≤ 4 := hG61.pr 56 11
      refine Jcv0 hx (show mx_Sn _ _ 11 (mx_callv 163 2 12 14) from sn_166 11) a56 s56 hc61 rfl rfl rfl ?_
      refine mx_J.step (sn_166 14) (fun _ _ => rfl) ?_
      have b63 : 0 ≤ Z61 56 11 ∧ Z61 56 11 ≤ 4 := hG61.pr 56 11
      exact c37 Z61 h61 (by omega) hx61 hG61 (fr_tr (M := [(56, 11), (56, 12)]) fr_rf (hf61) (M1 := []) rfl rfl)
theorem ct_166_56 {l : Launch} {D : va_G} {b0 : Nat} {ad : Nat → Nat} {Hb : Heap} {tau : Nat → Int64} {d n s : Nat} {S : Nat → xS} {Z : xZ} {h : mx_H} (hx : XH n s S Z h) (hG : GI n S Z)  {x0 x1 : Int} (p0 : 0 ≤ x0 ∧ x0 ≤ 1) (p1 : 0 ≤ x1 ∧ x1 ≤ 18) (k0 : (Z 56 6 ≤ Z 56 7 ∧ Z 56 7 ≤ Z 56 8 ∧ (Z 56 9 = 24 ∨ Z 56 6 < Z 56 7))) : ∃ (z : Int) (Z' : xZ) (h' : mx_H), mx_Ca (tB l D b0 ad Hb tau) (d + 7) 166 [.ref 56, xI x0, xI x1] h (some (xI z), h') ∧ XH n s S Z' h' ∧ GI n S Z' ∧ fr' [(56, 6), (56, 7), (56, 9), (56, 10), (56, 11), (56, 12)] Z Z' ∧ (0 ≤ z ∧ z ≤ 999 ∧ ((Z' 56 6 ≤ Z' 56 7 ∧ Z' 56 7 ≤ Z 56 8 ∧ (Z' 56 9 = 24 ∨ Z' 56 6 < Z' 56 7)) ∧ Z 56 6 ≤ Z' 56 6 ∧ (Z' 56 11 = 0 → Z 56 11 = 0 ∧ x0 ≤ z ∧ z ≤ x1 ∧ Z 56 6 + 1 ≤ Z' 56 6) ∧ 0 ≤ z ∧ z ≤ 999)) := by
  obtain ⟨r, hca, z, Z', h', e, q⟩ := Jmt (B := tB l D b0 ad Hb tau) (M := mt_166) (mi := 166) (as := [.ref 56, xI x0, xI x1]) (d := d + 6) (ls := [some (.ref 56), some (xI x0), some (xI x1), none]) rfl rfl rfl rfl rfl rfl (cw_166_56 (l := l) (D := D) (b0 := b0) (ad := ad) (Hb := Hb) (tau := tau) (d := d) (Post := fun r => ∃ (z : Int) (Z' : xZ) (h' : mx_H), r = (some (xI z), h') ∧ XH n s S Z' h' ∧ GI n S Z' ∧ fr' [(56, 6), (56, 7), (56, 9), (56, 10), (56, 11), (56, 12)] Z Z' ∧ (0 ≤ z ∧ z ≤ 999 ∧ ((Z' 56 6 ≤ Z' 56 7 ∧ Z' 56 7 ≤ Z 56 8 ∧ (Z' 56 9 = 24 ∨ Z' 56 6 < Z' 56 7)) ∧ Z 56 6 ≤ Z' 56 6 ∧ (Z' 56 11 = 0 → Z 56 11 = 0 ∧ x0 ≤ z ∧ z ≤ x1 ∧ Z 56 6 + 1 ≤ Z' 56 6) ∧ 0 ≤ z ∧ z ≤ 999))) hx hG p0 p1 k0 (fun z Z' h' q1 q2 q3 q4 => ⟨z, Z', h', rfl, q1, q2, q3, q4⟩))
  subst e; exact ⟨z, Z', h', hca, q⟩
