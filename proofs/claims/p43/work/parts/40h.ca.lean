set_option maxRecDepth 100000 in
theorem cw_43_3_s {l : Launch} {D : va_G} {b0 : Nat} {ad : Nat → Nat} {Hb : Heap} {tau : Nat → Int64} {d n s : Nat} {S : Nat → xS} {Z : xZ} {h : mx_H} {Post : mx_R → Prop} {T : Int → Int} {N : Int} {sg : SS} (hx : XH n s S Z h) (hG : GI n S Z)  {x0 : Int} (p0 : 0 ≤ x0 ∧ x0 ≤ 6) (k0 : Z 3 0 = 2) (k1 : (Z 3 3 ≤ Z 3 2 ∧ Z 3 2 ≤ Z 3 1 ∧ (Z 3 4 = 0 ∨ Z 3 4 = 3 ∨ Z 3 3 < Z 3 2) ∧ (Z 3 4 = 3 ∨ Z 3 14 = 0))) (k2 : Z 3 7 ≤ Z 3 3) (hr : RC T N Z sg) {kk : Nat} (IH : RBdh l D b0 ad Hb tau kk x0) (hd : kk ≤ d) (hP : ∀ (Z' : xZ) (h' : mx_H), XH n s S Z' h' → GI n S Z' → fr' [(3, 2), (3, 3), (3, 4), (3, 5), (3, 7), (3, 14), (3, 15), (5, (-1))] Z Z' → RC T N Z' (tmX T N (lvI T N x0) sg) ∧ ((Z' 3 3 ≤ Z' 3 2 ∧ Z' 3 2 ≤ Z 3 1 ∧ (Z' 3 4 = 0 ∨ Z' 3 4 = 3 ∨ Z' 3 3 < Z' 3 2) ∧ (Z' 3 4 = 3 ∨ Z' 3 14 = 0)) ∧ Z 3 3 ≤ Z' 3 3 ∧ Z' 3 7 - Z 3 7 ≤ Z' 3 3 - Z 3 3 ∧ (Z' 3 4 = 3 ∨ Z 3 3 + 1 ≤ Z' 3 3) ∧ (Z 3 4 = 3 → Z' 3 4 = 3)) → Post (none, h')) : mx_J (tB l D b0 ad Hb tau) mt_43 (d + 8) 0 [some (.ref 3), some (xI x0), none] [] h Post := by
    have a3 : 3 < n := lt83 (GI_n hG) rfl
    have s3 : S 3 = .inl (7, [2, 0, 0, 0, 0, 0, 2, 0, 2, 2, 0, 2, 0, 0, 0, 0]) := GI_s hG 3 rfl
    have hN := (RC_p hr).2.2.2
    refine mx_J.step (sn_43 0) (fun _ _ => rfl) ?_
    refine mx_J.step (sn_43 1) (fun _ _ => rfl) ?_
    have b2 : 2 ≤ Z 3 0 ∧ Z 3 0 ≤ 4 := hG.pr 3 0
    have b3 : 0 ≤ Z 3 1 ∧ Z 3 1 ≤ 900 := hG.pr 3 1
    have b4 : 0 ≤ Z 3 2 ∧ Z 3 2 ≤ 900 := hG.pr 3 2
    have b5 : 0 ≤ Z 3 3 ∧ Z 3 3 ≤ 900 := hG.pr 3 3
    have b6 : 0 ≤ Z 3 4 ∧ Z 3 4 ≤ 400 := hG.pr 3 4
    have b7 : 0 ≤ Z 3 7 ∧ Z 3 7 ≤ 900 := hG.pr 3 7
    have b8 : 0 ≤ Z 3 14 ∧ Z 3 14 ≤ 4 := hG.pr 3 14
    obtain ⟨Z1, h1, hc1, hx1, hG1, hf1, b1⟩ := ct_44_3_s (T := T) (N := N) (sg := sg) (d := d + 0) (l := l) (D := D) (b0 := b0) (ad := ad) (Hb := Hb) (tau := tau) hx hG (show 0 ≤ x0 ∧ x0 ≤ 6 by omega) (show Z 3 0 = 2 by omega) (show (Z 3 3 ≤ Z 3 2 ∧ Z 3 2 ≤ Z 3 1 ∧ (Z 3 4 = 0 ∨ Z 3 4 = 3 ∨ Z 3 3 < Z 3 2) ∧ (Z 3 4 = 3 ∨ Z 3 14 = 0)) by omega) (show Z 3 7 ≤ Z 3 3 by omega) hr IH (by omega)
    obtain ⟨br1, b1⟩ := b1
    have b9 : 0 ≤ Z1 3 2 ∧ Z1 3 2 ≤ 900 := hG1.pr 3 2
    have b10 : 0 ≤ Z1 3 3 ∧ Z1 3 3 ≤ 900 := hG1.pr 3 3
    have b11 : 0 ≤ Z1 3 4 ∧ Z1 3 4 ≤ 400 := hG1.pr 3 4
    have b12 : 0 ≤ Z1 3 7 ∧ Z1 3 7 ≤ 900 := hG1.pr 3 7
    have b13 : 0 ≤ Z1 3 14 ∧ Z1 3 14 ≤ 4 := hG1.pr 3 14
    refine Jcv0 hx (show mx_Sn _ _ 2 (mx_callv 44 2 7 5) from sn_43 2) a3 s3 hc1 rfl rfl rfl ?_
    refine JcI (z := 0) (show mx_Sn _ _ 5 (mx_const (.int 0) 6) from sn_43 5) rfl ?_
    refine mx_J.step (ls2 := [some (.ref 3), some (xI x0), some (xI 0)]) (sn_43 6) (fun _ _ => rfl) ?_
    have c7 : ∀ (m14 : Nat) (w14_2 : Int) (sg14 : SS) (Z15 : xZ) (h15 : mx_H), 900 - w14_2 < (m14 : Int) → 0 ≤ w14_2 ∧ w14_2 ≤ 900 → RC T N Z15 sg14 → (Z15 3 3 ≤ Z15 3 2 ∧ Z15 3 2 ≤ Z 3 1 ∧ (Z15 3 4 = 0 ∨ Z15 3 4 = 3 ∨ Z15 3 3 < Z15 3 2) ∧ (Z15 3 4 = 3 ∨ Z15 3 14 = 0)) → (Z 3 3 ≤ Z15 3 3 ∧ Z15 3 7 - Z 3 7 ≤ Z15 3 3 - Z 3 3 + 0) → ((Z15 3 4 = 3 ∨ Z 3 3 + 1 ≤ Z15 3 3) ∧ (Z 3 4 = 3 → Z15 3 4 = 3)) → (Z15 3 4 = 3 ∨ w14_2 ≤ Z15 3 3 - Z 3 3) → tmL T N (lvI T N x0) sg14 = tmX T N (lvI T N x0) sg → XH n s S Z15 h15 → GI n S Z15 → fr' [(3, 2), (3, 3), (3, 4), (3, 5), (3, 7), (3, 14), (3, 15), (5, (-1))] Z1 Z15 → mx_J (tB l D b0 ad Hb tau) mt_43 (d + 8) 7 [some (.ref 3), some (xI x0), some (xI w14_2)] [] h15 Post := by
      intro m14
      induction m14 with
      | zero => intro w14_2 sg14 Z15 h15 q14 f14_0 f14_1 f14_2 f14_3 f14_4 f14_5 f14_6 hx15 hG15 hf15; exact absurd q14 (by omega)
      | succ m14 ih14 =>
        intro w14_2 sg14 Z15 h15 q14 f14_0 f14_1 f14_2 f14_3 f14_4 f14_5 f14_6 hx15 hG15 hf15
        have eq16 : Z15 3 0 = Z 3 0 := ((hf15 3 0 rfl).trans (hf1 3 0 rfl))
        have b17 : 0 ≤ Z15 3 2 ∧ Z15 3 2 ≤ 900 := hG15.pr 3 2
        have b18 : 0 ≤ Z15 3 3 ∧ Z15 3 3 ≤ 900 := hG15.pr 3 3
        have b19 : 0 ≤ Z15 3 4 ∧ Z15 3 4 ≤ 400 := hG15.pr 3 4
        have b20 : 0 ≤ Z15 3 7 ∧ Z15 3 7 ≤ 900 := hG15.pr 3 7
        have b21 : 0 ≤ Z15 3 14 ∧ Z15 3 14 ≤ 4 := hG15.pr 3 14
        refine mx_J.step (sn_43 7) (fun _ _ => rfl) ?_
        refine mx_J.step (sn_43 8) (fun _ _ => rfl) ?_
        refine JgetI (g := 1) (z := Z 3 1) hx15 (show mx_Sn _ _ 9 (mx_getf 7 1 12) from sn_43 9) a3 s3 rfl rfl ((hf15 3 1 rfl).trans (hf1 3 1 rfl)) ?_
        have c46 : ¬ gIs T N 34 sg14 → mx_J (tB l D b0 ad Hb tau) mt_43 (d + 8) 46 [some (.ref 3), some (xI x0), some (xI w14_2)] [] h15 Post := by
          intro f23_0
          have eq24 : Z15 3 0 = Z 3 0 := ((hf15 3 0 rfl).trans (hf1 3 0 rfl))
          have eq25 : Z15 3 1 = Z 3 1 := ((hf15 3 1 rfl).trans (hf1 3 1 rfl))
          exact mx_J.ret (sn_43 46) (fun _ _ => rfl) (hP Z15 h15 hx15 hG15 (fr_tr (M := [(3, 2), (3, 3), (3, 4), (3, 5), (3, 7), (3, 14), (3, 15), (5, (-1))]) (fr_tr (M := [(3, 2), (3, 3), (3, 4), (3, 5), (3, 7), (3, 14), (3, 15), (5, (-1))]) fr_rf (hf1) (M1 := []) rfl rfl) (hf15) rfl rfl) ⟨(RC_e f14_1 ((by assumption : tmL T N (lvI T N x0) sg14 = tmX T N (lvI T N x0) sg).symm.trans (tmL_n (by assumption)))), by omega⟩)
        refine Jicmp_ge (show mx_Sn _ _ 12 (mx_icmp_ge 46 15) from sn_43 12) (by omega) (by omega) (fun q26 => ?_) (fun q26 => ?_)
        · skip
          exact c46 ((RC_x (k := 34) f14_1 (by omega) (by decide)))
        · skip
          refine mx_J.step (sn_43 15) (fun _ _ => rfl) ?_
          refine JgetI (g := 4) (z := Z15 3 4) hx15 (show mx_Sn _ _ 16 (mx_getf 7 4 19) from sn_43 16) a3 s3 rfl rfl rfl ?_
          refine JcI (z := 42) (show mx_Sn _ _ 19 (mx_const (.int 42) 21) from sn_43 19) rfl ?_
          refine Jicmp_ne (show mx_Sn _ _ 21 (mx_icmp_ne 46 24) from sn_43 21) (by omega) (by omega) (fun q28 => ?_) (fun q28 => ?_)
          · skip
            exact c46 ((RC_n (k := 34) (v := 42) f14_1 (by unfold tKk; omega) rfl (by omega)))
          · skip
            have g0 : gIs T N 34 sg14 := (RC_y (k := 34) (v := 42) f14_1 (by unfold tKk; omega) rfl (by omega))
            have gn := RC_N f14_1
            refine mx_J.step (sn_43 24) (fun _ _ => rfl) ?_
            have eq30 : Z15 3 0 = Z 3 0 := ((hf15 3 0 rfl).trans (hf1 3 0 rfl))
            have eq31 : Z15 3 1 = Z 3 1 := ((hf15 3 1 rfl).trans (hf1 3 1 rfl))
            obtain ⟨Z29, h29, hc29, hx29, hG29, hf29, b29⟩ := ct_56_3r (T := T) (N := N) (sg := sg14) (d := d + 2) (l := l) (D := D) (b0 := b0) (ad := ad) (Hb := Hb) (tau := tau) hx15 hG15  (show Z15 3 0 = 2 by first | omega | (simp only [eq30, eq31]; omega)) (show Z15 3 2 ≤ Z15 3 1 by first | omega | (simp only [eq30, eq31]; omega)) f14_1
            try rw [eq30] at b29
            try rw [eq31] at b29
            obtain ⟨br29, b29⟩ := b29
            have b32 : 0 ≤ Z29 3 2 ∧ Z29 3 2 ≤ 900 := hG29.pr 3 2
            have b33 : 0 ≤ Z29 3 3 ∧ Z29 3 3 ≤ 900 := hG29.pr 3 3
            have b34 : 0 ≤ Z29 3 4 ∧ Z29 3 4 ≤ 400 := hG29.pr 3 4
            refine Jcv0 hx15 (show mx_Sn _ _ 25 (mx_callv 56 1 7 28) from sn_43 25) a3 s3 hc29 rfl rfl rfl ?_
            refine mx_J.step (sn_43 28) (fun _ _ => rfl) ?_
            refine mx_J.step (sn_43 29) (fun _ _ => rfl) ?_
            have eq36 : Z29 3 0 = Z 3 0 := ((hf29 3 0 rfl).trans ((hf15 3 0 rfl).trans (hf1 3 0 rfl)))
            have eq37 : Z29 3 1 = Z 3 1 := ((hf29 3 1 rfl).trans ((hf15 3 1 rfl).trans (hf1 3 1 rfl)))
            have eq38 : Z29 3 7 = Z15 3 7 := (hf29 3 7 rfl)
            have eq39 : Z29 3 14 = Z15 3 14 := (hf29 3 14 rfl)
            obtain ⟨Z35, h35, hc35, hx35, hG35, hf35, b35⟩ := ct_44_3_s (T := T) (N := N) (sg := gAd T N sg14) (d := d + 0) (l := l) (D := D) (b0 := b0) (ad := ad) (Hb := Hb) (tau := tau) hx29 hG29 (show 0 ≤ x0 ∧ x0 ≤ 6 by omega) (show Z29 3 0 = 2 by first | omega | (simp only [eq36, eq37, eq38, eq39]; omega)) (show (Z29 3 3 ≤ Z29 3 2 ∧ Z29 3 2 ≤ Z29 3 1 ∧ (Z29 3 4 = 0 ∨ Z29 3 4 = 3 ∨ Z29 3 3 < Z29 3 2) ∧ (Z29 3 4 = 3 ∨ Z29 3 14 = 0)) by first | omega | (simp only [eq36, eq37, eq38, eq39]; omega)) (show Z29 3 7 ≤ Z29 3 3 by first | omega | (simp only [eq36, eq37, eq38, eq39]; omega)) br29 IH (by omega)
            try rw [eq36] at b35
            try rw [eq37] at b35
            try rw [eq38] at b35
            try rw [eq39] at b35
            obtain ⟨br35, b35⟩ := b35
            have b40 : 0 ≤ Z35 3 2 ∧ Z35 3 2 ≤ 900 := hG35.pr 3 2
            have b41 : 0 ≤ Z35 3 3 ∧ Z35 3 3 ≤ 900 := hG35.pr 3 3
            have b42 : 0 ≤ Z35 3 4 ∧ Z35 3 4 ≤ 400 := hG35.pr 3 4
            have b43 : 0 ≤ Z35 3 7 ∧ Z35 3 7 ≤ 900 := hG35.pr 3 7
            have b44 : 0 ≤ Z35 3 14 ∧ Z35 3 14 ≤ 4 := hG35.pr 3 14
            refine Jcv0 hx29 (show mx_Sn _ _ 30 (mx_callv 44 2 7 33) from sn_43 30) a3 s3 hc35 rfl rfl rfl ?_
            refine mx_J.step (sn_43 33) (fun _ _ => rfl) ?_
            refine JcI (z := 1012) (show mx_Sn _ _ 34 (mx_const (.int 1012) 37) from sn_43 34) rfl ?_
            obtain ⟨Z45, h45, hc45, hx45, hG45, hf45, b45⟩ := ct_52_3_1010 (T := T) (N := N) (sg := atX T N (lvI T N x0) (gAd T N sg14)) (d := d + 7) (l := l) (D := D) (b0 := b0) (ad := ad) (Hb := Hb) (tau := tau) hx35 hG35 (show 1010 ≤ 1012 ∧ 1012 ≤ 1019 by omega) (show (Z35 3 4 = 3 ∨ Z35 3 7 ≤ 899) by omega) br35
            obtain ⟨br45, b45⟩ := b45
            have b46 : 0 ≤ Z45 3 7 ∧ Z45 3 7 ≤ 900 := hG45.pr 3 7
            refine Jcv0 hx35 (show mx_Sn _ _ 37 (mx_callv 52 2 7 40) from sn_43 37) a3 s3 hc45 rfl rfl rfl ?_
            refine Jiinc (z := w14_2) (cz := 1) (ls2 := [some (.ref 3), some (xI x0), some (xI (w14_2 + 1))]) (show mx_Sn _ _ 40 (mx_iinc 2 1 43) from sn_43 40) rfl rfl rfl rfl ?_
            refine mx_J.step (sn_43 43) (fun _ _ => rfl) ?_
            have eq47 : Z45 3 0 = Z 3 0 := ((hf45 3 0 rfl).trans ((hf35 3 0 rfl).trans ((hf29 3 0 rfl).trans ((hf15 3 0 rfl).trans (hf1 3 0 rfl)))))
            have eq48 : Z45 3 2 = Z35 3 2 := (hf45 3 2 rfl)
            have eq49 : Z45 3 3 = Z35 3 3 := (hf45 3 3 rfl)
            have eq50 : Z45 3 4 = Z35 3 4 := (hf45 3 4 rfl)
            have eq51 : Z45 3 14 = Z35 3 14 := (hf45 3 14 rfl)
            have eq52 : Z45 3 3 = Z35 3 3 := (hf45 3 3 rfl)
            have eq53 : Z45 3 3 = Z35 3 3 := (hf45 3 3 rfl)
            have eq54 : Z45 3 4 = Z35 3 4 := (hf45 3 4 rfl)
            have eq55 : Z45 3 4 = Z35 3 4 := (hf45 3 4 rfl)
            have eq56 : Z45 3 3 = Z35 3 3 := (hf45 3 3 rfl)
            exact ih14 (w14_2 + 1) (gEm 1012 (atX T N (lvI T N x0) (gAd T N sg14))) Z45 h45 (by omega) (by omega) br45 (by omega) (by omega) (by omega) (by omega) ((tmL_s (lvI_go _) gn g0).symm.trans (by assumption)) hx45 hG45 (fr_tr (M := [(3, 2), (3, 3), (3, 4), (3, 5), (3, 7), (3, 14), (3, 15), (5, (-1))]) (fr_tr (M := [(3, 2), (3, 3), (3, 4), (3, 5), (3, 7), (3, 14), (3, 15), (5, (-1))]) (fr_tr (M := [(3, 2), (3, 3), (3, 4), (3, 5), (3, 7), (3, 14), (3, 15), (5, (-1))]) (fr_tr (M := [(3, 2), (3, 3), (3, 4), (3, 5), (3, 7), (3, 14), (3, 15), (5, (-1))]) fr_rf (hf15) (M1 := []) rfl rfl) (hf29) rfl rfl) (hf35) rfl rfl) (hf45) rfl rfl)
    have eq57 : Z1 3 0 = Z 3 0 := (hf1 3 0 rfl)
    exact c7 (Int.toNat (900 - 0) + 1) 0 (atX T N (lvI T N x0) sg) Z1 h1 (by omega) (by omega) br1 (by omega) (by omega) (by omega) (by omega) (rfl) hx1 hG1 fr_rf
theorem ct_43_3_s {l : Launch} {D : va_G} {b0 : Nat} {ad : Nat → Nat} {Hb : Heap} {tau : Nat → Int64} {d n s : Nat} {S : Nat → xS} {Z : xZ} {h : mx_H} {T : Int → Int} {N : Int} {sg : SS} (hx : XH n s S Z h) (hG : GI n S Z)  {x0 : Int} (p0 : 0 ≤ x0 ∧ x0 ≤ 6) (k0 : Z 3 0 = 2) (k1 : (Z 3 3 ≤ Z 3 2 ∧ Z 3 2 ≤ Z 3 1 ∧ (Z 3 4 = 0 ∨ Z 3 4 = 3 ∨ Z 3 3 < Z 3 2) ∧ (Z 3 4 = 3 ∨ Z 3 14 = 0))) (k2 : Z 3 7 ≤ Z 3 3) (hr : RC T N Z sg) {kk : Nat} (IH : RBdh l D b0 ad Hb tau kk x0) (hd : kk ≤ d) : ∃ (Z' : xZ) (h' : mx_H), mx_Ca (tB l D b0 ad Hb tau) (d + 9) 43 [.ref 3, xI x0] h (none, h') ∧ XH n s S Z' h' ∧ GI n S Z' ∧ fr' [(3, 2), (3, 3), (3, 4), (3, 5), (3, 7), (3, 14), (3, 15), (5, (-1))] Z Z' ∧ (RC T N Z' (tmX T N (lvI T N x0) sg) ∧ ((Z' 3 3 ≤ Z' 3 2 ∧ Z' 3 2 ≤ Z 3 1 ∧ (Z' 3 4 = 0 ∨ Z' 3 4 = 3 ∨ Z' 3 3 < Z' 3 2) ∧ (Z' 3 4 = 3 ∨ Z' 3 14 = 0)) ∧ Z 3 3 ≤ Z' 3 3 ∧ Z' 3 7 - Z 3 7 ≤ Z' 3 3 - Z 3 3 ∧ (Z' 3 4 = 3 ∨ Z 3 3 + 1 ≤ Z' 3 3) ∧ (Z 3 4 = 3 → Z' 3 4 = 3))) := by
  obtain ⟨r, hca, Z', h', e, q⟩ := Jmt (B := tB l D b0 ad Hb tau) (M := mt_43) (mi := 43) (as := [.ref 3, xI x0]) (d := d + 8) (ls := [some (.ref 3), some (xI x0), none]) rfl rfl rfl rfl rfl rfl (cw_43_3_s (l := l) (D := D) (b0 := b0) (ad := ad) (Hb := Hb) (tau := tau) (d := d) (Post := fun r => ∃ (Z' : xZ) (h' : mx_H), r = (none, h') ∧ XH n s S Z' h' ∧ GI n S Z' ∧ fr' [(3, 2), (3, 3), (3, 4), (3, 5), (3, 7), (3, 14), (3, 15), (5, (-1))] Z Z' ∧ (RC T N Z' (tmX T N (lvI T N x0) sg) ∧ ((Z' 3 3 ≤ Z' 3 2 ∧ Z' 3 2 ≤ Z 3 1 ∧ (Z' 3 4 = 0 ∨ Z' 3 4 = 3 ∨ Z' 3 3 < Z' 3 2) ∧ (Z' 3 4 = 3 ∨ Z' 3 14 = 0)) ∧ Z 3 3 ≤ Z' 3 3 ∧ Z' 3 7 - Z 3 7 ≤ Z' 3 3 - Z 3 3 ∧ (Z' 3 4 = 3 ∨ Z 3 3 + 1 ≤ Z' 3 3) ∧ (Z 3 4 = 3 → Z' 3 4 = 3)))) hx hG p0 k0 k1 k2 hr IH hd (fun Z' h' q1 q2 q3 q4 => ⟨Z', h', rfl, q1, q2, q3, q4⟩))
  subst e; exact ⟨Z', h', hca, q⟩
set_option maxRecDepth 100000 in
theorem cw_42_3_s {l : Launch} {D : va_G} {b0 : Nat} {ad : Nat → Nat} {Hb : Heap} {tau : Nat → Int64} {d n s : Nat} {S : Nat → xS} {Z : xZ} {h : mx_H} {Post : mx_R → Prop} {T : Int → Int} {N : Int} {sg : SS} (hx : XH n s S Z h) (hG : GI n S Z)  {x0 : Int} (p0 : 0 ≤ x0 ∧ x0 ≤ 6) (k0 : Z 3 0 = 2) (k1 : (Z 3 3 ≤ Z 3 2 ∧ Z 3 2 ≤ Z 3 1 ∧ (Z 3 4 = 0 ∨ Z 3 4 = 3 ∨ Z 3 3 < Z 3 2) ∧ (Z 3 4 = 3 ∨ Z 3 14 = 0))) (k2 : Z 3 7 ≤ Z 3 3) (hr : RC T N Z sg) {kk : Nat} (IH : RBdh l D b0 ad Hb tau kk x0) (hd : kk ≤ d) (hP : ∀ (Z' : xZ) (h' : mx_H), XH n s S Z' h' → GI n S Z' → fr' [(3, 2), (3, 3), (3, 4), (3, 5), (3, 7), (3, 14), (3, 15), (5, (-1))] Z Z' → RC T N Z' (smX T N (lvI T N x0) sg) ∧ ((Z' 3 3 ≤ Z' 3 2 ∧ Z' 3 2 ≤ Z 3 1 ∧ (Z' 3 4 = 0 ∨ Z' 3 4 = 3 ∨ Z' 3 3 < Z' 3 2) ∧ (Z' 3 4 = 3 ∨ Z' 3 14 = 0)) ∧ Z 3 3 ≤ Z' 3 3 ∧ Z' 3 7 - Z 3 7 ≤ Z' 3 3 - Z 3 3 ∧ (Z' 3 4 = 3 ∨ Z 3 3 + 1 ≤ Z' 3 3) ∧ (Z 3 4 = 3 → Z' 3 4 = 3)) → Post (none, h')) : mx_J (tB l D b0 ad Hb tau) mt_42 (d + 9) 0 [some (.ref 3), some (xI x0), none, none] [] h Post := by
    have a3 : 3 < n := lt83 (GI_n hG) rfl
    have s3 : S 3 = .inl (7, [2, 0, 0, 0, 0, 0, 2, 0, 2, 2, 0, 2, 0, 0, 0, 0]) := GI_s hG 3 rfl
    have hN := (RC_p hr).2.2.2
    refine mx_J.step (sn_42 0) (fun _ _ => rfl) ?_
    refine mx_J.step (sn_42 1) (fun _ _ => rfl) ?_
    have b2 : 2 ≤ Z 3 0 ∧ Z 3 0 ≤ 4 := hG.pr 3 0
    have b3 : 0 ≤ Z 3 1 ∧ Z 3 1 ≤ 900 := hG.pr 3 1
    have b4 : 0 ≤ Z 3 2 ∧ Z 3 2 ≤ 900 := hG.pr 3 2
    have b5 : 0 ≤ Z 3 3 ∧ Z 3 3 ≤ 900 := hG.pr 3 3
    have b6 : 0 ≤ Z 3 4 ∧ Z 3 4 ≤ 400 := hG.pr 3 4
    have b7 : 0 ≤ Z 3 7 ∧ Z 3 7 ≤ 900 := hG.pr 3 7
    have b8 : 0 ≤ Z 3 14 ∧ Z 3 14 ≤ 4 := hG.pr 3 14
    obtain ⟨Z1, h1, hc1, hx1, hG1, hf1, b1⟩ := ct_43_3_s (T := T) (N := N) (sg := sg) (d := d + 0) (l := l) (D := D) (b0 := b0) (ad := ad) (Hb := Hb) (tau := tau) hx hG (show 0 ≤ x0 ∧ x0 ≤ 6 by omega) (show Z 3 0 = 2 by omega) (show (Z 3 3 ≤ Z 3 2 ∧ Z 3 2 ≤ Z 3 1 ∧ (Z 3 4 = 0 ∨ Z 3 4 = 3 ∨ Z 3 3 < Z 3 2) ∧ (Z 3 4 = 3 ∨ Z 3 14 = 0)) by omega) (show Z 3 7 ≤ Z 3 3 by omega) hr IH (by omega)
    obtain ⟨br1, b1⟩ := b1
    have b9 : 0 ≤ Z1 3 2 ∧ Z1 3 2 ≤ 900 := hG1.pr 3 2
    have b10 : 0 ≤ Z1 3 3 ∧ Z1 3 3 ≤ 900 := hG1.pr 3 3
    have b11 : 0 ≤ Z1 3 4 ∧ Z1 3 4 ≤ 400 := hG1.pr 3 4
    have b12 : 0 ≤ Z1 3 7 ∧ Z1 3 7 ≤ 900 := hG1.pr 3 7
    have b13 : 0 ≤ Z1 3 14 ∧ Z1 3 14 ≤ 4 := hG1.pr 3 14
    refine Jcv0 hx (show mx_Sn _ _ 2 (mx_callv 43 2 7 5) from sn_42 2) a3 s3 hc1 rfl rfl rfl ?_
    refine JcI (z := 0) (show mx_Sn _ _ 5 (mx_const (.int 0) 6) from sn_42 5) rfl ?_
    refine mx_J.step (ls2 := [some (.ref 3), some (xI x0), some (xI 0), none]) (sn_42 6) (fun _ _ => rfl) ?_
    have c7 : ∀ (m14 : Nat) (w14_2 : Int) (u14_3 : Option Value) (sg14 : SS) (Z15 : xZ) (h15 : mx_H), 900 - w14_2 < (m14 : Int) → 0 ≤ w14_2 ∧ w14_2 ≤ 900 → RC T N Z15 sg14 → (Z15 3 3 ≤ Z15 3 2 ∧ Z15 3 2 ≤ Z 3 1 ∧ (Z15 3 4 = 0 ∨ Z15 3 4 = 3 ∨ Z15 3 3 < Z15 3 2) ∧ (Z15 3 4 = 3 ∨ Z15 3 14 = 0)) → (Z 3 3 ≤ Z15 3 3 ∧ Z15 3 7 - Z 3 7 ≤ Z15 3 3 - Z 3 3 + 0) → ((Z15 3 4 = 3 ∨ Z 3 3 + 1 ≤ Z15 3 3) ∧ (Z 3 4 = 3 → Z15 3 4 = 3)) → (Z15 3 4 = 3 ∨ w14_2 ≤ Z15 3 3 - Z 3 3) → smL T N (lvI T N x0) sg14 = smX T N (lvI T N x0) sg → XH n s S Z15 h15 → GI n S Z15 → fr' [(3, 2), (3, 3), (3, 4), (3, 5), (3, 7), (3, 14), (3, 15), (5, (-1))] Z1 Z15 → mx_J (tB l D b0 ad Hb tau) mt_42 (d + 9) 7 [some (.ref 3), some (xI x0), some (xI w14_2), u14_3] [] h15 Post := by
      intro m14
      induction m14 with
      | zero => intro w14_2 u14_3 sg14 Z15 h15 q14 f14_0 f14_1 f14_2 f14_3 f14_4 f14_5 f14_6 hx15 hG15 hf15; exact absurd q14 (by omega)
      | succ m14 ih14 =>
        intro w14_2 u14_3 sg14 Z15 h15 q14 f14_0 f14_1 f14_2 f14_3 f14_4 f14_5 f14_6 hx15 hG15 hf15
        have eq16 : Z15 3 0 = Z 3 0 := ((hf15 3 0 rfl).trans (hf1 3 0 rfl))
        have b17 : 0 ≤ Z15 3 2 ∧ Z15 3 2 ≤ 900 := hG15.pr 3 2
        have b18 : 0 ≤ Z15 3 3 ∧ Z15 3 3 ≤ 900 := hG15.pr 3 3
        have b19 : 0 ≤ Z15 3 4 ∧ Z15 3 4 ≤ 400 := hG15.pr 3 4
        have b20 : 0 ≤ Z15 3 7 ∧ Z15 3 7 ≤ 900 := hG15.pr 3 7
        have b21 : 0 ≤ Z15 3 14 ∧ Z15 3 14 ≤ 4 := hG15.pr 3 14
        refine mx_J.step (sn_42 7) (fun _ _ => rfl) ?_
        refine mx_J.step (sn_42 8) (fun _ _ => rfl) ?_
        refine JgetI (g := 1) (z := Z 3 1) hx15 (show mx_Sn _ _ 9 (mx_getf 7 1 12) from sn_42 9) a3 s3 rfl rfl ((hf15 3 1 rfl).trans (hf1 3 1 rfl)) ?_
        have c72 : (¬ gIs T N 32 sg14 ∧ ¬ gIs T N 33 sg14) → mx_J (tB l D b0 ad Hb tau) mt_42 (d + 9) 72 [some (.ref 3), some (xI x0), some (xI w14_2), u14_3] [] h15 Post := by
          intro f23_0
          have eq24 : Z15 3 0 = Z 3 0 := ((hf15 3 0 rfl).trans (hf1 3 0 rfl))
          have eq25 : Z15 3 1 = Z 3 1 := ((hf15 3 1 rfl).trans (hf1 3 1 rfl))
          exact mx_J.ret (sn_42 72) (fun _ _ => rfl) (hP Z15 h15 hx15 hG15 (fr_tr (M := [(3, 2), (3, 3), (3, 4), (3, 5), (3, 7), (3, 14), (3, 15), (5, (-1))]) (fr_tr (M := [(3, 2), (3, 3), (3, 4), (3, 5), (3, 7), (3, 14), (3, 15), (5, (-1))]) fr_rf (hf1) (M1 := []) rfl rfl) (hf15) rfl rfl) ⟨(RC_e f14_1 ((by assumption : smL T N (lvI T N x0) sg14 = smX T N (lvI T N x0) sg).symm.trans (smL_n (by assumption : ¬ gIs T N 32 sg14 ∧ ¬ gIs T N 33 sg14).1 (by assumption : ¬ gIs T N 32 sg14 ∧ ¬ gIs T N 33 sg14).2))), by omega⟩)
        refine Jicmp_ge (show mx_Sn _ _ 12 (mx_icmp_ge 72 15) from sn_42 12) (by omega) (by omega) (fun q26 => ?_) (fun q26 => ?_)
        · skip
          exact c72 (⟨(RC_x (k := 32) f14_1 (by omega) (by decide)), (RC_x (k := 33) f14_1 (by omega) (by decide))⟩)
        · skip
          refine mx_J.step (sn_42 15) (fun _ _ => rfl) ?_
          refine JgetI (g := 4) (z := Z15 3 4) hx15 (show mx_Sn _ _ 16 (mx_getf 7 4 19) from sn_42 16) a3 s3 rfl rfl rfl ?_
          refine JcI (z := 43) (show mx_Sn _ _ 19 (mx_const (.int 43) 21) from sn_42 19) rfl ?_
          have c33 : (Z15 3 4 = 43 ∨ Z15 3 4 = 45) → mx_J (tB l D b0 ad Hb tau) mt_42 (d + 9) 33 [some (.ref 3), some (xI x0), some (xI w14_2), u14_3] [] h15 Post := by
            intro f28_0
            have g0 := RC_s f14_1 (by omega)
            have gn := RC_N f14_1
            refine mx_J.step (sn_42 33) (fun _ _ => rfl) ?_
            refine JgetI (g := 4) (z := Z15 3 4) hx15 (show mx_Sn _ _ 34 (mx_getf 7 4 37) from sn_42 34) a3 s3 rfl rfl rfl ?_
            refine mx_J.step (ls2 := [some (.ref 3), some (xI x0), some (xI w14_2), some (xI (Z15 3 4))]) (sn_42 37) (fun _ _ => rfl) ?_
            refine mx_J.step (sn_42 38) (fun _ _ => rfl) ?_
            have eq31 : Z15 3 0 = Z 3 0 := ((hf15 3 0 rfl).trans (hf1 3 0 rfl))
            have eq32 : Z15 3 1 = Z 3 1 := ((hf15 3 1 rfl).trans (hf1 3 1 rfl))
            obtain ⟨Z30, h30, hc30, hx30, hG30, hf30, b30⟩ := ct_56_3r (T := T) (N := N) (sg := sg14) (d := d + 3) (l := l) (D := D) (b0 := b0) (ad := ad) (Hb := Hb) (tau := tau) hx15 hG15  (show Z15 3 0 = 2 by first | omega | (simp only [eq31, eq32]; omega)) (show Z15 3 2 ≤ Z15 3 1 by first | omega | (simp only [eq31, eq32]; omega)) f14_1
            try rw [eq31] at b30
            try rw [eq32] at b30
            obtain ⟨br30, b30⟩ := b30
            have b33 : 0 ≤ Z30 3 2 ∧ Z30 3 2 ≤ 900 := hG30.pr 3 2
            have b34 : 0 ≤ Z30 3 3 ∧ Z30 3 3 ≤ 900 := hG30.pr 3 3
            have b35 : 0 ≤ Z30 3 4 ∧ Z30 3 4 ≤ 400 := hG30.pr 3 4
            refine Jcv0 hx15 (show mx_Sn _ _ 39 (mx_callv 56 1 7 42) from sn_42 39) a3 s3 hc30 rfl rfl rfl ?_
            refine mx_J.step (sn_42 42) (fun _ _ => rfl) ?_
            refine mx_J.step (sn_42 43) (fun _ _ => rfl) ?_
            have eq37 : Z30 3 0 = Z 3 0 := ((hf30 3 0 rfl).trans ((hf15 3 0 rfl).trans (hf1 3 0 rfl)))
            have eq38 : Z30 3 1 = Z 3 1 := ((hf30 3 1 rfl).trans ((hf15 3 1 rfl).trans (hf1 3 1 rfl)))
            have eq39 : Z30 3 7 = Z15 3 7 := (hf30 3 7 rfl)
            have eq40 : Z30 3 14 = Z15 3 14 := (hf30 3 14 rfl)
            obtain ⟨Z36, h36, hc36, hx36, hG36, hf36, b36⟩ := ct_43_3_s (T := T) (N := N) (sg := gAd T N sg14) (d := d + 0) (l := l) (D := D) (b0 := b0) (ad := ad) (Hb := Hb) (tau := tau) hx30 hG30 (show 0 ≤ x0 ∧ x0 ≤ 6 by omega) (show Z30 3 0 = 2 by first | omega | (simp only [eq37, eq38, eq39, eq40]; omega)) (show (Z30 3 3 ≤ Z30 3 2 ∧ Z30 3 2 ≤ Z30 3 1 ∧ (Z30 3 4 = 0 ∨ Z30 3 4 = 3 ∨ Z30 3 3 < Z30 3 2) ∧ (Z30 3 4 = 3 ∨ Z30 3 14 = 0)) by first | omega | (simp only [eq37, eq38, eq39, eq40]; omega)) (show Z30 3 7 ≤ Z30 3 3 by first | omega | (simp only [eq37, eq38, eq39, eq40]; omega)) br30 IH (by omega)
            try rw [eq37] at b36
            try rw [eq38] at b36
            try rw [eq39] at b36
            try rw [eq40] at b36
            obtain ⟨br36, b36⟩ := b36
            have b41 : 0 ≤ Z36 3 2 ∧ Z36 3 2 ≤ 900 := hG36.pr 3 2
            have b42 : 0 ≤ Z36 3 3 ∧ Z36 3 3 ≤ 900 := hG36.pr 3 3
            have b43 : 0 ≤ Z36 3 4 ∧ Z36 3 4 ≤ 400 := hG36.pr 3 4
            have b44 : 0 ≤ Z36 3 7 ∧ Z36 3 7 ≤ 900 := hG36.pr 3 7
            have b45 : 0 ≤ Z36 3 14 ∧ Z36 3 14 ≤ 4 := hG36.pr 3 14
            refine Jcv0 hx30 (show mx_Sn _ _ 44 (mx_callv 43 2 7 47) from sn_42 44) a3 s3 hc36 rfl rfl rfl ?_
            refine mx_J.step (sn_42 47) (fun _ _ => rfl) ?_
            refine mx_J.step (sn_42 48) (fun _ _ => rfl) ?_
            refine JcI (z := 43) (show mx_Sn _ _ 49 (mx_const (.int 43) 51) from sn_42 49) rfl ?_
            have c63 : ∀ (k46_1 : Int), 1010 ≤ k46_1 ∧ k46_1 ≤ 1011 → k46_1 = 978 + tKd T N (sg14).1 → mx_J (tB l D b0 ad Hb tau) mt_42 (d + 9) 63 [some (.ref 3), some (xI x0), some (xI w14_2), some (xI (Z15 3 4))] [xI k46_1, .ref 3] h36 Post := by
              intro k46_1 f46_0 f46_1
              have gw : k46_1 = 978 + tKd T N (sg14).1 := (by assumption)
              obtain ⟨Z47, h47, hc47, hx47, hG47, hf47, b47⟩ := ct_52_3_1010 (T := T) (N := N) (sg := tmX T N (lvI T N x0) (gAd T N sg14)) (d := d + 8) (l := l) (D := D) (b0 := b0) (ad := ad) (Hb := Hb) (tau := tau) hx36 hG36 (show 1010 ≤ k46_1 ∧ k46_1 ≤ 1019 by omega) (show (Z36 3 4 = 3 ∨ Z36 3 7 ≤ 899) by omega) br36
              obtain ⟨br47, b47⟩ := b47
              have b48 : 0 ≤ Z47 3 7 ∧ Z47 3 7 ≤ 900 := hG47.pr 3 7
              refine Jcv0 hx36 (show mx_Sn _ _ 63 (mx_callv 52 2 7 66) from sn_42 63) a3 s3 hc47 rfl rfl rfl ?_
              refine Jiinc (z := w14_2) (cz := 1) (ls2 := [some (.ref 3), some (xI x0), some (xI (w14_2 + 1)), some (xI (Z15 3 4))]) (show mx_Sn _ _ 66 (mx_iinc 2 1 69) from sn_42 66) rfl rfl rfl rfl ?_
              refine mx_J.step (sn_42 69) (fun _ _ => rfl) ?_
              have eq49 : Z47 3 0 = Z 3 0 := ((hf47 3 0 rfl).trans ((hf36 3 0 rfl).trans ((hf30 3 0 rfl).trans ((hf15 3 0 rfl).trans (hf1 3 0 rfl)))))
              have eq50 : Z47 3 2 = Z36 3 2 := (hf47 3 2 rfl)
              have eq51 : Z47 3 3 = Z36 3 3 := (hf47 3 3 rfl)
              have eq52 : Z47 3 4 = Z36 3 4 := (hf47 3 4 rfl)
              have eq53 : Z47 3 14 = Z36 3 14 := (hf47 3 14 rfl)
              have eq54 : Z47 3 3 = Z36 3 3 := (hf47 3 3 rfl)
              have eq55 : Z47 3 3 = Z36 3 3 := (hf47 3 3 rfl)
              have eq56 : Z47 3 4 = Z36 3 4 := (hf47 3 4 rfl)
              have eq57 : Z47 3 4 = Z36 3 4 := (hf47 3 4 rfl)
              have eq58 : Z47 3 3 = Z36 3 3 := (hf47 3 3 rfl)
              exact ih14 (w14_2 + 1) (some (xI (Z15 3 4))) (gEm k46_1 (tmX T N (lvI T N x0) (gAd T N sg14))) Z47 h47 (by omega) (by omega) br47 (by omega) (by omega) (by omega) (by omega) ((smL_s (lvI_go _) gn g0.1 g0.2.1 gw).symm.trans (by assumption)) hx47 hG47 (fr_tr (M := [(3, 2), (3, 3), (3, 4), (3, 5), (3, 7), (3, 14), (3, 15), (5, (-1))]) (fr_tr (M := [(3, 2), (3, 3), (3, 4), (3, 5), (3, 7), (3, 14), (3, 15), (5, (-1))]) (fr_tr (M := [(3, 2), (3, 3), (3, 4), (3, 5), (3, 7), (3, 14), (3, 15), (5, (-1))]) (fr_tr (M := [(3, 2), (3, 3), (3, 4), (3, 5), (3, 7), (3, 14), (3, 15), (5, (-1))]) fr_rf (hf15) (M1 := []) rfl rfl) (hf30) rfl rfl) (hf36) rfl rfl) (hf47) rfl rfl)
            refine Jicmp_ne (show mx_Sn _ _ 51 (mx_icmp_ne 60 54) from sn_42 51) (by omega) (by omega) (fun q59 => ?_) (fun q59 => ?_)
            · skip
              refine JcI (z := 1011) (show mx_Sn _ _ 60 (mx_const (.int 1011) 63) from sn_42 60) rfl ?_
              exact c63 1011 (by omega) (by omega)
            · skip
              refine JcI (z := 1010) (show mx_Sn _ _ 54 (mx_const (.int 1010) 57) from sn_42 54) rfl ?_
              refine mx_J.step (sn_42 57) (fun _ _ => rfl) ?_
              exact c63 1010 (by omega) (by omega)
          refine Jicmp_eq (show mx_Sn _ _ 21 (mx_icmp_eq 33 24) from sn_42 21) (by omega) (by omega) (fun q60 => ?_) (fun q60 => ?_)
          · skip
            exact c33 (by omega)
          · skip
            refine mx_J.step (sn_42 24) (fun _ _ => rfl) ?_
            refine JgetI (g := 4) (z := Z15 3 4) hx15 (show mx_Sn _ _ 25 (mx_getf 7 4 28) from sn_42 25) a3 s3 rfl rfl rfl ?_
            refine JcI (z := 45) (show mx_Sn _ _ 28 (mx_const (.int 45) 30) from sn_42 28) rfl ?_
            refine Jicmp_ne (show mx_Sn _ _ 30 (mx_icmp_ne 72 33) from sn_42 30) (by omega) (by omega) (fun q62 => ?_) (fun q62 => ?_)
            · skip
              exact c72 (⟨(RC_n (k := 32) (v := 43) f14_1 (by unfold tKk; omega) rfl (by omega)), (RC_n (k := 33) (v := 45) f14_1 (by unfold tKk; omega) rfl (by omega))⟩)
            · skip
              exact c33 (by omega)
    have eq63 : Z1 3 0 = Z 3 0 := (hf1 3 0 rfl)
    exact c7 (Int.toNat (900 - 0) + 1) 0 none (tmX T N (lvI T N x0) sg) Z1 h1 (by omega) (by omega) br1 (by omega) (by omega) (by omega) (by omega) (rfl) hx1 hG1 fr_rf
theorem ct_42_3_s {l : Launch} {D : va_G} {b0 : Nat} {ad : Nat → Nat} {Hb : Heap} {tau : Nat → Int64} {d n s : Nat} {S : Nat → xS} {Z : xZ} {h : mx_H} {T : Int → Int} {N : Int} {sg : SS} (hx : XH n s S Z h) (hG : GI n S Z)  {x0 : Int} (p0 : 0 ≤ x0 ∧ x0 ≤ 6) (k0 : Z 3 0 = 2) (k1 : (Z 3 3 ≤ Z 3 2 ∧ Z 3 2 ≤ Z 3 1 ∧ (Z 3 4 = 0 ∨ Z 3 4 = 3 ∨ Z 3 3 < Z 3 2) ∧ (Z 3 4 = 3 ∨ Z 3 14 = 0))) (k2 : Z 3 7 ≤ Z 3 3) (hr : RC T N Z sg) {kk : Nat} (IH : RBdh l D b0 ad Hb tau kk x0) (hd : kk ≤ d) : ∃ (Z' : xZ) (h' : mx_H), mx_Ca (tB l D b0 ad Hb tau) (d + 10) 42 [.ref 3, xI x0] h (none, h') ∧ XH n s S Z' h' ∧ GI n S Z' ∧ fr' [(3, 2), (3, 3), (3, 4), (3, 5), (3, 7), (3, 14), (3, 15), (5, (-1))] Z Z' ∧ (RC T N Z' (smX T N (lvI T N x0) sg) ∧ ((Z' 3 3 ≤ Z' 3 2 ∧ Z' 3 2 ≤ Z 3 1 ∧ (Z' 3 4 = 0 ∨ Z' 3 4 = 3 ∨ Z' 3 3 < Z' 3 2) ∧ (Z' 3 4 = 3 ∨ Z' 3 14 = 0)) ∧ Z 3 3 ≤ Z' 3 3 ∧ Z' 3 7 - Z 3 7 ≤ Z' 3 3 - Z 3 3 ∧ (Z' 3 4 = 3 ∨ Z 3 3 + 1 ≤ Z' 3 3) ∧ (Z 3 4 = 3 → Z' 3 4 = 3))) := by
  obtain ⟨r, hca, Z', h', e, q⟩ := Jmt (B := tB l D b0 ad Hb tau) (M := mt_42) (mi := 42) (as := [.ref 3, xI x0]) (d := d + 9) (ls := [some (.ref 3), some (xI x0), none, none]) rfl rfl rfl rfl rfl rfl (cw_42_3_s (l := l) (D := D) (b0 := b0) (ad := ad) (Hb := Hb) (tau := tau) (d := d) (Post := fun r => ∃ (Z' : xZ) (h' : mx_H), r = (none, h') ∧ XH n s S Z' h' ∧ GI n S Z' ∧ fr' [(3, 2), (3, 3), (3, 4), (3, 5), (3, 7), (3, 14), (3, 15), (5, (-1))] Z Z' ∧ (RC T N Z' (smX T N (lvI T N x0) sg) ∧ ((Z' 3 3 ≤ Z' 3 2 ∧ Z' 3 2 ≤ Z 3 1 ∧ (Z' 3 4 = 0 ∨ Z' 3 4 = 3 ∨ Z' 3 3 < Z' 3 2) ∧ (Z' 3 4 = 3 ∨ Z' 3 14 = 0)) ∧ Z 3 3 ≤ Z' 3 3 ∧ Z' 3 7 - Z 3 7 ≤ Z' 3 3 - Z 3 3 ∧ (Z' 3 4 = 3 ∨ Z 3 3 + 1 ≤ Z' 3 3) ∧ (Z 3 4 = 3 → Z' 3 4 = 3)))) hx hG p0 k0 k1 k2 hr IH hd (fun Z' h' q1 q2 q3 q4 => ⟨Z', h', rfl, q1, q2, q3, q4⟩))
  subst e; exact ⟨Z', h', hca, q⟩
set_option maxRecDepth 100000 in
theorem cw_50_3_s {l : Launch} {D : va_G} {b0 : Nat} {ad : Nat → Nat} {Hb : Heap} {tau : Nat → Int64} {d n s : Nat} {S : Nat → xS} {Z : xZ} {h : mx_H} {Post : mx_R → Prop} {T : Int → Int} {N : Int} {sg : SS} (hx : XH n s S Z h) (hG : GI n S Z)  {x0 : Int} (p0 : 0 ≤ x0 ∧ x0 ≤ 6) (k0 : Z 3 0 = 2) (k1 : (Z 3 3 ≤ Z 3 2 ∧ Z 3 2 ≤ Z 3 1 ∧ (Z 3 4 = 0 ∨ Z 3 4 = 3 ∨ Z 3 3 < Z 3 2) ∧ (Z 3 4 = 3 ∨ Z 3 14 = 0))) (k2 : Z 3 7 ≤ Z 3 3) (hr : RC T N Z sg) {kk : Nat} (IH : RBdh l D b0 ad Hb tau kk x0) (hd : kk ≤ d) (hP : ∀ (Z' : xZ) (h' : mx_H), XH n s S Z' h' → GI n S Z' → fr' [(3, 2), (3, 3), (3, 4), (3, 5), (3, 7), (3, 14), (3, 15), (5, (-1))] Z Z' → RC T N Z' (cpX T N (lvI T N x0) sg) ∧ ((Z' 3 3 ≤ Z' 3 2 ∧ Z' 3 2 ≤ Z 3 1 ∧ (Z' 3 4 = 0 ∨ Z' 3 4 = 3 ∨ Z' 3 3 < Z' 3 2) ∧ (Z' 3 4 = 3 ∨ Z' 3 14 = 0)) ∧ Z 3 3 ≤ Z' 3 3 ∧ Z' 3 7 - Z 3 7 ≤ Z' 3 3 - Z 3 3 ∧ (Z' 3 4 = 3 ∨ Z 3 3 + 1 ≤ Z' 3 3) ∧ (Z 3 4 = 3 → Z' 3 4 = 3)) → Post (none, h')) : mx_J (tB l D b0 ad Hb tau) mt_50 (d + 10) 0 [some (.ref 3), some (xI x0), none] [] h Post := by
    have a3 : 3 < n := lt83 (GI_n hG) rfl
    have s3 : S 3 = .inl (7, [2, 0, 0, 0, 0, 0, 2, 0, 2, 2, 0, 2, 0, 0, 0, 0]) := GI_s hG 3 rfl
    refine mx_J.step (sn_50 0) (fun _ _ => rfl) ?_
    refine mx_J.step (sn_50 1) (fun _ _ => rfl) ?_
    have b2 : 2 ≤ Z 3 0 ∧ Z 3 0 ≤ 4 := hG.pr 3 0
    have b3 : 0 ≤ Z 3 1 ∧ Z 3 1 ≤ 900 := hG.pr 3 1
    have b4 : 0 ≤ Z 3 2 ∧ Z 3 2 ≤ 900 := hG.pr 3 2
    have b5 : 0 ≤ Z 3 3 ∧ Z 3 3 ≤ 900 := hG.pr 3 3
    have b6 : 0 ≤ Z 3 4 ∧ Z 3 4 ≤ 400 := hG.pr 3 4
    have b7 : 0 ≤ Z 3 7 ∧ Z 3 7 ≤ 900 := hG.pr 3 7
    have b8 : 0 ≤ Z 3 14 ∧ Z 3 14 ≤ 4 := hG.pr 3 14
    obtain ⟨Z1, h1, hc1, hx1, hG1, hf1, b1⟩ := ct_42_3_s (T := T) (N := N) (sg := sg) (d := d + 0) (l := l) (D := D) (b0 := b0) (ad := ad) (Hb := Hb) (tau := tau) hx hG (show 0 ≤ x0 ∧ x0 ≤ 6 by omega) (show Z 3 0 = 2 by omega) (show (Z 3 3 ≤ Z 3 2 ∧ Z 3 2 ≤ Z 3 1 ∧ (Z 3 4 = 0 ∨ Z 3 4 = 3 ∨ Z 3 3 < Z 3 2) ∧ (Z 3 4 = 3 ∨ Z 3 14 = 0)) by omega) (show Z 3 7 ≤ Z 3 3 by omega) hr IH (by omega)
    obtain ⟨br1, b1⟩ := b1
    have b9 : 0 ≤ Z1 3 2 ∧ Z1 3 2 ≤ 900 := hG1.pr 3 2
    have b10 : 0 ≤ Z1 3 3 ∧ Z1 3 3 ≤ 900 := hG1.pr 3 3
    have b11 : 0 ≤ Z1 3 4 ∧ Z1 3 4 ≤ 400 := hG1.pr 3 4
    have b12 : 0 ≤ Z1 3 7 ∧ Z1 3 7 ≤ 900 := hG1.pr 3 7
    have b13 : 0 ≤ Z1 3 14 ∧ Z1 3 14 ≤ 4 := hG1.pr 3 14
    refine Jcv0 hx (show mx_Sn _ _ 2 (mx_callv 42 2 7 5) from sn_50 2) a3 s3 hc1 rfl rfl rfl ?_
    refine mx_J.step (sn_50 5) (fun _ _ => rfl) ?_
    refine JgetI (g := 4) (z := Z1 3 4) hx1 (show mx_Sn _ _ 6 (mx_getf 7 4 9) from sn_50 6) a3 s3 rfl rfl rfl ?_
    refine mx_J.step (ls2 := [some (.ref 3), some (xI x0), some (xI (Z1 3 4))]) (sn_50 9) (fun _ _ => rfl) ?_
    have cq := RC_q br1
    refine mx_J.step (sn_50 10) (fun _ _ => rfl) ?_
    refine JcI (z := 61) (show mx_Sn _ _ 11 (mx_const (.int 61) 13) from sn_50 11) rfl ?_
    have c34 : ((Z1 3 4) = 61 ∨ (Z1 3 4) = 60 ∨ (Z1 3 4) = 62) → mx_J (tB l D b0 ad Hb tau) mt_50 (d + 10) 34 [some (.ref 3), some (xI x0), some (xI (Z1 3 4))] [] h1 Post := by
      intro f15_0
      refine mx_J.step (sn_50 34) (fun _ _ => rfl) ?_
      have eq17 : Z1 3 0 = Z 3 0 := (hf1 3 0 rfl)
      have eq18 : Z1 3 1 = Z 3 1 := (hf1 3 1 rfl)
      obtain ⟨Z16, h16, hc16, hx16, hG16, hf16, b16⟩ := ct_56_3r (T := T) (N := N) (sg := smX T N (lvI T N x0) sg) (d := d + 4) (l := l) (D := D) (b0 := b0) (ad := ad) (Hb := Hb) (tau := tau) hx1 hG1  (show Z1 3 0 = 2 by first | omega | (simp only [eq17, eq18]; omega)) (show Z1 3 2 ≤ Z1 3 1 by first | omega | (simp only [eq17, eq18]; omega)) br1
      try rw [eq17] at b16
      try rw [eq18] at b16
      obtain ⟨br16, b16⟩ := b16
      have b19 : 0 ≤ Z16 3 2 ∧ Z16 3 2 ≤ 900 := hG16.pr 3 2
      have b20 : 0 ≤ Z16 3 3 ∧ Z16 3 3 ≤ 900 := hG16.pr 3 3
      have b21 : 0 ≤ Z16 3 4 ∧ Z16 3 4 ≤ 400 := hG16.pr 3 4
      refine Jcv0 hx1 (show mx_Sn _ _ 35 (mx_callv 56 1 7 38) from sn_50 35) a3 s3 hc16 rfl rfl rfl ?_
      refine mx_J.step (sn_50 38) (fun _ _ => rfl) ?_
      refine mx_J.step (sn_50 39) (fun _ _ => rfl) ?_
      have eq23 : Z16 3 0 = Z 3 0 := ((hf16 3 0 rfl).trans (hf1 3 0 rfl))
      have eq24 : Z16 3 1 = Z 3 1 := ((hf16 3 1 rfl).trans (hf1 3 1 rfl))
      have eq25 : Z16 3 7 = Z1 3 7 := (hf16 3 7 rfl)
      have eq26 : Z16 3 14 = Z1 3 14 := (hf16 3 14 rfl)
      obtain ⟨Z22, h22, hc22, hx22, hG22, hf22, b22⟩ := ct_42_3_s (T := T) (N := N) (sg := gAd T N (smX T N (lvI T N x0) sg)) (d := d + 0) (l := l) (D := D) (b0 := b0) (ad := ad) (Hb := Hb) (tau := tau) hx16 hG16 (show 0 ≤ x0 ∧ x0 ≤ 6 by omega) (show Z16 3 0 = 2 by first | omega | (simp only [eq23, eq24, eq25, eq26]; omega)) (show (Z16 3 3 ≤ Z16 3 2 ∧ Z16 3 2 ≤ Z16 3 1 ∧ (Z16 3 4 = 0 ∨ Z16 3 4 = 3 ∨ Z16 3 3 < Z16 3 2) ∧ (Z16 3 4 = 3 ∨ Z16 3 14 = 0)) by first | omega | (simp only [eq23, eq24, eq25, eq26]; omega)) (show Z16 3 7 ≤ Z16 3 3 by first | omega | (simp only [eq23, eq24, eq25, eq26]; omega)) br16 IH (by omega)
      try rw [eq23] at b22
      try rw [eq24] at b22
      try rw [eq25] at b22
      try rw [eq26] at b22
      obtain ⟨br22, b22⟩ := b22
      have b27 : 0 ≤ Z22 3 2 ∧ Z22 3 2 ≤ 900 := hG22.pr 3 2
      have b28 : 0 ≤ Z22 3 3 ∧ Z22 3 3 ≤ 900 := hG22.pr 3 3
      have b29 : 0 ≤ Z22 3 4 ∧ Z22 3 4 ≤ 400 := hG22.pr 3 4
      have b30 : 0 ≤ Z22 3 7 ∧ Z22 3 7 ≤ 900 := hG22.pr 3 7
      have b31 : 0 ≤ Z22 3 14 ∧ Z22 3 14 ≤ 4 := hG22.pr 3 14
      refine Jcv0 hx16 (show mx_Sn _ _ 40 (mx_callv 42 2 7 43) from sn_50 40) a3 s3 hc22 rfl rfl rfl ?_
      refine mx_J.step (sn_50 43) (fun _ _ => rfl) ?_
      refine mx_J.step (sn_50 44) (fun _ _ => rfl) ?_
      refine JcI (z := 61) (show mx_Sn _ _ 45 (mx_const (.int 61) 47) from sn_50 45) rfl ?_
      have c71 : ∀ (k32_1 : Int), 1013 ≤ k32_1 ∧ k32_1 ≤ 1015 → k32_1 = 974 + tKd T N (smX T N (lvI T N x0) sg).1 → mx_J (tB l D b0 ad Hb tau) mt_50 (d + 10) 71 [some (.ref 3), some (xI x0), some (xI (Z1 3 4))] [xI k32_1, .ref 3] h22 Post := by
        intro k32_1 f32_0 f32_1
        have gw : k32_1 = 974 + tKd T N (smX T N (lvI T N x0) sg).1 := (by assumption)
        obtain ⟨Z33, h33, hc33, hx33, hG33, hf33, b33⟩ := ct_52_3_1010 (T := T) (N := N) (sg := smX T N (lvI T N x0) (gAd T N (smX T N (lvI T N x0) sg))) (d := d + 9) (l := l) (D := D) (b0 := b0) (ad := ad) (Hb := Hb) (tau := tau) hx22 hG22 (show 1010 ≤ k32_1 ∧ k32_1 ≤ 1019 by omega) (show (Z22 3 4 = 3 ∨ Z22 3 7 ≤ 899) by omega) br22
        obtain ⟨br33, b33⟩ := b33
        have b34 : 0 ≤ Z33 3 7 ∧ Z33 3 7 ≤ 900 := hG33.pr 3 7
        refine Jcv0 hx22 (show mx_Sn _ _ 71 (mx_callv 52 2 7 74) from sn_50 71) a3 s3 hc33 rfl rfl rfl ?_
        have eq35 : Z33 3 2 = Z22 3 2 := (hf33 3 2 rfl)
        have eq36 : Z33 3 3 = Z22 3 3 := (hf33 3 3 rfl)
        have eq37 : Z33 3 4 = Z22 3 4 := (hf33 3 4 rfl)
        have eq38 : Z33 3 14 = Z22 3 14 := (hf33 3 14 rfl)
        have eq39 : Z33 3 0 = Z 3 0 := ((hf33 3 0 rfl).trans ((hf22 3 0 rfl).trans ((hf16 3 0 rfl).trans (hf1 3 0 rfl))))
        have eq40 : Z33 3 1 = Z 3 1 := ((hf33 3 1 rfl).trans ((hf22 3 1 rfl).trans ((hf16 3 1 rfl).trans (hf1 3 1 rfl))))
        have eq41 : Z33 3 2 = Z22 3 2 := (hf33 3 2 rfl)
        have eq42 : Z33 3 3 = Z22 3 3 := (hf33 3 3 rfl)
        have eq43 : Z33 3 4 = Z22 3 4 := (hf33 3 4 rfl)
        have eq44 : Z33 3 14 = Z22 3 14 := (hf33 3 14 rfl)
        exact mx_J.ret (sn_50 74) (fun _ _ => rfl) (hP Z33 h33 hx33 hG33 (fr_tr (M := [(3, 2), (3, 3), (3, 4), (3, 5), (3, 7), (3, 14), (3, 15), (5, (-1))]) (fr_tr (M := [(3, 2), (3, 3), (3, 4), (3, 5), (3, 7), (3, 14), (3, 15), (5, (-1))]) (fr_tr (M := [(3, 2), (3, 3), (3, 4), (3, 5), (3, 7), (3, 14), (3, 15), (5, (-1))]) (fr_tr (M := [(3, 2), (3, 3), (3, 4), (3, 5), (3, 7), (3, 14), (3, 15), (5, (-1))]) fr_rf (hf1) (M1 := []) rfl rfl) (hf16) rfl rfl) (hf22) rfl rfl) (hf33) rfl rfl) ⟨(RC_e br33 (cq_y (cq.1.mpr (by omega)).1 (cq.1.mpr (by omega)).2 gw)), by omega⟩)
      refine Jicmp_ne (show mx_Sn _ _ 47 (mx_icmp_ne 56 50) from sn_50 47) (by omega) (by omega) (fun q45 => ?_) (fun q45 => ?_)
      · skip
        refine mx_J.step (sn_50 56) (fun _ _ => rfl) ?_
        refine JcI (z := 60) (show mx_Sn _ _ 57 (mx_const (.int 60) 59) from sn_50 57) rfl ?_
        refine Jicmp_ne (show mx_Sn _ _ 59 (mx_icmp_ne 68 62) from sn_50 59) (by omega) (by omega) (fun q46 => ?_) (fun q46 => ?_)
        · skip
          refine JcI (z := 1015) (show mx_Sn _ _ 68 (mx_const (.int 1015) 71) from sn_50 68) rfl ?_
          exact c71 1015 (by omega) (by omega)
        · skip
          refine JcI (z := 1014) (show mx_Sn _ _ 62 (mx_const (.int 1014) 65) from sn_50 62) rfl ?_
          refine mx_J.step (sn_50 65) (fun _ _ => rfl) ?_
          exact c71 1014 (by omega) (by omega)
      · skip
        refine JcI (z := 1013) (show mx_Sn _ _ 50 (mx_const (.int 1013) 53) from sn_50 50) rfl ?_
        refine mx_J.step (sn_50 53) (fun _ _ => rfl) ?_
        exact c71 1013 (by omega) (by omega)
    refine Jicmp_eq (show mx_Sn _ _ 13 (mx_icmp_eq 34 16) from sn_50 13) (by omega) (by omega) (fun q47 => ?_) (fun q47 => ?_)
    · skip
      exact c34 (by omega)
    · skip
      refine mx_J.step (sn_50 16) (fun _ _ => rfl) ?_
      refine JcI (z := 60) (show mx_Sn _ _ 17 (mx_const (.int 60) 19) from sn_50 17) rfl ?_
      refine Jicmp_eq (show mx_Sn _ _ 19 (mx_icmp_eq 34 22) from sn_50 19) (by omega) (by omega) (fun q48 => ?_) (fun q48 => ?_)
      · skip
        exact c34 (by omega)
      · skip
        refine mx_J.step (sn_50 22) (fun _ _ => rfl) ?_
        refine JcI (z := 62) (show mx_Sn _ _ 23 (mx_const (.int 62) 25) from sn_50 23) rfl ?_
        refine Jicmp_eq (show mx_Sn _ _ 25 (mx_icmp_eq 34 28) from sn_50 25) (by omega) (by omega) (fun q49 => ?_) (fun q49 => ?_)
        · skip
          exact c34 (by omega)
        · skip
          refine mx_J.step (sn_50 28) (fun _ _ => rfl) ?_
          refine JcI (z := 2) (show mx_Sn _ _ 29 (mx_const (.int 2) 30) from sn_50 29) rfl ?_
          obtain ⟨Z50, h50, hc50, hx50, hG50, hf50, b50⟩ := ct_55_3 (T := T) (N := N) (sg := smX T N (lvI T N x0) sg) (d := d + 9) (l := l) (D := D) (b0 := b0) (ad := ad) (Hb := Hb) (tau := tau) hx1 hG1 (show 2 ≤ 2 ∧ 2 ≤ 4 by omega) br1
          obtain ⟨br50, b50⟩ := b50
          have b51 : 0 ≤ Z50 3 4 ∧ Z50 3 4 ≤ 400 := hG50.pr 3 4
          refine Jcv0 hx1 (show mx_Sn _ _ 30 (mx_callv 55 2 7 33) from sn_50 30) a3 s3 hc50 rfl rfl rfl ?_
          have eq52 : Z50 3 2 = Z1 3 2 := (hf50 3 2 rfl)
          have eq53 : Z50 3 3 = Z1 3 3 := (hf50 3 3 rfl)
          have eq54 : Z50 3 7 = Z1 3 7 := (hf50 3 7 rfl)
          have b55 : 0 ≤ Z50 3 14 ∧ Z50 3 14 ≤ 4 := hG50.pr 3 14
          have eq56 : Z50 3 0 = Z 3 0 := ((hf50 3 0 rfl).trans (hf1 3 0 rfl))
          have eq57 : Z50 3 1 = Z 3 1 := ((hf50 3 1 rfl).trans (hf1 3 1 rfl))
          have eq58 : Z50 3 2 = Z1 3 2 := (hf50 3 2 rfl)
          have eq59 : Z50 3 3 = Z1 3 3 := (hf50 3 3 rfl)
          have eq60 : Z50 3 7 = Z1 3 7 := (hf50 3 7 rfl)
          exact mx_J.ret (sn_50 33) (fun _ _ => rfl) (hP Z50 h50 hx50 hG50 (fr_tr (M := [(3, 2), (3, 3), (3, 4), (3, 5), (3, 7), (3, 14), (3, 15), (5, (-1))]) (fr_tr (M := [(3, 2), (3, 3), (3, 4), (3, 5), (3, 7), (3, 14), (3, 15), (5, (-1))]) fr_rf (hf1) (M1 := []) rfl rfl) (hf50) rfl rfl) ⟨(RC_e br50 (cq_n (fun q => by have := cq.1.mp q; omega))), by omega⟩)
theorem ct_50_3_s {l : Launch} {D : va_G} {b0 : Nat} {ad : Nat → Nat} {Hb : Heap} {tau : Nat → Int64} {d n s : Nat} {S : Nat → xS} {Z : xZ} {h : mx_H} {T : Int → Int} {N : Int} {sg : SS} (hx : XH n s S Z h) (hG : GI n S Z)  {x0 : Int} (p0 : 0 ≤ x0 ∧ x0 ≤ 6) (k0 : Z 3 0 = 2) (k1 : (Z 3 3 ≤ Z 3 2 ∧ Z 3 2 ≤ Z 3 1 ∧ (Z 3 4 = 0 ∨ Z 3 4 = 3 ∨ Z 3 3 < Z 3 2) ∧ (Z 3 4 = 3 ∨ Z 3 14 = 0))) (k2 : Z 3 7 ≤ Z 3 3) (hr : RC T N Z sg) {kk : Nat} (IH : RBdh l D b0 ad Hb tau kk x0) (hd : kk ≤ d) : ∃ (Z' : xZ) (h' : mx_H), mx_Ca (tB l D b0 ad Hb tau) (d + 11) 50 [.ref 3, xI x0] h (none, h') ∧ XH n s S Z' h' ∧ GI n S Z' ∧ fr' [(3, 2), (3, 3), (3, 4), (3, 5), (3, 7), (3, 14), (3, 15), (5, (-1))] Z Z' ∧ (RC T N Z' (cpX T N (lvI T N x0) sg) ∧ ((Z' 3 3 ≤ Z' 3 2 ∧ Z' 3 2 ≤ Z 3 1 ∧ (Z' 3 4 = 0 ∨ Z' 3 4 = 3 ∨ Z' 3 3 < Z' 3 2) ∧ (Z' 3 4 = 3 ∨ Z' 3 14 = 0)) ∧ Z 3 3 ≤ Z' 3 3 ∧ Z' 3 7 - Z 3 7 ≤ Z' 3 3 - Z 3 3 ∧ (Z' 3 4 = 3 ∨ Z 3 3 + 1 ≤ Z' 3 3) ∧ (Z 3 4 = 3 → Z' 3 4 = 3))) := by
  obtain ⟨r, hca, Z', h', e, q⟩ := Jmt (B := tB l D b0 ad Hb tau) (M := mt_50) (mi := 50) (as := [.ref 3, xI x0]) (d := d + 10) (ls := [some (.ref 3), some (xI x0), none]) rfl rfl rfl rfl rfl rfl (cw_50_3_s (l := l) (D := D) (b0 := b0) (ad := ad) (Hb := Hb) (tau := tau) (d := d) (Post := fun r => ∃ (Z' : xZ) (h' : mx_H), r = (none, h') ∧ XH n s S Z' h' ∧ GI n S Z' ∧ fr' [(3, 2), (3, 3), (3, 4), (3, 5), (3, 7), (3, 14), (3, 15), (5, (-1))] Z Z' ∧ (RC T N Z' (cpX T N (lvI T N x0) sg) ∧ ((Z' 3 3 ≤ Z' 3 2 ∧ Z' 3 2 ≤ Z 3 1 ∧ (Z' 3 4 = 0 ∨ Z' 3 4 = 3 ∨ Z' 3 3 < Z' 3 2) ∧ (Z' 3 4 = 3 ∨ Z' 3 14 = 0)) ∧ Z 3 3 ≤ Z' 3 3 ∧ Z' 3 7 - Z 3 7 ≤ Z' 3 3 - Z 3 3 ∧ (Z' 3 4 = 3 ∨ Z 3 3 + 1 ≤ Z' 3 3) ∧ (Z 3 4 = 3 → Z' 3 4 = 3)))) hx hG p0 k0 k1 k2 hr IH hd (fun Z' h' q1 q2 q3 q4 => ⟨Z', h', rfl, q1, q2, q3, q4⟩))
  subst e; exact ⟨Z', h', hca, q⟩
set_option maxRecDepth 100000 in
theorem cw_49_3_s {l : Launch} {D : va_G} {b0 : Nat} {ad : Nat → Nat} {Hb : Heap} {tau : Nat → Int64} {d n s : Nat} {S : Nat → xS} {Z : xZ} {h : mx_H} {Post : mx_R → Prop} {T : Int → Int} {N : Int} {sg : SS} (hx : XH n s S Z h) (hG : GI n S Z)  {x0 : Int} (p0 : 0 ≤ x0 ∧ x0 ≤ 6) (k0 : Z 3 0 = 2) (k1 : (Z 3 3 ≤ Z 3 2 ∧ Z 3 2 ≤ Z 3 1 ∧ (Z 3 4 = 0 ∨ Z 3 4 = 3 ∨ Z 3 3 < Z 3 2) ∧ (Z 3 4 = 3 ∨ Z 3 14 = 0))) (k2 : Z 3 7 ≤ Z 3 3) (hr : RC T N Z sg) {kk : Nat} (IH : RBdh l D b0 ad Hb tau kk x0) (hd : kk ≤ d) (hP : ∀ (Z' : xZ) (h' : mx_H), XH n s S Z' h' → GI n S Z' → fr' [(3, 2), (3, 3), (3, 4), (3, 5), (3, 7), (3, 14), (3, 15), (5, (-1))] Z Z' → RC T N Z' (unX T N (lvI T N x0) sg) ∧ ((Z' 3 3 ≤ Z' 3 2 ∧ Z' 3 2 ≤ Z 3 1 ∧ (Z' 3 4 = 0 ∨ Z' 3 4 = 3 ∨ Z' 3 3 < Z' 3 2) ∧ (Z' 3 4 = 3 ∨ Z' 3 14 = 0)) ∧ Z 3 3 ≤ Z' 3 3 ∧ Z' 3 7 - Z 3 7 ≤ Z' 3 3 - Z 3 3 ∧ (Z' 3 4 = 3 ∨ Z 3 3 + 1 ≤ Z' 3 3) ∧ (Z 3 4 = 3 → Z' 3 4 = 3)) → Post (none, h')) : mx_J (tB l D b0 ad Hb tau) mt_49 (d + 11) 0 [some (.ref 3), some (xI x0)] [] h Post := by
    have a3 : 3 < n := lt83 (GI_n hG) rfl
    have s3 : S 3 = .inl (7, [2, 0, 0, 0, 0, 0, 2, 0, 2, 2, 0, 2, 0, 0, 0, 0]) := GI_s hG 3 rfl
    refine mx_J.step (sn_49 0) (fun _ _ => rfl) ?_
    have b2 : 0 ≤ Z 3 4 ∧ Z 3 4 ≤ 400 := hG.pr 3 4
    refine JgetI (g := 4) (z := Z 3 4) hx (show mx_Sn _ _ 1 (mx_getf 7 4 4) from sn_49 1) a3 s3 rfl rfl rfl ?_
    refine JcI (z := 315) (show mx_Sn _ _ 4 (mx_const (.int 315) 7) from sn_49 4) rfl ?_
    have c73 : ∀  (Z4 : xZ) (h4 : mx_H), (Z4 3 3 ≤ Z4 3 2 ∧ Z4 3 2 ≤ Z 3 1 ∧ (Z4 3 4 = 0 ∨ Z4 3 4 = 3 ∨ Z4 3 3 < Z4 3 2) ∧ (Z4 3 4 = 3 ∨ Z4 3 14 = 0)) → (Z 3 3 ≤ Z4 3 3 ∧ Z4 3 7 - Z 3 7 ≤ Z4 3 3 - Z 3 3 + 0) → ((Z4 3 4 = 3 ∨ Z 3 3 + 1 ≤ Z4 3 3) ∧ (Z 3 4 = 3 → Z4 3 4 = 3)) → RC T N Z4 (unX T N (lvI T N x0) sg) → XH n s S Z4 h4 → GI n S Z4 → fr' [(3, 2), (3, 3), (3, 4), (3, 5), (3, 7), (3, 14), (3, 15), (5, (-1))] Z Z4 → mx_J (tB l D b0 ad Hb tau) mt_49 (d + 11) 73 [some (.ref 3), some (xI x0)] [] h4 Post := by
      intro Z4 h4 f3_0 f3_1 f3_2 f3_3 hx4 hG4 hf4
      have eq5 : Z4 3 0 = Z 3 0 := (hf4 3 0 rfl)
      have b6 : 2 ≤ Z 3 0 ∧ Z 3 0 ≤ 4 := hG.pr 3 0
      have b7 : 0 ≤ Z4 3 2 ∧ Z4 3 2 ≤ 900 := hG4.pr 3 2
      have b8 : 0 ≤ Z4 3 3 ∧ Z4 3 3 ≤ 900 := hG4.pr 3 3
      have b9 : 0 ≤ Z4 3 4 ∧ Z4 3 4 ≤ 400 := hG4.pr 3 4
      have b10 : 0 ≤ Z4 3 7 ∧ Z4 3 7 ≤ 900 := hG4.pr 3 7
      have b11 : 0 ≤ Z4 3 14 ∧ Z4 3 14 ≤ 4 := hG4.pr 3 14
      have eq12 : Z4 3 0 = Z 3 0 := (hf4 3 0 rfl)
      have eq13 : Z4 3 1 = Z 3 1 := (hf4 3 1 rfl)
      have b14 : 0 ≤ Z 3 1 ∧ Z 3 1 ≤ 900 := hG.pr 3 1
      exact mx_J.ret (sn_49 73) (fun _ _ => rfl) (hP Z4 h4 hx4 hG4 (fr_tr (M := [(3, 2), (3, 3), (3, 4), (3, 5), (3, 7), (3, 14), (3, 15), (5, (-1))]) fr_rf (hf4) (M1 := []) rfl rfl) ⟨f3_3, by omega⟩)
    refine Jicmp_ne (show mx_Sn _ _ 7 (mx_icmp_ne 35 10) from sn_49 7) (by omega) (by omega) (fun q15 => ?_) (fun q15 => ?_)
    · skip
      refine mx_J.step (sn_49 35) (fun _ _ => rfl) ?_
      refine JgetI (g := 4) (z := Z 3 4) hx (show mx_Sn _ _ 36 (mx_getf 7 4 39) from sn_49 36) a3 s3 rfl rfl rfl ?_
      refine JcI (z := 91) (show mx_Sn _ _ 39 (mx_const (.int 91) 41) from sn_49 39) rfl ?_
      refine Jicmp_ne (show mx_Sn _ _ 41 (mx_icmp_ne 68 44) from sn_49 41) (by omega) (by omega) (fun q17 => ?_) (fun q17 => ?_)
      · skip
        refine mx_J.step (sn_49 68) (fun _ _ => rfl) ?_
        refine mx_J.step (sn_49 69) (fun _ _ => rfl) ?_
        have b19 : 2 ≤ Z 3 0 ∧ Z 3 0 ≤ 4 := hG.pr 3 0
        have b20 : 0 ≤ Z 3 1 ∧ Z 3 1 ≤ 900 := hG.pr 3 1
        have b21 : 0 ≤ Z 3 2 ∧ Z 3 2 ≤ 900 := hG.pr 3 2
        have b22 : 0 ≤ Z 3 3 ∧ Z 3 3 ≤ 900 := hG.pr 3 3
        have b23 : 0 ≤ Z 3 7 ∧ Z 3 7 ≤ 900 := hG.pr 3 7
        have b24 : 0 ≤ Z 3 14 ∧ Z 3 14 ≤ 4 := hG.pr 3 14
        obtain ⟨Z18, h18, hc18, hx18, hG18, hf18, b18⟩ := ct_50_3_s (T := T) (N := N) (sg := sg) (d := d + 0) (l := l) (D := D) (b0 := b0) (ad := ad) (Hb := Hb) (tau := tau) hx hG (show 0 ≤ x0 ∧ x0 ≤ 6 by omega) (show Z 3 0 = 2 by omega) (show (Z 3 3 ≤ Z 3 2 ∧ Z 3 2 ≤ Z 3 1 ∧ (Z 3 4 = 0 ∨ Z 3 4 = 3 ∨ Z 3 3 < Z 3 2) ∧ (Z 3 4 = 3 ∨ Z 3 14 = 0)) by omega) (show Z 3 7 ≤ Z 3 3 by omega) hr IH (by omega)
        obtain ⟨br18, b18⟩ := b18
        have b25 : 0 ≤ Z18 3 2 ∧ Z18 3 2 ≤ 900 := hG18.pr 3 2
        have b26 : 0 ≤ Z18 3 3 ∧ Z18 3 3 ≤ 900 := hG18.pr 3 3
        have b27 : 0 ≤ Z18 3 4 ∧ Z18 3 4 ≤ 400 := hG18.pr 3 4
        have b28 : 0 ≤ Z18 3 7 ∧ Z18 3 7 ≤ 900 := hG18.pr 3 7
        have b29 : 0 ≤ Z18 3 14 ∧ Z18 3 14 ≤ 4 := hG18.pr 3 14
        refine Jcv0 hx (show mx_Sn _ _ 70 (mx_callv 50 2 7 73) from sn_49 70) a3 s3 hc18 rfl rfl rfl ?_
        have eq30 : Z18 3 0 = Z 3 0 := (hf18 3 0 rfl)
        exact c73 Z18 h18 (by omega) (by omega) (by omega) (RC_e br18 (un_c (RC_n (k := 15) (v := 315) hr (by unfold tKk; omega) rfl (by omega)) (RC_n (k := 37) (v := 91) hr (by unfold tKk; omega) rfl (by omega)))) hx18 hG18 (fr_tr (M := [(3, 2), (3, 3), (3, 4), (3, 5), (3, 7), (3, 14), (3, 15), (5, (-1))]) fr_rf (hf18) (M1 := []) rfl rfl)
      · skip
        refine mx_J.step (sn_49 44) (fun _ _ => rfl) ?_
        refine mx_J.step (sn_49 45) (fun _ _ => rfl) ?_
        have b32 : 2 ≤ Z 3 0 ∧ Z 3 0 ≤ 4 := hG.pr 3 0
        have b33 : 0 ≤ Z 3 1 ∧ Z 3 1 ≤ 900 := hG.pr 3 1
        have b34 : 0 ≤ Z 3 2 ∧ Z 3 2 ≤ 900 := hG.pr 3 2
        have b35 : 0 ≤ Z 3 3 ∧ Z 3 3 ≤ 900 := hG.pr 3 3
        have b36 : 0 ≤ Z 3 7 ∧ Z 3 7 ≤ 900 := hG.pr 3 7
        have b37 : 0 ≤ Z 3 14 ∧ Z 3 14 ≤ 4 := hG.pr 3 14
        obtain ⟨z31, Z31, h31, hc31, hx31, hG31, hf31, b31⟩ := ct_51_3 (T := T) (N := N) (sg := sg) (d := d + 4) (l := l) (D := D) (b0 := b0) (ad := ad) (Hb := Hb) (tau := tau) hx hG (show 0 ≤ x0 ∧ x0 ≤ 6 by omega) (show Z 3 0 = 2 by omega) (show (Z 3 3 ≤ Z 3 2 ∧ Z 3 2 ≤ Z 3 1 ∧ (Z 3 4 = 0 ∨ Z 3 4 = 3 ∨ Z 3 3 < Z 3 2) ∧ (Z 3 4 = 3 ∨ Z 3 14 = 0)) by omega) (show ¬ Z 3 4 = 0 by omega) (show ¬ Z 3 4 = 3 by omega) hr
        obtain ⟨br31, b31⟩ := b31
        have b38 : 0 ≤ Z31 3 2 ∧ Z31 3 2 ≤ 900 := hG31.pr 3 2
        have b39 : 0 ≤ Z31 3 3 ∧ Z31 3 3 ≤ 900 := hG31.pr 3 3
        have b40 : 0 ≤ Z31 3 4 ∧ Z31 3 4 ≤ 400 := hG31.pr 3 4
        have eq41 : Z31 3 7 = Z 3 7 := (hf31 3 7 rfl)
        have b42 : 0 ≤ Z31 3 14 ∧ Z31 3 14 ≤ 4 := hG31.pr 3 14
        refine Jcv hx (show mx_Sn _ _ 46 (mx_callv 51 2 7 49) from sn_49 46) a3 s3 hc31 rfl rfl rfl ?_
        refine Jif_eq (show mx_Sn _ _ 49 (mx_if_eq 73 52) from sn_49 49) (by omega) (fun q43 => ?_) (fun q43 => ?_)
        · skip
          have eq44 : Z31 3 0 = Z 3 0 := (hf31 3 0 rfl)
          have eq45 : Z31 3 7 = Z 3 7 := (hf31 3 7 rfl)
          have eq46 : Z31 3 7 = Z 3 7 := (hf31 3 7 rfl)
          exact c73 Z31 h31 (by omega) (by omega) (by omega) (RC_e br31 (((un_b (RC_y (k := 37) (v := 91) hr (by unfold tKk; omega) rfl (by omega))).trans (in_n (by omega))).trans (gEn_n (by omega)).symm)) hx31 hG31 (fr_tr (M := [(3, 2), (3, 3), (3, 4), (3, 5), (3, 7), (3, 14), (3, 15), (5, (-1))]) fr_rf (hf31) (M1 := []) rfl rfl)
        · skip
          have rc47 : RC T N Z31 (gAd T N sg) := RC_e br31 ((gEn_y (by omega)).symm)
          refine mx_J.step (sn_49 52) (fun _ _ => rfl) ?_
          refine mx_J.step (sn_49 53) (fun _ _ => rfl) ?_
          refine JcI (z := 1) (show mx_Sn _ _ 54 (mx_const (.int 1) 55) from sn_49 54) rfl ?_
          refine Jiadd (show mx_Sn _ _ 55 (mx_iadd 56) from sn_49 55) ?_
          have eq49 : Z31 3 0 = Z 3 0 := (hf31 3 0 rfl)
          have eq50 : Z31 3 1 = Z 3 1 := (hf31 3 1 rfl)
          have eq51 : Z31 3 7 = Z 3 7 := (hf31 3 7 rfl)
          obtain ⟨Z48, h48, hc48, hx48, hG48, hf48, b48⟩ := riR_47 IH (by omega) (hd := by omega) (T := T) (N := N) (sg := gAd T N sg) (d := d + 11) (l := l) (D := D) (b0 := b0) (ad := ad) (Hb := Hb) (tau := tau) hx31 hG31 (show 1 ≤ x0 + 1 ∧ x0 + 1 ≤ 6 by omega) (show Z31 3 0 = 2 by first | omega | (simp only [eq49, eq50, eq51]; omega)) (show (Z31 3 3 ≤ Z31 3 2 ∧ Z31 3 2 ≤ Z31 3 1 ∧ (Z31 3 4 = 0 ∨ Z31 3 4 = 3 ∨ Z31 3 3 < Z31 3 2) ∧ (Z31 3 4 = 3 ∨ Z31 3 14 = 0)) by first | omega | (simp only [eq49, eq50, eq51]; omega)) (show Z31 3 7 ≤ Z31 3 3 by first | omega | (simp only [eq49, eq50, eq51]; omega)) rc47
          try rw [eq49] at b48
          try rw [eq50] at b48
          try rw [eq51] at b48
          obtain ⟨br48, b48⟩ := b48
          have b52 : 0 ≤ Z48 3 2 ∧ Z48 3 2 ≤ 900 := hG48.pr 3 2
          have b53 : 0 ≤ Z48 3 3 ∧ Z48 3 3 ≤ 900 := hG48.pr 3 3
          have b54 : 0 ≤ Z48 3 4 ∧ Z48 3 4 ≤ 400 := hG48.pr 3 4
          have b55 : 0 ≤ Z48 3 7 ∧ Z48 3 7 ≤ 900 := hG48.pr 3 7
          have b56 : 0 ≤ Z48 3 14 ∧ Z48 3 14 ≤ 4 := hG48.pr 3 14
          refine Jcv0 hx31 (show mx_Sn _ _ 56 (mx_callv 47 2 7 59) from sn_49 56) a3 s3 hc48 rfl rfl rfl ?_
          refine mx_J.step (sn_49 59) (fun _ _ => rfl) ?_
          refine JcI (z := 93) (show mx_Sn _ _ 60 (mx_const (.int 93) 62) from sn_49 60) rfl ?_
          have eq58 : Z48 3 0 = Z 3 0 := ((hf48 3 0 rfl).trans (hf31 3 0 rfl))
          have eq59 : Z48 3 1 = Z 3 1 := ((hf48 3 1 rfl).trans (hf31 3 1 rfl))
          obtain ⟨Z57, h57, hc57, hx57, hG57, hf57, b57⟩ := ct_53_3_i93 (T := T) (N := N) (sg := trX T N (lvI T N (x0 + 1)) (gAd T N sg)) (d := d + 4) (l := l) (D := D) (b0 := b0) (ad := ad) (Hb := Hb) (tau := tau) hx48 hG48  (show Z48 3 0 = 2 by first | omega | (simp only [eq58, eq59]; omega)) (show (Z48 3 3 ≤ Z48 3 2 ∧ Z48 3 2 ≤ Z48 3 1 ∧ (Z48 3 4 = 0 ∨ Z48 3 4 = 3 ∨ Z48 3 3 < Z48 3 2) ∧ (Z48 3 4 = 3 ∨ Z48 3 14 = 0)) by first | omega | (simp only [eq58, eq59]; omega)) br48
          try rw [eq58] at b57
          try rw [eq59] at b57
          obtain ⟨br57, b57⟩ := b57
          have b60 : 0 ≤ Z57 3 2 ∧ Z57 3 2 ≤ 900 := hG57.pr 3 2
          have b61 : 0 ≤ Z57 3 3 ∧ Z57 3 3 ≤ 900 := hG57.pr 3 3
          have b62 : 0 ≤ Z57 3 4 ∧ Z57 3 4 ≤ 400 := hG57.pr 3 4
          have eq63 : Z57 3 7 = Z48 3 7 := (hf57 3 7 rfl)
          have b64 : 0 ≤ Z57 3 14 ∧ Z57 3 14 ≤ 4 := hG57.pr 3 14
          refine Jcv0 hx48 (show mx_Sn _ _ 62 (mx_callv 53 2 7 65) from sn_49 62) a3 s3 hc57 rfl rfl rfl ?_
          refine mx_J.step (sn_49 65) (fun _ _ => rfl) ?_
          have eq65 : Z57 3 0 = Z 3 0 := ((hf57 3 0 rfl).trans ((hf48 3 0 rfl).trans (hf31 3 0 rfl)))
          have eq66 : Z57 3 7 = Z48 3 7 := (hf57 3 7 rfl)
          have eq67 : Z57 3 7 = Z48 3 7 := (hf57 3 7 rfl)
          exact c73 Z57 h57 (by omega) (by omega) (by omega) (RC_e br57 ((un_b (RC_y (k := 37) (v := 91) hr (by unfold tKk; omega) rfl (by omega))).trans (in_y (by omega)))) hx57 hG57 (fr_tr (M := [(3, 2), (3, 3), (3, 4), (3, 5), (3, 7), (3, 14), (3, 15), (5, (-1))]) (fr_tr (M := [(3, 2), (3, 3), (3, 4), (3, 5), (3, 7), (3, 14), (3, 15), (5, (-1))]) (fr_tr (M := [(3, 2), (3, 3), (3, 4), (3, 5), (3, 7), (3, 14), (3, 15), (5, (-1))]) fr_rf (hf31) (M1 := []) rfl rfl) (hf48) rfl rfl) (hf57) rfl rfl)
    · skip
      refine mx_J.step (sn_49 10) (fun _ _ => rfl) ?_
      refine mx_J.step (sn_49 11) (fun _ _ => rfl) ?_
      have b69 : 2 ≤ Z 3 0 ∧ Z 3 0 ≤ 4 := hG.pr 3 0
      have b70 : 0 ≤ Z 3 1 ∧ Z 3 1 ≤ 900 := hG.pr 3 1
      have b71 : 0 ≤ Z 3 2 ∧ Z 3 2 ≤ 900 := hG.pr 3 2
      have b72 : 0 ≤ Z 3 3 ∧ Z 3 3 ≤ 900 := hG.pr 3 3
      have b73 : 0 ≤ Z 3 7 ∧ Z 3 7 ≤ 900 := hG.pr 3 7
      have b74 : 0 ≤ Z 3 14 ∧ Z 3 14 ≤ 4 := hG.pr 3 14
      obtain ⟨z68, Z68, h68, hc68, hx68, hG68, hf68, b68⟩ := ct_51_3 (T := T) (N := N) (sg := sg) (d := d + 4) (l := l) (D := D) (b0 := b0) (ad := ad) (Hb := Hb) (tau := tau) hx hG (show 0 ≤ x0 ∧ x0 ≤ 6 by omega) (show Z 3 0 = 2 by omega) (show (Z 3 3 ≤ Z 3 2 ∧ Z 3 2 ≤ Z 3 1 ∧ (Z 3 4 = 0 ∨ Z 3 4 = 3 ∨ Z 3 3 < Z 3 2) ∧ (Z 3 4 = 3 ∨ Z 3 14 = 0)) by omega) (show ¬ Z 3 4 = 0 by omega) (show ¬ Z 3 4 = 3 by omega) hr
      obtain ⟨br68, b68⟩ := b68
      have b75 : 0 ≤ Z68 3 2 ∧ Z68 3 2 ≤ 900 := hG68.pr 3 2
      have b76 : 0 ≤ Z68 3 3 ∧ Z68 3 3 ≤ 900 := hG68.pr 3 3
      have b77 : 0 ≤ Z68 3 4 ∧ Z68 3 4 ≤ 400 := hG68.pr 3 4
      have eq78 : Z68 3 7 = Z 3 7 := (hf68 3 7 rfl)
      have b79 : 0 ≤ Z68 3 14 ∧ Z68 3 14 ≤ 4 := hG68.pr 3 14
      refine Jcv hx (show mx_Sn _ _ 12 (mx_callv 51 2 7 15) from sn_49 12) a3 s3 hc68 rfl rfl rfl ?_
      refine Jif_eq (show mx_Sn _ _ 15 (mx_if_eq 73 18) from sn_49 15) (by omega) (fun q80 => ?_) (fun q80 => ?_)
      · skip
        have eq81 : Z68 3 0 = Z 3 0 := (hf68 3 0 rfl)
        have eq82 : Z68 3 7 = Z 3 7 := (hf68 3 7 rfl)
        have eq83 : Z68 3 7 = Z 3 7 := (hf68 3 7 rfl)
        exact c73 Z68 h68 (by omega) (by omega) (by omega) (RC_e br68 (((un_t (RC_y (k := 15) (v := 315) hr (by unfold tKk; omega) rfl (by omega))).trans (in_n (by omega))).trans (gEn_n (by omega)).symm)) hx68 hG68 (fr_tr (M := [(3, 2), (3, 3), (3, 4), (3, 5), (3, 7), (3, 14), (3, 15), (5, (-1))]) fr_rf (hf68) (M1 := []) rfl rfl)
      · skip
        have rc84 : RC T N Z68 (gAd T N sg) := RC_e br68 ((gEn_y (by omega)).symm)
        refine mx_J.step (sn_49 18) (fun _ _ => rfl) ?_
        refine mx_J.step (sn_49 19) (fun _ _ => rfl) ?_
        refine JcI (z := 1) (show mx_Sn _ _ 20 (mx_const (.int 1) 21) from sn_49 20) rfl ?_
        refine Jiadd (show mx_Sn _ _ 21 (mx_iadd 22) from sn_49 21) ?_
        have eq86 : Z68 3 0 = Z 3 0 := (hf68 3 0 rfl)
        have eq87 : Z68 3 1 = Z 3 1 := (hf68 3 1 rfl)
        have eq88 : Z68 3 7 = Z 3 7 := (hf68 3 7 rfl)
        obtain ⟨Z85, h85, hc85, hx85, hG85, hf85, b85⟩ := riR_49 IH (by omega) (hd := by omega) (T := T) (N := N) (sg := gAd T N sg) (d := d + 11) (l := l) (D := D) (b0 := b0) (ad := ad) (Hb := Hb) (tau := tau) hx68 hG68 (show 1 ≤ x0 + 1 ∧ x0 + 1 ≤ 6 by omega) (show Z68 3 0 = 2 by first | omega | (simp only [eq86, eq87, eq88]; omega)) (show (Z68 3 3 ≤ Z68 3 2 ∧ Z68 3 2 ≤ Z68 3 1 ∧ (Z68 3 4 = 0 ∨ Z68 3 4 = 3 ∨ Z68 3 3 < Z68 3 2) ∧ (Z68 3 4 = 3 ∨ Z68 3 14 = 0)) by first | omega | (simp only [eq86, eq87, eq88]; omega)) (show Z68 3 7 ≤ Z68 3 3 by first | omega | (simp only [eq86, eq87, eq88]; omega)) rc84
        try rw [eq86] at b85
        try rw [eq87] at b85
        try rw [eq88] at b85
        obtain ⟨br85, b85⟩ := b85
        have b89 : 0 ≤ Z85 3 2 ∧ Z85 3 2 ≤ 900 := hG85.pr 3 2
        have b90 : 0 ≤ Z85 3 3 ∧ Z85 3 3 ≤ 900 := hG85.pr 3 3
        have b91 : 0 ≤ Z85 3 4 ∧ Z85 3 4 ≤ 400 := hG85.pr 3 4
        have b92 : 0 ≤ Z85 3 7 ∧ Z85 3 7 ≤ 900 := hG85.pr 3 7
        have b93 : 0 ≤ Z85 3 14 ∧ Z85 3 14 ≤ 4 := hG85.pr 3 14
        refine Jcv0 hx68 (show mx_Sn _ _ 22 (mx_callv 49 2 7 25) from sn_49 22) a3 s3 hc85 rfl rfl rfl ?_
        refine mx_J.step (sn_49 25) (fun _ _ => rfl) ?_
        refine JcI (z := 1018) (show mx_Sn _ _ 26 (mx_const (.int 1018) 29) from sn_49 26) rfl ?_
        obtain ⟨Z94, h94, hc94, hx94, hG94, hf94, b94⟩ := ct_52_3_1010 (T := T) (N := N) (sg := unX T N (lvI T N (x0 + 1)) (gAd T N sg)) (d := d + 10) (l := l) (D := D) (b0 := b0) (ad := ad) (Hb := Hb) (tau := tau) hx85 hG85 (show 1010 ≤ 1018 ∧ 1018 ≤ 1019 by omega) (show (Z85 3 4 = 3 ∨ Z85 3 7 ≤ 899) by omega) br85
        obtain ⟨br94, b94⟩ := b94
        have b95 : 0 ≤ Z94 3 7 ∧ Z94 3 7 ≤ 900 := hG94.pr 3 7
        refine Jcv0 hx85 (show mx_Sn _ _ 29 (mx_callv 52 2 7 32) from sn_49 29) a3 s3 hc94 rfl rfl rfl ?_
        refine mx_J.step (sn_49 32) (fun _ _ => rfl) ?_
        have eq96 : Z94 3 0 = Z 3 0 := ((hf94 3 0 rfl).trans ((hf85 3 0 rfl).trans (hf68 3 0 rfl)))
        have eq97 : Z94 3 2 = Z85 3 2 := (hf94 3 2 rfl)
        have eq98 : Z94 3 3 = Z85 3 3 := (hf94 3 3 rfl)
        have eq99 : Z94 3 4 = Z85 3 4 := (hf94 3 4 rfl)
        have eq100 : Z94 3 14 = Z85 3 14 := (hf94 3 14 rfl)
        have eq101 : Z94 3 3 = Z85 3 3 := (hf94 3 3 rfl)
        have eq102 : Z94 3 3 = Z85 3 3 := (hf94 3 3 rfl)
        have eq103 : Z94 3 4 = Z85 3 4 := (hf94 3 4 rfl)
        exact c73 Z94 h94 (by omega) (by omega) (by omega) (RC_e br94 ((un_t (RC_y (k := 15) (v := 315) hr (by unfold tKk; omega) rfl (by omega))).trans (in_y (by omega)))) hx94 hG94 (fr_tr (M := [(3, 2), (3, 3), (3, 4), (3, 5), (3, 7), (3, 14), (3, 15), (5, (-1))]) (fr_tr (M := [(3, 2), (3, 3), (3, 4), (3, 5), (3, 7), (3, 14), (3, 15), (5, (-1))]) (fr_tr (M := [(3, 2), (3, 3), (3, 4), (3, 5), (3, 7), (3, 14), (3, 15), (5, (-1))]) fr_rf (hf68) (M1 := []) rfl rfl) (hf85) rfl rfl) (hf94) rfl rfl)
theorem ct_49_3_s {l : Launch} {D : va_G} {b0 : Nat} {ad : Nat → Nat} {Hb : Heap} {tau : Nat → Int64} {d n s : Nat} {S : Nat → xS} {Z : xZ} {h : mx_H} {T : Int → Int} {N : Int} {sg : SS} (hx : XH n s S Z h) (hG : GI n S Z)  {x0 : Int} (p0 : 0 ≤ x0 ∧ x0 ≤ 6) (k0 : Z 3 0 = 2) (k1 : (Z 3 3 ≤ Z 3 2 ∧ Z 3 2 ≤ Z 3 1 ∧ (Z 3 4 = 0 ∨ Z 3 4 = 3 ∨ Z 3 3 < Z 3 2) ∧ (Z 3 4 = 3 ∨ Z 3 14 = 0))) (k2 : Z 3 7 ≤ Z 3 3) (hr : RC T N Z sg) {kk : Nat} (IH : RBdh l D b0 ad Hb tau kk x0) (hd : kk ≤ d) : ∃ (Z' : xZ) (h' : mx_H), mx_Ca (tB l D b0 ad Hb tau) (d + 12) 49 [.ref 3, xI x0] h (none, h') ∧ XH n s S Z' h' ∧ GI n S Z' ∧ fr' [(3, 2), (3, 3), (3, 4), (3, 5), (3, 7), (3, 14), (3, 15), (5, (-1))] Z Z' ∧ (RC T N Z' (unX T N (lvI T N x0) sg) ∧ ((Z' 3 3 ≤ Z' 3 2 ∧ Z' 3 2 ≤ Z 3 1 ∧ (Z' 3 4 = 0 ∨ Z' 3 4 = 3 ∨ Z' 3 3 < Z' 3 2) ∧ (Z' 3 4 = 3 ∨ Z' 3 14 = 0)) ∧ Z 3 3 ≤ Z' 3 3 ∧ Z' 3 7 - Z 3 7 ≤ Z' 3 3 - Z 3 3 ∧ (Z' 3 4 = 3 ∨ Z 3 3 + 1 ≤ Z' 3 3) ∧ (Z 3 4 = 3 → Z' 3 4 = 3))) := by
  obtain ⟨r, hca, Z', h', e, q⟩ := Jmt (B := tB l D b0 ad Hb tau) (M := mt_49) (mi := 49) (as := [.ref 3, xI x0]) (d := d + 11) (ls := [some (.ref 3), some (xI x0)]) rfl rfl rfl rfl rfl rfl (cw_49_3_s (l := l) (D := D) (b0 := b0) (ad := ad) (Hb := Hb) (tau := tau) (d := d) (Post := fun r => ∃ (Z' : xZ) (h' : mx_H), r = (none, h') ∧ XH n s S Z' h' ∧ GI n S Z' ∧ fr' [(3, 2), (3, 3), (3, 4), (3, 5), (3, 7), (3, 14), (3, 15), (5, (-1))] Z Z' ∧ (RC T N Z' (unX T N (lvI T N x0) sg) ∧ ((Z' 3 3 ≤ Z' 3 2 ∧ Z' 3 2 ≤ Z 3 1 ∧ (Z' 3 4 = 0 ∨ Z' 3 4 = 3 ∨ Z' 3 3 < Z' 3 2) ∧ (Z' 3 4 = 3 ∨ Z' 3 14 = 0)) ∧ Z 3 3 ≤ Z' 3 3 ∧ Z' 3 7 - Z 3 7 ≤ Z' 3 3 - Z 3 3 ∧ (Z' 3 4 = 3 ∨ Z 3 3 + 1 ≤ Z' 3 3) ∧ (Z 3 4 = 3 → Z' 3 4 = 3)))) hx hG p0 k0 k1 k2 hr IH hd (fun Z' h' q1 q2 q3 q4 => ⟨Z', h', rfl, q1, q2, q3, q4⟩))
  subst e; exact ⟨Z', h', hca, q⟩
set_option maxRecDepth 100000 in
theorem cw_48_3_s {l : Launch} {D : va_G} {b0 : Nat} {ad : Nat → Nat} {Hb : Heap} {tau : Nat → Int64} {d n s : Nat} {S : Nat → xS} {Z : xZ} {h : mx_H} {Post : mx_R → Prop} {T : Int → Int} {N : Int} {sg : SS} (hx : XH n s S Z h) (hG : GI n S Z)  {x0 : Int} (p0 : 0 ≤ x0 ∧ x0 ≤ 6) (k0 : Z 3 0 = 2) (k1 : (Z 3 3 ≤ Z 3 2 ∧ Z 3 2 ≤ Z 3 1 ∧ (Z 3 4 = 0 ∨ Z 3 4 = 3 ∨ Z 3 3 < Z 3 2) ∧ (Z 3 4 = 3 ∨ Z 3 14 = 0))) (k2 : Z 3 7 ≤ Z 3 3) (hr : RC T N Z sg) {kk : Nat} (IH : RBdh l D b0 ad Hb tau kk x0) (hd : kk ≤ d) (hP : ∀ (Z' : xZ) (h' : mx_H), XH n s S Z' h' → GI n S Z' → fr' [(3, 2), (3, 3), (3, 4), (3, 5), (3, 7), (3, 14), (3, 15), (5, (-1))] Z Z' → RC T N Z' (boX T N (lvI T N x0) sg) ∧ ((Z' 3 3 ≤ Z' 3 2 ∧ Z' 3 2 ≤ Z 3 1 ∧ (Z' 3 4 = 0 ∨ Z' 3 4 = 3 ∨ Z' 3 3 < Z' 3 2) ∧ (Z' 3 4 = 3 ∨ Z' 3 14 = 0)) ∧ Z 3 3 ≤ Z' 3 3 ∧ Z' 3 7 - Z 3 7 ≤ Z' 3 3 - Z 3 3 ∧ (Z' 3 4 = 3 ∨ Z 3 3 + 1 ≤ Z' 3 3) ∧ (Z 3 4 = 3 → Z' 3 4 = 3)) → Post (none, h')) : mx_J (tB l D b0 ad Hb tau) mt_48 (d + 12) 0 [some (.ref 3), some (xI x0), none] [] h Post := by
    have a3 : 3 < n := lt83 (GI_n hG) rfl
    have s3 : S 3 = .inl (7, [2, 0, 0, 0, 0, 0, 2, 0, 2, 2, 0, 2, 0, 0, 0, 0]) := GI_s hG 3 rfl
    have hN := (RC_p hr).2.2.2
    refine mx_J.step (sn_48 0) (fun _ _ => rfl) ?_
    refine mx_J.step (sn_48 1) (fun _ _ => rfl) ?_
    have b2 : 2 ≤ Z 3 0 ∧ Z 3 0 ≤ 4 := hG.pr 3 0
    have b3 : 0 ≤ Z 3 1 ∧ Z 3 1 ≤ 900 := hG.pr 3 1
    have b4 : 0 ≤ Z 3 2 ∧ Z 3 2 ≤ 900 := hG.pr 3 2
    have b5 : 0 ≤ Z 3 3 ∧ Z 3 3 ≤ 900 := hG.pr 3 3
    have b6 : 0 ≤ Z 3 4 ∧ Z 3 4 ≤ 400 := hG.pr 3 4
    have b7 : 0 ≤ Z 3 7 ∧ Z 3 7 ≤ 900 := hG.pr 3 7
    have b8 : 0 ≤ Z 3 14 ∧ Z 3 14 ≤ 4 := hG.pr 3 14
    obtain ⟨Z1, h1, hc1, hx1, hG1, hf1, b1⟩ := ct_49_3_s (T := T) (N := N) (sg := sg) (d := d + 0) (l := l) (D := D) (b0 := b0) (ad := ad) (Hb := Hb) (tau := tau) hx hG (show 0 ≤ x0 ∧ x0 ≤ 6 by omega) (show Z 3 0 = 2 by omega) (show (Z 3 3 ≤ Z 3 2 ∧ Z 3 2 ≤ Z 3 1 ∧ (Z 3 4 = 0 ∨ Z 3 4 = 3 ∨ Z 3 3 < Z 3 2) ∧ (Z 3 4 = 3 ∨ Z 3 14 = 0)) by omega) (show Z 3 7 ≤ Z 3 3 by omega) hr IH (by omega)
    obtain ⟨br1, b1⟩ := b1
    have b9 : 0 ≤ Z1 3 2 ∧ Z1 3 2 ≤ 900 := hG1.pr 3 2
    have b10 : 0 ≤ Z1 3 3 ∧ Z1 3 3 ≤ 900 := hG1.pr 3 3
    have b11 : 0 ≤ Z1 3 4 ∧ Z1 3 4 ≤ 400 := hG1.pr 3 4
    have b12 : 0 ≤ Z1 3 7 ∧ Z1 3 7 ≤ 900 := hG1.pr 3 7
    have b13 : 0 ≤ Z1 3 14 ∧ Z1 3 14 ≤ 4 := hG1.pr 3 14
    refine Jcv0 hx (show mx_Sn _ _ 2 (mx_callv 49 2 7 5) from sn_48 2) a3 s3 hc1 rfl rfl rfl ?_
    refine JcI (z := 0) (show mx_Sn _ _ 5 (mx_const (.int 0) 6) from sn_48 5) rfl ?_
    refine mx_J.step (ls2 := [some (.ref 3), some (xI x0), some (xI 0)]) (sn_48 6) (fun _ _ => rfl) ?_
    have c7 : ∀ (m14 : Nat) (w14_2 : Int) (sg14 : SS) (Z15 : xZ) (h15 : mx_H), 900 - w14_2 < (m14 : Int) → 0 ≤ w14_2 ∧ w14_2 ≤ 900 → RC T N Z15 sg14 → (Z15 3 3 ≤ Z15 3 2 ∧ Z15 3 2 ≤ Z 3 1 ∧ (Z15 3 4 = 0 ∨ Z15 3 4 = 3 ∨ Z15 3 3 < Z15 3 2) ∧ (Z15 3 4 = 3 ∨ Z15 3 14 = 0)) → (Z 3 3 ≤ Z15 3 3 ∧ Z15 3 7 - Z 3 7 ≤ Z15 3 3 - Z 3 3 + 0) → ((Z15 3 4 = 3 ∨ Z 3 3 + 1 ≤ Z15 3 3) ∧ (Z 3 4 = 3 → Z15 3 4 = 3)) → (Z15 3 4 = 3 ∨ w14_2 ≤ Z15 3 3 - Z 3 3) → boL T N (lvI T N x0) sg14 = boX T N (lvI T N x0) sg → XH n s S Z15 h15 → GI n S Z15 → fr' [(3, 2), (3, 3), (3, 4), (3, 5), (3, 7), (3, 14), (3, 15), (5, (-1))] Z1 Z15 → mx_J (tB l D b0 ad Hb tau) mt_48 (d + 12) 7 [some (.ref 3), some (xI x0), some (xI w14_2)] [] h15 Post := by
      intro m14
      induction m14 with
      | zero => intro w14_2 sg14 Z15 h15 q14 f14_0 f14_1 f14_2 f14_3 f14_4 f14_5 f14_6 hx15 hG15 hf15; exact absurd q14 (by omega)
      | succ m14 ih14 =>
        intro w14_2 sg14 Z15 h15 q14 f14_0 f14_1 f14_2 f14_3 f14_4 f14_5 f14_6 hx15 hG15 hf15
        have eq16 : Z15 3 0 = Z 3 0 := ((hf15 3 0 rfl).trans (hf1 3 0 rfl))
        have b17 : 0 ≤ Z15 3 2 ∧ Z15 3 2 ≤ 900 := hG15.pr 3 2
        have b18 : 0 ≤ Z15 3 3 ∧ Z15 3 3 ≤ 900 := hG15.pr 3 3
        have b19 : 0 ≤ Z15 3 4 ∧ Z15 3 4 ≤ 400 := hG15.pr 3 4
        have b20 : 0 ≤ Z15 3 7 ∧ Z15 3 7 ≤ 900 := hG15.pr 3 7
        have b21 : 0 ≤ Z15 3 14 ∧ Z15 3 14 ≤ 4 := hG15.pr 3 14
        refine mx_J.step (sn_48 7) (fun _ _ => rfl) ?_
        refine mx_J.step (sn_48 8) (fun _ _ => rfl) ?_
        refine JgetI (g := 1) (z := Z 3 1) hx15 (show mx_Sn _ _ 9 (mx_getf 7 1 12) from sn_48 9) a3 s3 rfl rfl ((hf15 3 1 rfl).trans (hf1 3 1 rfl)) ?_
        have c47 : ¬ gIs T N 13 sg14 → mx_J (tB l D b0 ad Hb tau) mt_48 (d + 12) 47 [some (.ref 3), some (xI x0), some (xI w14_2)] [] h15 Post := by
          intro f23_0
          have eq24 : Z15 3 0 = Z 3 0 := ((hf15 3 0 rfl).trans (hf1 3 0 rfl))
          have eq25 : Z15 3 1 = Z 3 1 := ((hf15 3 1 rfl).trans (hf1 3 1 rfl))
          exact mx_J.ret (sn_48 47) (fun _ _ => rfl) (hP Z15 h15 hx15 hG15 (fr_tr (M := [(3, 2), (3, 3), (3, 4), (3, 5), (3, 7), (3, 14), (3, 15), (5, (-1))]) (fr_tr (M := [(3, 2), (3, 3), (3, 4), (3, 5), (3, 7), (3, 14), (3, 15), (5, (-1))]) fr_rf (hf1) (M1 := []) rfl rfl) (hf15) rfl rfl) ⟨(RC_e f14_1 ((by assumption : boL T N (lvI T N x0) sg14 = boX T N (lvI T N x0) sg).symm.trans (boL_n (by assumption)))), by omega⟩)
        refine Jicmp_ge (show mx_Sn _ _ 12 (mx_icmp_ge 47 15) from sn_48 12) (by omega) (by omega) (fun q26 => ?_) (fun q26 => ?_)
        · skip
          exact c47 ((RC_x (k := 13) f14_1 (by omega) (by decide)))
        · skip
          refine mx_J.step (sn_48 15) (fun _ _ => rfl) ?_
          refine JgetI (g := 4) (z := Z15 3 4) hx15 (show mx_Sn _ _ 16 (mx_getf 7 4 19) from sn_48 16) a3 s3 rfl rfl rfl ?_
          refine JcI (z := 314) (show mx_Sn _ _ 19 (mx_const (.int 314) 22) from sn_48 19) rfl ?_
          refine Jicmp_ne (show mx_Sn _ _ 22 (mx_icmp_ne 47 25) from sn_48 22) (by omega) (by omega) (fun q28 => ?_) (fun q28 => ?_)
          · skip
            exact c47 ((RC_n (k := 13) (v := 314) f14_1 (by unfold tKk; omega) rfl (by omega)))
          · skip
            have g0 : gIs T N 13 sg14 := (RC_y (k := 13) (v := 314) f14_1 (by unfold tKk; omega) rfl (by omega))
            have gn := RC_N f14_1
            refine mx_J.step (sn_48 25) (fun _ _ => rfl) ?_
            have eq30 : Z15 3 0 = Z 3 0 := ((hf15 3 0 rfl).trans (hf1 3 0 rfl))
            have eq31 : Z15 3 1 = Z 3 1 := ((hf15 3 1 rfl).trans (hf1 3 1 rfl))
            obtain ⟨Z29, h29, hc29, hx29, hG29, hf29, b29⟩ := ct_56_3r (T := T) (N := N) (sg := sg14) (d := d + 6) (l := l) (D := D) (b0 := b0) (ad := ad) (Hb := Hb) (tau := tau) hx15 hG15  (show Z15 3 0 = 2 by first | omega | (simp only [eq30, eq31]; omega)) (show Z15 3 2 ≤ Z15 3 1 by first | omega | (simp only [eq30, eq31]; omega)) f14_1
            try rw [eq30] at b29
            try rw [eq31] at b29
            obtain ⟨br29, b29⟩ := b29
            have b32 : 0 ≤ Z29 3 2 ∧ Z29 3 2 ≤ 900 := hG29.pr 3 2
            have b33 : 0 ≤ Z29 3 3 ∧ Z29 3 3 ≤ 900 := hG29.pr 3 3
            have b34 : 0 ≤ Z29 3 4 ∧ Z29 3 4 ≤ 400 := hG29.pr 3 4
            refine Jcv0 hx15 (show mx_Sn _ _ 26 (mx_callv 56 1 7 29) from sn_48 26) a3 s3 hc29 rfl rfl rfl ?_
            refine mx_J.step (sn_48 29) (fun _ _ => rfl) ?_
            refine mx_J.step (sn_48 30) (fun _ _ => rfl) ?_
            have eq36 : Z29 3 0 = Z 3 0 := ((hf29 3 0 rfl).trans ((hf15 3 0 rfl).trans (hf1 3 0 rfl)))
            have eq37 : Z29 3 1 = Z 3 1 := ((hf29 3 1 rfl).trans ((hf15 3 1 rfl).trans (hf1 3 1 rfl)))
            have eq38 : Z29 3 7 = Z15 3 7 := (hf29 3 7 rfl)
            have eq39 : Z29 3 14 = Z15 3 14 := (hf29 3 14 rfl)
            obtain ⟨Z35, h35, hc35, hx35, hG35, hf35, b35⟩ := ct_49_3_s (T := T) (N := N) (sg := gAd T N sg14) (d := d + 0) (l := l) (D := D) (b0 := b0) (ad := ad) (Hb := Hb) (tau := tau) hx29 hG29 (show 0 ≤ x0 ∧ x0 ≤ 6 by omega) (show Z29 3 0 = 2 by first | omega | (simp only [eq36, eq37, eq38, eq39]; omega)) (show (Z29 3 3 ≤ Z29 3 2 ∧ Z29 3 2 ≤ Z29 3 1 ∧ (Z29 3 4 = 0 ∨ Z29 3 4 = 3 ∨ Z29 3 3 < Z29 3 2) ∧ (Z29 3 4 = 3 ∨ Z29 3 14 = 0)) by first | omega | (simp only [eq36, eq37, eq38, eq39]; omega)) (show Z29 3 7 ≤ Z29 3 3 by first | omega | (simp only [eq36, eq37, eq38, eq39]; omega)) br29 IH (by omega)
            try rw [eq36] at b35
            try rw [eq37] at b35
            try rw [eq38] at b35
            try rw [eq39] at b35
            obtain ⟨br35, b35⟩ := b35
            have b40 : 0 ≤ Z35 3 2 ∧ Z35 3 2 ≤ 900 := hG35.pr 3 2
            have b41 : 0 ≤ Z35 3 3 ∧ Z35 3 3 ≤ 900 := hG35.pr 3 3
            have b42 : 0 ≤ Z35 3 4 ∧ Z35 3 4 ≤ 400 := hG35.pr 3 4
            have b43 : 0 ≤ Z35 3 7 ∧ Z35 3 7 ≤ 900 := hG35.pr 3 7
            have b44 : 0 ≤ Z35 3 14 ∧ Z35 3 14 ≤ 4 := hG35.pr 3 14
            refine Jcv0 hx29 (show mx_Sn _ _ 31 (mx_callv 49 2 7 34) from sn_48 31) a3 s3 hc35 rfl rfl rfl ?_
            refine mx_J.step (sn_48 34) (fun _ _ => rfl) ?_
            refine JcI (z := 1016) (show mx_Sn _ _ 35 (mx_const (.int 1016) 38) from sn_48 35) rfl ?_
            obtain ⟨Z45, h45, hc45, hx45, hG45, hf45, b45⟩ := ct_52_3_1010 (T := T) (N := N) (sg := unX T N (lvI T N x0) (gAd T N sg14)) (d := d + 11) (l := l) (D := D) (b0 := b0) (ad := ad) (Hb := Hb) (tau := tau) hx35 hG35 (show 1010 ≤ 1016 ∧ 1016 ≤ 1019 by omega) (show (Z35 3 4 = 3 ∨ Z35 3 7 ≤ 899) by omega) br35
            obtain ⟨br45, b45⟩ := b45
            have b46 : 0 ≤ Z45 3 7 ∧ Z45 3 7 ≤ 900 := hG45.pr 3 7
            refine Jcv0 hx35 (show mx_Sn _ _ 38 (mx_callv 52 2 7 41) from sn_48 38) a3 s3 hc45 rfl rfl rfl ?_
            refine Jiinc (z := w14_2) (cz := 1) (ls2 := [some (.ref 3), some (xI x0), some (xI (w14_2 + 1))]) (show mx_Sn _ _ 41 (mx_iinc 2 1 44) from sn_48 41) rfl rfl rfl rfl ?_
            refine mx_J.step (sn_48 44) (fun _ _ => rfl) ?_
            have eq47 : Z45 3 0 = Z 3 0 := ((hf45 3 0 rfl).trans ((hf35 3 0 rfl).trans ((hf29 3 0 rfl).trans ((hf15 3 0 rfl).trans (hf1 3 0 rfl)))))
            have eq48 : Z45 3 2 = Z35 3 2 := (hf45 3 2 rfl)
            have eq49 : Z45 3 3 = Z35 3 3 := (hf45 3 3 rfl)
            have eq50 : Z45 3 4 = Z35 3 4 := (hf45 3 4 rfl)
            have eq51 : Z45 3 14 = Z35 3 14 := (hf45 3 14 rfl)
            have eq52 : Z45 3 3 = Z35 3 3 := (hf45 3 3 rfl)
            have eq53 : Z45 3 3 = Z35 3 3 := (hf45 3 3 rfl)
            have eq54 : Z45 3 4 = Z35 3 4 := (hf45 3 4 rfl)
            have eq55 : Z45 3 4 = Z35 3 4 := (hf45 3 4 rfl)
            have eq56 : Z45 3 3 = Z35 3 3 := (hf45 3 3 rfl)
            exact ih14 (w14_2 + 1) (gEm 1016 (unX T N (lvI T N x0) (gAd T N sg14))) Z45 h45 (by omega) (by omega) br45 (by omega) (by omega) (by omega) (by omega) ((boL_s (lvI_go _) gn g0).symm.trans (by assumption)) hx45 hG45 (fr_tr (M := [(3, 2), (3, 3), (3, 4), (3, 5), (3, 7), (3, 14), (3, 15), (5, (-1))]) (fr_tr (M := [(3, 2), (3, 3), (3, 4), (3, 5), (3, 7), (3, 14), (3, 15), (5, (-1))]) (fr_tr (M := [(3, 2), (3, 3), (3, 4), (3, 5), (3, 7), (3, 14), (3, 15), (5, (-1))]) (fr_tr (M := [(3, 2), (3, 3), (3, 4), (3, 5), (3, 7), (3, 14), (3, 15), (5, (-1))]) fr_rf (hf15) (M1 := []) rfl rfl) (hf29) rfl rfl) (hf35) rfl rfl) (hf45) rfl rfl)
    have eq57 : Z1 3 0 = Z 3 0 := (hf1 3 0 rfl)
    exact c7 (Int.toNat (900 - 0) + 1) 0 (unX T N (lvI T N x0) sg) Z1 h1 (by omega) (by omega) br1 (by omega) (by omega) (by omega) (by omega) (rfl) hx1 hG1 fr_rf
theorem ct_48_3_s {l : Launch} {D : va_G} {b0 : Nat} {ad : Nat → Nat} {Hb : Heap} {tau : Nat → Int64} {d n s : Nat} {S : Nat → xS} {Z : xZ} {h : mx_H} {T : Int → Int} {N : Int} {sg : SS} (hx : XH n s S Z h) (hG : GI n S Z)  {x0 : Int} (p0 : 0 ≤ x0 ∧ x0 ≤ 6) (k0 : Z 3 0 = 2) (k1 : (Z 3 3 ≤ Z 3 2 ∧ Z 3 2 ≤ Z 3 1 ∧ (Z 3 4 = 0 ∨ Z 3 4 = 3 ∨ Z 3 3 < Z 3 2) ∧ (Z 3 4 = 3 ∨ Z 3 14 = 0))) (k2 : Z 3 7 ≤ Z 3 3) (hr : RC T N Z sg) {kk : Nat} (IH : RBdh l D b0 ad Hb tau kk x0) (hd : kk ≤ d) : ∃ (Z' : xZ) (h' : mx_H), mx_Ca (tB l D b0 ad Hb tau) (d + 13) 48 [.ref 3, xI x0] h (none, h') ∧ XH n s S Z' h' ∧ GI n S Z' ∧ fr' [(3, 2), (3, 3), (3, 4), (3, 5), (3, 7), (3, 14), (3, 15), (5, (-1))] Z Z' ∧ (RC T N Z' (boX T N (lvI T N x0) sg) ∧ ((Z' 3 3 ≤ Z' 3 2 ∧ Z' 3 2 ≤ Z 3 1 ∧ (Z' 3 4 = 0 ∨ Z' 3 4 = 3 ∨ Z' 3 3 < Z' 3 2) ∧ (Z' 3 4 = 3 ∨ Z' 3 14 = 0)) ∧ Z 3 3 ≤ Z' 3 3 ∧ Z' 3 7 - Z 3 7 ≤ Z' 3 3 - Z 3 3 ∧ (Z' 3 4 = 3 ∨ Z 3 3 + 1 ≤ Z' 3 3) ∧ (Z 3 4 = 3 → Z' 3 4 = 3))) := by
  obtain ⟨r, hca, Z', h', e, q⟩ := Jmt (B := tB l D b0 ad Hb tau) (M := mt_48) (mi := 48) (as := [.ref 3, xI x0]) (d := d + 12) (ls := [some (.ref 3), some (xI x0), none]) rfl rfl rfl rfl rfl rfl (cw_48_3_s (l := l) (D := D) (b0 := b0) (ad := ad) (Hb := Hb) (tau := tau) (d := d) (Post := fun r => ∃ (Z' : xZ) (h' : mx_H), r = (none, h') ∧ XH n s S Z' h' ∧ GI n S Z' ∧ fr' [(3, 2), (3, 3), (3, 4), (3, 5), (3, 7), (3, 14), (3, 15), (5, (-1))] Z Z' ∧ (RC T N Z' (boX T N (lvI T N x0) sg) ∧ ((Z' 3 3 ≤ Z' 3 2 ∧ Z' 3 2 ≤ Z 3 1 ∧ (Z' 3 4 = 0 ∨ Z' 3 4 = 3 ∨ Z' 3 3 < Z' 3 2) ∧ (Z' 3 4 = 3 ∨ Z' 3 14 = 0)) ∧ Z 3 3 ≤ Z' 3 3 ∧ Z' 3 7 - Z 3 7 ≤ Z' 3 3 - Z 3 3 ∧ (Z' 3 4 = 3 ∨ Z 3 3 + 1 ≤ Z' 3 3) ∧ (Z 3 4 = 3 → Z' 3 4 = 3)))) hx hG p0 k0 k1 k2 hr IH hd (fun Z' h' q1 q2 q3 q4 => ⟨Z', h', rfl, q1, q2, q3, q4⟩))
  subst e; exact ⟨Z', h', hca, q⟩
set_option maxRecDepth 100000 in
theorem cw_47_3_s {l : Launch} {D : va_G} {b0 : Nat} {ad : Nat → Nat} {Hb : Heap} {tau : Nat → Int64} {d n s : Nat} {S : Nat → xS} {Z : xZ} {h : mx_H} {Post : mx_R → Prop} {T : Int → Int} {N : Int} {sg : SS} (hx : XH n s S Z h) (hG : GI n S Z)  {x0 : Int} (p0 : 0 ≤ x0 ∧ x0 ≤ 6) (k0 : Z 3 0 = 2) (k1 : (Z 3 3 ≤ Z 3 2 ∧ Z 3 2 ≤ Z 3 1 ∧ (Z 3 4 = 0 ∨ Z 3 4 = 3 ∨ Z 3 3 < Z 3 2) ∧ (Z 3 4 = 3 ∨ Z 3 14 = 0))) (k2 : Z 3 7 ≤ Z 3 3) (hr : RC T N Z sg) {kk : Nat} (IH : RBdh l D b0 ad Hb tau kk x0) (hd : kk ≤ d) (hP : ∀ (Z' : xZ) (h' : mx_H), XH n s S Z' h' → GI n S Z' → fr' [(3, 2), (3, 3), (3, 4), (3, 5), (3, 7), (3, 14), (3, 15), (5, (-1))] Z Z' → RC T N Z' (trX T N (lvI T N x0) sg) ∧ ((Z' 3 3 ≤ Z' 3 2 ∧ Z' 3 2 ≤ Z 3 1 ∧ (Z' 3 4 = 0 ∨ Z' 3 4 = 3 ∨ Z' 3 3 < Z' 3 2) ∧ (Z' 3 4 = 3 ∨ Z' 3 14 = 0)) ∧ Z 3 3 ≤ Z' 3 3 ∧ Z' 3 7 - Z 3 7 ≤ Z' 3 3 - Z 3 3 ∧ (Z' 3 4 = 3 ∨ Z 3 3 + 1 ≤ Z' 3 3) ∧ (Z 3 4 = 3 → Z' 3 4 = 3)) → Post (none, h')) : mx_J (tB l D b0 ad Hb tau) mt_47 (d + 13) 0 [some (.ref 3), some (xI x0), none] [] h Post := by
    have a3 : 3 < n := lt83 (GI_n hG) rfl
    have s3 : S 3 = .inl (7, [2, 0, 0, 0, 0, 0, 2, 0, 2, 2, 0, 2, 0, 0, 0, 0]) := GI_s hG 3 rfl
    have hN := (RC_p hr).2.2.2
    refine mx_J.step (sn_47 0) (fun _ _ => rfl) ?_
    refine mx_J.step (sn_47 1) (fun _ _ => rfl) ?_
    have b2 : 2 ≤ Z 3 0 ∧ Z 3 0 ≤ 4 := hG.pr 3 0
    have b3 : 0 ≤ Z 3 1 ∧ Z 3 1 ≤ 900 := hG.pr 3 1
    have b4 : 0 ≤ Z 3 2 ∧ Z 3 2 ≤ 900 := hG.pr 3 2
    have b5 : 0 ≤ Z 3 3 ∧ Z 3 3 ≤ 900 := hG.pr 3 3
    have b6 : 0 ≤ Z 3 4 ∧ Z 3 4 ≤ 400 := hG.pr 3 4
    have b7 : 0 ≤ Z 3 7 ∧ Z 3 7 ≤ 900 := hG.pr 3 7
    have b8 : 0 ≤ Z 3 14 ∧ Z 3 14 ≤ 4 := hG.pr 3 14
    obtain ⟨Z1, h1, hc1, hx1, hG1, hf1, b1⟩ := ct_48_3_s (T := T) (N := N) (sg := sg) (d := d + 0) (l := l) (D := D) (b0 := b0) (ad := ad) (Hb := Hb) (tau := tau) hx hG (show 0 ≤ x0 ∧ x0 ≤ 6 by omega) (show Z 3 0 = 2 by omega) (show (Z 3 3 ≤ Z 3 2 ∧ Z 3 2 ≤ Z 3 1 ∧ (Z 3 4 = 0 ∨ Z 3 4 = 3 ∨ Z 3 3 < Z 3 2) ∧ (Z 3 4 = 3 ∨ Z 3 14 = 0)) by omega) (show Z 3 7 ≤ Z 3 3 by omega) hr IH (by omega)
    obtain ⟨br1, b1⟩ := b1
    have b9 : 0 ≤ Z1 3 2 ∧ Z1 3 2 ≤ 900 := hG1.pr 3 2
    have b10 : 0 ≤ Z1 3 3 ∧ Z1 3 3 ≤ 900 := hG1.pr 3 3
    have b11 : 0 ≤ Z1 3 4 ∧ Z1 3 4 ≤ 400 := hG1.pr 3 4
    have b12 : 0 ≤ Z1 3 7 ∧ Z1 3 7 ≤ 900 := hG1.pr 3 7
    have b13 : 0 ≤ Z1 3 14 ∧ Z1 3 14 ≤ 4 := hG1.pr 3 14
    refine Jcv0 hx (show mx_Sn _ _ 2 (mx_callv 48 2 7 5) from sn_47 2) a3 s3 hc1 rfl rfl rfl ?_
    refine JcI (z := 0) (show mx_Sn _ _ 5 (mx_const (.int 0) 6) from sn_47 5) rfl ?_
    refine mx_J.step (ls2 := [some (.ref 3), some (xI x0), some (xI 0)]) (sn_47 6) (fun _ _ => rfl) ?_
    have c7 : ∀ (m14 : Nat) (w14_2 : Int) (sg14 : SS) (Z15 : xZ) (h15 : mx_H), 900 - w14_2 < (m14 : Int) → 0 ≤ w14_2 ∧ w14_2 ≤ 900 → RC T N Z15 sg14 → (Z15 3 3 ≤ Z15 3 2 ∧ Z15 3 2 ≤ Z 3 1 ∧ (Z15 3 4 = 0 ∨ Z15 3 4 = 3 ∨ Z15 3 3 < Z15 3 2) ∧ (Z15 3 4 = 3 ∨ Z15 3 14 = 0)) → (Z 3 3 ≤ Z15 3 3 ∧ Z15 3 7 - Z 3 7 ≤ Z15 3 3 - Z 3 3 + 0) → ((Z15 3 4 = 3 ∨ Z 3 3 + 1 ≤ Z15 3 3) ∧ (Z 3 4 = 3 → Z15 3 4 = 3)) → (Z15 3 4 = 3 ∨ w14_2 ≤ Z15 3 3 - Z 3 3) → trL T N (lvI T N x0) sg14 = trX T N (lvI T N x0) sg → XH n s S Z15 h15 → GI n S Z15 → fr' [(3, 2), (3, 3), (3, 4), (3, 5), (3, 7), (3, 14), (3, 15), (5, (-1))] Z1 Z15 → mx_J (tB l D b0 ad Hb tau) mt_47 (d + 13) 7 [some (.ref 3), some (xI x0), some (xI w14_2)] [] h15 Post := by
      intro m14
      induction m14 with
      | zero => intro w14_2 sg14 Z15 h15 q14 f14_0 f14_1 f14_2 f14_3 f14_4 f14_5 f14_6 hx15 hG15 hf15; exact absurd q14 (by omega)
      | succ m14 ih14 =>
        intro w14_2 sg14 Z15 h15 q14 f14_0 f14_1 f14_2 f14_3 f14_4 f14_5 f14_6 hx15 hG15 hf15
        have eq16 : Z15 3 0 = Z 3 0 := ((hf15 3 0 rfl).trans (hf1 3 0 rfl))
        have b17 : 0 ≤ Z15 3 2 ∧ Z15 3 2 ≤ 900 := hG15.pr 3 2
        have b18 : 0 ≤ Z15 3 3 ∧ Z15 3 3 ≤ 900 := hG15.pr 3 3
        have b19 : 0 ≤ Z15 3 4 ∧ Z15 3 4 ≤ 400 := hG15.pr 3 4
        have b20 : 0 ≤ Z15 3 7 ∧ Z15 3 7 ≤ 900 := hG15.pr 3 7
        have b21 : 0 ≤ Z15 3 14 ∧ Z15 3 14 ≤ 4 := hG15.pr 3 14
        refine mx_J.step (sn_47 7) (fun _ _ => rfl) ?_
        refine mx_J.step (sn_47 8) (fun _ _ => rfl) ?_
        refine JgetI (g := 1) (z := Z 3 1) hx15 (show mx_Sn _ _ 9 (mx_getf 7 1 12) from sn_47 9) a3 s3 rfl rfl ((hf15 3 1 rfl).trans (hf1 3 1 rfl)) ?_
        have c47 : ¬ gIs T N 14 sg14 → mx_J (tB l D b0 ad Hb tau) mt_47 (d + 13) 47 [some (.ref 3), some (xI x0), some (xI w14_2)] [] h15 Post := by
          intro f23_0
          have eq24 : Z15 3 0 = Z 3 0 := ((hf15 3 0 rfl).trans (hf1 3 0 rfl))
          have eq25 : Z15 3 1 = Z 3 1 := ((hf15 3 1 rfl).trans (hf1 3 1 rfl))
          exact mx_J.ret (sn_47 47) (fun _ _ => rfl) (hP Z15 h15 hx15 hG15 (fr_tr (M := [(3, 2), (3, 3), (3, 4), (3, 5), (3, 7), (3, 14), (3, 15), (5, (-1))]) (fr_tr (M := [(3, 2), (3, 3), (3, 4), (3, 5), (3, 7), (3, 14), (3, 15), (5, (-1))]) fr_rf (hf1) (M1 := []) rfl rfl) (hf15) rfl rfl) ⟨(RC_e f14_1 ((by assumption : trL T N (lvI T N x0) sg14 = trX T N (lvI T N x0) sg).symm.trans (trL_n (by assumption)))), by omega⟩)
        refine Jicmp_ge (show mx_Sn _ _ 12 (mx_icmp_ge 47 15) from sn_47 12) (by omega) (by omega) (fun q26 => ?_) (fun q26 => ?_)
        · skip
          exact c47 ((RC_x (k := 14) f14_1 (by omega) (by decide)))
        · skip
          refine mx_J.step (sn_47 15) (fun _ _ => rfl) ?_
          refine JgetI (g := 4) (z := Z15 3 4) hx15 (show mx_Sn _ _ 16 (mx_getf 7 4 19) from sn_47 16) a3 s3 rfl rfl rfl ?_
          refine JcI (z := 313) (show mx_Sn _ _ 19 (mx_const (.int 313) 22) from sn_47 19) rfl ?_
          refine Jicmp_ne (show mx_Sn _ _ 22 (mx_icmp_ne 47 25) from sn_47 22) (by omega) (by omega) (fun q28 => ?_) (fun q28 => ?_)
          · skip
            exact c47 ((RC_n (k := 14) (v := 313) f14_1 (by unfold tKk; omega) rfl (by omega)))
          · skip
            have g0 : gIs T N 14 sg14 := (RC_y (k := 14) (v := 313) f14_1 (by unfold tKk; omega) rfl (by omega))
            have gn := RC_N f14_1
            refine mx_J.step (sn_47 25) (fun _ _ => rfl) ?_
            have eq30 : Z15 3 0 = Z 3 0 := ((hf15 3 0 rfl).trans (hf1 3 0 rfl))
            have eq31 : Z15 3 1 = Z 3 1 := ((hf15 3 1 rfl).trans (hf1 3 1 rfl))
            obtain ⟨Z29, h29, hc29, hx29, hG29, hf29, b29⟩ := ct_56_3r (T := T) (N := N) (sg := sg14) (d := d + 7) (l := l) (D := D) (b0 := b0) (ad := ad) (Hb := Hb) (tau := tau) hx15 hG15  (show Z15 3 0 = 2 by first | omega | (simp only [eq30, eq31]; omega)) (show Z15 3 2 ≤ Z15 3 1 by first | omega | (simp only [eq30, eq31]; omega)) f14_1
            try rw [eq30] at b29
            try rw [eq31] at b29
            obtain ⟨br29, b29⟩ := b29
            have b32 : 0 ≤ Z29 3 2 ∧ Z29 3 2 ≤ 900 := hG29.pr 3 2
            have b33 : 0 ≤ Z29 3 3 ∧ Z29 3 3 ≤ 900 := hG29.pr 3 3
            have b34 : 0 ≤ Z29 3 4 ∧ Z29 3 4 ≤ 400 := hG29.pr 3 4
            refine Jcv0 hx15 (show mx_Sn _ _ 26 (mx_callv 56 1 7 29) from sn_47 26) a3 s3 hc29 rfl rfl rfl ?_
            refine mx_J.step (sn_47 29) (fun _ _ => rfl) ?_
            refine mx_J.step (sn_47 30) (fun _ _ => rfl) ?_
            have eq36 : Z29 3 0 = Z 3 0 := ((hf29 3 0 rfl).trans ((hf15 3 0 rfl).trans (hf1 3 0 rfl)))
            have eq37 : Z29 3 1 = Z 3 1 := ((hf29 3 1 rfl).trans ((hf15 3 1 rfl).trans (hf1 3 1 rfl)))
            have eq38 : Z29 3 7 = Z15 3 7 := (hf29 3 7 rfl)
            have eq39 : Z29 3 14 = Z15 3 14 := (hf29 3 14 rfl)
            obtain ⟨Z35, h35, hc35, hx35, hG35, hf35, b35⟩ := ct_48_3_s (T := T) (N := N) (sg := gAd T N sg14) (d := d + 0) (l := l) (D := D) (b0 := b0) (ad := ad) (Hb := Hb) (tau := tau) hx29 hG29 (show 0 ≤ x0 ∧ x0 ≤ 6 by omega) (show Z29 3 0 = 2 by first | omega | (simp only [eq36, eq37, eq38, eq39]; omega)) (show (Z29 3 3 ≤ Z29 3 2 ∧ Z29 3 2 ≤ Z29 3 1 ∧ (Z29 3 4 = 0 ∨ Z29 3 4 = 3 ∨ Z29 3 3 < Z29 3 2) ∧ (Z29 3 4 = 3 ∨ Z29 3 14 = 0)) by first | omega | (simp only [eq36, eq37, eq38, eq39]; omega)) (show Z29 3 7 ≤ Z29 3 3 by first | omega | (simp only [eq36, eq37, eq38, eq39]; omega)) br29 IH (by omega)
            try rw [eq36] at b35
            try rw [eq37] at b35
            try rw [eq38] at b35
            try rw [eq39] at b35
            obtain ⟨br35, b35⟩ := b35
            have b40 : 0 ≤ Z35 3 2 ∧ Z35 3 2 ≤ 900 := hG35.pr 3 2
            have b41 : 0 ≤ Z35 3 3 ∧ Z35 3 3 ≤ 900 := hG35.pr 3 3
            have b42 : 0 ≤ Z35 3 4 ∧ Z35 3 4 ≤ 400 := hG35.pr 3 4
            have b43 : 0 ≤ Z35 3 7 ∧ Z35 3 7 ≤ 900 := hG35.pr 3 7
            have b44 : 0 ≤ Z35 3 14 ∧ Z35 3 14 ≤ 4 := hG35.pr 3 14
            refine Jcv0 hx29 (show mx_Sn _ _ 31 (mx_callv 48 2 7 34) from sn_47 31) a3 s3 hc35 rfl rfl rfl ?_
            refine mx_J.step (sn_47 34) (fun _ _ => rfl) ?_
            refine JcI (z := 1017) (show mx_Sn _ _ 35 (mx_const (.int 1017) 38) from sn_47 35) rfl ?_
            obtain ⟨Z45, h45, hc45, hx45, hG45, hf45, b45⟩ := ct_52_3_1010 (T := T) (N := N) (sg := boX T N (lvI T N x0) (gAd T N sg14)) (d := d + 12) (l := l) (D := D) (b0 := b0) (ad := ad) (Hb := Hb) (tau := tau) hx35 hG35 (show 1010 ≤ 1017 ∧ 1017 ≤ 1019 by omega) (show (Z35 3 4 = 3 ∨ Z35 3 7 ≤ 899) by omega) br35
            obtain ⟨br45, b45⟩ := b45
            have b46 : 0 ≤ Z45 3 7 ∧ Z45 3 7 ≤ 900 := hG45.pr 3 7
            refine Jcv0 hx35 (show mx_Sn _ _ 38 (mx_callv 52 2 7 41) from sn_47 38) a3 s3 hc45 rfl rfl rfl ?_
            refine Jiinc (z := w14_2) (cz := 1) (ls2 := [some (.ref 3), some (xI x0), some (xI (w14_2 + 1))]) (show mx_Sn _ _ 41 (mx_iinc 2 1 44) from sn_47 41) rfl rfl rfl rfl ?_
            refine mx_J.step (sn_47 44) (fun _ _ => rfl) ?_
            have eq47 : Z45 3 0 = Z 3 0 := ((hf45 3 0 rfl).trans ((hf35 3 0 rfl).trans ((hf29 3 0 rfl).trans ((hf15 3 0 rfl).trans (hf1 3 0 rfl)))))
            have eq48 : Z45 3 2 = Z35 3 2 := (hf45 3 2 rfl)
            have eq49 : Z45 3 3 = Z35 3 3 := (hf45 3 3 rfl)
            have eq50 : Z45 3 4 = Z35 3 4 := (hf45 3 4 rfl)
            have eq51 : Z45 3 14 = Z35 3 14 := (hf45 3 14 rfl)
            have eq52 : Z45 3 3 = Z35 3 3 := (hf45 3 3 rfl)
            have eq53 : Z45 3 3 = Z35 3 3 := (hf45 3 3 rfl)
            have eq54 : Z45 3 4 = Z35 3 4 := (hf45 3 4 rfl)
            have eq55 : Z45 3 4 = Z35 3 4 := (hf45 3 4 rfl)
            have eq56 : Z45 3 3 = Z35 3 3 := (hf45 3 3 rfl)
            exact ih14 (w14_2 + 1) (gEm 1017 (boX T N (lvI T N x0) (gAd T N sg14))) Z45 h45 (by omega) (by omega) br45 (by omega) (by omega) (by omega) (by omega) ((trL_s (lvI_go _) gn g0).symm.trans (by assumption)) hx45 hG45 (fr_tr (M := [(3, 2), (3, 3), (3, 4), (3, 5), (3, 7), (3, 14), (3, 15), (5, (-1))]) (fr_tr (M := [(3, 2), (3, 3), (3, 4), (3, 5), (3, 7), (3, 14), (3, 15), (5, (-1))]) (fr_tr (M := [(3, 2), (3, 3), (3, 4), (3, 5), (3, 7), (3, 14), (3, 15), (5, (-1))]) (fr_tr (M := [(3, 2), (3, 3), (3, 4), (3, 5), (3, 7), (3, 14), (3, 15), (5, (-1))]) fr_rf (hf15) (M1 := []) rfl rfl) (hf29) rfl rfl) (hf35) rfl rfl) (hf45) rfl rfl)
    have eq57 : Z1 3 0 = Z 3 0 := (hf1 3 0 rfl)
    exact c7 (Int.toNat (900 - 0) + 1) 0 (boX T N (lvI T N x0) sg) Z1 h1 (by omega) (by omega) br1 (by omega) (by omega) (by omega) (by omega) (rfl) hx1 hG1 fr_rf
theorem ct_47_3_s {l : Launch} {D : va_G} {b0 : Nat} {ad : Nat → Nat} {Hb : Heap} {tau : Nat → Int64} {d n s : Nat} {S : Nat → xS} {Z : xZ} {h : mx_H} {T : Int → Int} {N : Int} {sg : SS} (hx : XH n s S Z h) (hG : GI n S Z)  {x0 : Int} (p0 : 0 ≤ x0 ∧ x0 ≤ 6) (k0 : Z 3 0 = 2) (k1 : (Z 3 3 ≤ Z 3 2 ∧ Z 3 2 ≤ Z 3 1 ∧ (Z 3 4 = 0 ∨ Z 3 4 = 3 ∨ Z 3 3 < Z 3 2) ∧ (Z 3 4 = 3 ∨ Z 3 14 = 0))) (k2 : Z 3 7 ≤ Z 3 3) (hr : RC T N Z sg) {kk : Nat} (IH : RBdh l D b0 ad Hb tau kk x0) (hd : kk ≤ d) : ∃ (Z' : xZ) (h' : mx_H), mx_Ca (tB l D b0 ad Hb tau) (d + 14) 47 [.ref 3, xI x0] h (none, h') ∧ XH n s S Z' h' ∧ GI n S Z' ∧ fr' [(3, 2), (3, 3), (3, 4), (3, 5), (3, 7), (3, 14), (3, 15), (5, (-1))] Z Z' ∧ (RC T N Z' (trX T N (lvI T N x0) sg) ∧ ((Z' 3 3 ≤ Z' 3 2 ∧ Z' 3 2 ≤ Z 3 1 ∧ (Z' 3 4 = 0 ∨ Z' 3 4 = 3 ∨ Z' 3 3 < Z' 3 2) ∧ (Z' 3 4 = 3 ∨ Z' 3 14 = 0)) ∧ Z 3 3 ≤ Z' 3 3 ∧ Z' 3 7 - Z 3 7 ≤ Z' 3 3 - Z 3 3 ∧ (Z' 3 4 = 3 ∨ Z 3 3 + 1 ≤ Z' 3 3) ∧ (Z 3 4 = 3 → Z' 3 4 = 3))) := by
  obtain ⟨r, hca, Z', h', e, q⟩ := Jmt (B := tB l D b0 ad Hb tau) (M := mt_47) (mi := 47) (as := [.ref 3, xI x0]) (d := d + 13) (ls := [some (.ref 3), some (xI x0), none]) rfl rfl rfl rfl rfl rfl (cw_47_3_s (l := l) (D := D) (b0 := b0) (ad := ad) (Hb := Hb) (tau := tau) (d := d) (Post := fun r => ∃ (Z' : xZ) (h' : mx_H), r = (none, h') ∧ XH n s S Z' h' ∧ GI n S Z' ∧ fr' [(3, 2), (3, 3), (3, 4), (3, 5), (3, 7), (3, 14), (3, 15), (5, (-1))] Z Z' ∧ (RC T N Z' (trX T N (lvI T N x0) sg) ∧ ((Z' 3 3 ≤ Z' 3 2 ∧ Z' 3 2 ≤ Z 3 1 ∧ (Z' 3 4 = 0 ∨ Z' 3 4 = 3 ∨ Z' 3 3 < Z' 3 2) ∧ (Z' 3 4 = 3 ∨ Z' 3 14 = 0)) ∧ Z 3 3 ≤ Z' 3 3 ∧ Z' 3 7 - Z 3 7 ≤ Z' 3 3 - Z 3 3 ∧ (Z' 3 4 = 3 ∨ Z 3 3 + 1 ≤ Z' 3 3) ∧ (Z 3 4 = 3 → Z' 3 4 = 3)))) hx hG p0 k0 k1 k2 hr IH hd (fun Z' h' q1 q2 q3 q4 => ⟨Z', h', rfl, q1, q2, q3, q4⟩))
  subst e; exact ⟨Z', h', hca, q⟩
set_option maxRecDepth 100000 in
theorem cw_46_3_s {l : Launch} {D : va_G} {b0 : Nat} {ad : Nat → Nat} {Hb : Heap} {tau : Nat → Int64} {d n s : Nat} {S : Nat → xS} {Z : xZ} {h : mx_H} {Post : mx_R → Prop} {T : Int → Int} {N : Int} {sg : SS} (hx : XH n s S Z h) (hG : GI n S Z)  {x0 : Int} (p0 : 0 ≤ x0 ∧ x0 ≤ 6) (k0 : Z 3 0 = 2) (k1 : (Z 3 3 ≤ Z 3 2 ∧ Z 3 2 ≤ Z 3 1 ∧ (Z 3 4 = 0 ∨ Z 3 4 = 3 ∨ Z 3 3 < Z 3 2) ∧ (Z 3 4 = 3 ∨ Z 3 14 = 0))) (k2 : Z 3 7 ≤ Z 3 3) (hr : RC T N Z sg) {kk : Nat} (IH : RBdh l D b0 ad Hb tau kk x0) (hd : kk ≤ d) (hP : ∀ (Z' : xZ) (h' : mx_H), XH n s S Z' h' → GI n S Z' → fr' [(3, 2), (3, 3), (3, 4), (3, 5), (3, 7), (3, 14), (3, 15), (5, (-1))] Z Z' → RC T N Z' (chX T N (lvT T N x0) sg) ∧ ((Z' 3 3 ≤ Z' 3 2 ∧ Z' 3 2 ≤ Z 3 1 ∧ (Z' 3 4 = 0 ∨ Z' 3 4 = 3 ∨ Z' 3 3 < Z' 3 2) ∧ (Z' 3 4 = 3 ∨ Z' 3 14 = 0)) ∧ Z 3 3 ≤ Z' 3 3 ∧ Z' 3 7 - Z 3 7 ≤ Z' 3 3 - Z 3 3 + 1 ∧ (Z 3 4 = 3 → Z' 3 4 = 3)) → Post (none, h')) : mx_J (tB l D b0 ad Hb tau) mt_46 (d + 14) 0 [some (.ref 3), some (xI x0)] [] h Post := by
    have a3 : 3 < n := lt83 (GI_n hG) rfl
    have s3 : S 3 = .inl (7, [2, 0, 0, 0, 0, 0, 2, 0, 2, 2, 0, 2, 0, 0, 0, 0]) := GI_s hG 3 rfl
    refine mx_J.step (sn_46 0) (fun _ _ => rfl) ?_
    refine mx_J.step (sn_46 1) (fun _ _ => rfl) ?_
    have b2 : 2 ≤ Z 3 0 ∧ Z 3 0 ≤ 4 := hG.pr 3 0
    have b3 : 0 ≤ Z 3 1 ∧ Z 3 1 ≤ 900 := hG.pr 3 1
    have b4 : 0 ≤ Z 3 2 ∧ Z 3 2 ≤ 900 := hG.pr 3 2
    have b5 : 0 ≤ Z 3 3 ∧ Z 3 3 ≤ 900 := hG.pr 3 3
    have b6 : 0 ≤ Z 3 4 ∧ Z 3 4 ≤ 400 := hG.pr 3 4
    have b7 : 0 ≤ Z 3 7 ∧ Z 3 7 ≤ 900 := hG.pr 3 7
    have b8 : 0 ≤ Z 3 14 ∧ Z 3 14 ≤ 4 := hG.pr 3 14
    obtain ⟨Z1, h1, hc1, hx1, hG1, hf1, b1⟩ := ct_47_3_s (T := T) (N := N) (sg := sg) (d := d + 0) (l := l) (D := D) (b0 := b0) (ad := ad) (Hb := Hb) (tau := tau) hx hG (show 0 ≤ x0 ∧ x0 ≤ 6 by omega) (show Z 3 0 = 2 by omega) (show (Z 3 3 ≤ Z 3 2 ∧ Z 3 2 ≤ Z 3 1 ∧ (Z 3 4 = 0 ∨ Z 3 4 = 3 ∨ Z 3 3 < Z 3 2) ∧ (Z 3 4 = 3 ∨ Z 3 14 = 0)) by omega) (show Z 3 7 ≤ Z 3 3 by omega) hr IH (by omega)
    obtain ⟨br1, b1⟩ := b1
    have b9 : 0 ≤ Z1 3 2 ∧ Z1 3 2 ≤ 900 := hG1.pr 3 2
    have b10 : 0 ≤ Z1 3 3 ∧ Z1 3 3 ≤ 900 := hG1.pr 3 3
    have b11 : 0 ≤ Z1 3 4 ∧ Z1 3 4 ≤ 400 := hG1.pr 3 4
    have b12 : 0 ≤ Z1 3 7 ∧ Z1 3 7 ≤ 900 := hG1.pr 3 7
    have b13 : 0 ≤ Z1 3 14 ∧ Z1 3 14 ≤ 4 := hG1.pr 3 14
    refine Jcv0 hx (show mx_Sn _ _ 2 (mx_callv 47 2 7 5) from sn_46 2) a3 s3 hc1 rfl rfl rfl ?_
    refine mx_J.step (sn_46 5) (fun _ _ => rfl) ?_
    refine JcI (z := 306) (show mx_Sn _ _ 6 (mx_const (.int 306) 9) from sn_46 6) rfl ?_
    have eq15 : Z1 3 0 = Z 3 0 := (hf1 3 0 rfl)
    have eq16 : Z1 3 1 = Z 3 1 := (hf1 3 1 rfl)
    obtain ⟨Z14, h14, hc14, hx14, hG14, hf14, b14⟩ := ct_53_3_i306 (T := T) (N := N) (sg := trX T N (lvI T N x0) sg) (d := d + 7) (l := l) (D := D) (b0 := b0) (ad := ad) (Hb := Hb) (tau := tau) hx1 hG1  (show Z1 3 0 = 2 by first | omega | (simp only [eq15, eq16]; omega)) (show (Z1 3 3 ≤ Z1 3 2 ∧ Z1 3 2 ≤ Z1 3 1 ∧ (Z1 3 4 = 0 ∨ Z1 3 4 = 3 ∨ Z1 3 3 < Z1 3 2) ∧ (Z1 3 4 = 3 ∨ Z1 3 14 = 0)) by first | omega | (simp only [eq15, eq16]; omega)) br1
    try rw [eq15] at b14
    try rw [eq16] at b14
    obtain ⟨br14, b14⟩ := b14
    have b17 : 0 ≤ Z14 3 2 ∧ Z14 3 2 ≤ 900 := hG14.pr 3 2
    have b18 : 0 ≤ Z14 3 3 ∧ Z14 3 3 ≤ 900 := hG14.pr 3 3
    have b19 : 0 ≤ Z14 3 4 ∧ Z14 3 4 ≤ 400 := hG14.pr 3 4
    have eq20 : Z14 3 7 = Z1 3 7 := (hf14 3 7 rfl)
    have b21 : 0 ≤ Z14 3 14 ∧ Z14 3 14 ≤ 4 := hG14.pr 3 14
    refine Jcv0 hx1 (show mx_Sn _ _ 9 (mx_callv 53 2 7 12) from sn_46 9) a3 s3 hc14 rfl rfl rfl ?_
    refine mx_J.step (sn_46 12) (fun _ _ => rfl) ?_
    refine mx_J.step (sn_46 13) (fun _ _ => rfl) ?_
    have eq23 : Z14 3 0 = Z 3 0 := ((hf14 3 0 rfl).trans (hf1 3 0 rfl))
    have eq24 : Z14 3 1 = Z 3 1 := ((hf14 3 1 rfl).trans (hf1 3 1 rfl))
    have eq25 : Z14 3 7 = Z1 3 7 := (hf14 3 7 rfl)
    obtain ⟨Z22, h22, hc22, hx22, hG22, hf22, b22⟩ := ct_42_3_s (T := T) (N := N) (sg := gEx T N 6 (trX T N (lvI T N x0) sg)) (d := d + 4) (l := l) (D := D) (b0 := b0) (ad := ad) (Hb := Hb) (tau := tau) hx14 hG14 (show 0 ≤ x0 ∧ x0 ≤ 6 by omega) (show Z14 3 0 = 2 by first | omega | (simp only [eq23, eq24, eq25]; omega)) (show (Z14 3 3 ≤ Z14 3 2 ∧ Z14 3 2 ≤ Z14 3 1 ∧ (Z14 3 4 = 0 ∨ Z14 3 4 = 3 ∨ Z14 3 3 < Z14 3 2) ∧ (Z14 3 4 = 3 ∨ Z14 3 14 = 0)) by first | omega | (simp only [eq23, eq24, eq25]; omega)) (show Z14 3 7 ≤ Z14 3 3 by first | omega | (simp only [eq23, eq24, eq25]; omega)) br14 IH (by omega)
    try rw [eq23] at b22
    try rw [eq24] at b22
    try rw [eq25] at b22
    obtain ⟨br22, b22⟩ := b22
    have b26 : 0 ≤ Z22 3 2 ∧ Z22 3 2 ≤ 900 := hG22.pr 3 2
    have b27 : 0 ≤ Z22 3 3 ∧ Z22 3 3 ≤ 900 := hG22.pr 3 3
    have b28 : 0 ≤ Z22 3 4 ∧ Z22 3 4 ≤ 400 := hG22.pr 3 4
    have b29 : 0 ≤ Z22 3 7 ∧ Z22 3 7 ≤ 900 := hG22.pr 3 7
    have b30 : 0 ≤ Z22 3 14 ∧ Z22 3 14 ≤ 4 := hG22.pr 3 14
    refine Jcv0 hx14 (show mx_Sn _ _ 14 (mx_callv 42 2 7 17) from sn_46 14) a3 s3 hc22 rfl rfl rfl ?_
    refine mx_J.step (sn_46 17) (fun _ _ => rfl) ?_
    refine JcI (z := 307) (show mx_Sn _ _ 18 (mx_const (.int 307) 21) from sn_46 18) rfl ?_
    have eq32 : Z22 3 0 = Z 3 0 := ((hf22 3 0 rfl).trans ((hf14 3 0 rfl).trans (hf1 3 0 rfl)))
    have eq33 : Z22 3 1 = Z 3 1 := ((hf22 3 1 rfl).trans ((hf14 3 1 rfl).trans (hf1 3 1 rfl)))
    obtain ⟨Z31, h31, hc31, hx31, hG31, hf31, b31⟩ := ct_53_3_i307 (T := T) (N := N) (sg := smX T N (lvI T N x0) (gEx T N 6 (trX T N (lvI T N x0) sg))) (d := d + 7) (l := l) (D := D) (b0 := b0) (ad := ad) (Hb := Hb) (tau := tau) hx22 hG22  (show Z22 3 0 = 2 by first | omega | (simp only [eq32, eq33]; omega)) (show (Z22 3 3 ≤ Z22 3 2 ∧ Z22 3 2 ≤ Z22 3 1 ∧ (Z22 3 4 = 0 ∨ Z22 3 4 = 3 ∨ Z22 3 3 < Z22 3 2) ∧ (Z22 3 4 = 3 ∨ Z22 3 14 = 0)) by first | omega | (simp only [eq32, eq33]; omega)) br22
    try rw [eq32] at b31
    try rw [eq33] at b31
    obtain ⟨br31, b31⟩ := b31
    have b34 : 0 ≤ Z31 3 2 ∧ Z31 3 2 ≤ 900 := hG31.pr 3 2
    have b35 : 0 ≤ Z31 3 3 ∧ Z31 3 3 ≤ 900 := hG31.pr 3 3
    have b36 : 0 ≤ Z31 3 4 ∧ Z31 3 4 ≤ 400 := hG31.pr 3 4
    have eq37 : Z31 3 7 = Z22 3 7 := (hf31 3 7 rfl)
    have b38 : 0 ≤ Z31 3 14 ∧ Z31 3 14 ≤ 4 := hG31.pr 3 14
    refine Jcv0 hx22 (show mx_Sn _ _ 21 (mx_callv 53 2 7 24) from sn_46 21) a3 s3 hc31 rfl rfl rfl ?_
    refine mx_J.step (sn_46 24) (fun _ _ => rfl) ?_
    refine mx_J.step (sn_46 25) (fun _ _ => rfl) ?_
    have eq40 : Z31 3 0 = Z 3 0 := ((hf31 3 0 rfl).trans ((hf22 3 0 rfl).trans ((hf14 3 0 rfl).trans (hf1 3 0 rfl))))
    have eq41 : Z31 3 1 = Z 3 1 := ((hf31 3 1 rfl).trans ((hf22 3 1 rfl).trans ((hf14 3 1 rfl).trans (hf1 3 1 rfl))))
    have eq42 : Z31 3 7 = Z22 3 7 := (hf31 3 7 rfl)
    obtain ⟨Z39, h39, hc39, hx39, hG39, hf39, b39⟩ := ct_42_3_s (T := T) (N := N) (sg := gEx T N 7 (smX T N (lvI T N x0) (gEx T N 6 (trX T N (lvI T N x0) sg)))) (d := d + 4) (l := l) (D := D) (b0 := b0) (ad := ad) (Hb := Hb) (tau := tau) hx31 hG31 (show 0 ≤ x0 ∧ x0 ≤ 6 by omega) (show Z31 3 0 = 2 by first | omega | (simp only [eq40, eq41, eq42]; omega)) (show (Z31 3 3 ≤ Z31 3 2 ∧ Z31 3 2 ≤ Z31 3 1 ∧ (Z31 3 4 = 0 ∨ Z31 3 4 = 3 ∨ Z31 3 3 < Z31 3 2) ∧ (Z31 3 4 = 3 ∨ Z31 3 14 = 0)) by first | omega | (simp only [eq40, eq41, eq42]; omega)) (show Z31 3 7 ≤ Z31 3 3 by first | omega | (simp only [eq40, eq41, eq42]; omega)) br31 IH (by omega)
    try rw [eq40] at b39
    try rw [eq41] at b39
    try rw [eq42] at b39
    obtain ⟨br39, b39⟩ := b39
    have b43 : 0 ≤ Z39 3 2 ∧ Z39 3 2 ≤ 900 := hG39.pr 3 2
    have b44 : 0 ≤ Z39 3 3 ∧ Z39 3 3 ≤ 900 := hG39.pr 3 3
    have b45 : 0 ≤ Z39 3 4 ∧ Z39 3 4 ≤ 400 := hG39.pr 3 4
    have b46 : 0 ≤ Z39 3 7 ∧ Z39 3 7 ≤ 900 := hG39.pr 3 7
    have b47 : 0 ≤ Z39 3 14 ∧ Z39 3 14 ≤ 4 := hG39.pr 3 14
    refine Jcv0 hx31 (show mx_Sn _ _ 26 (mx_callv 42 2 7 29) from sn_46 26) a3 s3 hc39 rfl rfl rfl ?_
    refine mx_J.step (sn_46 29) (fun _ _ => rfl) ?_
    refine JcI (z := 308) (show mx_Sn _ _ 30 (mx_const (.int 308) 33) from sn_46 30) rfl ?_
    have eq49 : Z39 3 0 = Z 3 0 := ((hf39 3 0 rfl).trans ((hf31 3 0 rfl).trans ((hf22 3 0 rfl).trans ((hf14 3 0 rfl).trans (hf1 3 0 rfl)))))
    have eq50 : Z39 3 1 = Z 3 1 := ((hf39 3 1 rfl).trans ((hf31 3 1 rfl).trans ((hf22 3 1 rfl).trans ((hf14 3 1 rfl).trans (hf1 3 1 rfl)))))
    obtain ⟨Z48, h48, hc48, hx48, hG48, hf48, b48⟩ := ct_53_3_i308 (T := T) (N := N) (sg := smX T N (lvI T N x0) (gEx T N 7 (smX T N (lvI T N x0) (gEx T N 6 (trX T N (lvI T N x0) sg))))) (d := d + 7) (l := l) (D := D) (b0 := b0) (ad := ad) (Hb := Hb) (tau := tau) hx39 hG39  (show Z39 3 0 = 2 by first | omega | (simp only [eq49, eq50]; omega)) (show (Z39 3 3 ≤ Z39 3 2 ∧ Z39 3 2 ≤ Z39 3 1 ∧ (Z39 3 4 = 0 ∨ Z39 3 4 = 3 ∨ Z39 3 3 < Z39 3 2) ∧ (Z39 3 4 = 3 ∨ Z39 3 14 = 0)) by first | omega | (simp only [eq49, eq50]; omega)) br39
    try rw [eq49] at b48
    try rw [eq50] at b48
    obtain ⟨br48, b48⟩ := b48
    have b51 : 0 ≤ Z48 3 2 ∧ Z48 3 2 ≤ 900 := hG48.pr 3 2
    have b52 : 0 ≤ Z48 3 3 ∧ Z48 3 3 ≤ 900 := hG48.pr 3 3
    have b53 : 0 ≤ Z48 3 4 ∧ Z48 3 4 ≤ 400 := hG48.pr 3 4
    have eq54 : Z48 3 7 = Z39 3 7 := (hf48 3 7 rfl)
    have b55 : 0 ≤ Z48 3 14 ∧ Z48 3 14 ≤ 4 := hG48.pr 3 14
    refine Jcv0 hx39 (show mx_Sn _ _ 33 (mx_callv 53 2 7 36) from sn_46 33) a3 s3 hc48 rfl rfl rfl ?_
    refine mx_J.step (sn_46 36) (fun _ _ => rfl) ?_
    refine JcI (z := 1019) (show mx_Sn _ _ 37 (mx_const (.int 1019) 40) from sn_46 37) rfl ?_
    have eq57 : Z48 3 7 = Z39 3 7 := (hf48 3 7 rfl)
    obtain ⟨Z56, h56, hc56, hx56, hG56, hf56, b56⟩ := ct_52_3_1010 (T := T) (N := N) (sg := gEx T N 8 (smX T N (lvI T N x0) (gEx T N 7 (smX T N (lvI T N x0) (gEx T N 6 (trX T N (lvI T N x0) sg)))))) (d := d + 13) (l := l) (D := D) (b0 := b0) (ad := ad) (Hb := Hb) (tau := tau) hx48 hG48 (show 1010 ≤ 1019 ∧ 1019 ≤ 1019 by omega) (show (Z48 3 4 = 3 ∨ Z48 3 7 ≤ 899) by first | omega | (simp only [eq57]; omega)) br48
    try rw [eq57] at b56
    obtain ⟨br56, b56⟩ := b56
    have b58 : 0 ≤ Z56 3 7 ∧ Z56 3 7 ≤ 900 := hG56.pr 3 7
    refine Jcv0 hx48 (show mx_Sn _ _ 40 (mx_callv 52 2 7 43) from sn_46 40) a3 s3 hc56 rfl rfl rfl ?_
    have eq59 : Z56 3 2 = Z48 3 2 := (hf56 3 2 rfl)
    have eq60 : Z56 3 3 = Z48 3 3 := (hf56 3 3 rfl)
    have eq61 : Z56 3 4 = Z48 3 4 := (hf56 3 4 rfl)
    have eq62 : Z56 3 14 = Z48 3 14 := (hf56 3 14 rfl)
    have eq63 : Z56 3 0 = Z 3 0 := ((hf56 3 0 rfl).trans ((hf48 3 0 rfl).trans ((hf39 3 0 rfl).trans ((hf31 3 0 rfl).trans ((hf22 3 0 rfl).trans ((hf14 3 0 rfl).trans (hf1 3 0 rfl)))))))
    have eq64 : Z56 3 1 = Z 3 1 := ((hf56 3 1 rfl).trans ((hf48 3 1 rfl).trans ((hf39 3 1 rfl).trans ((hf31 3 1 rfl).trans ((hf22 3 1 rfl).trans ((hf14 3 1 rfl).trans (hf1 3 1 rfl)))))))
    have eq65 : Z56 3 2 = Z48 3 2 := (hf56 3 2 rfl)
    have eq66 : Z56 3 3 = Z48 3 3 := (hf56 3 3 rfl)
    have eq67 : Z56 3 4 = Z48 3 4 := (hf56 3 4 rfl)
    have eq68 : Z56 3 14 = Z48 3 14 := (hf56 3 14 rfl)
    exact mx_J.ret (sn_46 43) (fun _ _ => rfl) (hP Z56 h56 hx56 hG56 (fr_tr (M := [(3, 2), (3, 3), (3, 4), (3, 5), (3, 7), (3, 14), (3, 15), (5, (-1))]) (fr_tr (M := [(3, 2), (3, 3), (3, 4), (3, 5), (3, 7), (3, 14), (3, 15), (5, (-1))]) (fr_tr (M := [(3, 2), (3, 3), (3, 4), (3, 5), (3, 7), (3, 14), (3, 15), (5, (-1))]) (fr_tr (M := [(3, 2), (3, 3), (3, 4), (3, 5), (3, 7), (3, 14), (3, 15), (5, (-1))]) (fr_tr (M := [(3, 2), (3, 3), (3, 4), (3, 5), (3, 7), (3, 14), (3, 15), (5, (-1))]) (fr_tr (M := [(3, 2), (3, 3), (3, 4), (3, 5), (3, 7), (3, 14), (3, 15), (5, (-1))]) (fr_tr (M := [(3, 2), (3, 3), (3, 4), (3, 5), (3, 7), (3, 14), (3, 15), (5, (-1))]) fr_rf (hf1) (M1 := []) rfl rfl) (hf14) rfl rfl) (hf22) rfl rfl) (hf31) rfl rfl) (hf39) rfl rfl) (hf48) rfl rfl) (hf56) rfl rfl) ⟨(RC_e br56 (rfl)), by omega⟩)
theorem ct_46_3_s {l : Launch} {D : va_G} {b0 : Nat} {ad : Nat → Nat} {Hb : Heap} {tau : Nat → Int64} {d n s : Nat} {S : Nat → xS} {Z : xZ} {h : mx_H} {T : Int → Int} {N : Int} {sg : SS} (hx : XH n s S Z h) (hG : GI n S Z)  {x0 : Int} (p0 : 0 ≤ x0 ∧ x0 ≤ 6) (k0 : Z 3 0 = 2) (k1 : (Z 3 3 ≤ Z 3 2 ∧ Z 3 2 ≤ Z 3 1 ∧ (Z 3 4 = 0 ∨ Z 3 4 = 3 ∨ Z 3 3 < Z 3 2) ∧ (Z 3 4 = 3 ∨ Z 3 14 = 0))) (k2 : Z 3 7 ≤ Z 3 3) (hr : RC T N Z sg) {kk : Nat} (IH : RBdh l D b0 ad Hb tau kk x0) (hd : kk ≤ d) : ∃ (Z' : xZ) (h' : mx_H), mx_Ca (tB l D b0 ad Hb tau) (d + 15) 46 [.ref 3, xI x0] h (none, h') ∧ XH n s S Z' h' ∧ GI n S Z' ∧ fr' [(3, 2), (3, 3), (3, 4), (3, 5), (3, 7), (3, 14), (3, 15), (5, (-1))] Z Z' ∧ (RC T N Z' (chX T N (lvT T N x0) sg) ∧ ((Z' 3 3 ≤ Z' 3 2 ∧ Z' 3 2 ≤ Z 3 1 ∧ (Z' 3 4 = 0 ∨ Z' 3 4 = 3 ∨ Z' 3 3 < Z' 3 2) ∧ (Z' 3 4 = 3 ∨ Z' 3 14 = 0)) ∧ Z 3 3 ≤ Z' 3 3 ∧ Z' 3 7 - Z 3 7 ≤ Z' 3 3 - Z 3 3 + 1 ∧ (Z 3 4 = 3 → Z' 3 4 = 3))) := by
  obtain ⟨r, hca, Z', h', e, q⟩ := Jmt (B := tB l D b0 ad Hb tau) (M := mt_46) (mi := 46) (as := [.ref 3, xI x0]) (d := d + 14) (ls := [some (.ref 3), some (xI x0)]) rfl rfl rfl rfl rfl rfl (cw_46_3_s (l := l) (D := D) (b0 := b0) (ad := ad) (Hb := Hb) (tau := tau) (d := d) (Post := fun r => ∃ (Z' : xZ) (h' : mx_H), r = (none, h') ∧ XH n s S Z' h' ∧ GI n S Z' ∧ fr' [(3, 2), (3, 3), (3, 4), (3, 5), (3, 7), (3, 14), (3, 15), (5, (-1))] Z Z' ∧ (RC T N Z' (chX T N (lvT T N x0) sg) ∧ ((Z' 3 3 ≤ Z' 3 2 ∧ Z' 3 2 ≤ Z 3 1 ∧ (Z' 3 4 = 0 ∨ Z' 3 4 = 3 ∨ Z' 3 3 < Z' 3 2) ∧ (Z' 3 4 = 3 ∨ Z' 3 14 = 0)) ∧ Z 3 3 ≤ Z' 3 3 ∧ Z' 3 7 - Z 3 7 ≤ Z' 3 3 - Z 3 3 + 1 ∧ (Z 3 4 = 3 → Z' 3 4 = 3)))) hx hG p0 k0 k1 k2 hr IH hd (fun Z' h' q1 q2 q3 q4 => ⟨Z', h', rfl, q1, q2, q3, q4⟩))
  subst e; exact ⟨Z', h', hca, q⟩
theorem lev_d {l : Launch} {D : va_G} {b0 : Nat} {ad : Nat → Nat} {Hb : Heap} {tau : Nat → Int64} {x0 : Int} (p0 : 0 ≤ x0 ∧ x0 ≤ 6) {kk : Nat} (IH : RBdh l D b0 ad Hb tau kk x0) : RBd l D b0 ad Hb tau (kk + 15) x0 := by
  refine ⟨?_, ?_, ?_, ?_⟩
  · intro T N sg d n s S Z h hd hx hG k0 k1 k2 hr
    obtain ⟨e, rfl⟩ : ∃ e, d = e + 10 := ⟨d - 10, by omega⟩
    obtain ⟨Z', h', hca, q1, q2, q3, q4⟩ := ct_42_3_s (T := T) (N := N) (sg := sg) (d := e) (l := l) (D := D) (b0 := b0) (ad := ad) (Hb := Hb) (tau := tau) hx hG p0 k0 k1 k2 hr IH (by omega)
    exact ⟨Z', h', hca, q1, q2, fr_tr (M1 := []) fr_rf q3 rfl rfl, q4⟩
  · intro T N sg d n s S Z h hd hx hG k0 k1 k2 hr
    obtain ⟨e, rfl⟩ : ∃ e, d = e + 15 := ⟨d - 15, by omega⟩
    obtain ⟨Z', h', hca, q1, q2, q3, q4⟩ := ct_46_3_s (T := T) (N := N) (sg := sg) (d := e) (l := l) (D := D) (b0 := b0) (ad := ad) (Hb := Hb) (tau := tau) hx hG p0 k0 k1 k2 hr IH (by omega)
    exact ⟨Z', h', hca, q1, q2, fr_tr (M1 := []) fr_rf q3 rfl rfl, q4⟩
  · intro T N sg d n s S Z h hd hx hG k0 k1 k2 hr
    obtain ⟨e, rfl⟩ : ∃ e, d = e + 12 := ⟨d - 12, by omega⟩
    obtain ⟨Z', h', hca, q1, q2, q3, q4⟩ := ct_49_3_s (T := T) (N := N) (sg := sg) (d := e) (l := l) (D := D) (b0 := b0) (ad := ad) (Hb := Hb) (tau := tau) hx hG p0 k0 k1 k2 hr IH (by omega)
    exact ⟨Z', h', hca, q1, q2, fr_tr (M1 := []) fr_rf q3 rfl rfl, q4⟩
  · intro T N sg d n s S Z h hd hx hG k0 k1 k2 hr
    obtain ⟨e, rfl⟩ : ∃ e, d = e + 14 := ⟨d - 14, by omega⟩
    obtain ⟨Z', h', hca, q1, q2, q3, q4⟩ := ct_47_3_s (T := T) (N := N) (sg := sg) (d := e) (l := l) (D := D) (b0 := b0) (ad := ad) (Hb := Hb) (tau := tau) hx hG p0 k0 k1 k2 hr IH (by omega)
    exact ⟨Z', h', hca, q1, q2, fr_tr (M1 := []) fr_rf q3 rfl rfl, q4⟩
theorem all_d {l : Launch} {D : va_G} {b0 : Nat} {ad : Nat → Nat} {Hb : Heap} {tau : Nat → Int64} : ∀ (e : Nat) (x0 : Int), x0 = 6 - (e : Int) → 0 ≤ x0 → RBd l D b0 ad Hb tau (15 * (e + 1)) x0
  | 0, x0, h, h0 => (show RBd l D b0 ad Hb tau (0 + 15) x0 from lev_d (kk := 0) (by omega) (fun q => absurd q (by omega)))
  | e + 1, x0, h, h0 => (show RBd l D b0 ad Hb tau (15 * (e + 1) + 15) x0 from lev_d (kk := 15 * (e + 1)) (by omega) (fun _ => all_d e (x0 + 1) (by omega) (by omega)))
theorem ct_42_3_i0r {l : Launch} {D : va_G} {b0 : Nat} {ad : Nat → Nat} {Hb : Heap} {tau : Nat → Int64} {T : Int → Int} {N : Int} {sg : SS} {d n s : Nat} {S : Nat → xS} {Z : xZ} {h : mx_H} (hx : XH n s S Z h) (hG : GI n S Z) (k0 : Z 3 0 = 2) (k1 : (Z 3 3 ≤ Z 3 2 ∧ Z 3 2 ≤ Z 3 1 ∧ (Z 3 4 = 0 ∨ Z 3 4 = 3 ∨ Z 3 3 < Z 3 2) ∧ (Z 3 4 = 3 ∨ Z 3 14 = 0))) (k2 : Z 3 7 ≤ Z 3 3) (hr : RC T N Z (sg)) : ∃ (Z' : xZ) (h' : mx_H), mx_Ca (tB l D b0 ad Hb tau) (d + 105) 42 [.ref 3, xI 0] h (none, h') ∧ XH n s S Z' h' ∧ GI n S Z' ∧ fr' [(3, 2), (3, 3), (3, 4), (3, 5), (3, 7), (3, 14), (3, 15), (5, (-1))] Z Z' ∧ (RC T N Z' (smX T N (lvI T N 0) sg) ∧ ((Z' 3 3 ≤ Z' 3 2 ∧ Z' 3 2 ≤ Z 3 1 ∧ (Z' 3 4 = 0 ∨ Z' 3 4 = 3 ∨ Z' 3 3 < Z' 3 2) ∧ (Z' 3 4 = 3 ∨ Z' 3 14 = 0)) ∧ Z 3 3 ≤ Z' 3 3 ∧ Z' 3 7 - Z 3 7 ≤ Z' 3 3 - Z 3 3 ∧ (Z' 3 4 = 3 ∨ Z 3 3 + 1 ≤ Z' 3 3) ∧ (Z 3 4 = 3 → Z' 3 4 = 3))) := (all_d 6 0 (by decide) (by decide)).1 T N sg (d + 105) n s S Z h (by omega) hx hG k0 k1 k2 hr
theorem ct_47_3_i0r {l : Launch} {D : va_G} {b0 : Nat} {ad : Nat → Nat} {Hb : Heap} {tau : Nat → Int64} {T : Int → Int} {N : Int} {sg : SS} {d n s : Nat} {S : Nat → xS} {Z : xZ} {h : mx_H} (hx : XH n s S Z h) (hG : GI n S Z) (k0 : Z 3 0 = 2) (k1 : (Z 3 3 ≤ Z 3 2 ∧ Z 3 2 ≤ Z 3 1 ∧ (Z 3 4 = 0 ∨ Z 3 4 = 3 ∨ Z 3 3 < Z 3 2) ∧ (Z 3 4 = 3 ∨ Z 3 14 = 0))) (k2 : Z 3 7 ≤ Z 3 3) (hr : RC T N Z (sg)) : ∃ (Z' : xZ) (h' : mx_H), mx_Ca (tB l D b0 ad Hb tau) (d + 105) 47 [.ref 3, xI 0] h (none, h') ∧ XH n s S Z' h' ∧ GI n S Z' ∧ fr' [(3, 2), (3, 3), (3, 4), (3, 5), (3, 7), (3, 14), (3, 15), (5, (-1))] Z Z' ∧ (RC T N Z' (trX T N (lvI T N 0) sg) ∧ ((Z' 3 3 ≤ Z' 3 2 ∧ Z' 3 2 ≤ Z 3 1 ∧ (Z' 3 4 = 0 ∨ Z' 3 4 = 3 ∨ Z' 3 3 < Z' 3 2) ∧ (Z' 3 4 = 3 ∨ Z' 3 14 = 0)) ∧ Z 3 3 ≤ Z' 3 3 ∧ Z' 3 7 - Z 3 7 ≤ Z' 3 3 - Z 3 3 ∧ (Z' 3 4 = 3 ∨ Z 3 3 + 1 ≤ Z' 3 3) ∧ (Z 3 4 = 3 → Z' 3 4 = 3))) := (all_d 6 0 (by decide) (by decide)).2.2.2 T N sg (d + 105) n s S Z h (by omega) hx hG k0 k1 k2 hr
set_option maxHeartbeats 8000000 in
set_option maxRecDepth 100000 in
theorem cw_40_3 {l : Launch} {D : va_G} {b0 : Nat} {ad : Nat → Nat} {Hb : Heap} {tau : Nat → Int64} {d n s : Nat} {S : Nat → xS} {Z : xZ} {h : mx_H} {Post : mx_R → Prop} {T : Int → Int} {N : Int} {sg : SS} (hx : XH n s S Z h) (hG : GI n S Z)   (k0 : Z 3 0 = 2) (k1 : (Z 3 3 ≤ Z 3 2 ∧ Z 3 2 ≤ Z 3 1 ∧ (Z 3 4 = 0 ∨ Z 3 4 = 3 ∨ Z 3 3 < Z 3 2) ∧ (Z 3 4 = 3 ∨ Z 3 14 = 0))) (k2 : ¬ Z 3 4 = 0) (k3 : ¬ Z 3 4 = 3) (k4 : ((n : Nat) : Int) ≤ 4095) (k5 : ai 6 Z 19 0 (Z 3 12) = 1) (hr : RC T N Z sg) (hP : ∀ (n' s' : Nat) (S' : Nat → xS) (Z' : xZ) (h' : mx_H), XH n' s' S' Z' h' → GI n' S' Z' → fr8 [(3, 2), (3, 3), (3, 4), (3, 5), (3, 7), (3, 8), (3, 9), (3, 12), (3, 14), (3, 15), (5, (-1)), (6, (-1))] Z Z' → RC T N Z' (lnS T N sg (Z 3 12)) ∧ LY T N sg (Z 3 12) (Z' 3 12) ∧ ((Z' 3 3 ≤ Z' 3 2 ∧ Z' 3 2 ≤ Z 3 1 ∧ (Z' 3 4 = 0 ∨ Z' 3 4 = 3 ∨ Z' 3 3 < Z' 3 2) ∧ (Z' 3 4 = 3 ∨ Z' 3 14 = 0)) ∧ Z 3 3 ≤ Z' 3 3 ∧ ((n : Nat) : Int) ≤ ((n' : Nat) : Int) ∧ ((s : Nat) : Int) ≤ ((s' : Nat) : Int) ∧ ((s' : Nat) : Int) ≤ ((s : Nat) : Int) + 900 * (((n' : Nat) : Int) - ((n : Nat) : Int)) ∧ ((n' : Nat) : Int) ≤ ((n : Nat) : Int) + 1 ∧ (Z' 3 4 = 3 ∨ 3 * (((n' : Nat) : Int) - ((n : Nat) : Int)) ≤ Z' 3 3 - Z 3 3) ∧ ai 6 Z' 19 0 (Z' 3 12 + 1) = 1 ∧ (Z' 3 4 = 3 ∨ ai 6 Z' 19 0 (Z' 3 12) = 1)) → Post (none, h')) : mx_J (tB l D b0 ad Hb tau) mt_40 (d + 105) 0 [some (.ref 3), none] [] h Post := by
    refine mx_J.step (sn_40 0) (fun _ _ => rfl) ?_
    have b2 : 0 ≤ Z 3 4 ∧ Z 3 4 ≤ 400 := hG.pr 3 4
    refine JgetI (g := 4) (z := Z 3 4) hx (show mx_Sn _ _ 1 (mx_getf 7 4 4) from sn_40 1) (lt83 (GI_n hG) rfl) (show S 3 = .inl (7, [2, 0, 0, 0, 0, 0, 2, 0, 2, 2, 0, 2, 0, 0, 0, 0]) from GI_s hG 3 rfl) rfl rfl rfl ?_
    refine JcI (z := 302) (show mx_Sn _ _ 4 (mx_const (.int 302) 7) from sn_40 4) rfl ?_
    have c129 : ∀ (u3_1 : Option Value) (n4 s4 : Nat) (S4 : Nat → xS) (Z4 : xZ) (h4 : mx_H), ((Z4 3 3 ≤ Z4 3 2 ∧ Z4 3 2 ≤ Z 3 1 ∧ (Z4 3 4 = 0 ∨ Z4 3 4 = 3 ∨ Z4 3 3 < Z4 3 2) ∧ (Z4 3 4 = 3 ∨ Z4 3 14 = 0)) ∧ Z 3 3 ≤ Z4 3 3) → (((n : Nat) : Int) ≤ ((n4 : Nat) : Int) ∧ ((s : Nat) : Int) ≤ ((s4 : Nat) : Int) ∧ ((s4 : Nat) : Int) ≤ ((s : Nat) : Int) + 900 * (((n4 : Nat) : Int) - ((n : Nat) : Int)) ∧ ((n4 : Nat) : Int) ≤ ((n : Nat) : Int) + 1) → (Z4 3 4 = 3 ∨ 3 * (((n4 : Nat) : Int) - ((n : Nat) : Int)) ≤ Z4 3 3 - Z 3 3) → (ai 6 Z4 19 0 (Z4 3 12 + 1) = 1) → (Z4 3 4 = 3 ∨ ai 6 Z4 19 0 (Z4 3 12) = 1) → RC T N Z4 (lnS T N sg (Z 3 12)) → LY T N sg (Z 3 12) (Z4 3 12) → XH n4 s4 S4 Z4 h4 → GI n4 S4 Z4 → fr8 [(3, 2), (3, 3), (3, 4), (3, 5), (3, 7), (3, 8), (3, 9), (3, 12), (3, 14), (3, 15), (5, (-1)), (6, (-1))] Z Z4 → mx_J (tB l D b0 ad Hb tau) mt_40 (d + 105) 129 [some (.ref 3), u3_1] [] h4 Post := by
      intro u3_1 n4 s4 S4 Z4 h4 f3_0 f3_1 f3_2 f3_3 f3_4 f3_5 f3_6 hx4 hG4 hf4
      have eq5 : Z4 3 0 = Z 3 0 := (hf4 3 0 rfl rfl)
      have b6 : 2 ≤ Z 3 0 ∧ Z 3 0 ≤ 4 := hG.pr 3 0
      have b7 : 0 ≤ Z4 3 2 ∧ Z4 3 2 ≤ 900 := hG4.pr 3 2
      have b8 : 0 ≤ Z4 3 3 ∧ Z4 3 3 ≤ 900 := hG4.pr 3 3
      have b9 : 0 ≤ Z4 3 4 ∧ Z4 3 4 ≤ 400 := hG4.pr 3 4
      have b10 : 0 ≤ Z4 3 7 ∧ Z4 3 7 ≤ 900 := hG4.pr 3 7
      have b11 : 0 ≤ Z4 3 14 ∧ Z4 3 14 ≤ 4 := hG4.pr 3 14
      have b12 : 0 ≤ Z4 3 12 ∧ Z4 3 12 ≤ 18 := hG4.pr 3 12
      have eq13 : Z4 3 0 = Z 3 0 := (hf4 3 0 rfl rfl)
      have eq14 : Z4 3 1 = Z 3 1 := (hf4 3 1 rfl rfl)
      have b15 : 0 ≤ Z 3 1 ∧ Z 3 1 ≤ 900 := hG.pr 3 1
      exact mx_J.ret (sn_40 129) (fun _ _ => rfl) (hP n4 s4 S4 Z4 h4 hx4 hG4 (fr8_tr (M := [(3, 2), (3, 3), (3, 4), (3, 5), (3, 7), (3, 8), (3, 9), (3, 12), (3, 14), (3, 15), (5, (-1)), (6, (-1))]) fr8_rf (hf4) (M1 := []) rfl rfl) ⟨f3_5, (by assumption), by omega⟩)
    refine Jicmp_ne (show mx_Sn _ _ 7 (mx_icmp_ne 50 10) from sn_40 7) (by omega) (by omega) (fun q16 => ?_) (fun q16 => ?_)
    · skip
      refine mx_J.step (sn_40 50) (fun _ _ => rfl) ?_
      refine JgetI (g := 4) (z := Z 3 4) hx (show mx_Sn _ _ 51 (mx_getf 7 4 54) from sn_40 51) (lt83 (GI_n hG) rfl) (show S 3 = .inl (7, [2, 0, 0, 0, 0, 0, 2, 0, 2, 2, 0, 2, 0, 0, 0, 0]) from GI_s hG 3 rfl) rfl rfl rfl ?_
      refine JcI (z := 303) (show mx_Sn _ _ 54 (mx_const (.int 303) 57) from sn_40 54) rfl ?_
      refine Jicmp_ne (show mx_Sn _ _ 57 (mx_icmp_ne 87 60) from sn_40 57) (by omega) (by omega) (fun q18 => ?_) (fun q18 => ?_)
      · skip
        refine mx_J.step (sn_40 87) (fun _ _ => rfl) ?_
        refine JgetI (g := 4) (z := Z 3 4) hx (show mx_Sn _ _ 88 (mx_getf 7 4 91) from sn_40 88) (lt83 (GI_n hG) rfl) (show S 3 = .inl (7, [2, 0, 0, 0, 0, 0, 2, 0, 2, 2, 0, 2, 0, 0, 0, 0]) from GI_s hG 3 rfl) rfl rfl rfl ?_
        refine JcI (z := 304) (show mx_Sn _ _ 91 (mx_const (.int 304) 94) from sn_40 91) rfl ?_
        refine Jicmp_ne (show mx_Sn _ _ 94 (mx_icmp_ne 124 97) from sn_40 94) (by omega) (by omega) (fun q20 => ?_) (fun q20 => ?_)
        · skip
          refine mx_J.step (sn_40 124) (fun _ _ => rfl) ?_
          refine JcI (z := 2) (show mx_Sn _ _ 125 (mx_const (.int 2) 126) from sn_40 125) rfl ?_
          obtain ⟨Z21, h21, hc21, hx21, hG21, hf21, b21⟩ := ct_55_3 (T := T) (N := N) (sg := sg) (d := d + 104) (l := l) (D := D) (b0 := b0) (ad := ad) (Hb := Hb) (tau := tau) hx hG (show 2 ≤ 2 ∧ 2 ≤ 4 by omega) hr
          obtain ⟨br21, b21⟩ := b21
          have b22 : 0 ≤ Z21 3 4 ∧ Z21 3 4 ≤ 400 := hG21.pr 3 4
          refine Jcv0 hx (show mx_Sn _ _ 126 (mx_callv 55 2 7 129) from sn_40 126) (lt83 (GI_n hG) rfl) (show S 3 = .inl (7, [2, 0, 0, 0, 0, 0, 2, 0, 2, 2, 0, 2, 0, 0, 0, 0]) from GI_s hG 3 rfl) hc21 rfl rfl rfl ?_
          have eq23 : Z21 3 12 = Z 3 12 := (hf21 3 12 rfl)
          have b24 : 0 ≤ Z 3 12 ∧ Z 3 12 ≤ 18 := hG.pr 3 12
          have eq25 : (ai 6) Z21 19 0 (Z21 3 12) = (ai 6) Z 19 0 (Z 3 12) := by rw [(show Z21 3 12 = Z 3 12 from (hf21 3 12 rfl))]; exact (ai_c (fun i => hf21 6 i rfl))
          have eq26 : (ai 6) Z21 19 0 (Z 3 12) = (ai 6) Z 19 0 (Z 3 12) := (ai_c (fun i => hf21 6 i rfl))
          have eq27 : (ai 6) Z21 19 0 ((Z21 3 12) + 1) = (ai 6) Z 19 0 ((Z 3 12) + 1) := by rw [(show Z21 3 12 = Z 3 12 from (hf21 3 12 rfl))]; exact (ai_c (fun i => hf21 6 i rfl))
          have eq28 : (ai 6) Z21 19 0 ((Z 3 12) + 1) = (ai 6) Z 19 0 ((Z 3 12) + 1) := (ai_c (fun i => hf21 6 i rfl))
          have m621 := ai_m (c := 6) (Z := Z21) (len := 19) (lo := 0) (len2 := 19) (lo2 := 0) (hi := (Z 3 12)) (hi2 := (Z 3 12) + 1) (by omega) (by omega) (by omega) (by omega)
          have eq29 : Z21 3 0 = Z 3 0 := (hf21 3 0 rfl)
          have b30 : 2 ≤ Z 3 0 ∧ Z 3 0 ≤ 4 := hG.pr 3 0
          have eq31 : Z21 3 2 = Z 3 2 := (hf21 3 2 rfl)
          have b32 : 0 ≤ Z 3 2 ∧ Z 3 2 ≤ 900 := hG.pr 3 2
          have eq33 : Z21 3 3 = Z 3 3 := (hf21 3 3 rfl)
          have b34 : 0 ≤ Z 3 3 ∧ Z 3 3 ≤ 900 := hG.pr 3 3
          have eq35 : Z21 3 7 = Z 3 7 := (hf21 3 7 rfl)
          have b36 : 0 ≤ Z 3 7 ∧ Z 3 7 ≤ 900 := hG.pr 3 7
          have b37 : 0 ≤ Z21 3 14 ∧ Z21 3 14 ≤ 4 := hG21.pr 3 14
          have eq38 : Z21 3 3 = Z 3 3 := (hf21 3 3 rfl)
          have eq39 : Z21 3 12 = Z 3 12 := (hf21 3 12 rfl)
          have eq40 : (ai 6) Z21 19 0 ((Z21 3 12) + 1) = (ai 6) Z 19 0 ((Z 3 12) + 1) := by rw [(show Z21 3 12 = Z 3 12 from (hf21 3 12 rfl))]; exact (ai_c (fun i => hf21 6 i rfl))
          have eq41 : (ai 6) Z21 19 0 ((Z 3 12) + 1) = (ai 6) Z 19 0 ((Z 3 12) + 1) := (ai_c (fun i => hf21 6 i rfl))
          have eq42 : Z21 3 12 = Z 3 12 := (hf21 3 12 rfl)
          have eq43 : (ai 6) Z21 19 0 (Z21 3 12) = (ai 6) Z 19 0 (Z 3 12) := by rw [(show Z21 3 12 = Z 3 12 from (hf21 3 12 rfl))]; exact (ai_c (fun i => hf21 6 i rfl))
          have eq44 : (ai 6) Z21 19 0 (Z 3 12) = (ai 6) Z 19 0 (Z 3 12) := (ai_c (fun i => hf21 6 i rfl))
          exact c129 none n s S Z21 h21 (by omega) (by omega) (by omega) (by omega) (by omega) (RC_e br21 (ln_n (RC_n (k := 2) (v := 302) hr (by unfold tKk; omega) rfl (by omega)) (RC_n (k := 3) (v := 303) hr (by unfold tKk; omega) rfl (by omega)) (RC_n (k := 4) (v := 304) hr (by unfold tKk; omega) rfl (by omega)))) (LY_n (RC_n (k := 2) (v := 302) hr (by unfold tKk; omega) rfl (by omega)) (hf21 3 12 rfl)) hx21 hG21 (fr8_tr (M := [(3, 2), (3, 3), (3, 4), (3, 5), (3, 7), (3, 8), (3, 9), (3, 12), (3, 14), (3, 15), (5, (-1)), (6, (-1))]) fr8_rf (fr8_of (hf21)) (M1 := []) rfl rfl)
        · skip
          refine mx_J.step (sn_40 97) (fun _ _ => rfl) ?_
          have b46 : 2 ≤ Z 3 0 ∧ Z 3 0 ≤ 4 := hG.pr 3 0
          have b47 : 0 ≤ Z 3 1 ∧ Z 3 1 ≤ 900 := hG.pr 3 1
          have b48 : 0 ≤ Z 3 2 ∧ Z 3 2 ≤ 900 := hG.pr 3 2
          have b49 : 0 ≤ Z 3 3 ∧ Z 3 3 ≤ 900 := hG.pr 3 3
          have b50 : 0 ≤ Z 3 7 ∧ Z 3 7 ≤ 900 := hG.pr 3 7
          have b51 : 0 ≤ Z 3 14 ∧ Z 3 14 ≤ 4 := hG.pr 3 14
          obtain ⟨Z45, h45, hc45, hx45, hG45, hf45, b45⟩ := ct_41_3 (T := T) (N := N) (sg := sg) (d := d + 97) (l := l) (D := D) (b0 := b0) (ad := ad) (Hb := Hb) (tau := tau) hx hG  (show Z 3 0 = 2 by omega) (show (Z 3 3 ≤ Z 3 2 ∧ Z 3 2 ≤ Z 3 1 ∧ (Z 3 4 = 0 ∨ Z 3 4 = 3 ∨ Z 3 3 < Z 3 2) ∧ (Z 3 4 = 3 ∨ Z 3 14 = 0)) by omega) (show ¬ Z 3 4 = 0 by omega) (show ¬ Z 3 4 = 3 by omega) hr
          obtain ⟨br45, b45⟩ := b45
          have b52 : 0 ≤ Z45 3 2 ∧ Z45 3 2 ≤ 900 := hG45.pr 3 2
          have b53 : 0 ≤ Z45 3 3 ∧ Z45 3 3 ≤ 900 := hG45.pr 3 3
          have b54 : 0 ≤ Z45 3 4 ∧ Z45 3 4 ≤ 400 := hG45.pr 3 4
          have b55 : 0 ≤ Z45 3 7 ∧ Z45 3 7 ≤ 900 := hG45.pr 3 7
          have b56 : 0 ≤ Z45 3 14 ∧ Z45 3 14 ≤ 4 := hG45.pr 3 14
          refine Jcv0 hx (show mx_Sn _ _ 98 (mx_callv 41 1 7 101) from sn_40 98) (lt83 (GI_n hG) rfl) (show S 3 = .inl (7, [2, 0, 0, 0, 0, 0, 2, 0, 2, 2, 0, 2, 0, 0, 0, 0]) from GI_s hG 3 rfl) hc45 rfl rfl rfl ?_
          refine mx_J.step (sn_40 101) (fun _ _ => rfl) ?_
          refine JcI (z := 0) (show mx_Sn _ _ 102 (mx_const (.int 0) 103) from sn_40 102) rfl ?_
          have eq58 : Z45 3 0 = Z 3 0 := (hf45 3 0 rfl)
          have eq59 : Z45 3 1 = Z 3 1 := (hf45 3 1 rfl)
          obtain ⟨Z57, h57, hc57, hx57, hG57, hf57, b57⟩ := ct_47_3_i0r (T := T) (N := N) (sg := gRs (gEx T N 31 (gAd T N sg))) (d := d + 0) (l := l) (D := D) (b0 := b0) (ad := ad) (Hb := Hb) (tau := tau) hx45 hG45  (show Z45 3 0 = 2 by first | omega | (simp only [eq58, eq59]; omega)) (show (Z45 3 3 ≤ Z45 3 2 ∧ Z45 3 2 ≤ Z45 3 1 ∧ (Z45 3 4 = 0 ∨ Z45 3 4 = 3 ∨ Z45 3 3 < Z45 3 2) ∧ (Z45 3 4 = 3 ∨ Z45 3 14 = 0)) by first | omega | (simp only [eq58, eq59]; omega)) (show Z45 3 7 ≤ Z45 3 3 by first | omega | (simp only [eq58, eq59]; omega)) br45
          try rw [eq58] at b57
          try rw [eq59] at b57
          obtain ⟨br57, b57⟩ := b57
          have b60 : 0 ≤ Z57 3 2 ∧ Z57 3 2 ≤ 900 := hG57.pr 3 2
          have b61 : 0 ≤ Z57 3 3 ∧ Z57 3 3 ≤ 900 := hG57.pr 3 3
          have b62 : 0 ≤ Z57 3 4 ∧ Z57 3 4 ≤ 400 := hG57.pr 3 4
          have b63 : 0 ≤ Z57 3 7 ∧ Z57 3 7 ≤ 900 := hG57.pr 3 7
          have b64 : 0 ≤ Z57 3 14 ∧ Z57 3 14 ≤ 4 := hG57.pr 3 14
          refine Jcv0 hx45 (show mx_Sn _ _ 103 (mx_callv 47 2 7 106) from sn_40 103) (lt83 (GI_n hG45) rfl) (show S 3 = .inl (7, [2, 0, 0, 0, 0, 0, 2, 0, 2, 2, 0, 2, 0, 0, 0, 0]) from GI_s hG45 3 rfl) hc57 rfl rfl rfl ?_
          refine mx_J.step (sn_40 106) (fun _ _ => rfl) ?_
          refine mx_J.step (sn_40 107) (fun _ _ => rfl) ?_
          refine JgetR (g := 6) (b := 5) hx57 (show mx_Sn _ _ 108 (mx_getf 7 6 111) from sn_40 108) (lt83 (GI_n hG57) rfl) (show S 3 = .inl (7, [2, 0, 0, 0, 0, 0, 2, 0, 2, 2, 0, 2, 0, 0, 0, 0]) from GI_s hG57 3 rfl) rfl rfl (hG57.prr 3 6 rfl) ?_
          refine mx_J.step (sn_40 111) (fun _ _ => rfl) ?_
          refine JgetI (g := 7) (z := Z57 3 7) hx57 (show mx_Sn _ _ 112 (mx_getf 7 7 115) from sn_40 112) (lt83 (GI_n hG57) rfl) (show S 3 = .inl (7, [2, 0, 0, 0, 0, 0, 2, 0, 2, 2, 0, 2, 0, 0, 0, 0]) from GI_s hG57 3 rfl) rfl rfl rfl ?_
          obtain ⟨r67, n67, s67, S67, Z67, h67, hc67, hx67, hG67, hf67, b67, or67, ar67, sr67⟩ := ca_298 (d := d + 103) (l := l) (D := D) (b0 := b0) (ad := ad) (Hb := Hb) (tau := tau) hx57 hG57 (show 0 ≤ Z57 3 7 ∧ Z57 3 7 ≤ 899 by omega) (show ((n : Nat) : Int) ≤ 4095 by omega)
          obtain ⟨lr67, sr67⟩ := sr67
          refine Jcs (show mx_Sn _ _ 115 (mx_calls 298 2 118) from sn_40 115) hc67 rfl rfl rfl ?_
          refine JputR (g := 9) hx67 (show mx_Sn _ _ 118 (mx_putf 1 7 9 (.array .int) 121) from sn_40 118) (lt83 (GI_n hG67) rfl) (show S67 3 = .inl (7, [2, 0, 0, 0, 0, 0, 2, 0, 2, 2, 0, 2, 0, 0, 0, 0]) from GI_s hG67 3 rfl) rfl rfl rfl rfl (fun Z68 h68 hx68 hE68 => ?_)
          have hG68 := GI_upC hG67 hE68 (show (0 : Int) ≤ (r67 : Int) ∧ (r67 : Int) ≤ 4096 by have hn := hx67.2.2.1; omega) trivial rfl ⟨r67, _, rfl, or67, ar67, lr67, sr67⟩
          have eq69 : Z68 3 12 = Z 3 12 := ((up_ni hE68 (by decide)).trans ((hf67 3 12 rfl rfl).trans ((hf57 3 12 rfl).trans (hf45 3 12 rfl))))
          have b70 : 0 ≤ Z 3 12 ∧ Z 3 12 ≤ 18 := hG.pr 3 12
          have eq71 : (ai 6) Z68 19 0 (Z68 3 12) = (ai 6) Z 19 0 (Z 3 12) := by rw [(show Z68 3 12 = Z 3 12 from ((up_ni hE68 (by decide)).trans ((hf67 3 12 rfl rfl).trans ((hf57 3 12 rfl).trans (hf45 3 12 rfl)))))]; exact ((ai_c (fun i => up_nk hE68 rfl)).trans ((ai_c (fun i => hf67 6 i rfl rfl)).trans ((ai_c (fun i => hf57 6 i rfl)).trans (ai_c (fun i => hf45 6 i rfl)))))
          have eq72 : (ai 6) Z68 19 0 (Z 3 12) = (ai 6) Z 19 0 (Z 3 12) := ((ai_c (fun i => up_nk hE68 rfl)).trans ((ai_c (fun i => hf67 6 i rfl rfl)).trans ((ai_c (fun i => hf57 6 i rfl)).trans (ai_c (fun i => hf45 6 i rfl)))))
          have eq73 : (ai 6) Z68 19 0 ((Z68 3 12) + 1) = (ai 6) Z 19 0 ((Z 3 12) + 1) := by rw [(show Z68 3 12 = Z 3 12 from ((up_ni hE68 (by decide)).trans ((hf67 3 12 rfl rfl).trans ((hf57 3 12 rfl).trans (hf45 3 12 rfl)))))]; exact ((ai_c (fun i => up_nk hE68 rfl)).trans ((ai_c (fun i => hf67 6 i rfl rfl)).trans ((ai_c (fun i => hf57 6 i rfl)).trans (ai_c (fun i => hf45 6 i rfl)))))
          have eq74 : (ai 6) Z68 19 0 ((Z 3 12) + 1) = (ai 6) Z 19 0 ((Z 3 12) + 1) := ((ai_c (fun i => up_nk hE68 rfl)).trans ((ai_c (fun i => hf67 6 i rfl rfl)).trans ((ai_c (fun i => hf57 6 i rfl)).trans (ai_c (fun i => hf45 6 i rfl)))))
          have m668 := ai_m (c := 6) (Z := Z68) (len := 19) (lo := 0) (len2 := 19) (lo2 := 0) (hi := (Z 3 12)) (hi2 := (Z 3 12) + 1) (by omega) (by omega) (by omega) (by omega)
          refine mx_J.step (sn_40 121) (fun _ _ => rfl) ?_
          have rc75 : RC T N Z67 (trX T N (lvI T N 0) (gRs (gEx T N 31 (gAd T N sg)))) := RC_c br57 ⟨(hf67 3 1 rfl rfl), (hf67 3 2 rfl rfl), (hf67 3 3 rfl rfl), (hf67 3 4 rfl rfl), (hf67 3 5 rfl rfl), (hf67 3 14 rfl rfl), (hf67 3 15 rfl rfl), fun i => (hf67 2 i rfl rfl)⟩ (hf67 3 7 rfl rfl) (fun i => (hf67 5 i rfl rfl))
          have rc76 : RC T N Z68 (trX T N (lvI T N 0) (gRs (gEx T N 31 (gAd T N sg)))) := RC_c rc75 ⟨(up_ni hE68 (by decide)), (up_ni hE68 (by decide)), (up_ni hE68 (by decide)), (up_ni hE68 (by decide)), (up_ni hE68 (by decide)), (up_ni hE68 (by decide)), (up_ni hE68 (by decide)), fun i => (up_nk hE68 rfl)⟩ (up_ni hE68 (by decide)) (fun i => (up_nk hE68 rfl))
          have eq77 : Z68 3 0 = Z 3 0 := ((up_ni hE68 (by decide)).trans ((hf67 3 0 rfl rfl).trans ((hf57 3 0 rfl).trans (hf45 3 0 rfl))))
          have eq78 : Z68 3 2 = Z57 3 2 := ((up_ni hE68 (by decide)).trans (hf67 3 2 rfl rfl))
          have eq79 : Z68 3 3 = Z57 3 3 := ((up_ni hE68 (by decide)).trans (hf67 3 3 rfl rfl))
          have eq80 : Z68 3 4 = Z57 3 4 := ((up_ni hE68 (by decide)).trans (hf67 3 4 rfl rfl))
          have eq81 : Z68 3 7 = Z57 3 7 := ((up_ni hE68 (by decide)).trans (hf67 3 7 rfl rfl))
          have eq82 : Z68 3 14 = Z57 3 14 := ((up_ni hE68 (by decide)).trans (hf67 3 14 rfl rfl))
          have eq83 : Z68 3 4 = Z57 3 4 := ((up_ni hE68 (by decide)).trans (hf67 3 4 rfl rfl))
          have eq84 : Z68 3 3 = Z57 3 3 := ((up_ni hE68 (by decide)).trans (hf67 3 3 rfl rfl))
          have eq85 : Z68 3 12 = Z 3 12 := ((up_ni hE68 (by decide)).trans ((hf67 3 12 rfl rfl).trans ((hf57 3 12 rfl).trans (hf45 3 12 rfl))))
          have eq86 : (ai 6) Z68 19 0 ((Z68 3 12) + 1) = (ai 6) Z 19 0 ((Z 3 12) + 1) := by rw [(show Z68 3 12 = Z 3 12 from ((up_ni hE68 (by decide)).trans ((hf67 3 12 rfl rfl).trans ((hf57 3 12 rfl).trans (hf45 3 12 rfl)))))]; exact ((ai_c (fun i => up_nk hE68 rfl)).trans ((ai_c (fun i => hf67 6 i rfl rfl)).trans ((ai_c (fun i => hf57 6 i rfl)).trans (ai_c (fun i => hf45 6 i rfl)))))
          have eq87 : (ai 6) Z68 19 0 ((Z 3 12) + 1) = (ai 6) Z 19 0 ((Z 3 12) + 1) := ((ai_c (fun i => up_nk hE68 rfl)).trans ((ai_c (fun i => hf67 6 i rfl rfl)).trans ((ai_c (fun i => hf57 6 i rfl)).trans (ai_c (fun i => hf45 6 i rfl)))))
          have eq88 : Z68 3 4 = Z57 3 4 := ((up_ni hE68 (by decide)).trans (hf67 3 4 rfl rfl))
          have eq89 : Z68 3 12 = Z 3 12 := ((up_ni hE68 (by decide)).trans ((hf67 3 12 rfl rfl).trans ((hf57 3 12 rfl).trans (hf45 3 12 rfl))))
          have eq90 : (ai 6) Z68 19 0 (Z68 3 12) = (ai 6) Z 19 0 (Z 3 12) := by rw [(show Z68 3 12 = Z 3 12 from ((up_ni hE68 (by decide)).trans ((hf67 3 12 rfl rfl).trans ((hf57 3 12 rfl).trans (hf45 3 12 rfl)))))]; exact ((ai_c (fun i => up_nk hE68 rfl)).trans ((ai_c (fun i => hf67 6 i rfl rfl)).trans ((ai_c (fun i => hf57 6 i rfl)).trans (ai_c (fun i => hf45 6 i rfl)))))
          have eq91 : (ai 6) Z68 19 0 (Z 3 12) = (ai 6) Z 19 0 (Z 3 12) := ((ai_c (fun i => up_nk hE68 rfl)).trans ((ai_c (fun i => hf67 6 i rfl rfl)).trans ((ai_c (fun i => hf57 6 i rfl)).trans (ai_c (fun i => hf45 6 i rfl)))))
          exact c129 none n67 s67 S67 Z68 h68 (by omega) (by omega) (by omega) (by omega) (by omega) (RC_e rc76 (ln_m (RC_y (k := 4) (v := 304) hr (by unfold tKk; omega) rfl (by omega)))) (LY_n (RC_n (k := 2) (v := 302) hr (by unfold tKk; omega) rfl (by omega)) ((up_ni hE68 (by decide)).trans ((hf67 3 12 rfl rfl).trans ((hf57 3 12 rfl).trans (hf45 3 12 rfl))))) hx68 hG68 (fr8_tr (M := [(3, 2), (3, 3), (3, 4), (3, 5), (3, 7), (3, 8), (3, 9), (3, 12), (3, 14), (3, 15), (5, (-1)), (6, (-1))]) (fr8_tr (M := [(3, 2), (3, 3), (3, 4), (3, 5), (3, 7), (3, 8), (3, 9), (3, 12), (3, 14), (3, 15), (5, (-1)), (6, (-1))]) (fr8_tr (M := [(3, 2), (3, 3), (3, 4), (3, 5), (3, 7), (3, 8), (3, 9), (3, 12), (3, 14), (3, 15), (5, (-1)), (6, (-1))]) (fr8_tr (M := [(3, 2), (3, 3), (3, 4), (3, 5), (3, 7), (3, 8), (3, 9), (3, 12), (3, 14), (3, 15), (5, (-1)), (6, (-1))]) fr8_rf (fr8_of (hf45)) (M1 := []) rfl rfl) (fr8_of (hf57)) rfl rfl) (hf67) rfl rfl) (fr8_of (fr_up hE68)) rfl rfl)
      · skip
        refine mx_J.step (sn_40 60) (fun _ _ => rfl) ?_
        have b93 : 2 ≤ Z 3 0 ∧ Z 3 0 ≤ 4 := hG.pr 3 0
        have b94 : 0 ≤ Z 3 1 ∧ Z 3 1 ≤ 900 := hG.pr 3 1
        have b95 : 0 ≤ Z 3 2 ∧ Z 3 2 ≤ 900 := hG.pr 3 2
        have b96 : 0 ≤ Z 3 3 ∧ Z 3 3 ≤ 900 := hG.pr 3 3
        have b97 : 0 ≤ Z 3 7 ∧ Z 3 7 ≤ 900 := hG.pr 3 7
        have b98 : 0 ≤ Z 3 14 ∧ Z 3 14 ≤ 4 := hG.pr 3 14
        obtain ⟨Z92, h92, hc92, hx92, hG92, hf92, b92⟩ := ct_41_3 (T := T) (N := N) (sg := sg) (d := d + 97) (l := l) (D := D) (b0 := b0) (ad := ad) (Hb := Hb) (tau := tau) hx hG  (show Z 3 0 = 2 by omega) (show (Z 3 3 ≤ Z 3 2 ∧ Z 3 2 ≤ Z 3 1 ∧ (Z 3 4 = 0 ∨ Z 3 4 = 3 ∨ Z 3 3 < Z 3 2) ∧ (Z 3 4 = 3 ∨ Z 3 14 = 0)) by omega) (show ¬ Z 3 4 = 0 by omega) (show ¬ Z 3 4 = 3 by omega) hr
        obtain ⟨br92, b92⟩ := b92
        have b99 : 0 ≤ Z92 3 2 ∧ Z92 3 2 ≤ 900 := hG92.pr 3 2
        have b100 : 0 ≤ Z92 3 3 ∧ Z92 3 3 ≤ 900 := hG92.pr 3 3
        have b101 : 0 ≤ Z92 3 4 ∧ Z92 3 4 ≤ 400 := hG92.pr 3 4
        have b102 : 0 ≤ Z92 3 7 ∧ Z92 3 7 ≤ 900 := hG92.pr 3 7
        have b103 : 0 ≤ Z92 3 14 ∧ Z92 3 14 ≤ 4 := hG92.pr 3 14
        refine Jcv0 hx (show mx_Sn _ _ 61 (mx_callv 41 1 7 64) from sn_40 61) (lt83 (GI_n hG) rfl) (show S 3 = .inl (7, [2, 0, 0, 0, 0, 0, 2, 0, 2, 2, 0, 2, 0, 0, 0, 0]) from GI_s hG 3 rfl) hc92 rfl rfl rfl ?_
        refine mx_J.step (sn_40 64) (fun _ _ => rfl) ?_
        refine JcI (z := 0) (show mx_Sn _ _ 65 (mx_const (.int 0) 66) from sn_40 65) rfl ?_
        have eq105 : Z92 3 0 = Z 3 0 := (hf92 3 0 rfl)
        have eq106 : Z92 3 1 = Z 3 1 := (hf92 3 1 rfl)
        obtain ⟨Z104, h104, hc104, hx104, hG104, hf104, b104⟩ := ct_42_3_i0r (T := T) (N := N) (sg := gRs (gEx T N 31 (gAd T N sg))) (d := d + 0) (l := l) (D := D) (b0 := b0) (ad := ad) (Hb := Hb) (tau := tau) hx92 hG92  (show Z92 3 0 = 2 by first | omega | (simp only [eq105, eq106]; omega)) (show (Z92 3 3 ≤ Z92 3 2 ∧ Z92 3 2 ≤ Z92 3 1 ∧ (Z92 3 4 = 0 ∨ Z92 3 4 = 3 ∨ Z92 3 3 < Z92 3 2) ∧ (Z92 3 4 = 3 ∨ Z92 3 14 = 0)) by first | omega | (simp only [eq105, eq106]; omega)) (show Z92 3 7 ≤ Z92 3 3 by first | omega | (simp only [eq105, eq106]; omega)) br92
        try rw [eq105] at b104
        try rw [eq106] at b104
        obtain ⟨br104, b104⟩ := b104
        have b107 : 0 ≤ Z104 3 2 ∧ Z104 3 2 ≤ 900 := hG104.pr 3 2
        have b108 : 0 ≤ Z104 3 3 ∧ Z104 3 3 ≤ 900 := hG104.pr 3 3
        have b109 : 0 ≤ Z104 3 4 ∧ Z104 3 4 ≤ 400 := hG104.pr 3 4
        have b110 : 0 ≤ Z104 3 7 ∧ Z104 3 7 ≤ 900 := hG104.pr 3 7
        have b111 : 0 ≤ Z104 3 14 ∧ Z104 3 14 ≤ 4 := hG104.pr 3 14
        refine Jcv0 hx92 (show mx_Sn _ _ 66 (mx_callv 42 2 7 69) from sn_40 66) (lt83 (GI_n hG92) rfl) (show S 3 = .inl (7, [2, 0, 0, 0, 0, 0, 2, 0, 2, 2, 0, 2, 0, 0, 0, 0]) from GI_s hG92 3 rfl) hc104 rfl rfl rfl ?_
        refine mx_J.step (sn_40 69) (fun _ _ => rfl) ?_
        refine mx_J.step (sn_40 70) (fun _ _ => rfl) ?_
        refine JgetR (g := 6) (b := 5) hx104 (show mx_Sn _ _ 71 (mx_getf 7 6 74) from sn_40 71) (lt83 (GI_n hG104) rfl) (show S 3 = .inl (7, [2, 0, 0, 0, 0, 0, 2, 0, 2, 2, 0, 2, 0, 0, 0, 0]) from GI_s hG104 3 rfl) rfl rfl (hG104.prr 3 6 rfl) ?_
        refine mx_J.step (sn_40 74) (fun _ _ => rfl) ?_
        refine JgetI (g := 7) (z := Z104 3 7) hx104 (show mx_Sn _ _ 75 (mx_getf 7 7 78) from sn_40 75) (lt83 (GI_n hG104) rfl) (show S 3 = .inl (7, [2, 0, 0, 0, 0, 0, 2, 0, 2, 2, 0, 2, 0, 0, 0, 0]) from GI_s hG104 3 rfl) rfl rfl rfl ?_
        obtain ⟨r114, n114, s114, S114, Z114, h114, hc114, hx114, hG114, hf114, b114, or114, ar114, sr114⟩ := ca_298 (d := d + 103) (l := l) (D := D) (b0 := b0) (ad := ad) (Hb := Hb) (tau := tau) hx104 hG104 (show 0 ≤ Z104 3 7 ∧ Z104 3 7 ≤ 899 by omega) (show ((n : Nat) : Int) ≤ 4095 by omega)
        obtain ⟨lr114, sr114⟩ := sr114
        refine Jcs (show mx_Sn _ _ 78 (mx_calls 298 2 81) from sn_40 78) hc114 rfl rfl rfl ?_
        refine JputR (g := 8) hx114 (show mx_Sn _ _ 81 (mx_putf 1 7 8 (.array .int) 84) from sn_40 81) (lt83 (GI_n hG114) rfl) (show S114 3 = .inl (7, [2, 0, 0, 0, 0, 0, 2, 0, 2, 2, 0, 2, 0, 0, 0, 0]) from GI_s hG114 3 rfl) rfl rfl rfl rfl (fun Z115 h115 hx115 hE115 => ?_)
        have hG115 := GI_upC hG114 hE115 (show (0 : Int) ≤ (r114 : Int) ∧ (r114 : Int) ≤ 4096 by have hn := hx114.2.2.1; omega) trivial rfl ⟨r114, _, rfl, or114, ar114, lr114, sr114⟩
        have eq116 : Z115 3 12 = Z 3 12 := ((up_ni hE115 (by decide)).trans ((hf114 3 12 rfl rfl).trans ((hf104 3 12 rfl).trans (hf92 3 12 rfl))))
        have b117 : 0 ≤ Z 3 12 ∧ Z 3 12 ≤ 18 := hG.pr 3 12
        have eq118 : (ai 6) Z115 19 0 (Z115 3 12) = (ai 6) Z 19 0 (Z 3 12) := by rw [(show Z115 3 12 = Z 3 12 from ((up_ni hE115 (by decide)).trans ((hf114 3 12 rfl rfl).trans ((hf104 3 12 rfl).trans (hf92 3 12 rfl)))))]; exact ((ai_c (fun i => up_nk hE115 rfl)).trans ((ai_c (fun i => hf114 6 i rfl rfl)).trans ((ai_c (fun i => hf104 6 i rfl)).trans (ai_c (fun i => hf92 6 i rfl)))))
        have eq119 : (ai 6) Z115 19 0 (Z 3 12) = (ai 6) Z 19 0 (Z 3 12) := ((ai_c (fun i => up_nk hE115 rfl)).trans ((ai_c (fun i => hf114 6 i rfl rfl)).trans ((ai_c (fun i => hf104 6 i rfl)).trans (ai_c (fun i => hf92 6 i rfl)))))
        have eq120 : (ai 6) Z115 19 0 ((Z115 3 12) + 1) = (ai 6) Z 19 0 ((Z 3 12) + 1) := by rw [(show Z115 3 12 = Z 3 12 from ((up_ni hE115 (by decide)).trans ((hf114 3 12 rfl rfl).trans ((hf104 3 12 rfl).trans (hf92 3 12 rfl)))))]; exact ((ai_c (fun i => up_nk hE115 rfl)).trans ((ai_c (fun i => hf114 6 i rfl rfl)).trans ((ai_c (fun i => hf104 6 i rfl)).trans (ai_c (fun i => hf92 6 i rfl)))))
        have eq121 : (ai 6) Z115 19 0 ((Z 3 12) + 1) = (ai 6) Z 19 0 ((Z 3 12) + 1) := ((ai_c (fun i => up_nk hE115 rfl)).trans ((ai_c (fun i => hf114 6 i rfl rfl)).trans ((ai_c (fun i => hf104 6 i rfl)).trans (ai_c (fun i => hf92 6 i rfl)))))
        have m6115 := ai_m (c := 6) (Z := Z115) (len := 19) (lo := 0) (len2 := 19) (lo2 := 0) (hi := (Z 3 12)) (hi2 := (Z 3 12) + 1) (by omega) (by omega) (by omega) (by omega)
        refine mx_J.step (sn_40 84) (fun _ _ => rfl) ?_
        have rc122 : RC T N Z114 (smX T N (lvI T N 0) (gRs (gEx T N 31 (gAd T N sg)))) := RC_c br104 ⟨(hf114 3 1 rfl rfl), (hf114 3 2 rfl rfl), (hf114 3 3 rfl rfl), (hf114 3 4 rfl rfl), (hf114 3 5 rfl rfl), (hf114 3 14 rfl rfl), (hf114 3 15 rfl rfl), fun i => (hf114 2 i rfl rfl)⟩ (hf114 3 7 rfl rfl) (fun i => (hf114 5 i rfl rfl))
        have rc123 : RC T N Z115 (smX T N (lvI T N 0) (gRs (gEx T N 31 (gAd T N sg)))) := RC_c rc122 ⟨(up_ni hE115 (by decide)), (up_ni hE115 (by decide)), (up_ni hE115 (by decide)), (up_ni hE115 (by decide)), (up_ni hE115 (by decide)), (up_ni hE115 (by decide)), (up_ni hE115 (by decide)), fun i => (up_nk hE115 rfl)⟩ (up_ni hE115 (by decide)) (fun i => (up_nk hE115 rfl))
        have eq124 : Z115 3 0 = Z 3 0 := ((up_ni hE115 (by decide)).trans ((hf114 3 0 rfl rfl).trans ((hf104 3 0 rfl).trans (hf92 3 0 rfl))))
        have eq125 : Z115 3 2 = Z104 3 2 := ((up_ni hE115 (by decide)).trans (hf114 3 2 rfl rfl))
        have eq126 : Z115 3 3 = Z104 3 3 := ((up_ni hE115 (by decide)).trans (hf114 3 3 rfl rfl))
        have eq127 : Z115 3 4 = Z104 3 4 := ((up_ni hE115 (by decide)).trans (hf114 3 4 rfl rfl))
        have eq128 : Z115 3 7 = Z104 3 7 := ((up_ni hE115 (by decide)).trans (hf114 3 7 rfl rfl))
        have eq129 : Z115 3 14 = Z104 3 14 := ((up_ni hE115 (by decide)).trans (hf114 3 14 rfl rfl))
        have eq130 : Z115 3 4 = Z104 3 4 := ((up_ni hE115 (by decide)).trans (hf114 3 4 rfl rfl))
        have eq131 : Z115 3 3 = Z104 3 3 := ((up_ni hE115 (by decide)).trans (hf114 3 3 rfl rfl))
        have eq132 : Z115 3 12 = Z 3 12 := ((up_ni hE115 (by decide)).trans ((hf114 3 12 rfl rfl).trans ((hf104 3 12 rfl).trans (hf92 3 12 rfl))))
        have eq133 : (ai 6) Z115 19 0 ((Z115 3 12) + 1) = (ai 6) Z 19 0 ((Z 3 12) + 1) := by rw [(show Z115 3 12 = Z 3 12 from ((up_ni hE115 (by decide)).trans ((hf114 3 12 rfl rfl).trans ((hf104 3 12 rfl).trans (hf92 3 12 rfl)))))]; exact ((ai_c (fun i => up_nk hE115 rfl)).trans ((ai_c (fun i => hf114 6 i rfl rfl)).trans ((ai_c (fun i => hf104 6 i rfl)).trans (ai_c (fun i => hf92 6 i rfl)))))
        have eq134 : (ai 6) Z115 19 0 ((Z 3 12) + 1) = (ai 6) Z 19 0 ((Z 3 12) + 1) := ((ai_c (fun i => up_nk hE115 rfl)).trans ((ai_c (fun i => hf114 6 i rfl rfl)).trans ((ai_c (fun i => hf104 6 i rfl)).trans (ai_c (fun i => hf92 6 i rfl)))))
        have eq135 : Z115 3 4 = Z104 3 4 := ((up_ni hE115 (by decide)).trans (hf114 3 4 rfl rfl))
        have eq136 : Z115 3 12 = Z 3 12 := ((up_ni hE115 (by decide)).trans ((hf114 3 12 rfl rfl).trans ((hf104 3 12 rfl).trans (hf92 3 12 rfl))))
        have eq137 : (ai 6) Z115 19 0 (Z115 3 12) = (ai 6) Z 19 0 (Z 3 12) := by rw [(show Z115 3 12 = Z 3 12 from ((up_ni hE115 (by decide)).trans ((hf114 3 12 rfl rfl).trans ((hf104 3 12 rfl).trans (hf92 3 12 rfl)))))]; exact ((ai_c (fun i => up_nk hE115 rfl)).trans ((ai_c (fun i => hf114 6 i rfl rfl)).trans ((ai_c (fun i => hf104 6 i rfl)).trans (ai_c (fun i => hf92 6 i rfl)))))
        have eq138 : (ai 6) Z115 19 0 (Z 3 12) = (ai 6) Z 19 0 (Z 3 12) := ((ai_c (fun i => up_nk hE115 rfl)).trans ((ai_c (fun i => hf114 6 i rfl rfl)).trans ((ai_c (fun i => hf104 6 i rfl)).trans (ai_c (fun i => hf92 6 i rfl)))))
        exact c129 none n114 s114 S114 Z115 h115 (by omega) (by omega) (by omega) (by omega) (by omega) (RC_e rc123 (ln_g (RC_y (k := 3) (v := 303) hr (by unfold tKk; omega) rfl (by omega)))) (LY_n (RC_n (k := 2) (v := 302) hr (by unfold tKk; omega) rfl (by omega)) ((up_ni hE115 (by decide)).trans ((hf114 3 12 rfl rfl).trans ((hf104 3 12 rfl).trans (hf92 3 12 rfl))))) hx115 hG115 (fr8_tr (M := [(3, 2), (3, 3), (3, 4), (3, 5), (3, 7), (3, 8), (3, 9), (3, 12), (3, 14), (3, 15), (5, (-1)), (6, (-1))]) (fr8_tr (M := [(3, 2), (3, 3), (3, 4), (3, 5), (3, 7), (3, 8), (3, 9), (3, 12), (3, 14), (3, 15), (5, (-1)), (6, (-1))]) (fr8_tr (M := [(3, 2), (3, 3), (3, 4), (3, 5), (3, 7), (3, 8), (3, 9), (3, 12), (3, 14), (3, 15), (5, (-1)), (6, (-1))]) (fr8_tr (M := [(3, 2), (3, 3), (3, 4), (3, 5), (3, 7), (3, 8), (3, 9), (3, 12), (3, 14), (3, 15), (5, (-1)), (6, (-1))]) fr8_rf (fr8_of (hf92)) (M1 := []) rfl rfl) (fr8_of (hf104)) rfl rfl) (hf114) rfl rfl) (fr8_of (fr_up hE115)) rfl rfl)
    · skip
      refine mx_J.step (sn_40 10) (fun _ _ => rfl) ?_
      have b140 : 2 ≤ Z 3 0 ∧ Z 3 0 ≤ 4 := hG.pr 3 0
      have b141 : 0 ≤ Z 3 1 ∧ Z 3 1 ≤ 900 := hG.pr 3 1
      have b142 : 0 ≤ Z 3 2 ∧ Z 3 2 ≤ 900 := hG.pr 3 2
      have b143 : 0 ≤ Z 3 3 ∧ Z 3 3 ≤ 900 := hG.pr 3 3
      have b144 : 0 ≤ Z 3 14 ∧ Z 3 14 ≤ 4 := hG.pr 3 14
      obtain ⟨Z139, h139, hc139, hx139, hG139, hf139, b139⟩ := ct_56_3r (T := T) (N := N) (sg := sg) (d := d + 99) (l := l) (D := D) (b0 := b0) (ad := ad) (Hb := Hb) (tau := tau) hx hG  (show Z 3 0 = 2 by omega) (show Z 3 2 ≤ Z 3 1 by omega) hr
      obtain ⟨br139, b139⟩ := b139
      have b145 : 0 ≤ Z139 3 2 ∧ Z139 3 2 ≤ 900 := hG139.pr 3 2
      have b146 : 0 ≤ Z139 3 3 ∧ Z139 3 3 ≤ 900 := hG139.pr 3 3
      have b147 : 0 ≤ Z139 3 4 ∧ Z139 3 4 ≤ 400 := hG139.pr 3 4
      refine Jcv0 hx (show mx_Sn _ _ 11 (mx_callv 56 1 7 14) from sn_40 11) (lt83 (GI_n hG) rfl) (show S 3 = .inl (7, [2, 0, 0, 0, 0, 0, 2, 0, 2, 2, 0, 2, 0, 0, 0, 0]) from GI_s hG 3 rfl) hc139 rfl rfl rfl ?_
      refine mx_J.step (sn_40 14) (fun _ _ => rfl) ?_
      refine JcI (z := 1) (show mx_Sn _ _ 15 (mx_const (.int 1) 16) from sn_40 15) rfl ?_
      refine JcI (z := 18) (show mx_Sn _ _ 16 (mx_const (.int 18) 18) from sn_40 16) rfl ?_
      refine mx_J.step (sn_40 18) (fun _ _ => rfl) ?_
      have b149 : 0 ≤ Z 3 12 ∧ Z 3 12 ≤ 18 := hG.pr 3 12
      refine JgetI (g := 12) (z := Z 3 12) hx139 (show mx_Sn _ _ 19 (mx_getf 7 12 22) from sn_40 19) (lt83 (GI_n hG139) rfl) (show S 3 = .inl (7, [2, 0, 0, 0, 0, 0, 2, 0, 2, 2, 0, 2, 0, 0, 0, 0]) from GI_s hG139 3 rfl) rfl rfl (hf139 3 12 rfl) ?_
      refine Jisub (show mx_Sn _ _ 22 (mx_isub 23) from sn_40 22) ?_
      have eq151 : Z139 3 0 = Z 3 0 := (hf139 3 0 rfl)
      have eq152 : Z139 3 1 = Z 3 1 := (hf139 3 1 rfl)
      have eq153 : Z139 3 7 = Z 3 7 := (hf139 3 7 rfl)
      have b154 : 0 ≤ Z 3 7 ∧ Z 3 7 ≤ 900 := hG.pr 3 7
      have eq155 : Z139 3 14 = Z 3 14 := (hf139 3 14 rfl)
      obtain ⟨z150, Z150, h150, hc150, hx150, hG150, hf150, b150⟩ := ct_54_3 (T := T) (N := N) (sg := gAd T N sg) (d := d + 98) (l := l) (D := D) (b0 := b0) (ad := ad) (Hb := Hb) (tau := tau) hx139 hG139 (show 0 ≤ 1 ∧ 1 ≤ 1 by omega) (show 0 ≤ 18 - (Z 3 12) ∧ 18 - (Z 3 12) ≤ 999 by omega) (show Z139 3 0 = 2 by first | omega | (simp only [eq151, eq152, eq153, eq155]; omega)) (show (Z139 3 3 ≤ Z139 3 2 ∧ Z139 3 2 ≤ Z139 3 1 ∧ (Z139 3 4 = 0 ∨ Z139 3 4 = 3 ∨ Z139 3 3 < Z139 3 2) ∧ (Z139 3 4 = 3 ∨ Z139 3 14 = 0)) by first | omega | (simp only [eq151, eq152, eq153, eq155]; omega)) br139
      try rw [eq151] at b150
      try rw [eq152] at b150
      try rw [eq153] at b150
      try rw [eq155] at b150
      obtain ⟨br150, b150⟩ := b150
      obtain ⟨bs150_0, b150⟩ := b150
      have b156 : 0 ≤ Z150 3 2 ∧ Z150 3 2 ≤ 900 := hG150.pr 3 2
      have b157 : 0 ≤ Z150 3 3 ∧ Z150 3 3 ≤ 900 := hG150.pr 3 3
      have b158 : 0 ≤ Z150 3 4 ∧ Z150 3 4 ≤ 400 := hG150.pr 3 4
      have eq159 : Z150 3 7 = Z 3 7 := ((hf150 3 7 rfl).trans (hf139 3 7 rfl))
      have b160 : 0 ≤ Z150 3 14 ∧ Z150 3 14 ≤ 4 := hG150.pr 3 14
      refine Jcv hx139 (show mx_Sn _ _ 23 (mx_callv 54 3 7 26) from sn_40 23) (lt83 (GI_n hG139) rfl) (show S 3 = .inl (7, [2, 0, 0, 0, 0, 0, 2, 0, 2, 2, 0, 2, 0, 0, 0, 0]) from GI_s hG139 3 rfl) hc150 rfl rfl rfl ?_
      refine mx_J.step (ls2 := [some (.ref 3), some (xI z150)]) (sn_40 26) (fun _ _ => rfl) ?_
      refine mx_J.step (sn_40 27) (fun _ _ => rfl) ?_
      refine JgetR (g := 11) (b := 6) hx150 (show mx_Sn _ _ 28 (mx_getf 7 11 31) from sn_40 28) (lt83 (GI_n hG150) rfl) (show S 3 = .inl (7, [2, 0, 0, 0, 0, 0, 2, 0, 2, 2, 0, 2, 0, 0, 0, 0]) from GI_s hG150 3 rfl) rfl rfl (hG150.prr 3 11 rfl) ?_
      refine mx_J.step (sn_40 31) (fun _ _ => rfl) ?_
      refine mx_J.step (sn_40 32) (fun _ _ => rfl) ?_
      have eq162 : (ai 6) Z150 19 0 (Z150 3 12) = (ai 6) Z 19 0 (Z 3 12) := by rw [(show Z150 3 12 = Z 3 12 from ((hf150 3 12 rfl).trans (hf139 3 12 rfl)))]; exact ((ai_c (fun i => hf150 6 i rfl)).trans (ai_c (fun i => hf139 6 i rfl)))
      have eq163 : (ai 6) Z150 19 0 (Z 3 12) = (ai 6) Z 19 0 (Z 3 12) := ((ai_c (fun i => hf150 6 i rfl)).trans (ai_c (fun i => hf139 6 i rfl)))
      have b164 : 0 ≤ Z 6 z150 ∧ Z 6 z150 ≤ 20 := hG.pr 6 z150
      refine JialdI (z := Z 6 z150) hx150 (show mx_Sn _ _ 33 (mx_iald 34) from sn_40 33) (lt83 (GI_n hG150) rfl) (show S 6 = .inr (.int, 19, 0) from GI_s hG150 6 rfl) (by omega) ((hf150 6 z150 rfl).trans (hf139 6 z150 rfl)) ?_
      have a6 := ai_at (Z := Z) (c := 6) (i := z150) (len := 19) (lo := 0) (hi := Z 3 12) (by omega) (by omega)
      refine JcI (z := 1) (show mx_Sn _ _ 34 (mx_const (.int 1) 35) from sn_40 34) rfl ?_
      refine Jiadd (show mx_Sn _ _ 35 (mx_iadd 36) from sn_40 35) ?_
      refine JiastI hx150 (show mx_Sn _ _ 36 (mx_iast 1 37) from sn_40 36) (lt83 (GI_n hG150) rfl) (show S 6 = .inr (.int, 19, 0) from GI_s hG150 6 rfl) rfl (by omega) (fun Z165 h165 hx165 hE165 => ?_)
      have hG165 := GI_up hG150 hE165 (show 0 ≤ (Z 6 z150) + 1 ∧ (Z 6 z150) + 1 ≤ 20 by omega) trivial rfl
      have u1 := ai_u (Z := Z150) (c := 6) (len := 19) (lo := 0) (hi := (Z 3 12) + z150 + 1) (ai_m (len := 19) (lo := 0) (hi := (Z 3 12)) (by omega) (by omega) (by omega) (by omega)) hE165 (by omega)
      have u2 : 1 ≤ z150 → ai 6 Z165 19 0 ((Z 3 12) + z150) = 1 := fun e => ai_u (Z := Z150) (ai_m (len := 19) (lo := 0) (hi := (Z 3 12)) (by omega) (by omega) (by omega) (by omega)) hE165 (by omega)
      refine mx_J.step (sn_40 37) (fun _ _ => rfl) ?_
      refine mx_J.step (sn_40 38) (fun _ _ => rfl) ?_
      refine JgetI (g := 12) (z := Z 3 12) hx165 (show mx_Sn _ _ 39 (mx_getf 7 12 42) from sn_40 39) (lt83 (GI_n hG165) rfl) (show S 3 = .inl (7, [2, 0, 0, 0, 0, 0, 2, 0, 2, 2, 0, 2, 0, 0, 0, 0]) from GI_s hG165 3 rfl) rfl rfl ((up_nk hE165 rfl).trans ((hf150 3 12 rfl).trans (hf139 3 12 rfl))) ?_
      refine mx_J.step (sn_40 42) (fun _ _ => rfl) ?_
      refine Jiadd (show mx_Sn _ _ 43 (mx_iadd 44) from sn_40 43) ?_
      refine JputI (g := 12) hx165 (show mx_Sn _ _ 44 (mx_putf 1 7 12 (.int) 47) from sn_40 44) (lt83 (GI_n hG165) rfl) (show S 3 = .inl (7, [2, 0, 0, 0, 0, 0, 2, 0, 2, 2, 0, 2, 0, 0, 0, 0]) from GI_s hG165 3 rfl) rfl rfl rfl rfl (fun Z167 h167 hx167 hE167 => ?_)
      have hG167 := GI_up hG165 hE167 (show 0 ≤ (Z 3 12) + z150 ∧ (Z 3 12) + z150 ≤ 18 by omega) trivial rfl
      have eq168 : Z167 3 12 = (Z 3 12) + z150 := (up_at hE167)
      have eq169 : (ai 6) Z167 19 0 (Z167 3 12) = (ai 6) Z165 19 0 ((Z 3 12) + z150) := by rw [(show Z167 3 12 = (Z 3 12) + z150 from (up_at hE167))]; exact (ai_c (fun i => up_nk hE167 rfl))
      have eq170 : (ai 6) Z167 19 0 ((Z 3 12) + z150) = (ai 6) Z165 19 0 ((Z 3 12) + z150) := (ai_c (fun i => up_nk hE167 rfl))
      have eq171 : (ai 6) Z167 19 0 ((Z167 3 12) + 1) = (ai 6) Z165 19 0 (((Z 3 12) + z150) + 1) := by rw [(show Z167 3 12 = (Z 3 12) + z150 from (up_at hE167))]; exact (ai_c (fun i => up_nk hE167 rfl))
      have eq172 : (ai 6) Z167 19 0 (((Z 3 12) + z150) + 1) = (ai 6) Z165 19 0 (((Z 3 12) + z150) + 1) := (ai_c (fun i => up_nk hE167 rfl))
      refine mx_J.step (sn_40 47) (fun _ _ => rfl) ?_
      have rc173 : RC T N Z165 (gTk T N 1 (18 - (Z 3 12)) (gAd T N sg)) := RC_c br150 ⟨(up_nk hE165 rfl), (up_nk hE165 rfl), (up_nk hE165 rfl), (up_nk hE165 rfl), (up_nk hE165 rfl), (up_nk hE165 rfl), (up_nk hE165 rfl), fun i => (up_nk hE165 rfl)⟩ (up_nk hE165 rfl) (fun i => (up_nk hE165 rfl))
      have rc174 : RC T N Z167 (gTk T N 1 (18 - (Z 3 12)) (gAd T N sg)) := RC_c rc173 ⟨(up_ni hE167 (by decide)), (up_ni hE167 (by decide)), (up_ni hE167 (by decide)), (up_ni hE167 (by decide)), (up_ni hE167 (by decide)), (up_ni hE167 (by decide)), (up_ni hE167 (by decide)), fun i => (up_nk hE167 rfl)⟩ (up_ni hE167 (by decide)) (fun i => (up_nk hE167 rfl))
      have eq175 : Z167 3 0 = Z 3 0 := ((up_ni hE167 (by decide)).trans ((up_nk hE165 rfl).trans ((hf150 3 0 rfl).trans (hf139 3 0 rfl))))
      have eq176 : Z167 3 2 = Z150 3 2 := ((up_ni hE167 (by decide)).trans (up_nk hE165 rfl))
      have eq177 : Z167 3 3 = Z150 3 3 := ((up_ni hE167 (by decide)).trans (up_nk hE165 rfl))
      have eq178 : Z167 3 4 = Z150 3 4 := ((up_ni hE167 (by decide)).trans (up_nk hE165 rfl))
      have eq179 : Z167 3 7 = Z 3 7 := ((up_ni hE167 (by decide)).trans ((up_nk hE165 rfl).trans ((hf150 3 7 rfl).trans (hf139 3 7 rfl))))
      have eq180 : Z167 3 14 = Z150 3 14 := ((up_ni hE167 (by decide)).trans (up_nk hE165 rfl))
      have eq181 : Z167 3 4 = Z150 3 4 := ((up_ni hE167 (by decide)).trans (up_nk hE165 rfl))
      have eq182 : Z167 3 3 = Z150 3 3 := ((up_ni hE167 (by decide)).trans (up_nk hE165 rfl))
      have eq183 : Z167 3 12 = (Z 3 12) + z150 := (up_at hE167)
      have eq184 : (ai 6) Z167 19 0 ((Z167 3 12) + 1) = (ai 6) Z165 19 0 (((Z 3 12) + z150) + 1) := by rw [(show Z167 3 12 = (Z 3 12) + z150 from (up_at hE167))]; exact (ai_c (fun i => up_nk hE167 rfl))
      have eq185 : (ai 6) Z167 19 0 (((Z 3 12) + z150) + 1) = (ai 6) Z165 19 0 (((Z 3 12) + z150) + 1) := (ai_c (fun i => up_nk hE167 rfl))
      have eq186 : Z167 3 4 = Z150 3 4 := ((up_ni hE167 (by decide)).trans (up_nk hE165 rfl))
      have eq187 : Z167 3 12 = (Z 3 12) + z150 := (up_at hE167)
      have eq188 : (ai 6) Z167 19 0 (Z167 3 12) = (ai 6) Z165 19 0 ((Z 3 12) + z150) := by rw [(show Z167 3 12 = (Z 3 12) + z150 from (up_at hE167))]; exact (ai_c (fun i => up_nk hE167 rfl))
      have eq189 : (ai 6) Z167 19 0 ((Z 3 12) + z150) = (ai 6) Z165 19 0 ((Z 3 12) + z150) := (ai_c (fun i => up_nk hE167 rfl))
      exact c129 (some (xI z150)) n s S Z167 h167 (by omega) (by omega) (by omega) (by omega) (by omega) (RC_e rc174 (ln_h (RC_y (k := 2) (v := 302) hr (by unfold tKk; omega) rfl (by omega)))) (LY_h (RC_y (k := 2) (v := 302) hr (by unfold tKk; omega) rfl (by omega)) (by assumption) (up_at hE167)) hx167 hG167 (fr8_tr (M := [(3, 2), (3, 3), (3, 4), (3, 5), (3, 7), (3, 8), (3, 9), (3, 12), (3, 14), (3, 15), (5, (-1)), (6, (-1))]) (fr8_tr (M := [(3, 2), (3, 3), (3, 4), (3, 5), (3, 7), (3, 8), (3, 9), (3, 12), (3, 14), (3, 15), (5, (-1)), (6, (-1))]) (fr8_tr (M := [(3, 2), (3, 3), (3, 4), (3, 5), (3, 7), (3, 8), (3, 9), (3, 12), (3, 14), (3, 15), (5, (-1)), (6, (-1))]) (fr8_tr (M := [(3, 2), (3, 3), (3, 4), (3, 5), (3, 7), (3, 8), (3, 9), (3, 12), (3, 14), (3, 15), (5, (-1)), (6, (-1))]) fr8_rf (fr8_of (hf139)) (M1 := []) rfl rfl) (fr8_of (hf150)) rfl rfl) (fr8_of (fr_ua hE165)) rfl rfl) (fr8_of (fr_up hE167)) rfl rfl)
theorem ct_40_3 {l : Launch} {D : va_G} {b0 : Nat} {ad : Nat → Nat} {Hb : Heap} {tau : Nat → Int64} {d n s : Nat} {S : Nat → xS} {Z : xZ} {h : mx_H} {T : Int → Int} {N : Int} {sg : SS} (hx : XH n s S Z h) (hG : GI n S Z)   (k0 : Z 3 0 = 2) (k1 : (Z 3 3 ≤ Z 3 2 ∧ Z 3 2 ≤ Z 3 1 ∧ (Z 3 4 = 0 ∨ Z 3 4 = 3 ∨ Z 3 3 < Z 3 2) ∧ (Z 3 4 = 3 ∨ Z 3 14 = 0))) (k2 : ¬ Z 3 4 = 0) (k3 : ¬ Z 3 4 = 3) (k4 : ((n : Nat) : Int) ≤ 4095) (k5 : ai 6 Z 19 0 (Z 3 12) = 1) (hr : RC T N Z sg) : ∃ (n' s' : Nat) (S' : Nat → xS) (Z' : xZ) (h' : mx_H), mx_Ca (tB l D b0 ad Hb tau) (d + 106) 40 [.ref 3] h (none, h') ∧ XH n' s' S' Z' h' ∧ GI n' S' Z' ∧ fr8 [(3, 2), (3, 3), (3, 4), (3, 5), (3, 7), (3, 8), (3, 9), (3, 12), (3, 14), (3, 15), (5, (-1)), (6, (-1))] Z Z' ∧ (RC T N Z' (lnS T N sg (Z 3 12)) ∧ LY T N sg (Z 3 12) (Z' 3 12) ∧ ((Z' 3 3 ≤ Z' 3 2 ∧ Z' 3 2 ≤ Z 3 1 ∧ (Z' 3 4 = 0 ∨ Z' 3 4 = 3 ∨ Z' 3 3 < Z' 3 2) ∧ (Z' 3 4 = 3 ∨ Z' 3 14 = 0)) ∧ Z 3 3 ≤ Z' 3 3 ∧ ((n : Nat) : Int) ≤ ((n' : Nat) : Int) ∧ ((s : Nat) : Int) ≤ ((s' : Nat) : Int) ∧ ((s' : Nat) : Int) ≤ ((s : Nat) : Int) + 900 * (((n' : Nat) : Int) - ((n : Nat) : Int)) ∧ ((n' : Nat) : Int) ≤ ((n : Nat) : Int) + 1 ∧ (Z' 3 4 = 3 ∨ 3 * (((n' : Nat) : Int) - ((n : Nat) : Int)) ≤ Z' 3 3 - Z 3 3) ∧ ai 6 Z' 19 0 (Z' 3 12 + 1) = 1 ∧ (Z' 3 4 = 3 ∨ ai 6 Z' 19 0 (Z' 3 12) = 1))) := by
  obtain ⟨r, hca, n', s', S', Z', h', e, q⟩ := Jmt (B := tB l D b0 ad Hb tau) (M := mt_40) (mi := 40) (as := [.ref 3]) (d := d + 105) (ls := [some (.ref 3), none]) rfl rfl rfl rfl rfl rfl (cw_40_3 (l := l) (D := D) (b0 := b0) (ad := ad) (Hb := Hb) (tau := tau) (d := d) (Post := fun r => ∃ (n' s' : Nat) (S' : Nat → xS) (Z' : xZ) (h' : mx_H), r = (none, h') ∧ XH n' s' S' Z' h' ∧ GI n' S' Z' ∧ fr8 [(3, 2), (3, 3), (3, 4), (3, 5), (3, 7), (3, 8), (3, 9), (3, 12), (3, 14), (3, 15), (5, (-1)), (6, (-1))] Z Z' ∧ (RC T N Z' (lnS T N sg (Z 3 12)) ∧ LY T N sg (Z 3 12) (Z' 3 12) ∧ ((Z' 3 3 ≤ Z' 3 2 ∧ Z' 3 2 ≤ Z 3 1 ∧ (Z' 3 4 = 0 ∨ Z' 3 4 = 3 ∨ Z' 3 3 < Z' 3 2) ∧ (Z' 3 4 = 3 ∨ Z' 3 14 = 0)) ∧ Z 3 3 ≤ Z' 3 3 ∧ ((n : Nat) : Int) ≤ ((n' : Nat) : Int) ∧ ((s : Nat) : Int) ≤ ((s' : Nat) : Int) ∧ ((s' : Nat) : Int) ≤ ((s : Nat) : Int) + 900 * (((n' : Nat) : Int) - ((n : Nat) : Int)) ∧ ((n' : Nat) : Int) ≤ ((n : Nat) : Int) + 1 ∧ (Z' 3 4 = 3 ∨ 3 * (((n' : Nat) : Int) - ((n : Nat) : Int)) ≤ Z' 3 3 - Z 3 3) ∧ ai 6 Z' 19 0 (Z' 3 12 + 1) = 1 ∧ (Z' 3 4 = 3 ∨ ai 6 Z' 19 0 (Z' 3 12) = 1)))) hx hG k0 k1 k2 k3 k4 k5 hr (fun n' s' S' Z' h' q1 q2 q3 q4 => ⟨n', s', S', Z', h', rfl, q1, q2, q3, q4⟩))
  subst e; exact ⟨n', s', S', Z', h', hca, q⟩
