set_option maxRecDepth 100000 in
theorem cw_246_56 {l : Launch} {D : va_G} {b0 : Nat} {ad : Nat → Nat} {Hb : Heap} {tau : Nat → Int64} {d n s : Nat} {S : Nat → xS} {Z : xZ} {h : mx_H} {Post : mx_R → Prop} (hx : XH n s S Z h) (hG : GI n S Z)  {x0 x1 x2 : Int} (p0 : 0 ≤ x0 ∧ x0 ≤ 384) (p1 : 0 ≤ x1 ∧ x1 ≤ 18) (p2 : 1 ≤ x2 ∧ x2 ≤ 18) (hP : ∀ z : Int, (-1) ≤ z ∧ z ≤ 268435456 ∧ ((z = -1 ∧ (Z 73 (19 * x0 + x1) = -1 ∨ x2 < Z 61 (18 * Z 73 (19 * x0 + x1) + 0))) ∨ (0 ≤ z ∧ ¬ Z 73 (19 * x0 + x1) = -1 ∧ Z 61 (18 * Z 73 (19 * x0 + x1) + 0) ≤ x2)) → Post (some (xI z), h)) : mx_J (tB l D b0 ad Hb tau) mt_246 (d + 1) 0 [some (.ref 56), some (xI x0), some (xI x1), some (xI x2), none] [] h Post := by
    have a56 : 56 < n := lt83 (GI_n hG) rfl
    have s56 : S 56 = .inl (12, [0, 2, 2, 2, 2, 0, 0, 0, 0, 0, 0, 0, 0, 0, 0, 2, 2, 2, 0, 2, 2, 2, 0, 0, 2, 2, 2, 2, 2, 2, 0, 0, 2, 2, 2, 2, 2, 2, 2, 2, 2, 2]) := GI_s hG 56 rfl
    have a73 : 73 < n := lt83 (GI_n hG) rfl
    have s73 : S 73 = .inr (.int, 7315, 0) := GI_s hG 73 rfl
    have a74 : 74 < n := lt83 (GI_n hG) rfl
    have s74 : S 74 = .inr (.int, 385, 0) := GI_s hG 74 rfl
    refine mx_J.step (sn_246 0) (fun _ _ => rfl) ?_
    refine JgetR (g := 32) (b := 73) hx (show mx_Sn _ _ 1 (mx_getf 12 32 4) from sn_246 1) a56 s56 rfl rfl (hG.prr 56 32 rfl) ?_
    refine JcI (z := 19) (show mx_Sn _ _ 4 (mx_const (.int 19) 6) from sn_246 4) rfl ?_
    refine mx_J.step (sn_246 6) (fun _ _ => rfl) ?_
    refine Jimul (show mx_Sn _ _ 7 (mx_imul 8) from sn_246 7) ?_
    refine mx_J.step (sn_246 8) (fun _ _ => rfl) ?_
    refine Jiadd (show mx_Sn _ _ 9 (mx_iadd 10) from sn_246 9) ?_
    have b2 : (-1) ≤ Z 73 ((19 * x0) + x1) ∧ Z 73 ((19 * x0) + x1) ≤ 384 := hG.pr 73 ((19 * x0) + x1)
    refine JialdI (z := Z 73 ((19 * x0) + x1)) hx (show mx_Sn _ _ 10 (mx_iald 11) from sn_246 10) a73 s73 (by omega) rfl ?_
    refine mx_J.step (ls2 := [some (.ref 56), some (xI x0), some (xI x1), some (xI x2), some (xI (Z 73 ((19 * x0) + x1)))]) (sn_246 11) (fun _ _ => rfl) ?_
    refine mx_J.step (sn_246 13) (fun _ _ => rfl) ?_
    refine JcI (z := (-1)) (show mx_Sn _ _ 15 (mx_const (.int (-1)) 16) from sn_246 15) rfl ?_
    have c62 : ∀ (k3_0 : Int), (-1) ≤ k3_0 ∧ k3_0 ≤ 268435456 → ((k3_0 = -1 ∧ (Z 73 (19 * x0 + x1) = -1 ∨ x2 < Z 61 (18 * Z 73 (19 * x0 + x1) + 0))) ∨ (0 ≤ k3_0 ∧ ¬ Z 73 (19 * x0 + x1) = -1 ∧ Z 61 (18 * Z 73 (19 * x0 + x1) + 0) ≤ x2)) → mx_J (tB l D b0 ad Hb tau) mt_246 (d + 1) 62 [some (.ref 56), some (xI x0), some (xI x1), some (xI x2), some (xI (Z 73 ((19 * x0) + x1)))] [xI k3_0] h Post := by
      intro k3_0 f3_0 f3_1
      exact mx_J.ret (sn_246 62) (fun _ _ => rfl) (hP k3_0 (by omega))
    have c30 : (Z 73 (19 * x0 + x1) = -1 ∨ x2 < Z 61 (18 * Z 73 (19 * x0 + x1) + 0)) → mx_J (tB l D b0 ad Hb tau) mt_246 (d + 1) 30 [some (.ref 56), some (xI x0), some (xI x1), some (xI x2), some (xI (Z 73 ((19 * x0) + x1)))] [] h Post := by
      intro f4_0
      refine JcI (z := (-1)) (show mx_Sn _ _ 30 (mx_const (.int (-1)) 31) from sn_246 30) rfl ?_
      refine mx_J.step (sn_246 31) (fun _ _ => rfl) ?_
      exact c62 (-1) (by omega) (by omega)
    refine Jicmp_eq (show mx_Sn _ _ 16 (mx_icmp_eq 30 19) from sn_246 16) (by omega) (by omega) (fun q5 => ?_) (fun q5 => ?_)
    · skip
      exact c30 (by omega)
    · skip
      refine mx_J.step (sn_246 19) (fun _ _ => rfl) ?_
      refine mx_J.step (sn_246 20) (fun _ _ => rfl) ?_
      refine JcI (z := 0) (show mx_Sn _ _ 22 (mx_const (.int 0) 23) from sn_246 22) rfl ?_
      have b7 : 0 ≤ Z 61 (18 * (Z 73 ((19 * x0) + x1)) + 0) ∧ Z 61 (18 * (Z 73 ((19 * x0) + x1)) + 0) ≤ 18 := hG.pr 61 (18 * (Z 73 ((19 * x0) + x1)) + 0)
      obtain ⟨z6, hc6, b6⟩ := ct_190_56 (d := d + 0) (l := l) (D := D) (b0 := b0) (ad := ad) (Hb := Hb) (tau := tau) hx hG (show 0 ≤ Z 73 ((19 * x0) + x1) ∧ Z 73 ((19 * x0) + x1) ≤ 384 by omega) (show 0 ≤ 0 ∧ 0 ≤ 17 by omega)
      refine Jcv hx (show mx_Sn _ _ 23 (mx_callv 190 3 12 26) from sn_246 23) a56 s56 hc6 rfl rfl rfl ?_
      refine mx_J.step (sn_246 26) (fun _ _ => rfl) ?_
      refine Jicmp_le (show mx_Sn _ _ 27 (mx_icmp_le 34 30) from sn_246 27) (by omega) (by omega) (fun q8 => ?_) (fun q8 => ?_)
      · skip
        refine mx_J.step (sn_246 34) (fun _ _ => rfl) ?_
        refine JgetR (g := 33) (b := 74) hx (show mx_Sn _ _ 35 (mx_getf 12 33 38) from sn_246 35) a56 s56 rfl rfl (hG.prr 56 33 rfl) ?_
        refine mx_J.step (sn_246 38) (fun _ _ => rfl) ?_
        have b10 : 0 ≤ Z 74 (Z 73 ((19 * x0) + x1)) ∧ Z 74 (Z 73 ((19 * x0) + x1)) ≤ 268435456 := hG.pr 74 (Z 73 ((19 * x0) + x1))
        refine JialdI (z := Z 74 (Z 73 ((19 * x0) + x1))) hx (show mx_Sn _ _ 40 (mx_iald 41) from sn_246 40) a74 s74 (by omega) rfl ?_
        refine JcI (z := 268435456) (show mx_Sn _ _ 41 (mx_const (.int 268435456) 44) from sn_246 41) rfl ?_
        refine Jicmp_ne (show mx_Sn _ _ 44 (mx_icmp_ne 53 47) from sn_246 44) (by omega) (by omega) (fun q11 => ?_) (fun q11 => ?_)
        · skip
          refine mx_J.step (sn_246 53) (fun _ _ => rfl) ?_
          refine JgetR (g := 33) (b := 74) hx (show mx_Sn _ _ 54 (mx_getf 12 33 57) from sn_246 54) a56 s56 rfl rfl (hG.prr 56 33 rfl) ?_
          refine mx_J.step (sn_246 57) (fun _ _ => rfl) ?_
          have b13 : 0 ≤ Z 74 (Z 73 ((19 * x0) + x1)) ∧ Z 74 (Z 73 ((19 * x0) + x1)) ≤ 268435456 := hG.pr 74 (Z 73 ((19 * x0) + x1))
          refine JialdI (z := Z 74 (Z 73 ((19 * x0) + x1))) hx (show mx_Sn _ _ 59 (mx_iald 60) from sn_246 59) a74 s74 (by omega) rfl ?_
          refine JcI (z := 1) (show mx_Sn _ _ 60 (mx_const (.int 1) 61) from sn_246 60) rfl ?_
          refine Jiadd (show mx_Sn _ _ 61 (mx_iadd 62) from sn_246 61) ?_
          exact c62 ((Z 74 (Z 73 ((19 * x0) + x1))) + 1) (by omega) (by omega)
        · skip
          refine JcI (z := 268435456) (show mx_Sn _ _ 47 (mx_const (.int 268435456) 50) from sn_246 47) rfl ?_
          refine mx_J.step (sn_246 50) (fun _ _ => rfl) ?_
          exact c62 268435456 (by omega) (by omega)
      · skip
        exact c30 (by omega)
theorem ct_246_56 {l : Launch} {D : va_G} {b0 : Nat} {ad : Nat → Nat} {Hb : Heap} {tau : Nat → Int64} {d n s : Nat} {S : Nat → xS} {Z : xZ} {h : mx_H} (hx : XH n s S Z h) (hG : GI n S Z)  {x0 x1 x2 : Int} (p0 : 0 ≤ x0 ∧ x0 ≤ 384) (p1 : 0 ≤ x1 ∧ x1 ≤ 18) (p2 : 1 ≤ x2 ∧ x2 ≤ 18) : ∃ z : Int, mx_Ca (tB l D b0 ad Hb tau) (d + 2) 246 [.ref 56, xI x0, xI x1, xI x2] h (some (xI z), h) ∧ ((-1) ≤ z ∧ z ≤ 268435456 ∧ ((z = -1 ∧ (Z 73 (19 * x0 + x1) = -1 ∨ x2 < Z 61 (18 * Z 73 (19 * x0 + x1) + 0))) ∨ (0 ≤ z ∧ ¬ Z 73 (19 * x0 + x1) = -1 ∧ Z 61 (18 * Z 73 (19 * x0 + x1) + 0) ≤ x2))) := by
  obtain ⟨r, hca, z, e, hp⟩ := Jmt (B := tB l D b0 ad Hb tau) (M := mt_246) (mi := 246) (as := [.ref 56, xI x0, xI x1, xI x2]) (d := d + 1) (ls := [some (.ref 56), some (xI x0), some (xI x1), some (xI x2), none]) rfl rfl rfl rfl rfl rfl (cw_246_56 (l := l) (D := D) (b0 := b0) (ad := ad) (Hb := Hb) (tau := tau) (d := d) (Post := fun r => ∃ z : Int, r = (some (xI z), h) ∧ ((-1) ≤ z ∧ z ≤ 268435456 ∧ ((z = -1 ∧ (Z 73 (19 * x0 + x1) = -1 ∨ x2 < Z 61 (18 * Z 73 (19 * x0 + x1) + 0))) ∨ (0 ≤ z ∧ ¬ Z 73 (19 * x0 + x1) = -1 ∧ Z 61 (18 * Z 73 (19 * x0 + x1) + 0) ≤ x2)))) hx hG p0 p1 p2 (fun z hz => ⟨z, rfl, hz⟩))
  subst e; exact ⟨z, hca, hp⟩
theorem ct_252_56 {l : Launch} {D : va_G} {b0 : Nat} {ad : Nat → Nat} {Hb : Heap} {tau : Nat → Int64} {d n s : Nat} {S : Nat → xS} {Z : xZ} {h : mx_H} (hx : XH n s S Z h) (hG : GI n S Z)  {x0 x1 : Int} (p0 : 0 ≤ x0 ∧ x0 ≤ 384) (p1 : 0 ≤ x1 ∧ x1 ≤ 384) : ∃ z : Int, mx_Ca (tB l D b0 ad Hb tau) (d + 2) 252 [.ref 56, xI x0, xI x1] h (some (xI z), h) ∧ (0 ≤ z ∧ z ≤ 1) := by sorry
theorem ct_250_56 {l : Launch} {D : va_G} {b0 : Nat} {ad : Nat → Nat} {Hb : Heap} {tau : Nat → Int64} {d n s : Nat} {S : Nat → xS} {Z : xZ} {h : mx_H} (hx : XH n s S Z h) (hG : GI n S Z)  {x0 x1 : Int} (p0 : (-2147483648) ≤ x0 ∧ x0 ≤ 2147483647) (p1 : (-2147483648) ≤ x1 ∧ x1 ≤ 2147483647) : ∃ (z : Int) (Z' : xZ) (h' : mx_H), mx_Ca (tB l D b0 ad Hb tau) (d + 3) 250 [.ref 56, xI x0, xI x1] h (some (xI z), h') ∧ XH n s S Z' h' ∧ GI n S Z' ∧ fr' [(56, 0)] Z Z' ∧ ((-2147483648) ≤ z ∧ z ≤ 2147483647) := by sorry
theorem ct_254_56 {l : Launch} {D : va_G} {b0 : Nat} {ad : Nat → Nat} {Hb : Heap} {tau : Nat → Int64} {d n s : Nat} {S : Nat → xS} {Z : xZ} {h : mx_H} (hx : XH n s S Z h) (hG : GI n S Z)   : ∃ (z : Int) (Z' : xZ) (h' : mx_H), mx_Ca (tB l D b0 ad Hb tau) (d + 3) 254 [.ref 56] h (some (xI z), h') ∧ XH n s S Z' h' ∧ GI n S Z' ∧ fr' [(56, 0)] Z Z' ∧ ((-2147483648) ≤ z ∧ z ≤ 2147483647) := by sorry
theorem ct_251_56 {l : Launch} {D : va_G} {b0 : Nat} {ad : Nat → Nat} {Hb : Heap} {tau : Nat → Int64} {d n s : Nat} {S : Nat → xS} {Z : xZ} {h : mx_H} (hx : XH n s S Z h) (hG : GI n S Z)   : ∃ (z : Int) (Z' : xZ) (h' : mx_H), mx_Ca (tB l D b0 ad Hb tau) (d + 3) 251 [.ref 56] h (some (xI z), h') ∧ XH n s S Z' h' ∧ GI n S Z' ∧ fr' [(56, 0), (62, (-1))] Z Z' ∧ (0 ≤ z ∧ z ≤ 384) := by sorry
theorem ct_265_56 {l : Launch} {D : va_G} {b0 : Nat} {ad : Nat → Nat} {Hb : Heap} {tau : Nat → Int64} {d n s : Nat} {S : Nat → xS} {Z : xZ} {h : mx_H} (hx : XH n s S Z h) (hG : GI n S Z)  {x0 x1 : Int} (p0 : 0 ≤ x0 ∧ x0 ≤ 384) (p1 : 0 ≤ x1 ∧ x1 ≤ 18) : ∃ z : Int, mx_Ca (tB l D b0 ad Hb tau) (d + 1) 265 [.ref 56, xI x0, xI x1] h (some (xI z), h) ∧ (0 ≤ z ∧ z ≤ 268435456 ∧ z = fc Z x0 x1) := by sorry
theorem ct_266_56 {l : Launch} {D : va_G} {b0 : Nat} {ad : Nat → Nat} {Hb : Heap} {tau : Nat → Int64} {d n s : Nat} {S : Nat → xS} {Z : xZ} {h : mx_H} (hx : XH n s S Z h) (hG : GI n S Z)  {x0 : Int} (p0 : 0 ≤ x0 ∧ x0 ≤ 384) : ∃ z : Int, mx_Ca (tB l D b0 ad Hb tau) (d + 1) 266 [.ref 56, xI x0] h (some (xI z), h) ∧ (0 ≤ z ∧ z ≤ 268435456) := by sorry
theorem ct_270_56 {l : Launch} {D : va_G} {b0 : Nat} {ad : Nat → Nat} {Hb : Heap} {tau : Nat → Int64} {d n s : Nat} {S : Nat → xS} {Z : xZ} {h : mx_H} (hx : XH n s S Z h) (hG : GI n S Z)  {x0 : Int} (p0 : (-2147483648) ≤ x0 ∧ x0 ≤ 2147483647) : ∃ (z : Int) (Z' : xZ) (h' : mx_H), mx_Ca (tB l D b0 ad Hb tau) (d + 2) 270 [.ref 56, xI x0] h (some (xI z), h') ∧ XH n s S Z' h' ∧ GI n S Z' ∧ fr' [(56, 0)] Z Z' ∧ ((-2147483648) ≤ z ∧ z ≤ 2147483647) := by sorry
theorem ct_277_ {l : Launch} {D : va_G} {b0 : Nat} {ad : Nat → Nat} {Hb : Heap} {tau : Nat → Int64} {d n s : Nat} {S : Nat → xS} {Z : xZ} {h : mx_H} (hx : XH n s S Z h) (hG : GI n S Z)  {x0 x1 : Int} (p0 : (-9223372036854775808) ≤ x0 ∧ x0 ≤ 9223372036854775807) (p1 : (-2147483648) ≤ x1 ∧ x1 ≤ 2147483647) : ∃ z : Int, mx_Ca (tB l D b0 ad Hb tau) (d + 1) 277 [xL x0, xI x1] h (some (xL z), h) ∧ ((-9223372036854775808) ≤ z ∧ z ≤ 9223372036854775807) := by sorry
theorem ct_278_56 {l : Launch} {D : va_G} {b0 : Nat} {ad : Nat → Nat} {Hb : Heap} {tau : Nat → Int64} {d n s : Nat} {S : Nat → xS} {Z : xZ} {h : mx_H} (hx : XH n s S Z h) (hG : GI n S Z)  {x0 x1 x2 : Int} (p0 : (-2147483648) ≤ x0 ∧ x0 ≤ 2147483647) (p1 : (-2147483648) ≤ x1 ∧ x1 ≤ 2147483647) (p2 : (-2147483648) ≤ x2 ∧ x2 ≤ 2147483647) : ∃ (z : Int) (Z' : xZ) (h' : mx_H), mx_Ca (tB l D b0 ad Hb tau) (d + 2) 278 [.ref 56, xI x0, xI x1, xI x2] h (some (xI z), h') ∧ XH n s S Z' h' ∧ GI n S Z' ∧ fr' [(56, 0), (80, (-1)), (81, (-1)), (82, (-1))] Z Z' ∧ ((-3) ≤ z ∧ z ≤ 0 ∧ (((x0 < 0 ∨ 3 < x0 ∨ x1 < 0 ∨ 3 < x1) → z = -2) ∧ (¬ (x0 < 0 ∨ 3 < x0 ∨ x1 < 0 ∨ 3 < x1) → (x2 < 0 ∨ 40 < x2) → z = -3) ∧ (¬ (x0 < 0 ∨ 3 < x0 ∨ x1 < 0 ∨ 3 < x1) → ¬ (x2 < 0 ∨ 40 < x2) → z = 0))) := by sorry
theorem ct_279_56 {l : Launch} {D : va_G} {b0 : Nat} {ad : Nat → Nat} {Hb : Heap} {tau : Nat → Int64} {d n s : Nat} {S : Nat → xS} {Z : xZ} {h : mx_H} (hx : XH n s S Z h) (hG : GI n S Z)  {x0 x1 x2 : Int} (p0 : (-2147483648) ≤ x0 ∧ x0 ≤ 2147483647) (p1 : (-2147483648) ≤ x1 ∧ x1 ≤ 2147483647) (p2 : (-9223372036854775808) ≤ x2 ∧ x2 ≤ 9223372036854775807) : ∃ (z : Int) (Z' : xZ) (h' : mx_H), mx_Ca (tB l D b0 ad Hb tau) (d + 3) 279 [.ref 56, xI x0, xI x1, xL x2] h (some (xL z), h') ∧ XH n s S Z' h' ∧ GI n S Z' ∧ fr' [(56, 0), (82, (-1))] Z Z' ∧ ((-9223372036854775808) ≤ z ∧ z ≤ 9223372036854775807) := by sorry
theorem ct_280_56 {l : Launch} {D : va_G} {b0 : Nat} {ad : Nat → Nat} {Hb : Heap} {tau : Nat → Int64} {d n s : Nat} {S : Nat → xS} {Z : xZ} {h : mx_H} (hx : XH n s S Z h) (hG : GI n S Z)  {x0 x1 : Int} (p0 : (-2147483648) ≤ x0 ∧ x0 ≤ 2147483647) (p1 : (-2147483648) ≤ x1 ∧ x1 ≤ 2147483647) : ∃ (z : Int) (Z' : xZ) (h' : mx_H), mx_Ca (tB l D b0 ad Hb tau) (d + 3) 280 [.ref 56, xI x0, xI x1] h (some (xI z), h') ∧ XH n s S Z' h' ∧ GI n S Z' ∧ fr' [(56, 0), (82, (-1))] Z Z' ∧ ((-6) ≤ z ∧ z ≤ 18) := by sorry
theorem ct_283_56 {l : Launch} {D : va_G} {b0 : Nat} {ad : Nat → Nat} {Hb : Heap} {tau : Nat → Int64} {d n s : Nat} {S : Nat → xS} {Z : xZ} {h : mx_H} (hx : XH n s S Z h) (hG : GI n S Z)  {x0 : Int} (p0 : (-2147483648) ≤ x0 ∧ x0 ≤ 2147483647) : ∃ (z : Int) (Z' : xZ) (h' : mx_H), mx_Ca (tB l D b0 ad Hb tau) (d + 3) 283 [.ref 56, xI x0] h (some (xI z), h') ∧ XH n s S Z' h' ∧ GI n S Z' ∧ fr' [(56, 0)] Z Z' ∧ ((-2147483648) ≤ z ∧ z ≤ 2147483647) := by sorry
theorem ct_223_56_i6 {l : Launch} {D : va_G} {b0 : Nat} {ad : Nat → Nat} {Hb : Heap} {tau : Nat → Int64} {d n s : Nat} {S : Nat → xS} {Z : xZ} {h : mx_H} (hx : XH n s S Z h) (hG : GI n S Z)   : ∃ (z : Int) (Z' : xZ) (h' : mx_H), mx_Ca (tB l D b0 ad Hb tau) (d + 1) 223 [.ref 56, xI 6] h (some (xI z), h') ∧ XH n s S Z' h' ∧ GI n S Z' ∧ fr' [(56, 23)] Z Z' ∧ (0 ≤ z ∧ z ≤ 5) := by sorry
theorem ct_223_56_i8 {l : Launch} {D : va_G} {b0 : Nat} {ad : Nat → Nat} {Hb : Heap} {tau : Nat → Int64} {d n s : Nat} {S : Nat → xS} {Z : xZ} {h : mx_H} (hx : XH n s S Z h) (hG : GI n S Z)   : ∃ (z : Int) (Z' : xZ) (h' : mx_H), mx_Ca (tB l D b0 ad Hb tau) (d + 1) 223 [.ref 56, xI 8] h (some (xI z), h') ∧ XH n s S Z' h' ∧ GI n S Z' ∧ fr' [(56, 23)] Z Z' ∧ (0 ≤ z ∧ z ≤ 7) := by sorry
theorem ct_223_56_i10 {l : Launch} {D : va_G} {b0 : Nat} {ad : Nat → Nat} {Hb : Heap} {tau : Nat → Int64} {d n s : Nat} {S : Nat → xS} {Z : xZ} {h : mx_H} (hx : XH n s S Z h) (hG : GI n S Z)   : ∃ (z : Int) (Z' : xZ) (h' : mx_H), mx_Ca (tB l D b0 ad Hb tau) (d + 1) 223 [.ref 56, xI 10] h (some (xI z), h') ∧ XH n s S Z' h' ∧ GI n S Z' ∧ fr' [(56, 23)] Z Z' ∧ (0 ≤ z ∧ z ≤ 9) := by sorry
theorem ct_224_56 {l : Launch} {D : va_G} {b0 : Nat} {ad : Nat → Nat} {Hb : Heap} {tau : Nat → Int64} {d n s : Nat} {S : Nat → xS} {Z : xZ} {h : mx_H} (hx : XH n s S Z h) (hG : GI n S Z)   : ∃ (z : Int) (Z' : xZ) (h' : mx_H), mx_Ca (tB l D b0 ad Hb tau) (d + 2) 224 [.ref 56] h (some (xI z), h') ∧ XH n s S Z' h' ∧ GI n S Z' ∧ fr' [(56, 23)] Z Z' ∧ (0 ≤ z ∧ z ≤ 3505) := by sorry
theorem ct_193_ {l : Launch} {D : va_G} {b0 : Nat} {ad : Nat → Nat} {Hb : Heap} {tau : Nat → Int64} {d n s : Nat} {S : Nat → xS} {Z : xZ} {h : mx_H} (hx : XH n s S Z h) (hG : GI n S Z)  {x0 x1 x2 : Int} (p0 : (-2147483648) ≤ x0 ∧ x0 ≤ 2147483647) (p1 : (-2147483648) ≤ x1 ∧ x1 ≤ 2147483647) (p2 : (-2147483648) ≤ x2 ∧ x2 ≤ 2147483647) : ∃ z : Int, mx_Ca (tB l D b0 ad Hb tau) (d + 1) 193 [xI x0, xI x1, xI x2] h (some (xI z), h) ∧ ((-2147483648) ≤ z ∧ z ≤ 2147483647) := by sorry
theorem ct_194_56_i0 {l : Launch} {D : va_G} {b0 : Nat} {ad : Nat → Nat} {Hb : Heap} {tau : Nat → Int64} {d n s : Nat} {S : Nat → xS} {Z : xZ} {h : mx_H} (hx : XH n s S Z h) (hG : GI n S Z)   (k0 : Z 57 21 = 1) : ∃ (z : Int) (Z' : xZ) (h' : mx_H), mx_Ca (tB l D b0 ad Hb tau) (d + 2) 194 [.ref 56, xI 0] h (some (xI z), h') ∧ XH n s S Z' h' ∧ GI n S Z' ∧ fr' [(64, (-1))] Z Z' ∧ ((-2147483648) ≤ z ∧ z ≤ 2147483647) := by sorry
theorem ct_194_56_i1 {l : Launch} {D : va_G} {b0 : Nat} {ad : Nat → Nat} {Hb : Heap} {tau : Nat → Int64} {d n s : Nat} {S : Nat → xS} {Z : xZ} {h : mx_H} (hx : XH n s S Z h) (hG : GI n S Z)   (k0 : Z 57 22 = 1) : ∃ (z : Int) (Z' : xZ) (h' : mx_H), mx_Ca (tB l D b0 ad Hb tau) (d + 2) 194 [.ref 56, xI 1] h (some (xI z), h') ∧ XH n s S Z' h' ∧ GI n S Z' ∧ fr' [(64, (-1))] Z Z' ∧ ((-2147483648) ≤ z ∧ z ≤ 2147483647) := by sorry
theorem ct_195_56 {l : Launch} {D : va_G} {b0 : Nat} {ad : Nat → Nat} {Hb : Heap} {tau : Nat → Int64} {d n s : Nat} {S : Nat → xS} {Z : xZ} {h : mx_H} (hx : XH n s S Z h) (hG : GI n S Z)  {x0 x1 x2 : Int} (p0 : 0 ≤ x0 ∧ x0 ≤ 384) (p1 : 0 ≤ x1 ∧ x1 ≤ 17) (p2 : 0 ≤ x2 ∧ x2 ≤ 9) : ∃ (z : Int) (Z' : xZ) (h' : mx_H), mx_Ca (tB l D b0 ad Hb tau) (d + 3) 195 [.ref 56, xI x0, xI x1, xI x2] h (some (xI z), h') ∧ XH n s S Z' h' ∧ GI n S Z' ∧ fr' [(64, (-1)), (65, (-1))] Z Z' ∧ (0 ≤ z ∧ z ≤ 18) := by sorry
theorem ct_196_56 {l : Launch} {D : va_G} {b0 : Nat} {ad : Nat → Nat} {Hb : Heap} {tau : Nat → Int64} {d n s : Nat} {S : Nat → xS} {Z : xZ} {h : mx_H} (hx : XH n s S Z h) (hG : GI n S Z)  {x0 x1 x2 : Int} (p0 : 0 ≤ x0 ∧ x0 ≤ 384) (p1 : (-2147483648) ≤ x1 ∧ x1 ≤ 2147483647) (p2 : 0 ≤ x2 ∧ x2 ≤ 9) : ∃ (z : Int) (Z' : xZ) (h' : mx_H), mx_Ca (tB l D b0 ad Hb tau) (d + 4) 196 [.ref 56, xI x0, xI x1, xI x2] h (some (xI z), h') ∧ XH n s S Z' h' ∧ GI n S Z' ∧ fr' [(62, (-1)), (64, (-1)), (65, (-1))] Z Z' ∧ (0 ≤ z ∧ z ≤ 384 ∧ z < Z 56 18) := by sorry
theorem ct_198_56 {l : Launch} {D : va_G} {b0 : Nat} {ad : Nat → Nat} {Hb : Heap} {tau : Nat → Int64} {d n s : Nat} {S : Nat → xS} {Z : xZ} {h : mx_H} (hx : XH n s S Z h) (hG : GI n S Z)  {x0 x1 x2 : Int} (p0 : 0 ≤ x0 ∧ x0 ≤ 384) (p1 : (-2147483648) ≤ x1 ∧ x1 ≤ 2147483647) (p2 : 0 ≤ x2 ∧ x2 ≤ 9) : ∃ (z : Int) (Z' : xZ) (h' : mx_H), mx_Ca (tB l D b0 ad Hb tau) (d + 5) 198 [.ref 56, xI x0, xI x1, xI x2] h (some (xI z), h') ∧ XH n s S Z' h' ∧ GI n S Z' ∧ fr' [(62, (-1)), (64, (-1)), (65, (-1))] Z Z' ∧ (0 ≤ z ∧ z ≤ 384 ∧ z < Z 56 18) := by sorry
theorem ct_200_56 {l : Launch} {D : va_G} {b0 : Nat} {ad : Nat → Nat} {Hb : Heap} {tau : Nat → Int64} {d n s : Nat} {S : Nat → xS} {Z : xZ} {h : mx_H} (hx : XH n s S Z h) (hG : GI n S Z)  {x0 : Int} (p0 : (-2147483648) ≤ x0 ∧ x0 ≤ 2147483647) : ∃ (z : Int) (Z' : xZ) (h' : mx_H), mx_Ca (tB l D b0 ad Hb tau) (d + 4) 200 [.ref 56, xI x0] h (some (xI z), h') ∧ XH n s S Z' h' ∧ GI n S Z' ∧ fr' [(56, 0), (64, (-1)), (65, (-1))] Z Z' ∧ ((-2) ≤ z ∧ z ≤ 18) := by sorry
theorem ct_201_56 {l : Launch} {D : va_G} {b0 : Nat} {ad : Nat → Nat} {Hb : Heap} {tau : Nat → Int64} {d n s : Nat} {S : Nat → xS} {Z : xZ} {h : mx_H} (hx : XH n s S Z h) (hG : GI n S Z)  {x0 x1 : Int} (p0 : (-2147483648) ≤ x0 ∧ x0 ≤ 2147483647) (p1 : (-2147483648) ≤ x1 ∧ x1 ≤ 2147483647) : ∃ (z : Int) (Z' : xZ) (h' : mx_H), mx_Ca (tB l D b0 ad Hb tau) (d + 6) 201 [.ref 56, xI x0, xI x1] h (some (xI z), h') ∧ XH n s S Z' h' ∧ GI n S Z' ∧ fr' [(56, 0), (62, (-1)), (64, (-1)), (65, (-1))] Z Z' ∧ ((-5) ≤ z ∧ z ≤ 384) := by sorry
theorem ct_202_56 {l : Launch} {D : va_G} {b0 : Nat} {ad : Nat → Nat} {Hb : Heap} {tau : Nat → Int64} {d n s : Nat} {S : Nat → xS} {Z : xZ} {h : mx_H} (hx : XH n s S Z h) (hG : GI n S Z)   : ∃ (Z' : xZ) (h' : mx_H), mx_Ca (tB l D b0 ad Hb tau) (d + 1) 202 [.ref 56] h (none, h') ∧ XH n s S Z' h' ∧ GI n S Z' ∧ fr' [(66, (-1))] Z Z' ∧ ((Z' 66 0 = Z 57 27)) := by sorry
theorem ct_203_56 {l : Launch} {D : va_G} {b0 : Nat} {ad : Nat → Nat} {Hb : Heap} {tau : Nat → Int64} {d n s : Nat} {S : Nat → xS} {Z : xZ} {h : mx_H} (hx : XH n s S Z h) (hG : GI n S Z)   (k0 : Z 66 0 < Z 56 18) : ∃ (Z' : xZ) (h' : mx_H), mx_Ca (tB l D b0 ad Hb tau) (d + 1) 203 [.ref 56] h (none, h') ∧ XH n s S Z' h' ∧ GI n S Z' ∧ fr' [(57, (-1))] Z Z' := by sorry
theorem ct_204_56 {l : Launch} {D : va_G} {b0 : Nat} {ad : Nat → Nat} {Hb : Heap} {tau : Nat → Int64} {d n s : Nat} {S : Nat → xS} {Z : xZ} {h : mx_H} (hx : XH n s S Z h) (hG : GI n S Z)   (k0 : Z 66 0 < Z 56 18) : ∃ (Z' : xZ) (h' : mx_H), mx_Ca (tB l D b0 ad Hb tau) (d + 1) 204 [.ref 56] h (none, h') ∧ XH n s S Z' h' ∧ GI n S Z' ∧ fr' [(57, (-1))] Z Z' := by sorry
theorem ct_205_56 {l : Launch} {D : va_G} {b0 : Nat} {ad : Nat → Nat} {Hb : Heap} {tau : Nat → Int64} {d n s : Nat} {S : Nat → xS} {Z : xZ} {h : mx_H} (hx : XH n s S Z h) (hG : GI n S Z)  {x0 : Int} (p0 : (-2147483648) ≤ x0 ∧ x0 ≤ 2147483647) : ∃ (Z' : xZ) (h' : mx_H), mx_Ca (tB l D b0 ad Hb tau) (d + 6) 205 [.ref 56, xI x0] h (none, h') ∧ XH n s S Z' h' ∧ GI n S Z' ∧ fr' [(57, (-1)), (62, (-1)), (64, (-1)), (65, (-1))] Z Z' := by sorry
theorem ct_206_56 {l : Launch} {D : va_G} {b0 : Nat} {ad : Nat → Nat} {Hb : Heap} {tau : Nat → Int64} {d n s : Nat} {S : Nat → xS} {Z : xZ} {h : mx_H} (hx : XH n s S Z h) (hG : GI n S Z)  {x0 : Int} (p0 : (-2147483648) ≤ x0 ∧ x0 ≤ 2147483647) : ∃ (z : Int) (Z' : xZ) (h' : mx_H), mx_Ca (tB l D b0 ad Hb tau) (d + 7) 206 [.ref 56, xI x0] h (some (xI z), h') ∧ XH n s S Z' h' ∧ GI n S Z' ∧ fr' [(56, 0), (57, (-1)), (62, (-1)), (64, (-1)), (65, (-1)), (66, (-1))] Z Z' ∧ ((-12) ≤ z ∧ z ≤ 18) := by sorry
theorem ct_207_56 {l : Launch} {D : va_G} {b0 : Nat} {ad : Nat → Nat} {Hb : Heap} {tau : Nat → Int64} {d n s : Nat} {S : Nat → xS} {Z : xZ} {h : mx_H} (hx : XH n s S Z h) (hG : GI n S Z)  {x0 : Int} (p0 : (-2147483648) ≤ x0 ∧ x0 ≤ 2147483647) : ∃ (z : Int) (Z' : xZ) (h' : mx_H), mx_Ca (tB l D b0 ad Hb tau) (d + 7) 207 [.ref 56, xI x0] h (some (xI z), h') ∧ XH n s S Z' h' ∧ GI n S Z' ∧ fr' [(56, 0), (57, (-1)), (62, (-1)), (64, (-1)), (65, (-1)), (66, (-1))] Z Z' ∧ ((-3) ≤ z ∧ z ≤ 18) := by sorry
theorem ct_209_56 {l : Launch} {D : va_G} {b0 : Nat} {ad : Nat → Nat} {Hb : Heap} {tau : Nat → Int64} {d n s : Nat} {S : Nat → xS} {Z : xZ} {h : mx_H} (hx : XH n s S Z h) (hG : GI n S Z)  {x0 x1 : Int} (p0 : (-2147483648) ≤ x0 ∧ x0 ≤ 2147483647) (p1 : (-2147483648) ≤ x1 ∧ x1 ≤ 2147483647) : ∃ z : Int, mx_Ca (tB l D b0 ad Hb tau) (d + 3) 209 [.ref 56, xI x0, xI x1] h (some (xI z), h) ∧ (0 ≤ z ∧ z ≤ 2 ∧ (z = 0 → (1 ≤ x0 ∧ x0 ≤ 18 ∧ 1 ≤ x1 ∧ x1 ≤ x0 - 1 ∧ hv Z (Z 57 27) x0 = 1))) := by sorry
theorem ct_210_56 {l : Launch} {D : va_G} {b0 : Nat} {ad : Nat → Nat} {Hb : Heap} {tau : Nat → Int64} {d n s : Nat} {S : Nat → xS} {Z : xZ} {h : mx_H} (hx : XH n s S Z h) (hG : GI n S Z)  {x0 x1 : Int} (p0 : 1 ≤ x0 ∧ x0 ≤ 18) (p1 : 1 ≤ x1 ∧ x1 ≤ 17) (k0 : hv Z (Z 57 27) x0 = 1) : ∃ (Z' : xZ) (h' : mx_H), mx_Ca (tB l D b0 ad Hb tau) (d + 3) 210 [.ref 56, xI x0, xI x1] h (none, h') ∧ XH n s S Z' h' ∧ GI n S Z' ∧ fr' [(57, (-1)), (62, (-1))] Z Z' := by sorry
theorem ct_211_56 {l : Launch} {D : va_G} {b0 : Nat} {ad : Nat → Nat} {Hb : Heap} {tau : Nat → Int64} {d n s : Nat} {S : Nat → xS} {Z : xZ} {h : mx_H} (hx : XH n s S Z h) (hG : GI n S Z)  {x0 x1 : Int} (p0 : (-2147483648) ≤ x0 ∧ x0 ≤ 2147483647) (p1 : (-2147483648) ≤ x1 ∧ x1 ≤ 2147483647) : ∃ (z : Int) (Z' : xZ) (h' : mx_H), mx_Ca (tB l D b0 ad Hb tau) (d + 4) 211 [.ref 56, xI x0, xI x1] h (some (xI z), h') ∧ XH n s S Z' h' ∧ GI n S Z' ∧ fr' [(56, 0), (57, (-1)), (62, (-1)), (66, (-1))] Z Z' ∧ ((-12) ≤ z ∧ z ≤ 18) := by sorry
theorem ct_212_56 {l : Launch} {D : va_G} {b0 : Nat} {ad : Nat → Nat} {Hb : Heap} {tau : Nat → Int64} {d n s : Nat} {S : Nat → xS} {Z : xZ} {h : mx_H} (hx : XH n s S Z h) (hG : GI n S Z)  {x0 x1 : Int} (p0 : (-2147483648) ≤ x0 ∧ x0 ≤ 2147483647) (p1 : (-2147483648) ≤ x1 ∧ x1 ≤ 2147483647) : ∃ z : Int, mx_Ca (tB l D b0 ad Hb tau) (d + 3) 212 [.ref 56, xI x0, xI x1] h (some (xI z), h) ∧ (0 ≤ z ∧ z ≤ 2 ∧ (z = 0 → (1 ≤ x0 ∧ x0 ≤ 18 ∧ 1 ≤ x1 ∧ x1 ≤ 18 ∧ hv Z (Z 57 27) x0 = 1 ∧ hv Z (Z 57 27) x1 = 1))) := by sorry
theorem ct_213_56 {l : Launch} {D : va_G} {b0 : Nat} {ad : Nat → Nat} {Hb : Heap} {tau : Nat → Int64} {d n s : Nat} {S : Nat → xS} {Z : xZ} {h : mx_H} (hx : XH n s S Z h) (hG : GI n S Z)  {x0 x1 : Int} (p0 : 1 ≤ x0 ∧ x0 ≤ 18) (p1 : 1 ≤ x1 ∧ x1 ≤ 18) (k0 : hv Z (Z 57 27) x0 = 1) (k1 : hv Z (Z 57 27) x1 = 1) : ∃ (Z' : xZ) (h' : mx_H), mx_Ca (tB l D b0 ad Hb tau) (d + 3) 213 [.ref 56, xI x0, xI x1] h (none, h') ∧ XH n s S Z' h' ∧ GI n S Z' ∧ fr' [(57, (-1)), (62, (-1))] Z Z' := by sorry
theorem ct_214_56 {l : Launch} {D : va_G} {b0 : Nat} {ad : Nat → Nat} {Hb : Heap} {tau : Nat → Int64} {d n s : Nat} {S : Nat → xS} {Z : xZ} {h : mx_H} (hx : XH n s S Z h) (hG : GI n S Z)  {x0 x1 : Int} (p0 : (-2147483648) ≤ x0 ∧ x0 ≤ 2147483647) (p1 : (-2147483648) ≤ x1 ∧ x1 ≤ 2147483647) : ∃ (z : Int) (Z' : xZ) (h' : mx_H), mx_Ca (tB l D b0 ad Hb tau) (d + 4) 214 [.ref 56, xI x0, xI x1] h (some (xI z), h') ∧ XH n s S Z' h' ∧ GI n S Z' ∧ fr' [(56, 0), (57, (-1)), (62, (-1)), (66, (-1))] Z Z' ∧ ((-12) ≤ z ∧ z ≤ 18) := by sorry
theorem ct_215_56 {l : Launch} {D : va_G} {b0 : Nat} {ad : Nat → Nat} {Hb : Heap} {tau : Nat → Int64} {d n s : Nat} {S : Nat → xS} {Z : xZ} {h : mx_H} (hx : XH n s S Z h) (hG : GI n S Z)  {x0 : Int} (p0 : (-2147483648) ≤ x0 ∧ x0 ≤ 2147483647) : ∃ (z : Int) (Z' : xZ) (h' : mx_H), mx_Ca (tB l D b0 ad Hb tau) (d + 2) 215 [.ref 56, xI x0] h (some (xI z), h') ∧ XH n s S Z' h' ∧ GI n S Z' ∧ fr' [(56, 0), (57, (-1)), (66, (-1))] Z Z' ∧ ((-2147483648) ≤ z ∧ z ≤ 2147483647) := by sorry
set_option maxRecDepth 100000 in
theorem cw_216_56 {l : Launch} {D : va_G} {b0 : Nat} {ad : Nat → Nat} {Hb : Heap} {tau : Nat → Int64} {d n s : Nat} {S : Nat → xS} {Z : xZ} {h : mx_H} {Post : mx_R → Prop} (hx : XH n s S Z h) (hG : GI n S Z)  {x0 : Int} (p0 : (-2147483648) ≤ x0 ∧ x0 ≤ 2147483647) (hP : ∀ (z : Int) (Z' : xZ) (h' : mx_H), XH n s S Z' h' → GI n S Z' → fr' [(56, 0), (57, (-1))] Z Z' → (-3) ≤ z ∧ z ≤ 10 → Post (some (xI z), h')) : mx_J (tB l D b0 ad Hb tau) mt_216 (d + 1) 0 [some (.ref 56), some (xI x0), none] [] h Post := by
    have a56 : 56 < n := lt83 (GI_n hG) rfl
    have s56 : S 56 = .inl (12, [0, 2, 2, 2, 2, 0, 0, 0, 0, 0, 0, 0, 0, 0, 0, 2, 2, 2, 0, 2, 2, 2, 0, 0, 2, 2, 2, 2, 2, 2, 0, 0, 2, 2, 2, 2, 2, 2, 2, 2, 2, 2]) := GI_s hG 56 rfl
    have a57 : 57 < n := lt83 (GI_n hG) rfl
    have s57 : S 57 = .inr (.int, 2886, 0) := GI_s hG 57 rfl
    refine mx_J.step (sn_216 0) (fun _ _ => rfl) ?_
    refine JcI (z := 0) (show mx_Sn _ _ 1 (mx_const (.int 0) 2) from sn_216 1) rfl ?_
    refine JputI (g := 0) hx (show mx_Sn _ _ 2 (mx_putf 1 12 0 (.int) 5) from sn_216 2) a56 s56 rfl rfl rfl rfl (fun Z1 h1 hx1 hE1 => ?_)
    have hG1 := GI_up hG hE1 (show (-2147483648) ≤ 0 ∧ 0 ≤ 2147483647 by omega) trivial rfl
    refine mx_J.step (sn_216 5) (fun _ _ => rfl) ?_
    refine Ji2l (show mx_Sn _ _ 6 (mx_i2l 7) from sn_216 6) (by omega) ?_
    refine JcL (z := 1) (show mx_Sn _ _ 7 (mx_const (.long 1) 8) from sn_216 7) rfl ?_
    refine JcL (z := 10) (show mx_Sn _ _ 8 (mx_const (.long 10) 11) from sn_216 8) rfl ?_
    obtain ⟨z2, hc2, b2⟩ := ct_154_ (d := d + 0) (l := l) (D := D) (b0 := b0) (ad := ad) (Hb := Hb) (tau := tau) hx1 hG1 (show (-9223372036854775808) ≤ x0 ∧ x0 ≤ 9223372036854775807 by omega) (show (-9223372036854775808) ≤ 1 ∧ 1 ≤ 9223372036854775807 by omega) (show (-9223372036854775808) ≤ 10 ∧ 10 ≤ 9223372036854775807 by omega)
    refine Jcs (show mx_Sn _ _ 11 (mx_calls 154 3 14) from sn_216 11) hc2 rfl rfl rfl ?_
    have c28 : mx_J (tB l D b0 ad Hb tau) mt_216 (d + 1) 28 [some (.ref 56), some (xI x0), none] [] h1 Post := by
      refine JcI (z := (-3)) (show mx_Sn _ _ 28 (mx_const (.int (-3)) 30) from sn_216 28) rfl ?_
      exact mx_J.ret (sn_216 30) (fun _ _ => rfl) (hP (-3) Z1 h1 hx1 hG1 (fr_tr (M := [(56, 0), (57, (-1))]) fr_rf (fr_up hE1) (M1 := []) rfl rfl) (by omega))
    refine Jif_eq (show mx_Sn _ _ 14 (mx_if_eq 28 17) from sn_216 14) (by omega) (fun q4 => ?_) (fun q4 => ?_)
    · skip
      exact c28 
    · skip
      refine mx_J.step (sn_216 17) (fun _ _ => rfl) ?_
      refine mx_J.step (sn_216 18) (fun _ _ => rfl) ?_
      refine JgetR (g := 1) (b := 57) hx1 (show mx_Sn _ _ 19 (mx_getf 12 1 22) from sn_216 19) a56 s56 rfl rfl (hG1.prr 56 1 rfl) ?_
      refine JcI (z := 30) (show mx_Sn _ _ 22 (mx_const (.int 30) 24) from sn_216 22) rfl ?_
      have b6 : 0 ≤ Z 57 30 ∧ Z 57 30 ≤ 10 := by have hq := GI_ex hG 57 30; replace hq : f57 (30 % 962) (Z 57 30) := hq; unfold f57 at hq; omega
      have b7 : (-2147483648) ≤ Z 57 30 ∧ Z 57 30 ≤ 2147483647 := hG.pr 57 30
      refine JialdI (z := Z 57 30) hx1 (show mx_Sn _ _ 24 (mx_iald 25) from sn_216 24) a57 s57 (by omega) (up_nk hE1 rfl) ?_
      refine Jicmp_le (show mx_Sn _ _ 25 (mx_icmp_le 31 28) from sn_216 25) (by omega) (by omega) (fun q8 => ?_) (fun q8 => ?_)
      · skip
        refine mx_J.step (sn_216 31) (fun _ _ => rfl) ?_
        refine JgetR (g := 1) (b := 57) hx1 (show mx_Sn _ _ 32 (mx_getf 12 1 35) from sn_216 32) a56 s56 rfl rfl (hG1.prr 56 1 rfl) ?_
        refine JcI (z := 30) (show mx_Sn _ _ 35 (mx_const (.int 30) 37) from sn_216 35) rfl ?_
        refine mx_J.step (sn_216 37) (fun _ _ => rfl) ?_
        have b10 : 0 ≤ Z 57 30 ∧ Z 57 30 ≤ 10 := by have hq := GI_ex hG 57 30; replace hq : f57 (30 % 962) (Z 57 30) := hq; unfold f57 at hq; omega
        have b11 : (-2147483648) ≤ Z 57 30 ∧ Z 57 30 ≤ 2147483647 := hG.pr 57 30
        refine JialdI (z := Z 57 30) hx1 (show mx_Sn _ _ 38 (mx_iald 39) from sn_216 38) a57 s57 (by omega) (up_nk hE1 rfl) ?_
        refine mx_J.step (sn_216 39) (fun _ _ => rfl) ?_
        refine Jisub (show mx_Sn _ _ 40 (mx_isub 41) from sn_216 40) ?_
        refine JiastI hx1 (show mx_Sn _ _ 41 (mx_iast 1 42) from sn_216 41) a57 s57 rfl (by omega) (fun Z12 h12 hx12 hE12 => ?_)
        have eq13 : Z1 56 18 = Z 56 18 := (up_ni hE1 (by decide))
        have b14 : 0 ≤ Z 56 18 ∧ Z 56 18 ≤ 385 := hG.pr 56 18
        have hG12 := GI_up57 hG1 hE12 (show (-2147483648) ≤ (Z 57 30) - x0 ∧ (Z 57 30) - x0 ≤ 2147483647 by omega) (show f57 ((30) % 962) ((Z 57 30) - x0) by first | assumption | (unfold f57; omega) | (unfold f57 at *; omega)) (by omega) (by omega)
        refine JcI (z := 0) (show mx_Sn _ _ 42 (mx_const (.int 0) 43) from sn_216 42) rfl ?_
        refine mx_J.step (ls2 := [some (.ref 56), some (xI x0), some (xI 0)]) (sn_216 43) (fun _ _ => rfl) ?_
        refine mx_J.step (sn_216 44) (fun _ _ => rfl) ?_
        refine JcI (z := 3) (show mx_Sn _ _ 45 (mx_const (.int 3) 46) from sn_216 45) rfl ?_
        refine Jicmp_ge (show mx_Sn _ _ 46 (mx_icmp_ge 83 49) from sn_216 46) (by omega) (by omega) (fun q15 => absurd q15 (by omega)) (fun q15 => ?_)
        refine mx_J.step (sn_216 49) (fun _ _ => rfl) ?_
        refine JgetR (g := 1) (b := 57) hx12 (show mx_Sn _ _ 50 (mx_getf 12 1 53) from sn_216 50) a56 s56 rfl rfl (hG12.prr 56 1 rfl) ?_
        refine JcI (z := 27) (show mx_Sn _ _ 53 (mx_const (.int 27) 55) from sn_216 53) rfl ?_
        refine mx_J.step (sn_216 55) (fun _ _ => rfl) ?_
        refine JiaddE (r := 27) (show mx_Sn _ _ 56 (mx_iadd 57) from sn_216 56) (by decide) ?_
        refine mx_J.step (sn_216 57) (fun _ _ => rfl) ?_
        refine JgetR (g := 1) (b := 57) hx12 (show mx_Sn _ _ 58 (mx_getf 12 1 61) from sn_216 58) a56 s56 rfl rfl (hG12.prr 56 1 rfl) ?_
        refine JcI (z := 31) (show mx_Sn _ _ 61 (mx_const (.int 31) 63) from sn_216 61) rfl ?_
        refine JcI (z := 3) (show mx_Sn _ _ 63 (mx_const (.int 3) 64) from sn_216 63) rfl ?_
        refine mx_J.step (sn_216 64) (fun _ _ => rfl) ?_
        refine JgetR (g := 1) (b := 57) hx12 (show mx_Sn _ _ 65 (mx_getf 12 1 68) from sn_216 65) a56 s56 rfl rfl (hG12.prr 56 1 rfl) ?_
        refine JcI (z := 30) (show mx_Sn _ _ 68 (mx_const (.int 30) 70) from sn_216 68) rfl ?_
        refine JialdI (z := (Z 57 30) - x0) hx12 (show mx_Sn _ _ 70 (mx_iald 71) from sn_216 70) a57 s57 (by omega) (up_at hE12) ?_
        refine Jimul (show mx_Sn _ _ 71 (mx_imul 72) from sn_216 71) ?_
        refine Jiadd (show mx_Sn _ _ 72 (mx_iadd 73) from sn_216 72) ?_
        refine mx_J.step (sn_216 73) (fun _ _ => rfl) ?_
        refine Jiadd (show mx_Sn _ _ 74 (mx_iadd 75) from sn_216 74) ?_
        have b19 := GI_st hG12 ((31 + (3 * ((Z 57 30) - x0))) + 0)
        have eq20 : Z12 56 18 = Z 56 18 := ((up_nk hE12 rfl).trans (up_ni hE1 (by decide)))
        have b21 : 0 ≤ Z 56 18 ∧ Z 56 18 ≤ 385 := hG.pr 56 18
        have b22 : f57 (((31 + (3 * ((Z 57 30) - x0))) + 0) % 962) (Z12 57 ((31 + (3 * ((Z 57 30) - x0))) + 0)) := GI_ex hG12 57 ((31 + (3 * ((Z 57 30) - x0))) + 0)
        have b23 : (-2147483648) ≤ Z12 57 ((31 + (3 * ((Z 57 30) - x0))) + 0) ∧ Z12 57 ((31 + (3 * ((Z 57 30) - x0))) + 0) ≤ 2147483647 := hG12.pr 57 ((31 + (3 * ((Z 57 30) - x0))) + 0)
        refine JialdI (z := Z12 57 ((31 + (3 * ((Z 57 30) - x0))) + 0)) hx12 (show mx_Sn _ _ 75 (mx_iald 76) from sn_216 75) a57 s57 (by omega) rfl ?_
        refine JiastI hx12 (show mx_Sn _ _ 76 (mx_iast 1 77) from sn_216 76) a57 s57 rfl (by omega) (fun Z24 h24 hx24 hE24 => ?_)
        have eq25 : Z12 56 18 = Z 56 18 := ((up_nk hE12 rfl).trans (up_ni hE1 (by decide)))
        have b26 : 0 ≤ Z 56 18 ∧ Z 56 18 ≤ 385 := hG.pr 56 18
        have hG24 := GI_up57 hG12 hE24 (show (-2147483648) ≤ Z12 57 ((31 + (3 * ((Z 57 30) - x0))) + 0) ∧ Z12 57 ((31 + (3 * ((Z 57 30) - x0))) + 0) ≤ 2147483647 by omega) (show f57 ((27) % 962) (Z12 57 ((31 + (3 * ((Z 57 30) - x0))) + 0)) by first | exact f57_m0 (by assumption) (by omega) (by omega) | exact f57_m1 (by assumption) (by omega) (by omega) | exact f57_m2 | (have hq := GI_ex hG12 57 ((31 + (3 * ((Z 57 30) - x0))) + 0); replace hq : f57 (((31 + (3 * ((Z 57 30) - x0))) + 0) % 962) (Z12 57 ((31 + (3 * ((Z 57 30) - x0))) + 0)) := hq; rw [Int.emod_eq_of_lt (a := ((31 + (3 * ((Z 57 30) - x0))) + 0)) (by omega) (by omega)] at hq; show f57 27 (Z12 57 ((31 + (3 * ((Z 57 30) - x0))) + 0)); unfold f57 at hq; unfold f57; omega) | assumption | (unfold f57; omega) | (unfold f57 at *; omega)) (by omega) (by omega)
        refine Jiinc (z := 0) (cz := 1) (ls2 := [some (.ref 56), some (xI x0), some (xI 1)]) (show mx_Sn _ _ 77 (mx_iinc 2 1 80) from sn_216 77) rfl rfl rfl rfl ?_
        refine mx_J.step (sn_216 80) (fun _ _ => rfl) ?_
        refine mx_J.step (sn_216 44) (fun _ _ => rfl) ?_
        refine JcI (z := 3) (show mx_Sn _ _ 45 (mx_const (.int 3) 46) from sn_216 45) rfl ?_
        refine Jicmp_ge (show mx_Sn _ _ 46 (mx_icmp_ge 83 49) from sn_216 46) (by omega) (by omega) (fun q27 => absurd q27 (by omega)) (fun q27 => ?_)
        refine mx_J.step (sn_216 49) (fun _ _ => rfl) ?_
        refine JgetR (g := 1) (b := 57) hx24 (show mx_Sn _ _ 50 (mx_getf 12 1 53) from sn_216 50) a56 s56 rfl rfl (hG24.prr 56 1 rfl) ?_
        refine JcI (z := 27) (show mx_Sn _ _ 53 (mx_const (.int 27) 55) from sn_216 53) rfl ?_
        refine mx_J.step (sn_216 55) (fun _ _ => rfl) ?_
        refine JiaddE (r := 28) (show mx_Sn _ _ 56 (mx_iadd 57) from sn_216 56) (by decide) ?_
        refine mx_J.step (sn_216 57) (fun _ _ => rfl) ?_
        refine JgetR (g := 1) (b := 57) hx24 (show mx_Sn _ _ 58 (mx_getf 12 1 61) from sn_216 58) a56 s56 rfl rfl (hG24.prr 56 1 rfl) ?_
        refine JcI (z := 31) (show mx_Sn _ _ 61 (mx_const (.int 31) 63) from sn_216 61) rfl ?_
        refine JcI (z := 3) (show mx_Sn _ _ 63 (mx_const (.int 3) 64) from sn_216 63) rfl ?_
        refine mx_J.step (sn_216 64) (fun _ _ => rfl) ?_
        refine JgetR (g := 1) (b := 57) hx24 (show mx_Sn _ _ 65 (mx_getf 12 1 68) from sn_216 65) a56 s56 rfl rfl (hG24.prr 56 1 rfl) ?_
        refine JcI (z := 30) (show mx_Sn _ _ 68 (mx_const (.int 30) 70) from sn_216 68) rfl ?_
        refine JialdI (z := (Z 57 30) - x0) hx24 (show mx_Sn _ _ 70 (mx_iald 71) from sn_216 70) a57 s57 (by omega) ((up_ni hE24 (by decide)).trans (up_at hE12)) ?_
        refine Jimul (show mx_Sn _ _ 71 (mx_imul 72) from sn_216 71) ?_
        refine Jiadd (show mx_Sn _ _ 72 (mx_iadd 73) from sn_216 72) ?_
        refine mx_J.step (sn_216 73) (fun _ _ => rfl) ?_
        refine Jiadd (show mx_Sn _ _ 74 (mx_iadd 75) from sn_216 74) ?_
        have b31 := GI_st hG24 ((31 + (3 * ((Z 57 30) - x0))) + 1)
        have eq32 : Z24 56 18 = Z 56 18 := ((up_nk hE24 rfl).trans ((up_nk hE12 rfl).trans (up_ni hE1 (by decide))))
        have b33 : 0 ≤ Z 56 18 ∧ Z 56 18 ≤ 385 := hG.pr 56 18
        have b34 : f57 (((31 + (3 * ((Z 57 30) - x0))) + 1) % 962) (Z24 57 ((31 + (3 * ((Z 57 30) - x0))) + 1)) := GI_ex hG24 57 ((31 + (3 * ((Z 57 30) - x0))) + 1)
        have b35 : (-2147483648) ≤ Z24 57 ((31 + (3 * ((Z 57 30) - x0))) + 1) ∧ Z24 57 ((31 + (3 * ((Z 57 30) - x0))) + 1) ≤ 2147483647 := hG24.pr 57 ((31 + (3 * ((Z 57 30) - x0))) + 1)
        refine JialdI (z := Z24 57 ((31 + (3 * ((Z 57 30) - x0))) + 1)) hx24 (show mx_Sn _ _ 75 (mx_iald 76) from sn_216 75) a57 s57 (by omega) rfl ?_
        refine JiastI hx24 (show mx_Sn _ _ 76 (mx_iast 1 77) from sn_216 76) a57 s57 rfl (by omega) (fun Z36 h36 hx36 hE36 => ?_)
        have eq37 : Z24 56 18 = Z 56 18 := ((up_nk hE24 rfl).trans ((up_nk hE12 rfl).trans (up_ni hE1 (by decide))))
        have b38 : 0 ≤ Z 56 18 ∧ Z 56 18 ≤ 385 := hG.pr 56 18
        have hG36 := GI_up57 hG24 hE36 (show (-2147483648) ≤ Z24 57 ((31 + (3 * ((Z 57 30) - x0))) + 1) ∧ Z24 57 ((31 + (3 * ((Z 57 30) - x0))) + 1) ≤ 2147483647 by omega) (show f57 ((28) % 962) (Z24 57 ((31 + (3 * ((Z 57 30) - x0))) + 1)) by first | exact f57_m0 (by assumption) (by omega) (by omega) | exact f57_m1 (by assumption) (by omega) (by omega) | exact f57_m2 | (have hq := GI_ex hG24 57 ((31 + (3 * ((Z 57 30) - x0))) + 1); replace hq : f57 (((31 + (3 * ((Z 57 30) - x0))) + 1) % 962) (Z24 57 ((31 + (3 * ((Z 57 30) - x0))) + 1)) := hq; rw [Int.emod_eq_of_lt (a := ((31 + (3 * ((Z 57 30) - x0))) + 1)) (by omega) (by omega)] at hq; show f57 28 (Z24 57 ((31 + (3 * ((Z 57 30) - x0))) + 1)); unfold f57 at hq; unfold f57; omega) | assumption | (unfold f57; omega) | (unfold f57 at *; omega)) (by omega) (by omega)
        refine Jiinc (z := 1) (cz := 1) (ls2 := [some (.ref 56), some (xI x0), some (xI 2)]) (show mx_Sn _ _ 77 (mx_iinc 2 1 80) from sn_216 77) rfl rfl rfl rfl ?_
        refine mx_J.step (sn_216 80) (fun _ _ => rfl) ?_
        refine mx_J.step (sn_216 44) (fun _ _ => rfl) ?_
        refine JcI (z := 3) (show mx_Sn _ _ 45 (mx_const (.int 3) 46) from sn_216 45) rfl ?_
        refine Jicmp_ge (show mx_Sn _ _ 46 (mx_icmp_ge 83 49) from sn_216 46) (by omega) (by omega) (fun q39 => absurd q39 (by omega)) (fun q39 => ?_)
        refine mx_J.step (sn_216 49) (fun _ _ => rfl) ?_
        refine JgetR (g := 1) (b := 57) hx36 (show mx_Sn _ _ 50 (mx_getf 12 1 53) from sn_216 50) a56 s56 rfl rfl (hG36.prr 56 1 rfl) ?_
        refine JcI (z := 27) (show mx_Sn _ _ 53 (mx_const (.int 27) 55) from sn_216 53) rfl ?_
        refine mx_J.step (sn_216 55) (fun _ _ => rfl) ?_
        refine JiaddE (r := 29) (show mx_Sn _ _ 56 (mx_iadd 57) from sn_216 56) (by decide) ?_
        refine mx_J.step (sn_216 57) (fun _ _ => rfl) ?_
        refine JgetR (g := 1) (b := 57) hx36 (show mx_Sn _ _ 58 (mx_getf 12 1 61) from sn_216 58) a56 s56 rfl rfl (hG36.prr 56 1 rfl) ?_
        refine JcI (z := 31) (show mx_Sn _ _ 61 (mx_const (.int 31) 63) from sn_216 61) rfl ?_
        refine JcI (z := 3) (show mx_Sn _ _ 63 (mx_const (.int 3) 64) from sn_216 63) rfl ?_
        refine mx_J.step (sn_216 64) (fun _ _ => rfl) ?_
        refine JgetR (g := 1) (b := 57) hx36 (show mx_Sn _ _ 65 (mx_getf 12 1 68) from sn_216 65) a56 s56 rfl rfl (hG36.prr 56 1 rfl) ?_
        refine JcI (z := 30) (show mx_Sn _ _ 68 (mx_const (.int 30) 70) from sn_216 68) rfl ?_
        refine JialdI (z := (Z 57 30) - x0) hx36 (show mx_Sn _ _ 70 (mx_iald 71) from sn_216 70) a57 s57 (by omega) ((up_ni hE36 (by decide)).trans ((up_ni hE24 (by decide)).trans (up_at hE12))) ?_
        refine Jimul (show mx_Sn _ _ 71 (mx_imul 72) from sn_216 71) ?_
        refine Jiadd (show mx_Sn _ _ 72 (mx_iadd 73) from sn_216 72) ?_
        refine mx_J.step (sn_216 73) (fun _ _ => rfl) ?_
        refine Jiadd (show mx_Sn _ _ 74 (mx_iadd 75) from sn_216 74) ?_
        have b43 := GI_st hG36 ((31 + (3 * ((Z 57 30) - x0))) + 2)
        have eq44 : Z36 56 18 = Z 56 18 := ((up_nk hE36 rfl).trans ((up_nk hE24 rfl).trans ((up_nk hE12 rfl).trans (up_ni hE1 (by decide)))))
        have b45 : 0 ≤ Z 56 18 ∧ Z 56 18 ≤ 385 := hG.pr 56 18
        have b46 : f57 (((31 + (3 * ((Z 57 30) - x0))) + 2) % 962) (Z36 57 ((31 + (3 * ((Z 57 30) - x0))) + 2)) := GI_ex hG36 57 ((31 + (3 * ((Z 57 30) - x0))) + 2)
        have b47 : (-2147483648) ≤ Z36 57 ((31 + (3 * ((Z 57 30) - x0))) + 2) ∧ Z36 57 ((31 + (3 * ((Z 57 30) - x0))) + 2) ≤ 2147483647 := hG36.pr 57 ((31 + (3 * ((Z 57 30) - x0))) + 2)
        refine JialdI (z := Z36 57 ((31 + (3 * ((Z 57 30) - x0))) + 2)) hx36 (show mx_Sn _ _ 75 (mx_iald 76) from sn_216 75) a57 s57 (by omega) rfl ?_
        refine JiastI hx36 (show mx_Sn _ _ 76 (mx_iast 1 77) from sn_216 76) a57 s57 rfl (by omega) (fun Z48 h48 hx48 hE48 => ?_)
        have eq49 : Z36 56 18 = Z 56 18 := ((up_nk hE36 rfl).trans ((up_nk hE24 rfl).trans ((up_nk hE12 rfl).trans (up_ni hE1 (by decide)))))
        have b50 : 0 ≤ Z 56 18 ∧ Z 56 18 ≤ 385 := hG.pr 56 18
        have hG48 := GI_up57 hG36 hE48 (show (-2147483648) ≤ Z36 57 ((31 + (3 * ((Z 57 30) - x0))) + 2) ∧ Z36 57 ((31 + (3 * ((Z 57 30) - x0))) + 2) ≤ 2147483647 by omega) (show f57 ((29) % 962) (Z36 57 ((31 + (3 * ((Z 57 30) - x0))) + 2)) by first | exact f57_m0 (by assumption) (by omega) (by omega) | exact f57_m1 (by assumption) (by omega) (by omega) | exact f57_m2 | (have hq := GI_ex hG36 57 ((31 + (3 * ((Z 57 30) - x0))) + 2); replace hq : f57 (((31 + (3 * ((Z 57 30) - x0))) + 2) % 962) (Z36 57 ((31 + (3 * ((Z 57 30) - x0))) + 2)) := hq; rw [Int.emod_eq_of_lt (a := ((31 + (3 * ((Z 57 30) - x0))) + 2)) (by omega) (by omega)] at hq; show f57 29 (Z36 57 ((31 + (3 * ((Z 57 30) - x0))) + 2)); unfold f57 at hq; unfold f57; omega) | assumption | (unfold f57; omega) | (unfold f57 at *; omega)) (by omega) (by omega)
        refine Jiinc (z := 2) (cz := 1) (ls2 := [some (.ref 56), some (xI x0), some (xI 3)]) (show mx_Sn _ _ 77 (mx_iinc 2 1 80) from sn_216 77) rfl rfl rfl rfl ?_
        refine mx_J.step (sn_216 80) (fun _ _ => rfl) ?_
        refine mx_J.step (sn_216 44) (fun _ _ => rfl) ?_
        refine JcI (z := 3) (show mx_Sn _ _ 45 (mx_const (.int 3) 46) from sn_216 45) rfl ?_
        refine Jicmp_ge (show mx_Sn _ _ 46 (mx_icmp_ge 83 49) from sn_216 46) (by omega) (by omega) (fun q51 => ?_) (fun q51 => absurd q51 (by omega))
        refine mx_J.step (sn_216 83) (fun _ _ => rfl) ?_
        refine JgetR (g := 1) (b := 57) hx48 (show mx_Sn _ _ 84 (mx_getf 12 1 87) from sn_216 84) a56 s56 rfl rfl (hG48.prr 56 1 rfl) ?_
        refine JcI (z := 30) (show mx_Sn _ _ 87 (mx_const (.int 30) 89) from sn_216 87) rfl ?_
        refine JialdI (z := (Z 57 30) - x0) hx48 (show mx_Sn _ _ 89 (mx_iald 90) from sn_216 89) a57 s57 (by omega) ((up_ni hE48 (by decide)).trans ((up_ni hE36 (by decide)).trans ((up_ni hE24 (by decide)).trans (up_at hE12)))) ?_
        exact mx_J.ret (sn_216 90) (fun _ _ => rfl) (hP ((Z 57 30) - x0) Z48 h48 hx48 hG48 (fr_tr (M := [(56, 0), (57, (-1))]) (fr_tr (M := [(56, 0), (57, (-1))]) (fr_tr (M := [(56, 0), (57, (-1))]) (fr_tr (M := [(56, 0), (57, (-1))]) (fr_tr (M := [(56, 0), (57, (-1))]) fr_rf (fr_up hE1) (M1 := []) rfl rfl) (fr_ua hE12) rfl rfl) (fr_ua hE24) rfl rfl) (fr_ua hE36) rfl rfl) (fr_ua hE48) rfl rfl) (by omega))
      · skip
        exact c28 
theorem ct_216_56 {l : Launch} {D : va_G} {b0 : Nat} {ad : Nat → Nat} {Hb : Heap} {tau : Nat → Int64} {d n s : Nat} {S : Nat → xS} {Z : xZ} {h : mx_H} (hx : XH n s S Z h) (hG : GI n S Z)  {x0 : Int} (p0 : (-2147483648) ≤ x0 ∧ x0 ≤ 2147483647) : ∃ (z : Int) (Z' : xZ) (h' : mx_H), mx_Ca (tB l D b0 ad Hb tau) (d + 2) 216 [.ref 56, xI x0] h (some (xI z), h') ∧ XH n s S Z' h' ∧ GI n S Z' ∧ fr' [(56, 0), (57, (-1))] Z Z' ∧ ((-3) ≤ z ∧ z ≤ 10) := by
  obtain ⟨r, hca, z, Z', h', e, q⟩ := Jmt (B := tB l D b0 ad Hb tau) (M := mt_216) (mi := 216) (as := [.ref 56, xI x0]) (d := d + 1) (ls := [some (.ref 56), some (xI x0), none]) rfl rfl rfl rfl rfl rfl (cw_216_56 (l := l) (D := D) (b0 := b0) (ad := ad) (Hb := Hb) (tau := tau) (d := d) (Post := fun r => ∃ (z : Int) (Z' : xZ) (h' : mx_H), r = (some (xI z), h') ∧ XH n s S Z' h' ∧ GI n S Z' ∧ fr' [(56, 0), (57, (-1))] Z Z' ∧ ((-3) ≤ z ∧ z ≤ 10)) hx hG p0 (fun z Z' h' q1 q2 q3 q4 => ⟨z, Z', h', rfl, q1, q2, q3, q4⟩))
  subst e; exact ⟨z, Z', h', hca, q⟩
theorem ct_217_56 {l : Launch} {D : va_G} {b0 : Nat} {ad : Nat → Nat} {Hb : Heap} {tau : Nat → Int64} {d n s : Nat} {S : Nat → xS} {Z : xZ} {h : mx_H} (hx : XH n s S Z h) (hG : GI n S Z)  {x0 : Int} (p0 : (-9223372036854775808) ≤ x0 ∧ x0 ≤ 9223372036854775807) : ∃ z : Int, mx_Ca (tB l D b0 ad Hb tau) (d + 4) 217 [.ref 56, xL x0] h (some (xI z), h) ∧ (0 ≤ z ∧ z ≤ 2 ∧ (z = 0 → ((0 ≤ x0 ∧ x0 ≤ 18) ∨ (20 ≤ x0 ∧ x0 ≤ 29) ∨ (1000 ≤ x0 ∧ x0 ≤ 2999 ∧ 1 ≤ (x0 - 1000) / 100 ∧ 1 ≤ x0 % 100 ∧ x0 % 100 ≤ (x0 - 1000) / 100 - 1 ∧ (x0 - 1000) / 100 ≤ 18 ∧ hv Z (Z 57 27) ((x0 - 1000) / 100) = 1) ∨ (3000 ≤ x0 ∧ x0 ≤ 4999 ∧ 1 ≤ (x0 - 3000) / 100 ∧ (x0 - 3000) / 100 ≤ 18 ∧ 1 ≤ x0 % 100 ∧ x0 % 100 ≤ 18 ∧ hv Z (Z 57 27) ((x0 - 3000) / 100) = 1 ∧ hv Z (Z 57 27) (x0 % 100) = 1)))) := by sorry
theorem ct_218_56 {l : Launch} {D : va_G} {b0 : Nat} {ad : Nat → Nat} {Hb : Heap} {tau : Nat → Int64} {d n s : Nat} {S : Nat → xS} {Z : xZ} {h : mx_H} (hx : XH n s S Z h) (hG : GI n S Z)  {x0 : Int} (p0 : 0 ≤ x0 ∧ x0 ≤ 4999) (k0 : ((0 ≤ x0 ∧ x0 ≤ 18) ∨ (20 ≤ x0 ∧ x0 ≤ 29) ∨ (1000 ≤ x0 ∧ x0 ≤ 2999 ∧ 1 ≤ (x0 - 1000) / 100 ∧ 1 ≤ x0 % 100 ∧ x0 % 100 ≤ (x0 - 1000) / 100 - 1 ∧ (x0 - 1000) / 100 ≤ 18 ∧ hv Z (Z 57 27) ((x0 - 1000) / 100) = 1) ∨ (3000 ≤ x0 ∧ x0 ≤ 4999 ∧ 1 ≤ (x0 - 3000) / 100 ∧ (x0 - 3000) / 100 ≤ 18 ∧ 1 ≤ x0 % 100 ∧ x0 % 100 ≤ 18 ∧ hv Z (Z 57 27) ((x0 - 3000) / 100) = 1 ∧ hv Z (Z 57 27) (x0 % 100) = 1))) : ∃ (Z' : xZ) (h' : mx_H), mx_Ca (tB l D b0 ad Hb tau) (d + 7) 218 [.ref 56, xI x0] h (none, h') ∧ XH n s S Z' h' ∧ GI n S Z' ∧ fr' [(57, (-1)), (62, (-1)), (64, (-1)), (65, (-1))] Z Z' := by sorry
theorem ct_219_56 {l : Launch} {D : va_G} {b0 : Nat} {ad : Nat → Nat} {Hb : Heap} {tau : Nat → Int64} {d n s : Nat} {S : Nat → xS} {Z : xZ} {h : mx_H} (hx : XH n s S Z h) (hG : GI n S Z)  {x0 : Int} (p0 : 0 ≤ x0 ∧ x0 ≤ 3) : ∃ (z : Int) (Z' : xZ) (h' : mx_H), mx_Ca (tB l D b0 ad Hb tau) (d + 8) 219 [.ref 56, xI x0] h (some (xI z), h') ∧ XH n s S Z' h' ∧ GI n S Z' ∧ fr' [(56, 22), (57, (-1)), (62, (-1)), (64, (-1)), (65, (-1))] Z Z' ∧ (0 ≤ z ∧ z ≤ 40) := by sorry
theorem ct_221_56 {l : Launch} {D : va_G} {b0 : Nat} {ad : Nat → Nat} {Hb : Heap} {tau : Nat → Int64} {d n s : Nat} {S : Nat → xS} {Z : xZ} {h : mx_H} (hx : XH n s S Z h) (hG : GI n S Z)  {x0 x1 : Int} (p0 : (-2147483648) ≤ x0 ∧ x0 ≤ 2147483647) (p1 : (-2147483648) ≤ x1 ∧ x1 ≤ 2147483647) : ∃ (z : Int) (Z' : xZ) (h' : mx_H), mx_Ca (tB l D b0 ad Hb tau) (d + 9) 221 [.ref 56, xI x0, xI x1] h (some (xI z), h') ∧ XH n s S Z' h' ∧ GI n S Z' ∧ fr' [(56, 0), (56, 22), (57, (-1)), (62, (-1)), (64, (-1)), (65, (-1)), (66, (-1))] Z Z' ∧ ((-6) ≤ z ∧ z ≤ 384) := by sorry
theorem ct_222_56 {l : Launch} {D : va_G} {b0 : Nat} {ad : Nat → Nat} {Hb : Heap} {tau : Nat → Int64} {d n s : Nat} {S : Nat → xS} {Z : xZ} {h : mx_H} (hx : XH n s S Z h) (hG : GI n S Z)  {x0 : Int} (p0 : (-2147483648) ≤ x0 ∧ x0 ≤ 2147483647) : ∃ (z : Int) (Z' : xZ) (h' : mx_H), mx_Ca (tB l D b0 ad Hb tau) (d + 9) 222 [.ref 56, xI x0] h (some (xI z), h') ∧ XH n s S Z' h' ∧ GI n S Z' ∧ fr' [(56, 0), (56, 22), (57, (-1)), (62, (-1)), (64, (-1)), (65, (-1)), (66, (-1))] Z Z' ∧ ((-6) ≤ z ∧ z ≤ 40) := by sorry
theorem ct_225_56 {l : Launch} {D : va_G} {b0 : Nat} {ad : Nat → Nat} {Hb : Heap} {tau : Nat → Int64} {d n s : Nat} {S : Nat → xS} {Z : xZ} {h : mx_H} (hx : XH n s S Z h) (hG : GI n S Z)  {x0 x1 : Int} (p0 : (-2147483648) ≤ x0 ∧ x0 ≤ 2147483647) (p1 : (-2147483648) ≤ x1 ∧ x1 ≤ 2147483647) : ∃ (z : Int) (Z' : xZ) (h' : mx_H), mx_Ca (tB l D b0 ad Hb tau) (d + 8) 225 [.ref 56, xI x0, xI x1] h (some (xI z), h') ∧ XH n s S Z' h' ∧ GI n S Z' ∧ fr' [(56, 0), (56, 23), (57, (-1)), (62, (-1)), (64, (-1)), (65, (-1)), (66, (-1))] Z Z' ∧ ((-2147483648) ≤ z ∧ z ≤ 2147483647) := by sorry
theorem ct_226_56 {l : Launch} {D : va_G} {b0 : Nat} {ad : Nat → Nat} {Hb : Heap} {tau : Nat → Int64} {d n s : Nat} {S : Nat → xS} {Z : xZ} {h : mx_H} (hx : XH n s S Z h) (hG : GI n S Z)   : ∃ (Z' : xZ) (h' : mx_H), mx_Ca (tB l D b0 ad Hb tau) (d + 6) 226 [.ref 56] h (none, h') ∧ XH n s S Z' h' ∧ GI n S Z' ∧ fr' [(62, (-1)), (64, (-1)), (65, (-1)), (67, (-1))] Z Z' ∧ ((ai 67 Z' (Z 56 18) 0 (Z 56 18 - 1) = 1)) := by sorry
theorem ct_227_56 {l : Launch} {D : va_G} {b0 : Nat} {ad : Nat → Nat} {Hb : Heap} {tau : Nat → Int64} {d n s : Nat} {S : Nat → xS} {Z : xZ} {h : mx_H} (hx : XH n s S Z h) (hG : GI n S Z)  {x0 : Int} (p0 : 0 ≤ x0 ∧ x0 ≤ 384) (k0 : ai 67 Z (Z 56 18) 0 (Z 56 18 - 1) = 1) (k1 : x0 < Z 56 18) : ∃ (Z' : xZ) (h' : mx_H), mx_Ca (tB l D b0 ad Hb tau) (d + 1) 227 [.ref 56, xI x0] h (none, h') ∧ XH n s S Z' h' ∧ GI n S Z' ∧ fr' [(56, 30), (56, 31), (68, (-1)), (69, (-1))] Z Z' ∧ ((1 ≤ Z' 56 30 ∧ Z' 56 30 ≤ 385 ∧ 0 ≤ Z' 56 31 ∧ Z' 56 31 < Z' 56 30)) := by sorry
theorem ct_228_56 {l : Launch} {D : va_G} {b0 : Nat} {ad : Nat → Nat} {Hb : Heap} {tau : Nat → Int64} {d n s : Nat} {S : Nat → xS} {Z : xZ} {h : mx_H} (hx : XH n s S Z h) (hG : GI n S Z)  {x0 : Int} (p0 : (-9223372036854775808) ≤ x0 ∧ x0 ≤ 9223372036854775807) : ∃ (z : Int) (Z' : xZ) (h' : mx_H), mx_Ca (tB l D b0 ad Hb tau) (d + 7) 228 [.ref 56, xL x0] h (some (xI z), h') ∧ XH n s S Z' h' ∧ GI n S Z' ∧ fr' [(56, 0), (56, 30), (56, 31), (62, (-1)), (64, (-1)), (65, (-1)), (67, (-1)), (68, (-1)), (69, (-1))] Z Z' ∧ ((-3) ≤ z ∧ z ≤ 384) := by sorry
theorem ct_229_56 {l : Launch} {D : va_G} {b0 : Nat} {ad : Nat → Nat} {Hb : Heap} {tau : Nat → Int64} {d n s : Nat} {S : Nat → xS} {Z : xZ} {h : mx_H} (hx : XH n s S Z h) (hG : GI n S Z)  {x0 : Int} (p0 : (-2147483648) ≤ x0 ∧ x0 ≤ 2147483647) : ∃ (z : Int) (Z' : xZ) (h' : mx_H), mx_Ca (tB l D b0 ad Hb tau) (d + 7) 229 [.ref 56, xI x0] h (some (xI z), h') ∧ XH n s S Z' h' ∧ GI n S Z' ∧ fr' [(56, 0), (56, 30), (56, 31), (62, (-1)), (64, (-1)), (65, (-1)), (67, (-1)), (68, (-1)), (69, (-1))] Z Z' ∧ ((-385) ≤ z ∧ z ≤ 386) := by sorry
theorem ct_230_56 {l : Launch} {D : va_G} {b0 : Nat} {ad : Nat → Nat} {Hb : Heap} {tau : Nat → Int64} {d n s : Nat} {S : Nat → xS} {Z : xZ} {h : mx_H} (hx : XH n s S Z h) (hG : GI n S Z)   : ∃ (Z' : xZ) (h' : mx_H), mx_Ca (tB l D b0 ad Hb tau) (d + 7) 230 [.ref 56] h (none, h') ∧ XH n s S Z' h' ∧ GI n S Z' ∧ fr' [(56, 30), (56, 31), (62, (-1)), (64, (-1)), (65, (-1)), (67, (-1)), (68, (-1)), (69, (-1)), (70, (-1))] Z Z' ∧ ((ai 67 Z' (Z 56 18) 0 (Z 56 18 - 1) = 1)) := by sorry
theorem ct_231_56 {l : Launch} {D : va_G} {b0 : Nat} {ad : Nat → Nat} {Hb : Heap} {tau : Nat → Int64} {d n s : Nat} {S : Nat → xS} {Z : xZ} {h : mx_H} (hx : XH n s S Z h) (hG : GI n S Z)   : ∃ (z : Int) (Z' : xZ) (h' : mx_H), mx_Ca (tB l D b0 ad Hb tau) (d + 1) 231 [.ref 56] h (some (xI z), h') ∧ XH n s S Z' h' ∧ GI n S Z' ∧ fr' [(71, (-1))] Z Z' ∧ ((-2147483648) ≤ z ∧ z ≤ 2147483647) := by sorry
theorem ct_232_56 {l : Launch} {D : va_G} {b0 : Nat} {ad : Nat → Nat} {Hb : Heap} {tau : Nat → Int64} {d n s : Nat} {S : Nat → xS} {Z : xZ} {h : mx_H} (hx : XH n s S Z h) (hG : GI n S Z)  {x0 : Int} (p0 : 0 ≤ x0 ∧ x0 ≤ 384) (k0 : ai 67 Z (Z 56 18) 0 (Z 56 18 - 1) = 1) (k1 : x0 < Z 56 18) : ∃ (z : Int) (Z' : xZ) (h' : mx_H), mx_Ca (tB l D b0 ad Hb tau) (d + 2) 232 [.ref 56, xI x0] h (some (xI z), h') ∧ XH n s S Z' h' ∧ GI n S Z' ∧ fr' [(56, 30), (56, 31), (68, (-1)), (69, (-1))] Z Z' ∧ (0 ≤ z ∧ z ≤ 384) := by sorry
theorem ct_233_56 {l : Launch} {D : va_G} {b0 : Nat} {ad : Nat → Nat} {Hb : Heap} {tau : Nat → Int64} {d n s : Nat} {S : Nat → xS} {Z : xZ} {h : mx_H} (hx : XH n s S Z h) (hG : GI n S Z)  {x0 : Int} (p0 : (-2147483648) ≤ x0 ∧ x0 ≤ 2147483647) : ∃ (z : Int) (Z' : xZ) (h' : mx_H), mx_Ca (tB l D b0 ad Hb tau) (d + 8) 233 [.ref 56, xI x0] h (some (xI z), h') ∧ XH n s S Z' h' ∧ GI n S Z' ∧ fr' [(56, 0), (56, 30), (56, 31), (62, (-1)), (64, (-1)), (65, (-1)), (67, (-1)), (68, (-1)), (69, (-1)), (70, (-1)), (71, (-1))] Z Z' ∧ ((-2147483648) ≤ z ∧ z ≤ 2147483647) := by sorry
theorem ct_234_56 {l : Launch} {D : va_G} {b0 : Nat} {ad : Nat → Nat} {Hb : Heap} {tau : Nat → Int64} {d n s : Nat} {S : Nat → xS} {Z : xZ} {h : mx_H} (hx : XH n s S Z h) (hG : GI n S Z)  {x0 : Int} (p0 : (-2147483648) ≤ x0 ∧ x0 ≤ 2147483647) : ∃ (z : Int) (Z' : xZ) (h' : mx_H), mx_Ca (tB l D b0 ad Hb tau) (d + 7) 234 [.ref 56, xI x0] h (some (xI z), h') ∧ XH n s S Z' h' ∧ GI n S Z' ∧ fr' [(56, 0), (62, (-1)), (64, (-1)), (65, (-1)), (67, (-1)), (71, (-1)), (72, (-1))] Z Z' ∧ ((-2147483648) ≤ z ∧ z ≤ 2147483647) := by sorry
theorem ct_235_56 {l : Launch} {D : va_G} {b0 : Nat} {ad : Nat → Nat} {Hb : Heap} {tau : Nat → Int64} {d n s : Nat} {S : Nat → xS} {Z : xZ} {h : mx_H} (hx : XH n s S Z h) (hG : GI n S Z)   : ∃ (Z' : xZ) (h' : mx_H), mx_Ca (tB l D b0 ad Hb tau) (d + 6) 235 [.ref 56] h (none, h') ∧ XH n s S Z' h' ∧ GI n S Z' ∧ fr' [(62, (-1)), (64, (-1)), (65, (-1)), (73, (-1))] Z Z' ∧ ((ai 73 Z' (19 * Z 56 18) (-1) (Z 56 18 - 1) = 1)) := by sorry
set_option maxRecDepth 100000 in
theorem cw_237_56 {l : Launch} {D : va_G} {b0 : Nat} {ad : Nat → Nat} {Hb : Heap} {tau : Nat → Int64} {d n s : Nat} {S : Nat → xS} {Z : xZ} {h : mx_H} {Post : mx_R → Prop} (hx : XH n s S Z h) (hG : GI n S Z)  {x0 : Int} (p0 : 0 ≤ x0 ∧ x0 ≤ 384) (hP : ∀ (z : Int) (Z' : xZ) (h' : mx_H), XH n s S Z' h' → GI n S Z' → fr' [(62, (-1)), (64, (-1)), (65, (-1)), (73, (-1)), (74, (-1))] Z Z' → 0 ≤ z ∧ z ≤ 268435456 ∧ (fu Z' (Z 56 18) = 1 ∧ fl' Z' (Z 56 18) 0 = 1 ∧ ai 73 Z' (19 * Z 56 18) (-1) (Z 56 18 - 1) = 1) → Post (some (xI z), h')) : mx_J (tB l D b0 ad Hb tau) mt_237 (d + 6) 0 [some (.ref 56), some (xI x0), none, none, none] [] h Post := by
    have a56 : 56 < n := lt83 (GI_n hG) rfl
    have s56 : S 56 = .inl (12, [0, 2, 2, 2, 2, 0, 0, 0, 0, 0, 0, 0, 0, 0, 0, 2, 2, 2, 0, 2, 2, 2, 0, 0, 2, 2, 2, 2, 2, 2, 0, 0, 2, 2, 2, 2, 2, 2, 2, 2, 2, 2]) := GI_s hG 56 rfl
    have a57 : 57 < n := lt83 (GI_n hG) rfl
    have s57 : S 57 = .inr (.int, 2886, 0) := GI_s hG 57 rfl
    have a74 : 74 < n := lt83 (GI_n hG) rfl
    have s74 : S 74 = .inr (.int, 385, 0) := GI_s hG 74 rfl
    refine mx_J.step (sn_237 0) (fun _ _ => rfl) ?_
    have b2 : 0 ≤ Z 56 18 ∧ Z 56 18 ≤ 385 := hG.pr 56 18
    obtain ⟨Z1, h1, hc1, hx1, hG1, hf1, b1⟩ := ct_235_56 (d := d + 0) (l := l) (D := D) (b0 := b0) (ad := ad) (Hb := Hb) (tau := tau) hx hG 
    refine Jcv0 hx (show mx_Sn _ _ 1 (mx_callv 235 1 12 4) from sn_237 1) a56 s56 hc1 rfl rfl rfl ?_
    refine JcI (z := 0) (show mx_Sn _ _ 4 (mx_const (.int 0) 5) from sn_237 4) rfl ?_
    refine mx_J.step (ls2 := [some (.ref 56), some (xI x0), some (xI 0), none, none]) (sn_237 5) (fun _ _ => rfl) ?_
    have c6 : ∀ (m3 : Nat) (w3_2 : Int) (Z4 : xZ) (h4 : mx_H), 385 - w3_2 < (m3 : Int) → 0 ≤ w3_2 ∧ w3_2 ≤ 385 → (∀ i, 0 ≤ i → i < w3_2 → (Z4 74 i = 0 ∨ Z4 74 i = 268435456)) → XH n s S Z4 h4 → GI n S Z4 → fr' [(74, (-1))] Z1 Z4 → mx_J (tB l D b0 ad Hb tau) mt_237 (d + 6) 6 [some (.ref 56), some (xI x0), some (xI w3_2), none, none] [] h4 Post := by
      intro m3
      induction m3 with
      | zero => intro w3_2 Z4 h4 q3 f3_0 f3_1 hx4 hG4 hf4; exact absurd q3 (by omega)
      | succ m3 ih3 =>
        intro w3_2 Z4 h4 q3 f3_0 f3_1 hx4 hG4 hf4
        refine mx_J.step (sn_237 6) (fun _ _ => rfl) ?_
        refine mx_J.step (sn_237 7) (fun _ _ => rfl) ?_
        have b6 : 0 ≤ Z 56 18 ∧ Z 56 18 ≤ 385 := hG.pr 56 18
        refine JgetI (g := 18) (z := Z 56 18) hx4 (show mx_Sn _ _ 8 (mx_getf 12 18 11) from sn_237 8) a56 s56 rfl rfl ((hf4 56 18 rfl).trans (hf1 56 18 rfl)) ?_
        refine Jicmp_ge (show mx_Sn _ _ 11 (mx_icmp_ge 38 14) from sn_237 11) (by omega) (by omega) (fun q7 => ?_) (fun q7 => ?_)
        · skip
          have fz : fu Z4 (Z 56 18) = 1 := fu_0 (len := w3_2) (by omega) (by assumption)
          refine JcI (z := 1) (show mx_Sn _ _ 38 (mx_const (.int 1) 39) from sn_237 38) rfl ?_
          refine mx_J.step (ls2 := [some (.ref 56), some (xI x0), some (xI 1), none, none]) (sn_237 39) (fun _ _ => rfl) ?_
          have c40 : ∀ (m8 : Nat) (w8_2 : Int) (u8_3 : Option Value) (u8_4 : Option Value) (Z9 : xZ) (h9 : mx_H), (((sn 74 Z9 (Z 56 18) + w8_2).toNat : Nat) : Int) < (m8 : Int) → 0 ≤ w8_2 ∧ w8_2 ≤ 1 → fu Z9 (Z 56 18) = 1 → (w8_2 = 0 → fl' Z9 (Z 56 18) 0 = 1) → XH n s S Z9 h9 → GI n S Z9 → fr' [(74, (-1))] Z4 Z9 → mx_J (tB l D b0 ad Hb tau) mt_237 (d + 6) 40 [some (.ref 56), some (xI x0), some (xI w8_2), u8_3, u8_4] [] h9 Post := by
            intro m8
            induction m8 with
            | zero => intro w8_2 u8_3 u8_4 Z9 h9 q8 f8_0 f8_1 f8_2 hx9 hG9 hf9; exact absurd q8 (by omega)
            | succ m8 ih8 =>
              intro w8_2 u8_3 u8_4 Z9 h9 q8 f8_0 f8_1 f8_2 hx9 hG9 hf9
              have sp := sn_p (Z := Z9) (c := 74) (m := Z 56 18) (fun i => (hG9.pr 74 i).1)
              refine mx_J.step (sn_237 40) (fun _ _ => rfl) ?_
              refine Jif_eq (show mx_Sn _ _ 41 (mx_if_eq 115 44) from sn_237 41) (by omega) (fun q10 => ?_) (fun q10 => ?_)
              · skip
                refine mx_J.step (sn_237 115) (fun _ _ => rfl) ?_
                refine JgetR (g := 33) (b := 74) hx9 (show mx_Sn _ _ 116 (mx_getf 12 33 119) from sn_237 116) a56 s56 rfl rfl (hG9.prr 56 33 rfl) ?_
                refine mx_J.step (sn_237 119) (fun _ _ => rfl) ?_
                refine JgetR (g := 1) (b := 57) hx9 (show mx_Sn _ _ 120 (mx_getf 12 1 123) from sn_237 120) a56 s56 rfl rfl (hG9.prr 56 1 rfl) ?_
                refine JcI (z := 27) (show mx_Sn _ _ 123 (mx_const (.int 27) 125) from sn_237 123) rfl ?_
                have b13 := GI_st hG 27
                have b14 : 0 ≤ Z 56 18 ∧ Z 56 18 ≤ 385 := hG.pr 56 18
                have b15 : 0 ≤ Z 57 27 ∧ Z 57 27 ≤ 384 := by have hq := GI_ex hG 57 27; replace hq : f57 (27 % 962) (Z 57 27) := hq; unfold f57 at hq; omega
                have b16 : (-2147483648) ≤ Z 57 27 ∧ Z 57 27 ≤ 2147483647 := hG.pr 57 27
                refine JialdI (z := Z 57 27) hx9 (show mx_Sn _ _ 125 (mx_iald 126) from sn_237 125) a57 s57 (by omega) ((hf9 57 27 rfl).trans ((hf4 57 27 rfl).trans (hf1 57 27 rfl))) ?_
                have b17 : 0 ≤ Z9 74 (Z 57 27) ∧ Z9 74 (Z 57 27) ≤ 268435456 := hG9.pr 74 (Z 57 27)
                refine JialdI (z := Z9 74 (Z 57 27)) hx9 (show mx_Sn _ _ 126 (mx_iald 127) from sn_237 126) a74 s74 (by omega) rfl ?_
                have eq18 : (ai 73) Z9 (19 * Z 56 18) (-1) (Z 56 18 - 1) = (ai 73) Z1 (19 * Z 56 18) (-1) (Z 56 18 - 1) := ((ai_c (fun i => hf9 73 i rfl)).trans (ai_c (fun i => hf4 73 i rfl)))
                have eq19 : Z9 56 18 = Z 56 18 := ((hf9 56 18 rfl).trans ((hf4 56 18 rfl).trans (hf1 56 18 rfl)))
                have b20 : 0 ≤ Z 56 18 ∧ Z 56 18 ≤ 385 := hG.pr 56 18
                exact mx_J.ret (sn_237 127) (fun _ _ => rfl) (hP (Z9 74 (Z 57 27)) Z9 h9 hx9 hG9 (fr_tr (M := [(62, (-1)), (64, (-1)), (65, (-1)), (73, (-1)), (74, (-1))]) (fr_tr (M := [(62, (-1)), (64, (-1)), (65, (-1)), (73, (-1)), (74, (-1))]) (fr_tr (M := [(62, (-1)), (64, (-1)), (65, (-1)), (73, (-1)), (74, (-1))]) fr_rf (hf1) (M1 := []) rfl rfl) (hf4) rfl rfl) (hf9) rfl rfl) (by omega))
              · skip
                refine JcI (z := 0) (show mx_Sn _ _ 44 (mx_const (.int 0) 45) from sn_237 44) rfl ?_
                refine mx_J.step (ls2 := [some (.ref 56), some (xI x0), some (xI 0), u8_3, u8_4]) (sn_237 45) (fun _ _ => rfl) ?_
                refine JcI (z := 0) (show mx_Sn _ _ 46 (mx_const (.int 0) 47) from sn_237 46) rfl ?_
                refine mx_J.step (ls2 := [some (.ref 56), some (xI x0), some (xI 0), some (xI 0), u8_4]) (sn_237 47) (fun _ _ => rfl) ?_
                have c48 : ∀ (m21 : Nat) (w21_2 : Int) (w21_3 : Int) (u21_4 : Option Value) (Z22 : xZ) (h22 : mx_H), 385 - w21_3 < (m21 : Int) → 0 ≤ w21_2 ∧ w21_2 ≤ 1 → 0 ≤ w21_3 ∧ w21_3 ≤ 385 → fu Z22 (Z 56 18) = 1 → (sn 74 Z22 (Z 56 18) ≤ sn 74 Z9 (Z 56 18) ∧ (w21_2 = 1 → sn 74 Z22 (Z 56 18) < sn 74 Z9 (Z 56 18))) → (w21_2 = 0 → fl' Z22 w21_3 0 = 1) → XH n s S Z22 h22 → GI n S Z22 → fr' [(74, (-1))] Z9 Z22 → mx_J (tB l D b0 ad Hb tau) mt_237 (d + 6) 48 [some (.ref 56), some (xI x0), some (xI w21_2), some (xI w21_3), u21_4] [] h22 Post := by
                  intro m21
                  induction m21 with
                  | zero => intro w21_2 w21_3 u21_4 Z22 h22 q21 f21_0 f21_1 f21_2 f21_3 f21_4 hx22 hG22 hf22; exact absurd q21 (by omega)
                  | succ m21 ih21 =>
                    intro w21_2 w21_3 u21_4 Z22 h22 q21 f21_0 f21_1 f21_2 f21_3 f21_4 hx22 hG22 hf22
                    refine mx_J.step (sn_237 48) (fun _ _ => rfl) ?_
                    refine mx_J.step (sn_237 49) (fun _ _ => rfl) ?_
                    have b24 : 0 ≤ Z 56 18 ∧ Z 56 18 ≤ 385 := hG.pr 56 18
                    refine JgetI (g := 18) (z := Z 56 18) hx22 (show mx_Sn _ _ 50 (mx_getf 12 18 53) from sn_237 50) a56 s56 rfl rfl ((hf22 56 18 rfl).trans ((hf9 56 18 rfl).trans ((hf4 56 18 rfl).trans (hf1 56 18 rfl)))) ?_
                    refine Jicmp_ge (show mx_Sn _ _ 53 (mx_icmp_ge 112 56) from sn_237 53) (by omega) (by omega) (fun q25 => ?_) (fun q25 => ?_)
                    · skip
                      have fm : w21_2 = 0 → fl' Z22 (Z 56 18) 0 = 1 := fun e => fl_m (s := w21_3) (d := 0) (by omega) (by omega) (by omega)
                      refine mx_J.step (sn_237 112) (fun _ _ => rfl) ?_
                      exact ih8 w21_2 (some (xI w21_3)) u21_4 Z22 h22 (by omega) (by omega) (by omega) (by omega) hx22 hG22 (fr_tr (M := [(74, (-1))]) (fr_tr (M := [(74, (-1))]) fr_rf (hf9) (M1 := []) rfl rfl) (hf22) rfl rfl)
                    · skip
                      refine JcI (z := 0) (show mx_Sn _ _ 56 (mx_const (.int 0) 57) from sn_237 56) rfl ?_
                      refine mx_J.step (ls2 := [some (.ref 56), some (xI x0), some (xI w21_2), some (xI w21_3), some (xI 0)]) (sn_237 57) (fun _ _ => rfl) ?_
                      have c59 : ∀ (m26 : Nat) (w26_2 : Int) (w26_4 : Int) (Z27 : xZ) (h27 : mx_H), 19 - w26_4 < (m26 : Int) → 0 ≤ w26_2 ∧ w26_2 ≤ 1 → 0 ≤ w26_4 ∧ w26_4 ≤ 19 → fu Z27 (Z 56 18) = 1 → (sn 74 Z27 (Z 56 18) ≤ sn 74 Z9 (Z 56 18) ∧ (w26_2 = 1 → sn 74 Z27 (Z 56 18) < sn 74 Z9 (Z 56 18))) → (w26_2 = 0 → fl' Z27 w21_3 w26_4 = 1) → XH n s S Z27 h27 → GI n S Z27 → fr' [(74, (-1))] Z22 Z27 → mx_J (tB l D b0 ad Hb tau) mt_237 (d + 6) 59 [some (.ref 56), some (xI x0), some (xI w26_2), some (xI w21_3), some (xI w26_4)] [] h27 Post := by
                        intro m26
                        induction m26 with
                        | zero => intro w26_2 w26_4 Z27 h27 q26 f26_0 f26_1 f26_2 f26_3 f26_4 hx27 hG27 hf27; exact absurd q26 (by omega)
                        | succ m26 ih26 =>
                          intro w26_2 w26_4 Z27 h27 q26 f26_0 f26_1 f26_2 f26_3 f26_4 hx27 hG27 hf27
                          refine mx_J.step (sn_237 59) (fun _ _ => rfl) ?_
                          refine JcI (z := 19) (show mx_Sn _ _ 61 (mx_const (.int 19) 63) from sn_237 61) rfl ?_
                          refine Jicmp_ge (show mx_Sn _ _ 63 (mx_icmp_ge 106 66) from sn_237 63) (by omega) (by omega) (fun q28 => ?_) (fun q28 => ?_)
                          · skip
                            have fn : w26_2 = 0 → fl' Z27 (w21_3 + 1) 0 = 1 := fun e => fl_n (d := w26_4) (by omega) (by omega) rfl
                            refine Jiinc (z := w21_3) (cz := 1) (ls2 := [some (.ref 56), some (xI x0), some (xI w26_2), some (xI (w21_3 + 1)), some (xI w26_4)]) (show mx_Sn _ _ 106 (mx_iinc 3 1 109) from sn_237 106) rfl rfl rfl rfl ?_
                            refine mx_J.step (sn_237 109) (fun _ _ => rfl) ?_
                            exact ih21 w26_2 (w21_3 + 1) (some (xI w26_4)) Z27 h27 (by omega) (by omega) (by omega) (by omega) (by omega) (by first | exact (fun _ => fl_0 (by omega) (by omega)) | omega) hx27 hG27 (fr_tr (M := [(74, (-1))]) (fr_tr (M := [(74, (-1))]) fr_rf (hf22) (M1 := []) rfl rfl) (hf27) rfl rfl)
                          · skip
                            refine mx_J.step (sn_237 66) (fun _ _ => rfl) ?_
                            refine mx_J.step (sn_237 67) (fun _ _ => rfl) ?_
                            refine mx_J.step (sn_237 68) (fun _ _ => rfl) ?_
                            obtain ⟨z29, hc29, b29⟩ := ct_236_56 (d := d + 5) (l := l) (D := D) (b0 := b0) (ad := ad) (Hb := Hb) (tau := tau) hx27 hG27 (show 0 ≤ w21_3 ∧ w21_3 ≤ 384 by omega) (show 0 ≤ w26_4 ∧ w26_4 ≤ 18 by omega)
                            refine Jcv hx27 (show mx_Sn _ _ 70 (mx_callv 236 3 12 73) from sn_237 70) a56 s56 hc29 rfl rfl rfl ?_
                            refine mx_J.step (sn_237 73) (fun _ _ => rfl) ?_
                            refine JgetR (g := 33) (b := 74) hx27 (show mx_Sn _ _ 74 (mx_getf 12 33 77) from sn_237 74) a56 s56 rfl rfl (hG27.prr 56 33 rfl) ?_
                            refine mx_J.step (sn_237 77) (fun _ _ => rfl) ?_
                            have b31 : 0 ≤ Z27 74 w21_3 ∧ Z27 74 w21_3 ≤ 268435456 := hG27.pr 74 w21_3
                            refine JialdI (z := Z27 74 w21_3) hx27 (show mx_Sn _ _ 78 (mx_iald 79) from sn_237 78) a74 s74 (by omega) rfl ?_
                            have c100 : ∀ (w32_2 : Int) (Z33 : xZ) (h33 : mx_H), 0 ≤ w32_2 ∧ w32_2 ≤ 1 → fu Z33 (Z 56 18) = 1 → (sn 74 Z33 (Z 56 18) ≤ sn 74 Z9 (Z 56 18) ∧ (w32_2 = 1 → sn 74 Z33 (Z 56 18) < sn 74 Z9 (Z 56 18))) → (w32_2 = 0 → fl' Z33 w21_3 (w26_4 + 1) = 1) → XH n s S Z33 h33 → GI n S Z33 → fr' [(74, (-1))] Z27 Z33 → mx_J (tB l D b0 ad Hb tau) mt_237 (d + 6) 100 [some (.ref 56), some (xI x0), some (xI w32_2), some (xI w21_3), some (xI w26_4)] [] h33 Post := by
                              intro w32_2 Z33 h33 f32_0 f32_1 f32_2 f32_3 hx33 hG33 hf33
                              refine Jiinc (z := w26_4) (cz := 1) (ls2 := [some (.ref 56), some (xI x0), some (xI w32_2), some (xI w21_3), some (xI (w26_4 + 1))]) (show mx_Sn _ _ 100 (mx_iinc 4 1 103) from sn_237 100) rfl rfl rfl rfl ?_
                              refine mx_J.step (sn_237 103) (fun _ _ => rfl) ?_
                              exact ih26 w32_2 (w26_4 + 1) Z33 h33 (by omega) (by omega) (by omega) (by omega) (by omega) (by omega) hx33 hG33 (fr_tr (M := [(74, (-1))]) (fr_tr (M := [(74, (-1))]) fr_rf (hf27) (M1 := []) rfl rfl) (hf33) rfl rfl)
                            refine Jicmp_lt (show mx_Sn _ _ 79 (mx_icmp_lt 85 82) from sn_237 79) (by omega) (by omega) (fun q34 => ?_) (fun q34 => ?_)
                            · skip
                              refine mx_J.step (sn_237 85) (fun _ _ => rfl) ?_
                              refine JgetR (g := 33) (b := 74) hx27 (show mx_Sn _ _ 86 (mx_getf 12 33 89) from sn_237 86) a56 s56 rfl rfl (hG27.prr 56 33 rfl) ?_
                              refine mx_J.step (sn_237 89) (fun _ _ => rfl) ?_
                              refine mx_J.step (sn_237 90) (fun _ _ => rfl) ?_
                              refine mx_J.step (sn_237 91) (fun _ _ => rfl) ?_
                              refine mx_J.step (sn_237 92) (fun _ _ => rfl) ?_
                              obtain ⟨z36, hc36, b36⟩ := ct_236_56 (d := d + 5) (l := l) (D := D) (b0 := b0) (ad := ad) (Hb := Hb) (tau := tau) hx27 hG27 (show 0 ≤ w21_3 ∧ w21_3 ≤ 384 by omega) (show 0 ≤ w26_4 ∧ w26_4 ≤ 18 by omega)
                              refine Jcv hx27 (show mx_Sn _ _ 94 (mx_callv 236 3 12 97) from sn_237 94) a56 s56 hc36 rfl rfl rfl ?_
                              refine JiastI hx27 (show mx_Sn _ _ 97 (mx_iast 1 98) from sn_237 97) a74 s74 rfl (by omega) (fun Z37 h37 hx37 hE37 => ?_)
                              have hG37 := GI_up hG27 hE37 (show 0 ≤ z36 ∧ z36 ≤ 268435456 by omega) trivial rfl
                              have fq := fu_u (Z := Z27) (Z2 := Z37) (m := Z 56 18) (s := w21_3) (d := w26_4) (by omega) (by have e9 : fb Z27 w21_3 w26_4 = z36 := (by omega); rw [e9]; first | done | exact hE37) (by omega) (by omega) (by omega) (fun i => hG27.pr 74 i)
                              have sq := sn_u (m := Z 56 18) hE37 (by omega)
                              refine JcI (z := 1) (show mx_Sn _ _ 98 (mx_const (.int 1) 99) from sn_237 98) rfl ?_
                              refine mx_J.step (ls2 := [some (.ref 56), some (xI x0), some (xI 1), some (xI w21_3), some (xI w26_4)]) (sn_237 99) (fun _ _ => rfl) ?_
                              exact c100 1 Z37 h37 (by omega) (by omega) (by omega) (by omega) hx37 hG37 (fr_tr (M := [(74, (-1))]) fr_rf (fr_ua hE37) (M1 := []) rfl rfl)
                            · skip
                              have fs : w26_2 = 0 → fl' Z27 w21_3 (w26_4 + 1) = 1 := fun e => fl_s (d := w26_4) (by omega) (by omega) rfl
                              refine mx_J.step (sn_237 82) (fun _ _ => rfl) ?_
                              exact c100 w26_2 Z27 h27 (by omega) (by omega) (by omega) (by omega) hx27 hG27 fr_rf
                      exact c59 (Int.toNat (19 - 0) + 1) w21_2 0 Z22 h22 (by omega) (by omega) (by omega) (by omega) (by omega) (by omega) hx22 hG22 fr_rf
                exact c48 (Int.toNat (385 - 0) + 1) 0 0 u8_4 Z9 h9 (by omega) (by omega) (by omega) (by omega) (by omega) (by first | exact (fun _ => fl_0 (by omega) (by omega)) | omega) hx9 hG9 fr_rf
          exact c40 (Int.toNat ((((sn 74 Z4 (Z 56 18) + 1).toNat : Nat) : Int)) + 1) 1 none none Z4 h4 (by omega) (by omega) (by omega) (by omega) hx4 hG4 fr_rf
        · skip
          refine mx_J.step (sn_237 14) (fun _ _ => rfl) ?_
          refine JgetR (g := 33) (b := 74) hx4 (show mx_Sn _ _ 15 (mx_getf 12 33 18) from sn_237 15) a56 s56 rfl rfl (hG4.prr 56 33 rfl) ?_
          refine mx_J.step (sn_237 18) (fun _ _ => rfl) ?_
          refine mx_J.step (sn_237 19) (fun _ _ => rfl) ?_
          refine mx_J.step (sn_237 20) (fun _ _ => rfl) ?_
          have c31 : ∀ (k39_2 : Int), 0 ≤ k39_2 ∧ k39_2 ≤ 268435456 → (k39_2 = 0 ∨ k39_2 = 268435456) → mx_J (tB l D b0 ad Hb tau) mt_237 (d + 6) 31 [some (.ref 56), some (xI x0), some (xI w3_2), none, none] [xI k39_2, xI w3_2, .ref 74] h4 Post := by
            intro k39_2 f39_0 f39_1
            refine JiastI hx4 (show mx_Sn _ _ 31 (mx_iast 1 32) from sn_237 31) a74 s74 rfl (by omega) (fun Z40 h40 hx40 hE40 => ?_)
            have hG40 := GI_up hG4 hE40 (show 0 ≤ k39_2 ∧ k39_2 ≤ 268435456 by omega) trivial rfl
            have f0 : (∀ i, 0 ≤ i → i < (w3_2 + 1) → (Z40 74 i = 0 ∨ Z40 74 i = 268435456)) := fun i i0 i1 => if hi : i = w3_2 then (by rw [hi, up_at hE40]; omega) else (by rw [up_ni hE40 hi]; exact (by assumption : (∀ i, 0 ≤ i → i < w3_2 → (Z4 74 i = 0 ∨ Z4 74 i = 268435456))) i i0 (by omega))
            refine Jiinc (z := w3_2) (cz := 1) (ls2 := [some (.ref 56), some (xI x0), some (xI (w3_2 + 1)), none, none]) (show mx_Sn _ _ 32 (mx_iinc 2 1 35) from sn_237 32) rfl rfl rfl rfl ?_
            refine mx_J.step (sn_237 35) (fun _ _ => rfl) ?_
            exact ih3 (w3_2 + 1) Z40 h40 (by omega) (by omega) (by first | exact (fun i i0 i1 => absurd i1 (by omega)) | assumption) hx40 hG40 (fr_tr (M := [(74, (-1))]) (fr_tr (M := [(74, (-1))]) fr_rf (hf4) (M1 := []) rfl rfl) (fr_ua hE40) rfl rfl)
          refine Jicmp_ne (show mx_Sn _ _ 21 (mx_icmp_ne 28 24) from sn_237 21) (by omega) (by omega) (fun q41 => ?_) (fun q41 => ?_)
          · skip
            refine JcI (z := 268435456) (show mx_Sn _ _ 28 (mx_const (.int 268435456) 31) from sn_237 28) rfl ?_
            exact c31 268435456 (by omega) (by omega)
          · skip
            refine JcI (z := 0) (show mx_Sn _ _ 24 (mx_const (.int 0) 25) from sn_237 24) rfl ?_
            refine mx_J.step (sn_237 25) (fun _ _ => rfl) ?_
            exact c31 0 (by omega) (by omega)
    exact c6 (Int.toNat (385 - 0) + 1) 0 Z1 h1 (by omega) (by omega) (by first | exact (fun i i0 i1 => absurd i1 (by omega)) | assumption) hx1 hG1 fr_rf
theorem ct_237_56 {l : Launch} {D : va_G} {b0 : Nat} {ad : Nat → Nat} {Hb : Heap} {tau : Nat → Int64} {d n s : Nat} {S : Nat → xS} {Z : xZ} {h : mx_H} (hx : XH n s S Z h) (hG : GI n S Z)  {x0 : Int} (p0 : 0 ≤ x0 ∧ x0 ≤ 384) : ∃ (z : Int) (Z' : xZ) (h' : mx_H), mx_Ca (tB l D b0 ad Hb tau) (d + 7) 237 [.ref 56, xI x0] h (some (xI z), h') ∧ XH n s S Z' h' ∧ GI n S Z' ∧ fr' [(62, (-1)), (64, (-1)), (65, (-1)), (73, (-1)), (74, (-1))] Z Z' ∧ (0 ≤ z ∧ z ≤ 268435456 ∧ (fu Z' (Z 56 18) = 1 ∧ fl' Z' (Z 56 18) 0 = 1 ∧ ai 73 Z' (19 * Z 56 18) (-1) (Z 56 18 - 1) = 1)) := by
  obtain ⟨r, hca, z, Z', h', e, q⟩ := Jmt (B := tB l D b0 ad Hb tau) (M := mt_237) (mi := 237) (as := [.ref 56, xI x0]) (d := d + 6) (ls := [some (.ref 56), some (xI x0), none, none, none]) rfl rfl rfl rfl rfl rfl (cw_237_56 (l := l) (D := D) (b0 := b0) (ad := ad) (Hb := Hb) (tau := tau) (d := d) (Post := fun r => ∃ (z : Int) (Z' : xZ) (h' : mx_H), r = (some (xI z), h') ∧ XH n s S Z' h' ∧ GI n S Z' ∧ fr' [(62, (-1)), (64, (-1)), (65, (-1)), (73, (-1)), (74, (-1))] Z Z' ∧ (0 ≤ z ∧ z ≤ 268435456 ∧ (fu Z' (Z 56 18) = 1 ∧ fl' Z' (Z 56 18) 0 = 1 ∧ ai 73 Z' (19 * Z 56 18) (-1) (Z 56 18 - 1) = 1))) hx hG p0 (fun z Z' h' q1 q2 q3 q4 => ⟨z, Z', h', rfl, q1, q2, q3, q4⟩))
  subst e; exact ⟨z, Z', h', hca, q⟩
theorem ct_239_56 {l : Launch} {D : va_G} {b0 : Nat} {ad : Nat → Nat} {Hb : Heap} {tau : Nat → Int64} {d n s : Nat} {S : Nat → xS} {Z : xZ} {h : mx_H} (hx : XH n s S Z h) (hG : GI n S Z)  {x0 : Int} (p0 : (-2147483648) ≤ x0 ∧ x0 ≤ 2147483647) : ∃ z : Int, mx_Ca (tB l D b0 ad Hb tau) (d + 3) 239 [.ref 56, xI x0] h (some (xI z), h) ∧ ((-6) ≤ z ∧ z ≤ 0 ∧ (z = 0 → (0 ≤ x0 ∧ x0 ≤ 3 ∧ 1 ≤ Z 81 x0 ∧ Z 81 x0 ≤ 18))) := by sorry
theorem ct_240_56 {l : Launch} {D : va_G} {b0 : Nat} {ad : Nat → Nat} {Hb : Heap} {tau : Nat → Int64} {d n s : Nat} {S : Nat → xS} {Z : xZ} {h : mx_H} (hx : XH n s S Z h) (hG : GI n S Z)  {x0 : Int} (p0 : 0 ≤ x0 ∧ x0 ≤ 3) (k0 : Z 81 x0 ≤ 18) : ∃ (z : Int) (Z' : xZ) (h' : mx_H), mx_Ca (tB l D b0 ad Hb tau) (d + 3) 240 [.ref 56, xI x0] h (some (xI z), h') ∧ XH n s S Z' h' ∧ GI n S Z' ∧ fr' [(62, (-1))] Z Z' ∧ (0 ≤ z ∧ z ≤ 384) := by sorry
theorem ct_241_56 {l : Launch} {D : va_G} {b0 : Nat} {ad : Nat → Nat} {Hb : Heap} {tau : Nat → Int64} {d n s : Nat} {S : Nat → xS} {Z : xZ} {h : mx_H} (hx : XH n s S Z h) (hG : GI n S Z)  {x0 : Int} (p0 : (-2147483648) ≤ x0 ∧ x0 ≤ 2147483647) : ∃ (z : Int) (Z' : xZ) (h' : mx_H), mx_Ca (tB l D b0 ad Hb tau) (d + 8) 241 [.ref 56, xI x0] h (some (xI z), h') ∧ XH n s S Z' h' ∧ GI n S Z' ∧ fr' [(56, 0), (62, (-1)), (64, (-1)), (65, (-1)), (73, (-1)), (74, (-1))] Z Z' ∧ ((-6) ≤ z ∧ z ≤ 268435455) := by sorry
theorem ct_249_56 {l : Launch} {D : va_G} {b0 : Nat} {ad : Nat → Nat} {Hb : Heap} {tau : Nat → Int64} {d n s : Nat} {S : Nat → xS} {Z : xZ} {h : mx_H} (hx : XH n s S Z h) (hG : GI n S Z)  {x0 : Int} (p0 : (-2147483648) ≤ x0 ∧ x0 ≤ 2147483647) : ∃ (z : Int) (Z' : xZ) (h' : mx_H), mx_Ca (tB l D b0 ad Hb tau) (d + 4) 249 [.ref 56, xI x0] h (some (xI z), h') ∧ XH n s S Z' h' ∧ GI n S Z' ∧ fr' [(56, 0), (62, (-1))] Z Z' ∧ ((-6) ≤ z ∧ z ≤ 384) := by sorry
theorem ct_253_56 {l : Launch} {D : va_G} {b0 : Nat} {ad : Nat → Nat} {Hb : Heap} {tau : Nat → Int64} {d n s : Nat} {S : Nat → xS} {Z : xZ} {h : mx_H} (hx : XH n s S Z h) (hG : GI n S Z)  {x0 : Int} (p0 : (-2147483648) ≤ x0 ∧ x0 ≤ 2147483647) : ∃ (z : Int) (Z' : xZ) (h' : mx_H), mx_Ca (tB l D b0 ad Hb tau) (d + 4) 253 [.ref 56, xI x0] h (some (xI z), h') ∧ XH n s S Z' h' ∧ GI n S Z' ∧ fr' [(56, 0), (62, (-1))] Z Z' ∧ ((-6) ≤ z ∧ z ≤ 1) := by sorry
theorem ct_242_56 {l : Launch} {D : va_G} {b0 : Nat} {ad : Nat → Nat} {Hb : Heap} {tau : Nat → Int64} {d n s : Nat} {S : Nat → xS} {Z : xZ} {h : mx_H} (hx : XH n s S Z h) (hG : GI n S Z)  {x0 x1 : Int} (p0 : (-2147483648) ≤ x0 ∧ x0 ≤ 2147483647) (p1 : (-2147483648) ≤ x1 ∧ x1 ≤ 2147483647) : ∃ (z : Int) (Z' : xZ) (h' : mx_H), mx_Ca (tB l D b0 ad Hb tau) (d + 8) 242 [.ref 56, xI x0, xI x1] h (some (xI z), h') ∧ XH n s S Z' h' ∧ GI n S Z' ∧ fr' [(56, 0), (62, (-1)), (64, (-1)), (65, (-1)), (73, (-1)), (74, (-1))] Z Z' ∧ ((-6) ≤ z ∧ z ≤ 18) := by sorry
theorem ct_245_56 {l : Launch} {D : va_G} {b0 : Nat} {ad : Nat → Nat} {Hb : Heap} {tau : Nat → Int64} {d n s : Nat} {S : Nat → xS} {Z : xZ} {h : mx_H} (hx : XH n s S Z h) (hG : GI n S Z)  {x0 x1 : Int} (p0 : (-2147483648) ≤ x0 ∧ x0 ≤ 2147483647) (p1 : (-2147483648) ≤ x1 ∧ x1 ≤ 2147483647) : ∃ (z : Int) (Z' : xZ) (h' : mx_H), mx_Ca (tB l D b0 ad Hb tau) (d + 7) 245 [.ref 56, xI x0, xI x1] h (some (xL z), h') ∧ XH n s S Z' h' ∧ GI n S Z' ∧ fr' [(56, 0), (62, (-1)), (64, (-1)), (65, (-1)), (73, (-1)), (76, (-1)), (77, (-1))] Z Z' ∧ ((-9223372036854775808) ≤ z ∧ z ≤ 9223372036854775807) := by sorry
set_option maxRecDepth 100000 in
theorem cw_247_56 {l : Launch} {D : va_G} {b0 : Nat} {ad : Nat → Nat} {Hb : Heap} {tau : Nat → Int64} {d n s : Nat} {S : Nat → xS} {Z : xZ} {h : mx_H} {Post : mx_R → Prop} (hx : XH n s S Z h) (hG : GI n S Z)  {x0 : Int} (p0 : (-2147483648) ≤ x0 ∧ x0 ≤ 2147483647) (hP : ∀ (z : Int) (Z' : xZ) (h' : mx_H), XH n s S Z' h' → GI n S Z' → fr' [(56, 0), (62, (-1)), (64, (-1)), (65, (-1)), (73, (-1)), (74, (-1))] Z Z' → (-3) ≤ z ∧ z ≤ 268435455 → Post (some (xI z), h')) : mx_J (tB l D b0 ad Hb tau) mt_247 (d + 6) 0 [some (.ref 56), some (xI x0), none, none, none, none] [] h Post := by
    have a56 : 56 < n := lt83 (GI_n hG) rfl
    have s56 : S 56 = .inl (12, [0, 2, 2, 2, 2, 0, 0, 0, 0, 0, 0, 0, 0, 0, 0, 2, 2, 2, 0, 2, 2, 2, 0, 0, 2, 2, 2, 2, 2, 2, 0, 0, 2, 2, 2, 2, 2, 2, 2, 2, 2, 2]) := GI_s hG 56 rfl
    have a57 : 57 < n := lt83 (GI_n hG) rfl
    have s57 : S 57 = .inr (.int, 2886, 0) := GI_s hG 57 rfl
    have a74 : 74 < n := lt83 (GI_n hG) rfl
    have s74 : S 74 = .inr (.int, 385, 0) := GI_s hG 74 rfl
    refine mx_J.step (sn_247 0) (fun _ _ => rfl) ?_
    refine JcI (z := 0) (show mx_Sn _ _ 1 (mx_const (.int 0) 2) from sn_247 1) rfl ?_
    refine JputI (g := 0) hx (show mx_Sn _ _ 2 (mx_putf 1 12 0 (.int) 5) from sn_247 2) a56 s56 rfl rfl rfl rfl (fun Z1 h1 hx1 hE1 => ?_)
    have hG1 := GI_up hG hE1 (show (-2147483648) ≤ 0 ∧ 0 ≤ 2147483647 by omega) trivial rfl
    refine mx_J.step (sn_247 5) (fun _ _ => rfl) ?_
    refine Ji2l (show mx_Sn _ _ 6 (mx_i2l 7) from sn_247 6) (by omega) ?_
    obtain ⟨z2, hc2, b2⟩ := ct_208_ (d := d + 4) (l := l) (D := D) (b0 := b0) (ad := ad) (Hb := Hb) (tau := tau) hx1 hG1 (show (-9223372036854775808) ≤ x0 ∧ x0 ≤ 9223372036854775807 by omega)
    refine Jcs (show mx_Sn _ _ 7 (mx_calls 208 1 10) from sn_247 7) hc2 rfl rfl rfl ?_
    refine Jif_ne (show mx_Sn _ _ 10 (mx_if_ne 16 13) from sn_247 10) (by omega) (fun q3 => ?_) (fun q3 => ?_)
    · skip
      refine mx_J.step (sn_247 16) (fun _ _ => rfl) ?_
      have eq5 : Z1 56 18 = Z 56 18 := (up_ni hE1 (by decide))
      have b6 : 0 ≤ Z 56 18 ∧ Z 56 18 ≤ 385 := hG.pr 56 18
      obtain ⟨Z4, h4, hc4, hx4, hG4, hf4, b4⟩ := ct_235_56 (d := d + 0) (l := l) (D := D) (b0 := b0) (ad := ad) (Hb := Hb) (tau := tau) hx1 hG1 
      try rw [eq5] at b4
      refine Jcv0 hx1 (show mx_Sn _ _ 17 (mx_callv 235 1 12 20) from sn_247 17) a56 s56 hc4 rfl rfl rfl ?_
      refine JcI (z := 0) (show mx_Sn _ _ 20 (mx_const (.int 0) 21) from sn_247 20) rfl ?_
      refine mx_J.step (ls2 := [some (.ref 56), some (xI x0), some (xI 0), none, none, none]) (sn_247 21) (fun _ _ => rfl) ?_
      have c22 : ∀ (m7 : Nat) (w7_2 : Int) (Z8 : xZ) (h8 : mx_H), 385 - w7_2 < (m7 : Int) → 0 ≤ w7_2 ∧ w7_2 ≤ 385 → XH n s S Z8 h8 → GI n S Z8 → fr' [(74, (-1))] Z4 Z8 → mx_J (tB l D b0 ad Hb tau) mt_247 (d + 6) 22 [some (.ref 56), some (xI x0), some (xI w7_2), none, none, none] [] h8 Post := by
        intro m7
        induction m7 with
        | zero => intro w7_2 Z8 h8 q7 f7_0 hx8 hG8 hf8; exact absurd q7 (by omega)
        | succ m7 ih7 =>
          intro w7_2 Z8 h8 q7 f7_0 hx8 hG8 hf8
          refine mx_J.step (sn_247 22) (fun _ _ => rfl) ?_
          refine mx_J.step (sn_247 23) (fun _ _ => rfl) ?_
          have b10 : 0 ≤ Z 56 18 ∧ Z 56 18 ≤ 385 := hG.pr 56 18
          refine JgetI (g := 18) (z := Z 56 18) hx8 (show mx_Sn _ _ 24 (mx_getf 12 18 27) from sn_247 24) a56 s56 rfl rfl ((hf8 56 18 rfl).trans ((hf4 56 18 rfl).trans (up_ni hE1 (by decide)))) ?_
          refine Jicmp_ge (show mx_Sn _ _ 27 (mx_icmp_ge 45 30) from sn_247 27) (by omega) (by omega) (fun q11 => ?_) (fun q11 => ?_)
          · skip
            refine JcI (z := 1) (show mx_Sn _ _ 45 (mx_const (.int 1) 46) from sn_247 45) rfl ?_
            refine mx_J.step (ls2 := [some (.ref 56), some (xI x0), some (xI 1), none, none, none]) (sn_247 46) (fun _ _ => rfl) ?_
            have c47 : ∀ (m12 : Nat) (w12_2 : Int) (u12_3 : Option Value) (u12_4 : Option Value) (u12_5 : Option Value) (Z13 : xZ) (h13 : mx_H), (((cn 74 268435456 Z13 (Z 56 18) + w12_2).toNat : Nat) : Int) < (m12 : Int) → 0 ≤ w12_2 ∧ w12_2 ≤ 1 → XH n s S Z13 h13 → GI n S Z13 → fr' [(74, (-1))] Z8 Z13 → mx_J (tB l D b0 ad Hb tau) mt_247 (d + 6) 47 [some (.ref 56), some (xI x0), some (xI w12_2), u12_3, u12_4, u12_5] [] h13 Post := by
              intro m12
              induction m12 with
              | zero => intro w12_2 u12_3 u12_4 u12_5 Z13 h13 q12 f12_0 hx13 hG13 hf13; exact absurd q12 (by omega)
              | succ m12 ih12 =>
                intro w12_2 u12_3 u12_4 u12_5 Z13 h13 q12 f12_0 hx13 hG13 hf13
                have cb := cn_b (Z := Z13) (c := 74) (v := 268435456) (m := Z 56 18) (by omega)
                refine mx_J.step (sn_247 47) (fun _ _ => rfl) ?_
                refine Jif_eq (show mx_Sn _ _ 48 (mx_if_eq 164 51) from sn_247 48) (by omega) (fun q14 => ?_) (fun q14 => ?_)
                · skip
                  refine mx_J.step (sn_247 164) (fun _ _ => rfl) ?_
                  refine JgetR (g := 33) (b := 74) hx13 (show mx_Sn _ _ 165 (mx_getf 12 33 168) from sn_247 165) a56 s56 rfl rfl (hG13.prr 56 33 rfl) ?_
                  refine mx_J.step (sn_247 168) (fun _ _ => rfl) ?_
                  refine JgetR (g := 1) (b := 57) hx13 (show mx_Sn _ _ 169 (mx_getf 12 1 172) from sn_247 169) a56 s56 rfl rfl (hG13.prr 56 1 rfl) ?_
                  refine JcI (z := 27) (show mx_Sn _ _ 172 (mx_const (.int 27) 174) from sn_247 172) rfl ?_
                  have b17 := GI_st hG 27
                  have b18 : 0 ≤ Z 56 18 ∧ Z 56 18 ≤ 385 := hG.pr 56 18
                  have b19 : 0 ≤ Z 57 27 ∧ Z 57 27 ≤ 384 := by have hq := GI_ex hG 57 27; replace hq : f57 (27 % 962) (Z 57 27) := hq; unfold f57 at hq; omega
                  have b20 : (-2147483648) ≤ Z 57 27 ∧ Z 57 27 ≤ 2147483647 := hG.pr 57 27
                  refine JialdI (z := Z 57 27) hx13 (show mx_Sn _ _ 174 (mx_iald 175) from sn_247 174) a57 s57 (by omega) ((hf13 57 27 rfl).trans ((hf8 57 27 rfl).trans ((hf4 57 27 rfl).trans (up_nk hE1 rfl)))) ?_
                  have b21 : 0 ≤ Z13 74 (Z 57 27) ∧ Z13 74 (Z 57 27) ≤ 268435456 := hG13.pr 74 (Z 57 27)
                  refine JialdI (z := Z13 74 (Z 57 27)) hx13 (show mx_Sn _ _ 175 (mx_iald 176) from sn_247 175) a74 s74 (by omega) rfl ?_
                  obtain ⟨z22, hc22, b22⟩ := ct_238_ (d := d + 5) (l := l) (D := D) (b0 := b0) (ad := ad) (Hb := Hb) (tau := tau) hx13 hG13 (show 0 ≤ Z13 74 (Z 57 27) ∧ Z13 74 (Z 57 27) ≤ 268435456 by omega)
                  refine Jcs (show mx_Sn _ _ 176 (mx_calls 238 1 179) from sn_247 176) hc22 rfl rfl rfl ?_
                  exact mx_J.ret (sn_247 179) (fun _ _ => rfl) (hP z22 Z13 h13 hx13 hG13 (fr_tr (M := [(56, 0), (62, (-1)), (64, (-1)), (65, (-1)), (73, (-1)), (74, (-1))]) (fr_tr (M := [(56, 0), (62, (-1)), (64, (-1)), (65, (-1)), (73, (-1)), (74, (-1))]) (fr_tr (M := [(56, 0), (62, (-1)), (64, (-1)), (65, (-1)), (73, (-1)), (74, (-1))]) (fr_tr (M := [(56, 0), (62, (-1)), (64, (-1)), (65, (-1)), (73, (-1)), (74, (-1))]) fr_rf (fr_up hE1) (M1 := []) rfl rfl) (hf4) rfl rfl) (hf8) rfl rfl) (hf13) rfl rfl) (by omega))
                · skip
                  refine JcI (z := 0) (show mx_Sn _ _ 51 (mx_const (.int 0) 52) from sn_247 51) rfl ?_
                  refine mx_J.step (ls2 := [some (.ref 56), some (xI x0), some (xI 0), u12_3, u12_4, u12_5]) (sn_247 52) (fun _ _ => rfl) ?_
                  refine JcI (z := 0) (show mx_Sn _ _ 53 (mx_const (.int 0) 54) from sn_247 53) rfl ?_
                  refine mx_J.step (ls2 := [some (.ref 56), some (xI x0), some (xI 0), some (xI 0), u12_4, u12_5]) (sn_247 54) (fun _ _ => rfl) ?_
                  have c55 : ∀ (m23 : Nat) (w23_2 : Int) (w23_3 : Int) (u23_4 : Option Value) (u23_5 : Option Value) (Z24 : xZ) (h24 : mx_H), 385 - w23_3 < (m23 : Int) → 0 ≤ w23_2 ∧ w23_2 ≤ 1 → 0 ≤ w23_3 ∧ w23_3 ≤ 385 → (cn 74 268435456 Z24 (Z 56 18) ≤ cn 74 268435456 Z13 (Z 56 18) ∧ (w23_2 = 1 → cn 74 268435456 Z24 (Z 56 18) < cn 74 268435456 Z13 (Z 56 18))) → XH n s S Z24 h24 → GI n S Z24 → fr' [(74, (-1))] Z13 Z24 → mx_J (tB l D b0 ad Hb tau) mt_247 (d + 6) 55 [some (.ref 56), some (xI x0), some (xI w23_2), some (xI w23_3), u23_4, u23_5] [] h24 Post := by
                    intro m23
                    induction m23 with
                    | zero => intro w23_2 w23_3 u23_4 u23_5 Z24 h24 q23 f23_0 f23_1 f23_2 hx24 hG24 hf24; exact absurd q23 (by omega)
                    | succ m23 ih23 =>
                      intro w23_2 w23_3 u23_4 u23_5 Z24 h24 q23 f23_0 f23_1 f23_2 hx24 hG24 hf24
                      refine mx_J.step (sn_247 55) (fun _ _ => rfl) ?_
                      refine mx_J.step (sn_247 56) (fun _ _ => rfl) ?_
                      have b26 : 0 ≤ Z 56 18 ∧ Z 56 18 ≤ 385 := hG.pr 56 18
                      refine JgetI (g := 18) (z := Z 56 18) hx24 (show mx_Sn _ _ 57 (mx_getf 12 18 60) from sn_247 57) a56 s56 rfl rfl ((hf24 56 18 rfl).trans ((hf13 56 18 rfl).trans ((hf8 56 18 rfl).trans ((hf4 56 18 rfl).trans (up_ni hE1 (by decide)))))) ?_
                      refine Jicmp_ge (show mx_Sn _ _ 60 (mx_icmp_ge 161 63) from sn_247 60) (by omega) (by omega) (fun q27 => ?_) (fun q27 => ?_)
                      · skip
                        refine mx_J.step (sn_247 161) (fun _ _ => rfl) ?_
                        exact ih12 w23_2 (some (xI w23_3)) u23_4 u23_5 Z24 h24 (by omega) (by omega) hx24 hG24 (fr_tr (M := [(74, (-1))]) (fr_tr (M := [(74, (-1))]) fr_rf (hf13) (M1 := []) rfl rfl) (hf24) rfl rfl)
                      · skip
                        refine JcI (z := 0) (show mx_Sn _ _ 63 (mx_const (.int 0) 64) from sn_247 63) rfl ?_
                        refine mx_J.step (ls2 := [some (.ref 56), some (xI x0), some (xI w23_2), some (xI w23_3), some (xI 0), u23_5]) (sn_247 64) (fun _ _ => rfl) ?_
                        refine JcI (z := 0) (show mx_Sn _ _ 66 (mx_const (.int 0) 67) from sn_247 66) rfl ?_
                        refine mx_J.step (ls2 := [some (.ref 56), some (xI x0), some (xI w23_2), some (xI w23_3), some (xI 0), some (xI 0)]) (sn_247 67) (fun _ _ => rfl) ?_
                        have c69 : ∀ (m28 : Nat) (w28_4 : Int) (w28_5 : Int), 19 - w28_5 < (m28 : Int) → 0 ≤ w28_4 ∧ w28_4 ≤ 268435456 → 0 ≤ w28_5 ∧ w28_5 ≤ 19 → mx_J (tB l D b0 ad Hb tau) mt_247 (d + 6) 69 [some (.ref 56), some (xI x0), some (xI w23_2), some (xI w23_3), some (xI w28_4), some (xI w28_5)] [] h24 Post := by
                          intro m28
                          induction m28 with
                          | zero => intro w28_4 w28_5 q28 f28_0 f28_1; exact absurd q28 (by omega)
                          | succ m28 ih28 =>
                            intro w28_4 w28_5 q28 f28_0 f28_1
                            refine mx_J.step (sn_247 69) (fun _ _ => rfl) ?_
                            refine JcI (z := 19) (show mx_Sn _ _ 71 (mx_const (.int 19) 73) from sn_247 71) rfl ?_
                            have c122 : mx_J (tB l D b0 ad Hb tau) mt_247 (d + 6) 122 [some (.ref 56), some (xI x0), some (xI w23_2), some (xI w23_3), some (xI w28_4), some (xI w28_5)] [] h24 Post := by
                              refine mx_J.step (sn_247 122) (fun _ _ => rfl) ?_
                              refine JgetR (g := 33) (b := 74) hx24 (show mx_Sn _ _ 123 (mx_getf 12 33 126) from sn_247 123) a56 s56 rfl rfl (hG24.prr 56 33 rfl) ?_
                              refine mx_J.step (sn_247 126) (fun _ _ => rfl) ?_
                              have b31 : 0 ≤ Z24 74 w23_3 ∧ Z24 74 w23_3 ≤ 268435456 := hG24.pr 74 w23_3
                              refine JialdI (z := Z24 74 w23_3) hx24 (show mx_Sn _ _ 127 (mx_iald 128) from sn_247 127) a74 s74 (by omega) rfl ?_
                              refine JcI (z := 268435456) (show mx_Sn _ _ 128 (mx_const (.int 268435456) 131) from sn_247 128) rfl ?_
                              have c155 : ∀ (w32_2 : Int) (Z33 : xZ) (h33 : mx_H), 0 ≤ w32_2 ∧ w32_2 ≤ 1 → (cn 74 268435456 Z33 (Z 56 18) ≤ cn 74 268435456 Z13 (Z 56 18) ∧ (w32_2 = 1 → cn 74 268435456 Z33 (Z 56 18) < cn 74 268435456 Z13 (Z 56 18))) → XH n s S Z33 h33 → GI n S Z33 → fr' [(74, (-1))] Z24 Z33 → mx_J (tB l D b0 ad Hb tau) mt_247 (d + 6) 155 [some (.ref 56), some (xI x0), some (xI w32_2), some (xI w23_3), some (xI w28_4), some (xI w28_5)] [] h33 Post := by
                                intro w32_2 Z33 h33 f32_0 f32_1 hx33 hG33 hf33
                                refine Jiinc (z := w23_3) (cz := 1) (ls2 := [some (.ref 56), some (xI x0), some (xI w32_2), some (xI (w23_3 + 1)), some (xI w28_4), some (xI w28_5)]) (show mx_Sn _ _ 155 (mx_iinc 3 1 158) from sn_247 155) rfl rfl rfl rfl ?_
                                refine mx_J.step (sn_247 158) (fun _ _ => rfl) ?_
                                exact ih23 w32_2 (w23_3 + 1) (some (xI w28_4)) (some (xI w28_5)) Z33 h33 (by omega) (by omega) (by omega) (by omega) hx33 hG33 (fr_tr (M := [(74, (-1))]) (fr_tr (M := [(74, (-1))]) fr_rf (hf24) (M1 := []) rfl rfl) (hf33) rfl rfl)
                              refine Jicmp_lt (show mx_Sn _ _ 131 (mx_icmp_lt 155 134) from sn_247 131) (by omega) (by omega) (fun q34 => ?_) (fun q34 => ?_)
                              · skip
                                exact c155 w23_2 Z24 h24 (by omega) (by omega) hx24 hG24 fr_rf
                              · skip
                                refine mx_J.step (sn_247 134) (fun _ _ => rfl) ?_
                                refine JcI (z := 268435456) (show mx_Sn _ _ 136 (mx_const (.int 268435456) 139) from sn_247 136) rfl ?_
                                refine Jicmp_ne (show mx_Sn _ _ 139 (mx_icmp_ne 145 142) from sn_247 139) (by omega) (by omega) (fun q35 => ?_) (fun q35 => ?_)
                                · skip
                                  refine mx_J.step (sn_247 145) (fun _ _ => rfl) ?_
                                  refine JgetR (g := 33) (b := 74) hx24 (show mx_Sn _ _ 146 (mx_getf 12 33 149) from sn_247 146) a56 s56 rfl rfl (hG24.prr 56 33 rfl) ?_
                                  refine mx_J.step (sn_247 149) (fun _ _ => rfl) ?_
                                  refine mx_J.step (sn_247 150) (fun _ _ => rfl) ?_
                                  refine JiastI hx24 (show mx_Sn _ _ 152 (mx_iast 1 153) from sn_247 152) a74 s74 rfl (by omega) (fun Z37 h37 hx37 hE37 => ?_)
                                  have hG37 := GI_up hG24 hE37 (show 0 ≤ w28_4 ∧ w28_4 ≤ 268435456 by omega) trivial rfl
                                  have cu := cn_u (v := 268435456) (m := Z 56 18) hE37 (by omega) (by omega) (by omega)
                                  refine JcI (z := 1) (show mx_Sn _ _ 153 (mx_const (.int 1) 154) from sn_247 153) rfl ?_
                                  refine mx_J.step (ls2 := [some (.ref 56), some (xI x0), some (xI 1), some (xI w23_3), some (xI w28_4), some (xI w28_5)]) (sn_247 154) (fun _ _ => rfl) ?_
                                  exact c155 1 Z37 h37 (by omega) (by omega) hx37 hG37 (fr_tr (M := [(74, (-1))]) fr_rf (fr_ua hE37) (M1 := []) rfl rfl)
                                · skip
                                  refine mx_J.step (sn_247 142) (fun _ _ => rfl) ?_
                                  exact c155 w23_2 Z24 h24 (by omega) (by omega) hx24 hG24 fr_rf
                            refine Jicmp_ge (show mx_Sn _ _ 73 (mx_icmp_ge 122 76) from sn_247 73) (by omega) (by omega) (fun q38 => ?_) (fun q38 => ?_)
                            · skip
                              exact c122 
                            · skip
                              refine mx_J.step (sn_247 76) (fun _ _ => rfl) ?_
                              refine JgetR (g := 33) (b := 74) hx24 (show mx_Sn _ _ 77 (mx_getf 12 33 80) from sn_247 77) a56 s56 rfl rfl (hG24.prr 56 33 rfl) ?_
                              refine mx_J.step (sn_247 80) (fun _ _ => rfl) ?_
                              have b40 : 0 ≤ Z24 74 w23_3 ∧ Z24 74 w23_3 ≤ 268435456 := hG24.pr 74 w23_3
                              refine JialdI (z := Z24 74 w23_3) hx24 (show mx_Sn _ _ 81 (mx_iald 82) from sn_247 81) a74 s74 (by omega) rfl ?_
                              refine JcI (z := 268435456) (show mx_Sn _ _ 82 (mx_const (.int 268435456) 85) from sn_247 82) rfl ?_
                              refine Jicmp_ne (show mx_Sn _ _ 85 (mx_icmp_ne 122 88) from sn_247 85) (by omega) (by omega) (fun q41 => ?_) (fun q41 => ?_)
                              · skip
                                exact c122 
                              · skip
                                refine mx_J.step (sn_247 88) (fun _ _ => rfl) ?_
                                refine mx_J.step (sn_247 89) (fun _ _ => rfl) ?_
                                refine mx_J.step (sn_247 90) (fun _ _ => rfl) ?_
                                refine mx_J.step (sn_247 92) (fun _ _ => rfl) ?_
                                obtain ⟨z42, hc42, b42⟩ := ct_246_56 (d := d + 4) (l := l) (D := D) (b0 := b0) (ad := ad) (Hb := Hb) (tau := tau) hx24 hG24 (show 0 ≤ w23_3 ∧ w23_3 ≤ 384 by omega) (show 0 ≤ w28_5 ∧ w28_5 ≤ 18 by omega) (show 1 ≤ x0 ∧ x0 ≤ 18 by omega)
                                refine Jcv hx24 (show mx_Sn _ _ 93 (mx_callv 246 4 12 96) from sn_247 93) a56 s56 hc42 rfl rfl rfl ?_
                                refine mx_J.step (sn_247 96) (fun _ _ => rfl) ?_
                                have c114 : ∀ (k43_0 : Int), 0 ≤ k43_0 ∧ k43_0 ≤ 268435456 → mx_J (tB l D b0 ad Hb tau) mt_247 (d + 6) 114 [some (.ref 56), some (xI x0), some (xI w23_2), some (xI w23_3), some (xI w28_4), some (xI w28_5)] [xI k43_0] h24 Post := by
                                  intro k43_0 f43_0
                                  refine mx_J.step (ls2 := [some (.ref 56), some (xI x0), some (xI w23_2), some (xI w23_3), some (xI k43_0), some (xI w28_5)]) (sn_247 114) (fun _ _ => rfl) ?_
                                  refine Jiinc (z := w28_5) (cz := 1) (ls2 := [some (.ref 56), some (xI x0), some (xI w23_2), some (xI w23_3), some (xI k43_0), some (xI (w28_5 + 1))]) (show mx_Sn _ _ 116 (mx_iinc 5 1 119) from sn_247 116) rfl rfl rfl rfl ?_
                                  refine mx_J.step (sn_247 119) (fun _ _ => rfl) ?_
                                  exact ih28 k43_0 (w28_5 + 1) (by omega) (by omega) (by omega)
                                refine Jicmp_le (show mx_Sn _ _ 98 (mx_icmp_le 112 101) from sn_247 98) (by omega) (by omega) (fun q44 => ?_) (fun q44 => ?_)
                                · skip
                                  refine mx_J.step (sn_247 112) (fun _ _ => rfl) ?_
                                  exact c114 w28_4 (by omega)
                                · skip
                                  refine mx_J.step (sn_247 101) (fun _ _ => rfl) ?_
                                  refine mx_J.step (sn_247 102) (fun _ _ => rfl) ?_
                                  refine mx_J.step (sn_247 103) (fun _ _ => rfl) ?_
                                  refine mx_J.step (sn_247 105) (fun _ _ => rfl) ?_
                                  obtain ⟨z45, hc45, b45⟩ := ct_246_56 (d := d + 4) (l := l) (D := D) (b0 := b0) (ad := ad) (Hb := Hb) (tau := tau) hx24 hG24 (show 0 ≤ w23_3 ∧ w23_3 ≤ 384 by omega) (show 0 ≤ w28_5 ∧ w28_5 ≤ 18 by omega) (show 1 ≤ x0 ∧ x0 ≤ 18 by omega)
                                  refine Jcv hx24 (show mx_Sn _ _ 106 (mx_callv 246 4 12 109) from sn_247 106) a56 s56 hc45 rfl rfl rfl ?_
                                  refine mx_J.step (sn_247 109) (fun _ _ => rfl) ?_
                                  exact c114 z45 (by omega)
                        exact c69 (Int.toNat (19 - 0) + 1) 0 0 (by omega) (by omega) (by omega)
                  exact c55 (Int.toNat (385 - 0) + 1) 0 0 u12_4 u12_5 Z13 h13 (by omega) (by omega) (by omega) (by omega) hx13 hG13 fr_rf
            exact c47 (Int.toNat ((((cn 74 268435456 Z8 (Z 56 18) + 1).toNat : Nat) : Int)) + 1) 1 none none none Z8 h8 (by omega) (by omega) hx8 hG8 fr_rf
          · skip
            refine mx_J.step (sn_247 30) (fun _ _ => rfl) ?_
            refine JgetR (g := 33) (b := 74) hx8 (show mx_Sn _ _ 31 (mx_getf 12 33 34) from sn_247 31) a56 s56 rfl rfl (hG8.prr 56 33 rfl) ?_
            refine mx_J.step (sn_247 34) (fun _ _ => rfl) ?_
            refine JcI (z := 268435456) (show mx_Sn _ _ 35 (mx_const (.int 268435456) 38) from sn_247 35) rfl ?_
            refine JiastI hx8 (show mx_Sn _ _ 38 (mx_iast 1 39) from sn_247 38) a74 s74 rfl (by omega) (fun Z47 h47 hx47 hE47 => ?_)
            have hG47 := GI_up hG8 hE47 (show 0 ≤ 268435456 ∧ 268435456 ≤ 268435456 by omega) trivial rfl
            refine Jiinc (z := w7_2) (cz := 1) (ls2 := [some (.ref 56), some (xI x0), some (xI (w7_2 + 1)), none, none, none]) (show mx_Sn _ _ 39 (mx_iinc 2 1 42) from sn_247 39) rfl rfl rfl rfl ?_
            refine mx_J.step (sn_247 42) (fun _ _ => rfl) ?_
            exact ih7 (w7_2 + 1) Z47 h47 (by omega) (by omega) hx47 hG47 (fr_tr (M := [(74, (-1))]) (fr_tr (M := [(74, (-1))]) fr_rf (hf8) (M1 := []) rfl rfl) (fr_ua hE47) rfl rfl)
      exact c22 (Int.toNat (385 - 0) + 1) 0 Z4 h4 (by omega) (by omega) hx4 hG4 fr_rf
    · skip
      refine JcI (z := (-3)) (show mx_Sn _ _ 13 (mx_const (.int (-3)) 15) from sn_247 13) rfl ?_
      exact mx_J.ret (sn_247 15) (fun _ _ => rfl) (hP (-3) Z1 h1 hx1 hG1 (fr_tr (M := [(56, 0), (62, (-1)), (64, (-1)), (65, (-1)), (73, (-1)), (74, (-1))]) fr_rf (fr_up hE1) (M1 := []) rfl rfl) (by omega))
theorem ct_247_56 {l : Launch} {D : va_G} {b0 : Nat} {ad : Nat → Nat} {Hb : Heap} {tau : Nat → Int64} {d n s : Nat} {S : Nat → xS} {Z : xZ} {h : mx_H} (hx : XH n s S Z h) (hG : GI n S Z)  {x0 : Int} (p0 : (-2147483648) ≤ x0 ∧ x0 ≤ 2147483647) : ∃ (z : Int) (Z' : xZ) (h' : mx_H), mx_Ca (tB l D b0 ad Hb tau) (d + 7) 247 [.ref 56, xI x0] h (some (xI z), h') ∧ XH n s S Z' h' ∧ GI n S Z' ∧ fr' [(56, 0), (62, (-1)), (64, (-1)), (65, (-1)), (73, (-1)), (74, (-1))] Z Z' ∧ ((-3) ≤ z ∧ z ≤ 268435455) := by
  obtain ⟨r, hca, z, Z', h', e, q⟩ := Jmt (B := tB l D b0 ad Hb tau) (M := mt_247) (mi := 247) (as := [.ref 56, xI x0]) (d := d + 6) (ls := [some (.ref 56), some (xI x0), none, none, none, none]) rfl rfl rfl rfl rfl rfl (cw_247_56 (l := l) (D := D) (b0 := b0) (ad := ad) (Hb := Hb) (tau := tau) (d := d) (Post := fun r => ∃ (z : Int) (Z' : xZ) (h' : mx_H), r = (some (xI z), h') ∧ XH n s S Z' h' ∧ GI n S Z' ∧ fr' [(56, 0), (62, (-1)), (64, (-1)), (65, (-1)), (73, (-1)), (74, (-1))] Z Z' ∧ ((-3) ≤ z ∧ z ≤ 268435455)) hx hG p0 (fun z Z' h' q1 q2 q3 q4 => ⟨z, Z', h', rfl, q1, q2, q3, q4⟩))
  subst e; exact ⟨z, Z', h', hca, q⟩
