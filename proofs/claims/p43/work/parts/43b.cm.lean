set_option maxRecDepth 100000 in
theorem cw_244_56 {l : Launch} {D : va_G} {b0 : Nat} {ad : Nat → Nat} {Hb : Heap} {tau : Nat → Int64} {d n s : Nat} {S : Nat → xS} {Z : xZ} {h : mx_H} {Post : mx_R → Prop} (hx : XH n s S Z h) (hG : GI n S Z)   (hP : ∀ (Z' : xZ) (h' : mx_H), XH n s S Z' h' → GI n S Z' → fr' [(76, (-1)), (77, (-1))] Z Z' → Post (none, h')) : mx_J (tB l D b0 ad Hb tau) mt_244 (d + 0) 0 [some (.ref 56), none] [] h Post := by
    have a56 : 56 < n := lt83 (GI_n hG) rfl
    have s56 : S 56 = .inl (12, [0, 2, 2, 2, 2, 0, 0, 0, 0, 0, 0, 0, 0, 0, 0, 2, 2, 2, 0, 2, 2, 2, 0, 0, 2, 2, 2, 2, 2, 2, 0, 0, 2, 2, 2, 2, 2, 2, 2, 2, 2, 2]) := GI_s hG 56 rfl
    have a76 : 76 < n := lt83 (GI_n hG) rfl
    have s76 : S 76 = .inr (.long, 385, 1) := GI_s hG 76 rfl
    have a77 : 77 < n := lt83 (GI_n hG) rfl
    have s77 : S 77 = .inr (.long, 385, 1) := GI_s hG 77 rfl
    refine JcI (z := 0) (show mx_Sn _ _ 0 (mx_const (.int 0) 1) from sn_244 0) rfl ?_
    refine mx_J.step (ls2 := [some (.ref 56), some (xI 0)]) (sn_244 1) (fun _ _ => rfl) ?_
    have c2 : ∀ (m1 : Nat) (w1_1 : Int) (Z2 : xZ) (h2 : mx_H), 385 - w1_1 < (m1 : Int) → 0 ≤ w1_1 ∧ w1_1 ≤ 385 → XH n s S Z2 h2 → GI n S Z2 → fr' [(76, (-1)), (77, (-1))] Z Z2 → mx_J (tB l D b0 ad Hb tau) mt_244 (d + 0) 2 [some (.ref 56), some (xI w1_1)] [] h2 Post := by
      intro m1
      induction m1 with
      | zero => intro w1_1 Z2 h2 q1 f1_0 hx2 hG2 hf2; exact absurd q1 (by omega)
      | succ m1 ih1 =>
        intro w1_1 Z2 h2 q1 f1_0 hx2 hG2 hf2
        refine mx_J.step (sn_244 2) (fun _ _ => rfl) ?_
        refine JcI (z := 385) (show mx_Sn _ _ 3 (mx_const (.int 385) 6) from sn_244 3) rfl ?_
        refine Jicmp_ge (show mx_Sn _ _ 6 (mx_icmp_ge 34 9) from sn_244 6) (by omega) (by omega) (fun q3 => ?_) (fun q3 => ?_)
        · skip
          exact mx_J.ret (sn_244 34) (fun _ _ => rfl) (hP Z2 h2 hx2 hG2 (fr_tr (M := [(76, (-1)), (77, (-1))]) fr_rf (hf2) (M1 := []) rfl rfl))
        · skip
          refine mx_J.step (sn_244 9) (fun _ _ => rfl) ?_
          refine JgetR (g := 35) (b := 76) hx2 (show mx_Sn _ _ 10 (mx_getf 12 35 13) from sn_244 10) a56 s56 rfl rfl (hG2.prr 56 35 rfl) ?_
          refine mx_J.step (sn_244 13) (fun _ _ => rfl) ?_
          refine mx_J.step (sn_244 14) (fun _ _ => rfl) ?_
          refine JgetR (g := 36) (b := 77) hx2 (show mx_Sn _ _ 15 (mx_getf 12 36 18) from sn_244 15) a56 s56 rfl rfl (hG2.prr 56 36 rfl) ?_
          refine mx_J.step (sn_244 18) (fun _ _ => rfl) ?_
          have b6 : (-9223372036854775808) ≤ Z2 77 w1_1 ∧ Z2 77 w1_1 ≤ 9223372036854775807 := hG2.pr 77 w1_1
          refine JlaldL (z := Z2 77 w1_1) hx2 (show mx_Sn _ _ 19 (mx_lald 20) from sn_244 19) a77 s77 (by omega) rfl ?_
          refine JlastL hx2 (show mx_Sn _ _ 20 (mx_last 1 21) from sn_244 20) a76 s76 rfl (by omega) (fun Z7 h7 hx7 hE7 => ?_)
          have hG7 := GI_up hG2 hE7 (show (-9223372036854775808) ≤ Z2 77 w1_1 ∧ Z2 77 w1_1 ≤ 9223372036854775807 by omega) trivial rfl
          refine mx_J.step (sn_244 21) (fun _ _ => rfl) ?_
          refine JgetR (g := 36) (b := 77) hx7 (show mx_Sn _ _ 22 (mx_getf 12 36 25) from sn_244 22) a56 s56 rfl rfl (hG7.prr 56 36 rfl) ?_
          refine mx_J.step (sn_244 25) (fun _ _ => rfl) ?_
          refine JcL (z := 0) (show mx_Sn _ _ 26 (mx_const (.long 0) 27) from sn_244 26) rfl ?_
          refine JlastL hx7 (show mx_Sn _ _ 27 (mx_last 1 28) from sn_244 27) a77 s77 rfl (by omega) (fun Z9 h9 hx9 hE9 => ?_)
          have hG9 := GI_up hG7 hE9 (show (-9223372036854775808) ≤ 0 ∧ 0 ≤ 9223372036854775807 by omega) trivial rfl
          refine Jiinc (z := w1_1) (cz := 1) (ls2 := [some (.ref 56), some (xI (w1_1 + 1))]) (show mx_Sn _ _ 28 (mx_iinc 1 1 31) from sn_244 28) rfl rfl rfl rfl ?_
          refine mx_J.step (sn_244 31) (fun _ _ => rfl) ?_
          exact ih1 (w1_1 + 1) Z9 h9 (by omega) (by omega) hx9 hG9 (fr_tr (M := [(76, (-1)), (77, (-1))]) (fr_tr (M := [(76, (-1)), (77, (-1))]) (fr_tr (M := [(76, (-1)), (77, (-1))]) fr_rf (hf2) (M1 := []) rfl rfl) (fr_ua hE7) rfl rfl) (fr_ua hE9) rfl rfl)
    exact c2 (Int.toNat (385 - 0) + 1) 0 Z h (by omega) (by omega) hx hG fr_rf
theorem ct_244_56 {l : Launch} {D : va_G} {b0 : Nat} {ad : Nat → Nat} {Hb : Heap} {tau : Nat → Int64} {d n s : Nat} {S : Nat → xS} {Z : xZ} {h : mx_H} (hx : XH n s S Z h) (hG : GI n S Z)   : ∃ (Z' : xZ) (h' : mx_H), mx_Ca (tB l D b0 ad Hb tau) (d + 1) 244 [.ref 56] h (none, h') ∧ XH n s S Z' h' ∧ GI n S Z' ∧ fr' [(76, (-1)), (77, (-1))] Z Z' := by
  obtain ⟨r, hca, Z', h', e, q⟩ := Jmt (B := tB l D b0 ad Hb tau) (M := mt_244) (mi := 244) (as := [.ref 56]) (d := d + 0) (ls := [some (.ref 56), none]) rfl rfl rfl rfl rfl rfl (cw_244_56 (l := l) (D := D) (b0 := b0) (ad := ad) (Hb := Hb) (tau := tau) (d := d) (Post := fun r => ∃ (Z' : xZ) (h' : mx_H), r = (none, h') ∧ XH n s S Z' h' ∧ GI n S Z' ∧ fr' [(76, (-1)), (77, (-1))] Z Z') hx hG  (fun Z' h' q1 q2 q3 => ⟨Z', h', rfl, q1, q2, q3⟩))
  subst e; exact ⟨Z', h', hca, q⟩
set_option maxRecDepth 100000 in
theorem cw_246_56 {l : Launch} {D : va_G} {b0 : Nat} {ad : Nat → Nat} {Hb : Heap} {tau : Nat → Int64} {d n s : Nat} {S : Nat → xS} {Z : xZ} {h : mx_H} {Post : mx_R → Prop} (hx : XH n s S Z h) (hG : GI n S Z)  {x0 x1 x2 : Int} (p0 : 0 ≤ x0 ∧ x0 ≤ 384) (p1 : 0 ≤ x1 ∧ x1 ≤ 18) (p2 : 1 ≤ x2 ∧ x2 ≤ 18) (hP : ∀ z : Int, (-1) ≤ z ∧ z ≤ 268435456 ∧ ((z = -1 ∧ (Z 73 (19 * x0 + x1) = -1 ∨ x2 < Z 61 (18 * Z 73 (19 * x0 + x1) + 0))) ∨ (0 ≤ z ∧ ¬ Z 73 (19 * x0 + x1) = -1 ∧ Z 61 (18 * Z 73 (19 * x0 + x1) + 0) ≤ x2)) → Post (some (xI z), h)) : mx_J (tB l D b0 ad Hb tau) mt_246 (d + 1) 0 [some (.ref 56), some (xI x0), some (xI x1), some (xI x2), none] [] h Post := by
    have a56 : 56 < n := lt83 (GI_n hG) rfl
    have s56 : S 56 = .inl (12, [0, 2, 2, 2, 2, 0, 0, 0, 0, 0, 0, 0, 0, 0, 0, 2, 2, 2, 0, 2, 2, 2, 0, 0, 2, 2, 2, 2, 2, 2, 0, 0, 2, 2, 2, 2, 2, 2, 2, 2, 2, 2]) := GI_s hG 56 rfl
    have a73 : 73 < n := lt83 (GI_n hG) rfl
    have s73 : S 73 = .inr (.int, 7315, 0) := GI_s hG 73 rfl
    have a74 : 74 < n := lt83 (GI_n hG) rfl
    have s74 : S 74 = .inr (.int, 385, 0) := GI_s hG 74 rfl
    refine mx_J.step (sn_246 0) (fun _ _ => rfl) ?_
    refine JgetR (g := 32) (b := 73) hx (show mx_Sn _ _ 1 (mx_getf 12 32 4) from sn_246 1) a56 s56 rfl rfl (hG.prr 56 32 rfl) ?_
    refine JcI (z := 19) (show mx_Sn _ _ 4 (mx_const (.int 19) 6) from sn_246 4) rfl ?_
    refine mx_J.step (sn_246 6) (fun _ _ => rfl) ?_
    refine Jimul (show mx_Sn _ _ 7 (mx_imul 8) from sn_246 7) ?_
    refine mx_J.step (sn_246 8) (fun _ _ => rfl) ?_
    refine Jiadd (show mx_Sn _ _ 9 (mx_iadd 10) from sn_246 9) ?_
    have b2 : (-1) ≤ Z 73 ((19 * x0) + x1) ∧ Z 73 ((19 * x0) + x1) ≤ 384 := hG.pr 73 ((19 * x0) + x1)
    refine JialdI (z := Z 73 ((19 * x0) + x1)) hx (show mx_Sn _ _ 10 (mx_iald 11) from sn_246 10) a73 s73 (by omega) rfl ?_
    refine mx_J.step (ls2 := [some (.ref 56), some (xI x0), some (xI x1), some (xI x2), some (xI (Z 73 ((19 * x0) + x1)))]) (sn_246 11) (fun _ _ => rfl) ?_
    refine mx_J.step (sn_246 13) (fun _ _ => rfl) ?_
    refine JcI (z := (-1)) (show mx_Sn _ _ 15 (mx_const (.int (-1)) 16) from sn_246 15) rfl ?_
    have c62 : ∀ (k3_0 : Int), (-1) ≤ k3_0 ∧ k3_0 ≤ 268435456 → ((k3_0 = -1 ∧ (Z 73 (19 * x0 + x1) = -1 ∨ x2 < Z 61 (18 * Z 73 (19 * x0 + x1) + 0))) ∨ (0 ≤ k3_0 ∧ ¬ Z 73 (19 * x0 + x1) = -1 ∧ Z 61 (18 * Z 73 (19 * x0 + x1) + 0) ≤ x2)) → mx_J (tB l D b0 ad Hb tau) mt_246 (d + 1) 62 [some (.ref 56), some (xI x0), some (xI x1), some (xI x2), some (xI (Z 73 ((19 * x0) + x1)))] [xI k3_0] h Post := by
      intro k3_0 f3_0 f3_1
      exact mx_J.ret (sn_246 62) (fun _ _ => rfl) (hP k3_0 (by omega))
    have c30 : (Z 73 (19 * x0 + x1) = -1 ∨ x2 < Z 61 (18 * Z 73 (19 * x0 + x1) + 0)) → mx_J (tB l D b0 ad Hb tau) mt_246 (d + 1) 30 [some (.ref 56), some (xI x0), some (xI x1), some (xI x2), some (xI (Z 73 ((19 * x0) + x1)))] [] h Post := by
      intro f4_0
      refine JcI (z := (-1)) (show mx_Sn _ _ 30 (mx_const (.int (-1)) 31) from sn_246 30) rfl ?_
      refine mx_J.step (sn_246 31) (fun _ _ => rfl) ?_
      exact c62 (-1) (by omega) (by omega)
    refine Jicmp_eq (show mx_Sn _ _ 16 (mx_icmp_eq 30 19) from sn_246 16) (by omega) (by omega) (fun q5 => ?_) (fun q5 => ?_)
    · skip
      exact c30 (by omega)
    · skip
      refine mx_J.step (sn_246 19) (fun _ _ => rfl) ?_
      refine mx_J.step (sn_246 20) (fun _ _ => rfl) ?_
      refine JcI (z := 0) (show mx_Sn _ _ 22 (mx_const (.int 0) 23) from sn_246 22) rfl ?_
      have b7 : 0 ≤ Z 61 (18 * (Z 73 ((19 * x0) + x1)) + 0) ∧ Z 61 (18 * (Z 73 ((19 * x0) + x1)) + 0) ≤ 18 := hG.pr 61 (18 * (Z 73 ((19 * x0) + x1)) + 0)
      obtain ⟨z6, hc6, b6⟩ := ct_190_56 (d := d + 0) (l := l) (D := D) (b0 := b0) (ad := ad) (Hb := Hb) (tau := tau) hx hG (show 0 ≤ Z 73 ((19 * x0) + x1) ∧ Z 73 ((19 * x0) + x1) ≤ 384 by omega) (show 0 ≤ 0 ∧ 0 ≤ 17 by omega)
      refine Jcv hx (show mx_Sn _ _ 23 (mx_callv 190 3 12 26) from sn_246 23) a56 s56 hc6 rfl rfl rfl ?_
      refine mx_J.step (sn_246 26) (fun _ _ => rfl) ?_
      refine Jicmp_le (show mx_Sn _ _ 27 (mx_icmp_le 34 30) from sn_246 27) (by omega) (by omega) (fun q8 => ?_) (fun q8 => ?_)
      · skip
        refine mx_J.step (sn_246 34) (fun _ _ => rfl) ?_
        refine JgetR (g := 33) (b := 74) hx (show mx_Sn _ _ 35 (mx_getf 12 33 38) from sn_246 35) a56 s56 rfl rfl (hG.prr 56 33 rfl) ?_
        refine mx_J.step (sn_246 38) (fun _ _ => rfl) ?_
        have b10 : 0 ≤ Z 74 (Z 73 ((19 * x0) + x1)) ∧ Z 74 (Z 73 ((19 * x0) + x1)) ≤ 268435456 := hG.pr 74 (Z 73 ((19 * x0) + x1))
        refine JialdI (z := Z 74 (Z 73 ((19 * x0) + x1))) hx (show mx_Sn _ _ 40 (mx_iald 41) from sn_246 40) a74 s74 (by omega) rfl ?_
        refine JcI (z := 268435456) (show mx_Sn _ _ 41 (mx_const (.int 268435456) 44) from sn_246 41) rfl ?_
        refine Jicmp_ne (show mx_Sn _ _ 44 (mx_icmp_ne 53 47) from sn_246 44) (by omega) (by omega) (fun q11 => ?_) (fun q11 => ?_)
        · skip
          refine mx_J.step (sn_246 53) (fun _ _ => rfl) ?_
          refine JgetR (g := 33) (b := 74) hx (show mx_Sn _ _ 54 (mx_getf 12 33 57) from sn_246 54) a56 s56 rfl rfl (hG.prr 56 33 rfl) ?_
          refine mx_J.step (sn_246 57) (fun _ _ => rfl) ?_
          refine JialdI (z := Z 74 (Z 73 ((19 * x0) + x1))) hx (show mx_Sn _ _ 59 (mx_iald 60) from sn_246 59) a74 s74 (by omega) rfl ?_
          refine JcI (z := 1) (show mx_Sn _ _ 60 (mx_const (.int 1) 61) from sn_246 60) rfl ?_
          refine Jiadd (show mx_Sn _ _ 61 (mx_iadd 62) from sn_246 61) ?_
          exact c62 ((Z 74 (Z 73 ((19 * x0) + x1))) + 1) (by omega) (by omega)
        · skip
          refine JcI (z := 268435456) (show mx_Sn _ _ 47 (mx_const (.int 268435456) 50) from sn_246 47) rfl ?_
          refine mx_J.step (sn_246 50) (fun _ _ => rfl) ?_
          exact c62 268435456 (by omega) (by omega)
      · skip
        exact c30 (by omega)
theorem ct_246_56 {l : Launch} {D : va_G} {b0 : Nat} {ad : Nat → Nat} {Hb : Heap} {tau : Nat → Int64} {d n s : Nat} {S : Nat → xS} {Z : xZ} {h : mx_H} (hx : XH n s S Z h) (hG : GI n S Z)  {x0 x1 x2 : Int} (p0 : 0 ≤ x0 ∧ x0 ≤ 384) (p1 : 0 ≤ x1 ∧ x1 ≤ 18) (p2 : 1 ≤ x2 ∧ x2 ≤ 18) : ∃ z : Int, mx_Ca (tB l D b0 ad Hb tau) (d + 2) 246 [.ref 56, xI x0, xI x1, xI x2] h (some (xI z), h) ∧ ((-1) ≤ z ∧ z ≤ 268435456 ∧ ((z = -1 ∧ (Z 73 (19 * x0 + x1) = -1 ∨ x2 < Z 61 (18 * Z 73 (19 * x0 + x1) + 0))) ∨ (0 ≤ z ∧ ¬ Z 73 (19 * x0 + x1) = -1 ∧ Z 61 (18 * Z 73 (19 * x0 + x1) + 0) ≤ x2))) := by
  obtain ⟨r, hca, z, e, hp⟩ := Jmt (B := tB l D b0 ad Hb tau) (M := mt_246) (mi := 246) (as := [.ref 56, xI x0, xI x1, xI x2]) (d := d + 1) (ls := [some (.ref 56), some (xI x0), some (xI x1), some (xI x2), none]) rfl rfl rfl rfl rfl rfl (cw_246_56 (l := l) (D := D) (b0 := b0) (ad := ad) (Hb := Hb) (tau := tau) (d := d) (Post := fun r => ∃ z : Int, r = (some (xI z), h) ∧ ((-1) ≤ z ∧ z ≤ 268435456 ∧ ((z = -1 ∧ (Z 73 (19 * x0 + x1) = -1 ∨ x2 < Z 61 (18 * Z 73 (19 * x0 + x1) + 0))) ∨ (0 ≤ z ∧ ¬ Z 73 (19 * x0 + x1) = -1 ∧ Z 61 (18 * Z 73 (19 * x0 + x1) + 0) ≤ x2)))) hx hG p0 p1 p2 (fun z hz => ⟨z, rfl, hz⟩))
  subst e; exact ⟨z, hca, hp⟩
set_option maxRecDepth 100000 in
theorem cw_252_56 {l : Launch} {D : va_G} {b0 : Nat} {ad : Nat → Nat} {Hb : Heap} {tau : Nat → Int64} {d n s : Nat} {S : Nat → xS} {Z : xZ} {h : mx_H} {Post : mx_R → Prop} (hx : XH n s S Z h) (hG : GI n S Z)  {x0 x1 : Int} (p0 : 0 ≤ x0 ∧ x0 ≤ 384) (p1 : 0 ≤ x1 ∧ x1 ≤ 384) (hP : ∀ z : Int, 0 ≤ z ∧ z ≤ 1 → Post (some (xI z), h)) : mx_J (tB l D b0 ad Hb tau) mt_252 (d + 1) 0 [some (.ref 56), some (xI x0), some (xI x1), none, none] [] h Post := by
    have a56 : 56 < n := lt83 (GI_n hG) rfl
    have s56 : S 56 = .inl (12, [0, 2, 2, 2, 2, 0, 0, 0, 0, 0, 0, 0, 0, 0, 0, 2, 2, 2, 0, 2, 2, 2, 0, 0, 2, 2, 2, 2, 2, 2, 0, 0, 2, 2, 2, 2, 2, 2, 2, 2, 2, 2]) := GI_s hG 56 rfl
    refine JcI (z := 0) (show mx_Sn _ _ 0 (mx_const (.int 0) 1) from sn_252 0) rfl ?_
    refine mx_J.step (ls2 := [some (.ref 56), some (xI x0), some (xI x1), some (xI 0), none]) (sn_252 1) (fun _ _ => rfl) ?_
    refine JcI (z := 0) (show mx_Sn _ _ 2 (mx_const (.int 0) 3) from sn_252 2) rfl ?_
    refine mx_J.step (ls2 := [some (.ref 56), some (xI x0), some (xI x1), some (xI 0), some (xI 0)]) (sn_252 3) (fun _ _ => rfl) ?_
    have c5 : ∀ (m1 : Nat) (w1_3 : Int) (w1_4 : Int), 18 - w1_4 < (m1 : Int) → 0 ≤ w1_3 ∧ w1_3 ≤ 2147483647 → 0 ≤ w1_4 ∧ w1_4 ≤ 18 → mx_J (tB l D b0 ad Hb tau) mt_252 (d + 1) 5 [some (.ref 56), some (xI x0), some (xI x1), some (xI w1_3), some (xI w1_4)] [] h Post := by
      intro m1
      induction m1 with
      | zero => intro w1_3 w1_4 q1 f1_0 f1_1; exact absurd q1 (by omega)
      | succ m1 ih1 =>
        intro w1_3 w1_4 q1 f1_0 f1_1
        refine mx_J.step (sn_252 5) (fun _ _ => rfl) ?_
        refine JcI (z := 18) (show mx_Sn _ _ 7 (mx_const (.int 18) 9) from sn_252 7) rfl ?_
        refine Jicmp_ge (show mx_Sn _ _ 9 (mx_icmp_ge 42 12) from sn_252 9) (by omega) (by omega) (fun q2 => ?_) (fun q2 => ?_)
        · skip
          refine JcI (z := 1) (show mx_Sn _ _ 42 (mx_const (.int 1) 43) from sn_252 42) rfl ?_
          exact mx_J.ret (show mx_Sn _ _ 43 (mx_zret) from sn_252 43) (fun _ _ => zr_ok (by omega)) (hP 1 (by omega))
        · skip
          refine mx_J.step (sn_252 12) (fun _ _ => rfl) ?_
          refine mx_J.step (sn_252 13) (fun _ _ => rfl) ?_
          refine mx_J.step (sn_252 14) (fun _ _ => rfl) ?_
          refine mx_J.step (sn_252 15) (fun _ _ => rfl) ?_
          have b4 : 0 ≤ Z 61 (18 * x1 + w1_4) ∧ Z 61 (18 * x1 + w1_4) ≤ 18 := hG.pr 61 (18 * x1 + w1_4)
          obtain ⟨z3, hc3, b3⟩ := ct_190_56 (d := d + 0) (l := l) (D := D) (b0 := b0) (ad := ad) (Hb := Hb) (tau := tau) hx hG (show 0 ≤ x1 ∧ x1 ≤ 384 by omega) (show 0 ≤ w1_4 ∧ w1_4 ≤ 17 by omega)
          refine Jcv hx (show mx_Sn _ _ 17 (mx_callv 190 3 12 20) from sn_252 17) a56 s56 hc3 rfl rfl rfl ?_
          refine mx_J.step (sn_252 20) (fun _ _ => rfl) ?_
          refine mx_J.step (sn_252 21) (fun _ _ => rfl) ?_
          refine mx_J.step (sn_252 22) (fun _ _ => rfl) ?_
          have b6 : 0 ≤ Z 61 (18 * x0 + w1_4) ∧ Z 61 (18 * x0 + w1_4) ≤ 18 := hG.pr 61 (18 * x0 + w1_4)
          obtain ⟨z5, hc5, b5⟩ := ct_190_56 (d := d + 0) (l := l) (D := D) (b0 := b0) (ad := ad) (Hb := Hb) (tau := tau) hx hG (show 0 ≤ x0 ∧ x0 ≤ 384 by omega) (show 0 ≤ w1_4 ∧ w1_4 ≤ 17 by omega)
          refine Jcv hx (show mx_Sn _ _ 24 (mx_callv 190 3 12 27) from sn_252 24) a56 s56 hc5 rfl rfl rfl ?_
          refine Jisub (show mx_Sn _ _ 27 (mx_isub 28) from sn_252 27) ?_
          refine JiaddN (show mx_Sn _ _ 28 (mx_iadd 29) from sn_252 28) (fun y7 hy7 hq7 => ?_)
          refine mx_J.step (ls2 := [some (.ref 56), some (xI x0), some (xI x1), some (xI y7), some (xI w1_4)]) (sn_252 29) (fun _ _ => rfl) ?_
          refine mx_J.step (sn_252 30) (fun _ _ => rfl) ?_
          refine Jif_ge (show mx_Sn _ _ 31 (mx_if_ge 36 34) from sn_252 31) (by omega) (fun q8 => ?_) (fun q8 => ?_)
          · skip
            refine Jiinc (z := w1_4) (cz := 1) (ls2 := [some (.ref 56), some (xI x0), some (xI x1), some (xI y7), some (xI (w1_4 + 1))]) (show mx_Sn _ _ 36 (mx_iinc 4 1 39) from sn_252 36) rfl rfl rfl rfl ?_
            refine mx_J.step (sn_252 39) (fun _ _ => rfl) ?_
            exact ih1 y7 (w1_4 + 1) (by omega) (by omega) (by omega)
          · skip
            refine JcI (z := 0) (show mx_Sn _ _ 34 (mx_const (.int 0) 35) from sn_252 34) rfl ?_
            exact mx_J.ret (show mx_Sn _ _ 35 (mx_zret) from sn_252 35) (fun _ _ => zr_ok (by omega)) (hP 0 (by omega))
    exact c5 (Int.toNat (18 - 0) + 1) 0 0 (by omega) (by omega) (by omega)
theorem ct_252_56 {l : Launch} {D : va_G} {b0 : Nat} {ad : Nat → Nat} {Hb : Heap} {tau : Nat → Int64} {d n s : Nat} {S : Nat → xS} {Z : xZ} {h : mx_H} (hx : XH n s S Z h) (hG : GI n S Z)  {x0 x1 : Int} (p0 : 0 ≤ x0 ∧ x0 ≤ 384) (p1 : 0 ≤ x1 ∧ x1 ≤ 384) : ∃ z : Int, mx_Ca (tB l D b0 ad Hb tau) (d + 2) 252 [.ref 56, xI x0, xI x1] h (some (xI z), h) ∧ (0 ≤ z ∧ z ≤ 1) := by
  obtain ⟨r, hca, z, e, hp⟩ := Jmt (B := tB l D b0 ad Hb tau) (M := mt_252) (mi := 252) (as := [.ref 56, xI x0, xI x1]) (d := d + 1) (ls := [some (.ref 56), some (xI x0), some (xI x1), none, none]) rfl rfl rfl rfl rfl rfl (cw_252_56 (l := l) (D := D) (b0 := b0) (ad := ad) (Hb := Hb) (tau := tau) (d := d) (Post := fun r => ∃ z : Int, r = (some (xI z), h) ∧ (0 ≤ z ∧ z ≤ 1)) hx hG p0 p1 (fun z hz => ⟨z, rfl, hz⟩))
  subst e; exact ⟨z, hca, hp⟩
set_option maxRecDepth 100000 in
theorem cw_250_56 {l : Launch} {D : va_G} {b0 : Nat} {ad : Nat → Nat} {Hb : Heap} {tau : Nat → Int64} {d n s : Nat} {S : Nat → xS} {Z : xZ} {h : mx_H} {Post : mx_R → Prop} (hx : XH n s S Z h) (hG : GI n S Z)  {x0 x1 : Int} (p0 : (-2147483648) ≤ x0 ∧ x0 ≤ 2147483647) (p1 : (-2147483648) ≤ x1 ∧ x1 ≤ 2147483647) (k0 : RTB Z (Z 57 1)) (k1 : 1 ≤ Z 57 1) (hP : ∀ (z : Int) (Z' : xZ) (h' : mx_H), XH n s S Z' h' → GI n S Z' → fr' [(56, 0)] Z Z' → (¬ (x0 < 1 ∨ 18 < x0 ∨ x1 < 1 ∨ 18 < x1) → z = bnf (Z 57 1) x0 x1 (pN (Z 57 1)).toNat) ∧ (-3) ≤ z ∧ z ≤ 385 ∧ ((x0 < 1 ∨ 18 < x0 ∨ x1 < 1 ∨ 18 < x1) → z = -3) → Post (some (xI z), h')) : mx_J (tB l D b0 ad Hb tau) mt_250 (d + 2) 0 [some (.ref 56), some (xI x0), some (xI x1), none, none] [] h Post := by
    have a56 : 56 < n := lt83 (GI_n hG) rfl
    have s56 : S 56 = .inl (12, [0, 2, 2, 2, 2, 0, 0, 0, 0, 0, 0, 0, 0, 0, 0, 2, 2, 2, 0, 2, 2, 2, 0, 0, 2, 2, 2, 2, 2, 2, 0, 0, 2, 2, 2, 2, 2, 2, 2, 2, 2, 2]) := GI_s hG 56 rfl
    have e18 : Z 56 18 = pN (Z 57 1) := (GI_stt hG).1
    have hN9 : 1 ≤ Z 57 1 ∧ Z 57 1 ≤ 18 := ⟨k1, by have hq := GB_ex (GI_gb hG) 57 1; replace hq : f57 (1 % 962) (Z 57 1) := hq; unfold f57 at hq; omega⟩
    refine mx_J.step (sn_250 0) (fun _ _ => rfl) ?_
    refine JcI (z := 0) (show mx_Sn _ _ 1 (mx_const (.int 0) 2) from sn_250 1) rfl ?_
    refine JputI (g := 0) hx (show mx_Sn _ _ 2 (mx_putf 1 12 0 (.int) 5) from sn_250 2) a56 s56 rfl rfl rfl rfl (fun Z1 h1 hx1 hE1 => ?_)
    have hG1 := GI_up hG hE1 (show (-2147483648) ≤ 0 ∧ 0 ≤ 2147483647 by omega) trivial rfl
    refine mx_J.step (sn_250 5) (fun _ _ => rfl) ?_
    refine Ji2l (show mx_Sn _ _ 6 (mx_i2l 7) from sn_250 6) (by omega) ?_
    obtain ⟨z2, hc2, b2⟩ := ct_208_ (d := d + 0) (l := l) (D := D) (b0 := b0) (ad := ad) (Hb := Hb) (tau := tau) hx1 hG1 (show (-9223372036854775808) ≤ x0 ∧ x0 ≤ 9223372036854775807 by omega)
    refine Jcs (show mx_Sn _ _ 7 (mx_calls 208 1 10) from sn_250 7) hc2 rfl rfl rfl ?_
    have c21 : (x0 < 1 ∨ 18 < x0 ∨ x1 < 1 ∨ 18 < x1) → mx_J (tB l D b0 ad Hb tau) mt_250 (d + 2) 21 [some (.ref 56), some (xI x0), some (xI x1), none, none] [] h1 Post := by
      intro f3_0
      refine JcI (z := (-3)) (show mx_Sn _ _ 21 (mx_const (.int (-3)) 23) from sn_250 21) rfl ?_
      have eq4 : Z1 56 18 = Z 56 18 := (up_ni hE1 (by decide))
      have b5 : 0 ≤ Z 56 18 ∧ Z 56 18 ≤ 385 := hG.pr 56 18
      exact mx_J.ret (sn_250 23) (fun _ _ => rfl) (hP (-3) Z1 h1 hx1 hG1 (fr_tr (M := [(56, 0)]) fr_rf (fr_up hE1) (M1 := []) rfl rfl) ⟨(fun q => absurd (by omega) q), by omega⟩)
    refine Jif_eq (show mx_Sn _ _ 10 (mx_if_eq 21 13) from sn_250 10) (by omega) (fun q6 => ?_) (fun q6 => ?_)
    · skip
      exact c21 (by omega)
    · skip
      refine mx_J.step (sn_250 13) (fun _ _ => rfl) ?_
      refine Ji2l (show mx_Sn _ _ 14 (mx_i2l 15) from sn_250 14) (by omega) ?_
      obtain ⟨z7, hc7, b7⟩ := ct_208_ (d := d + 0) (l := l) (D := D) (b0 := b0) (ad := ad) (Hb := Hb) (tau := tau) hx1 hG1 (show (-9223372036854775808) ≤ x1 ∧ x1 ≤ 9223372036854775807 by omega)
      refine Jcs (show mx_Sn _ _ 15 (mx_calls 208 1 18) from sn_250 15) hc7 rfl rfl rfl ?_
      refine Jif_ne (show mx_Sn _ _ 18 (mx_if_ne 24 21) from sn_250 18) (by omega) (fun q8 => ?_) (fun q8 => ?_)
      · skip
        refine JcI (z := 0) (show mx_Sn _ _ 24 (mx_const (.int 0) 25) from sn_250 24) rfl ?_
        refine mx_J.step (ls2 := [some (.ref 56), some (xI x0), some (xI x1), some (xI 0), none]) (sn_250 25) (fun _ _ => rfl) ?_
        refine JcI (z := 0) (show mx_Sn _ _ 26 (mx_const (.int 0) 27) from sn_250 26) rfl ?_
        refine mx_J.step (ls2 := [some (.ref 56), some (xI x0), some (xI x1), some (xI 0), some (xI 0)]) (sn_250 27) (fun _ _ => rfl) ?_
        have c29 : ∀ (m9 : Nat) (w9_3 : Int) (w9_4 : Int), 385 - w9_4 < (m9 : Int) → 0 ≤ w9_3 ∧ w9_3 ≤ 385 → 0 ≤ w9_4 ∧ w9_4 ≤ 385 → w9_4 ≤ Z 56 18 → w9_3 = bnf (Z 57 1) x0 x1 (w9_4).toNat → (0 ≤ w9_3 ∧ w9_3 ≤ w9_4) → mx_J (tB l D b0 ad Hb tau) mt_250 (d + 2) 29 [some (.ref 56), some (xI x0), some (xI x1), some (xI w9_3), some (xI w9_4)] [] h1 Post := by
          intro m9
          induction m9 with
          | zero => intro w9_3 w9_4 q9 f9_0 f9_1 f9_2 f9_3 f9_4; exact absurd q9 (by omega)
          | succ m9 ih9 =>
            intro w9_3 w9_4 q9 f9_0 f9_1 f9_2 f9_3 f9_4
            have eq10 : Z1 56 18 = Z 56 18 := (up_ni hE1 (by decide))
            have b11 : 0 ≤ Z 56 18 ∧ Z 56 18 ≤ 385 := hG.pr 56 18
            refine mx_J.step (sn_250 29) (fun _ _ => rfl) ?_
            refine mx_J.step (sn_250 31) (fun _ _ => rfl) ?_
            refine JgetI (g := 18) (z := Z 56 18) hx1 (show mx_Sn _ _ 32 (mx_getf 12 18 35) from sn_250 32) a56 s56 rfl rfl (up_ni hE1 (by decide)) ?_
            refine Jicmp_ge (show mx_Sn _ _ 35 (mx_icmp_ge 73 38) from sn_250 35) (by omega) (by omega) (fun q13 => ?_) (fun q13 => ?_)
            · skip
              refine mx_J.step (sn_250 73) (fun _ _ => rfl) ?_
              have eq14 : Z1 56 18 = Z 56 18 := (up_ni hE1 (by decide))
              exact mx_J.ret (sn_250 74) (fun _ _ => rfl) (hP w9_3 Z1 h1 hx1 hG1 (fr_tr (M := [(56, 0)]) fr_rf (fr_up hE1) (M1 := []) rfl rfl) ⟨(fun _ => by have q : w9_4 = pN (Z 57 1) := (by omega); rw [← q]; assumption), by omega⟩)
            · skip
              refine mx_J.step (sn_250 38) (fun _ _ => rfl) ?_
              refine mx_J.step (sn_250 39) (fun _ _ => rfl) ?_
              refine mx_J.step (sn_250 40) (fun _ _ => rfl) ?_
              have eq16 : mn Z1 w9_4 = mn Z w9_4 := (mn_c (fun i => up_nk hE1 rfl))
              obtain ⟨z15, hc15, b15⟩ := ct_191_56 (d := d + 0) (l := l) (D := D) (b0 := b0) (ad := ad) (Hb := Hb) (tau := tau) hx1 hG1 (show 0 ≤ w9_4 ∧ w9_4 ≤ 384 by omega)
              refine Jcv hx1 (show mx_Sn _ _ 42 (mx_callv 191 2 12 45) from sn_250 42) a56 s56 hc15 rfl rfl rfl ?_
              refine mx_J.step (sn_250 45) (fun _ _ => rfl) ?_
              have c65 : ∀ (k17_1 : Int), 0 ≤ k17_1 ∧ k17_1 ≤ 1 → w9_3 + k17_1 = bnf (Z 57 1) x0 x1 (w9_4 + 1).toNat → (0 ≤ w9_3 + k17_1 ∧ w9_3 + k17_1 ≤ w9_4 + 1) → mx_J (tB l D b0 ad Hb tau) mt_250 (d + 2) 65 [some (.ref 56), some (xI x0), some (xI x1), some (xI w9_3), some (xI w9_4)] [xI k17_1, xI w9_3] h1 Post := by
                intro k17_1 f17_0 f17_1 f17_2
                refine Jiadd (show mx_Sn _ _ 65 (mx_iadd 66) from sn_250 65) ?_
                refine mx_J.step (ls2 := [some (.ref 56), some (xI x0), some (xI x1), some (xI (w9_3 + k17_1)), some (xI w9_4)]) (sn_250 66) (fun _ _ => rfl) ?_
                refine Jiinc (z := w9_4) (cz := 1) (ls2 := [some (.ref 56), some (xI x0), some (xI x1), some (xI (w9_3 + k17_1)), some (xI (w9_4 + 1))]) (show mx_Sn _ _ 67 (mx_iinc 4 1 70) from sn_250 67) rfl rfl rfl rfl ?_
                refine mx_J.step (sn_250 70) (fun _ _ => rfl) ?_
                have eq18 : Z1 56 18 = Z 56 18 := (up_ni hE1 (by decide))
                exact ih9 (w9_3 + k17_1) (w9_4 + 1) (by omega) (by omega) (by omega) (by omega) (by assumption) (by omega)
              have c64 : ¬ (hln (Z 57 1) w9_4 ≤ x0 ∧ hpk (Z 57 1) w9_4 0 ≤ x1) → mx_J (tB l D b0 ad Hb tau) mt_250 (d + 2) 64 [some (.ref 56), some (xI x0), some (xI x1), some (xI w9_3), some (xI w9_4)] [xI w9_3] h1 Post := by
                intro f19_0
                refine JcI (z := 0) (show mx_Sn _ _ 64 (mx_const (.int 0) 65) from sn_250 64) rfl ?_
                exact c65 0 (by omega) ((Int.add_zero _).trans (bn_n (by assumption) (by omega) (by assumption))) (by omega)
              refine Jicmp_gt (show mx_Sn _ _ 46 (mx_icmp_gt 64 49) from sn_250 46) (by omega) (by omega) (fun q20 => ?_) (fun q20 => ?_)
              · skip
                exact c64 (fun q => by have m := (mn_h (RTB_c k0 (fun i => (up_nk hE1 rfl))) hN9 (s := w9_4) (by omega) (by omega)); omega)
              · skip
                refine mx_J.step (sn_250 49) (fun _ _ => rfl) ?_
                refine mx_J.step (sn_250 50) (fun _ _ => rfl) ?_
                refine JcI (z := 0) (show mx_Sn _ _ 52 (mx_const (.int 0) 53) from sn_250 52) rfl ?_
                have eq22 : Z1 61 (18 * w9_4 + 0) = Z 61 (18 * w9_4 + 0) := (up_nk hE1 rfl)
                have b23 : 0 ≤ Z 61 (18 * w9_4 + 0) ∧ Z 61 (18 * w9_4 + 0) ≤ 18 := hG.pr 61 (18 * w9_4 + 0)
                obtain ⟨z21, hc21, b21⟩ := ct_190_56 (d := d + 1) (l := l) (D := D) (b0 := b0) (ad := ad) (Hb := Hb) (tau := tau) hx1 hG1 (show 0 ≤ w9_4 ∧ w9_4 ≤ 384 by omega) (show 0 ≤ 0 ∧ 0 ≤ 17 by omega)
                try rw [eq22] at b21
                refine Jcv hx1 (show mx_Sn _ _ 53 (mx_callv 190 3 12 56) from sn_250 53) a56 s56 hc21 rfl rfl rfl ?_
                refine mx_J.step (sn_250 56) (fun _ _ => rfl) ?_
                refine Jicmp_gt (show mx_Sn _ _ 57 (mx_icmp_gt 64 60) from sn_250 57) (by omega) (by omega) (fun q24 => ?_) (fun q24 => ?_)
                · skip
                  exact c64 (fun q => by have r := (RTB_c k0 (fun i => (up_nk hE1 rfl)) w9_4 0 (by omega) (by omega) (by decide) (by decide)); omega)
                · skip
                  refine JcI (z := 1) (show mx_Sn _ _ 60 (mx_const (.int 1) 61) from sn_250 60) rfl ?_
                  refine mx_J.step (sn_250 61) (fun _ _ => rfl) ?_
                  exact c65 1 (by omega) (bn_y (by assumption) (by omega) (by have m := (mn_h (RTB_c k0 (fun i => (up_nk hE1 rfl))) hN9 (s := w9_4) (by omega) (by omega)); omega) (by have r := (RTB_c k0 (fun i => (up_nk hE1 rfl)) w9_4 0 (by omega) (by omega) (by decide) (by decide)); omega)) (by omega)
        have eq25 : Z1 56 18 = Z 56 18 := (up_ni hE1 (by decide))
        have b26 : 0 ≤ Z 56 18 ∧ Z 56 18 ≤ 385 := hG.pr 56 18
        exact c29 (Int.toNat (385 - 0) + 1) 0 0 (by omega) (by omega) (by omega) (by omega) (bn_0) (by omega)
      · skip
        exact c21 (by omega)
theorem ct_250_56 {l : Launch} {D : va_G} {b0 : Nat} {ad : Nat → Nat} {Hb : Heap} {tau : Nat → Int64} {d n s : Nat} {S : Nat → xS} {Z : xZ} {h : mx_H} (hx : XH n s S Z h) (hG : GI n S Z)  {x0 x1 : Int} (p0 : (-2147483648) ≤ x0 ∧ x0 ≤ 2147483647) (p1 : (-2147483648) ≤ x1 ∧ x1 ≤ 2147483647) (k0 : RTB Z (Z 57 1)) (k1 : 1 ≤ Z 57 1) : ∃ (z : Int) (Z' : xZ) (h' : mx_H), mx_Ca (tB l D b0 ad Hb tau) (d + 3) 250 [.ref 56, xI x0, xI x1] h (some (xI z), h') ∧ XH n s S Z' h' ∧ GI n S Z' ∧ fr' [(56, 0)] Z Z' ∧ ((¬ (x0 < 1 ∨ 18 < x0 ∨ x1 < 1 ∨ 18 < x1) → z = bnf (Z 57 1) x0 x1 (pN (Z 57 1)).toNat) ∧ (-3) ≤ z ∧ z ≤ 385 ∧ ((x0 < 1 ∨ 18 < x0 ∨ x1 < 1 ∨ 18 < x1) → z = -3)) := by
  obtain ⟨r, hca, z, Z', h', e, q⟩ := Jmt (B := tB l D b0 ad Hb tau) (M := mt_250) (mi := 250) (as := [.ref 56, xI x0, xI x1]) (d := d + 2) (ls := [some (.ref 56), some (xI x0), some (xI x1), none, none]) rfl rfl rfl rfl rfl rfl (cw_250_56 (l := l) (D := D) (b0 := b0) (ad := ad) (Hb := Hb) (tau := tau) (d := d) (Post := fun r => ∃ (z : Int) (Z' : xZ) (h' : mx_H), r = (some (xI z), h') ∧ XH n s S Z' h' ∧ GI n S Z' ∧ fr' [(56, 0)] Z Z' ∧ ((¬ (x0 < 1 ∨ 18 < x0 ∨ x1 < 1 ∨ 18 < x1) → z = bnf (Z 57 1) x0 x1 (pN (Z 57 1)).toNat) ∧ (-3) ≤ z ∧ z ≤ 385 ∧ ((x0 < 1 ∨ 18 < x0 ∨ x1 < 1 ∨ 18 < x1) → z = -3))) hx hG p0 p1 k0 k1 (fun z Z' h' q1 q2 q3 q4 => ⟨z, Z', h', rfl, q1, q2, q3, q4⟩))
  subst e; exact ⟨z, Z', h', hca, q⟩
set_option maxRecDepth 100000 in
theorem cw_254_56 {l : Launch} {D : va_G} {b0 : Nat} {ad : Nat → Nat} {Hb : Heap} {tau : Nat → Int64} {d n s : Nat} {S : Nat → xS} {Z : xZ} {h : mx_H} {Post : mx_R → Prop} (hx : XH n s S Z h) (hG : GI n S Z)   (hP : ∀ (z : Int) (Z' : xZ) (h' : mx_H), XH n s S Z' h' → GI n S Z' → fr' [(56, 0)] Z Z' → (-2147483648) ≤ z ∧ z ≤ 2147483647 → Post (some (xI z), h')) : mx_J (tB l D b0 ad Hb tau) mt_254 (d + 2) 0 [some (.ref 56), none, none] [] h Post := by
    have a56 : 56 < n := lt83 (GI_n hG) rfl
    have s56 : S 56 = .inl (12, [0, 2, 2, 2, 2, 0, 0, 0, 0, 0, 0, 0, 0, 0, 0, 2, 2, 2, 0, 2, 2, 2, 0, 0, 2, 2, 2, 2, 2, 2, 0, 0, 2, 2, 2, 2, 2, 2, 2, 2, 2, 2]) := GI_s hG 56 rfl
    have a57 : 57 < n := lt83 (GI_n hG) rfl
    have s57 : S 57 = .inr (.int, 2886, 0) := GI_s hG 57 rfl
    refine mx_J.step (sn_254 0) (fun _ _ => rfl) ?_
    refine JcI (z := 0) (show mx_Sn _ _ 1 (mx_const (.int 0) 2) from sn_254 1) rfl ?_
    refine JputI (g := 0) hx (show mx_Sn _ _ 2 (mx_putf 1 12 0 (.int) 5) from sn_254 2) a56 s56 rfl rfl rfl rfl (fun Z1 h1 hx1 hE1 => ?_)
    have hG1 := GI_up hG hE1 (show (-2147483648) ≤ 0 ∧ 0 ≤ 2147483647 by omega) trivial rfl
    refine JcI (z := 0) (show mx_Sn _ _ 5 (mx_const (.int 0) 6) from sn_254 5) rfl ?_
    refine mx_J.step (ls2 := [some (.ref 56), some (xI 0), none]) (sn_254 6) (fun _ _ => rfl) ?_
    refine JcI (z := 0) (show mx_Sn _ _ 7 (mx_const (.int 0) 8) from sn_254 7) rfl ?_
    refine mx_J.step (ls2 := [some (.ref 56), some (xI 0), some (xI 0)]) (sn_254 8) (fun _ _ => rfl) ?_
    have c9 : ∀ (m2 : Nat) (w2_1 : Int) (w2_2 : Int), 385 - w2_2 < (m2 : Int) → (-2147483648) ≤ w2_1 ∧ w2_1 ≤ 2147483647 → 0 ≤ w2_2 ∧ w2_2 ≤ 385 → mx_J (tB l D b0 ad Hb tau) mt_254 (d + 2) 9 [some (.ref 56), some (xI w2_1), some (xI w2_2)] [] h1 Post := by
      intro m2
      induction m2 with
      | zero => intro w2_1 w2_2 q2 f2_0 f2_1; exact absurd q2 (by omega)
      | succ m2 ih2 =>
        intro w2_1 w2_2 q2 f2_0 f2_1
        refine mx_J.step (sn_254 9) (fun _ _ => rfl) ?_
        refine mx_J.step (sn_254 10) (fun _ _ => rfl) ?_
        have b4 : 0 ≤ Z 56 18 ∧ Z 56 18 ≤ 385 := hG.pr 56 18
        refine JgetI (g := 18) (z := Z 56 18) hx1 (show mx_Sn _ _ 11 (mx_getf 12 18 14) from sn_254 11) a56 s56 rfl rfl (up_ni hE1 (by decide)) ?_
        refine Jicmp_ge (show mx_Sn _ _ 14 (mx_icmp_ge 46 17) from sn_254 14) (by omega) (by omega) (fun q5 => ?_) (fun q5 => ?_)
        · skip
          refine mx_J.step (sn_254 46) (fun _ _ => rfl) ?_
          exact mx_J.ret (sn_254 47) (fun _ _ => rfl) (hP w2_1 Z1 h1 hx1 hG1 (fr_tr (M := [(56, 0)]) fr_rf (fr_up hE1) (M1 := []) rfl rfl) (by omega))
        · skip
          refine mx_J.step (sn_254 17) (fun _ _ => rfl) ?_
          refine mx_J.step (sn_254 18) (fun _ _ => rfl) ?_
          refine mx_J.step (sn_254 19) (fun _ _ => rfl) ?_
          refine mx_J.step (sn_254 20) (fun _ _ => rfl) ?_
          refine JgetR (g := 1) (b := 57) hx1 (show mx_Sn _ _ 21 (mx_getf 12 1 24) from sn_254 21) a56 s56 rfl rfl (hG1.prr 56 1 rfl) ?_
          refine JcI (z := 27) (show mx_Sn _ _ 24 (mx_const (.int 27) 26) from sn_254 24) rfl ?_
          have b7 := GI_st hG 27
          have b8 : 0 ≤ Z 57 27 ∧ Z 57 27 ≤ 384 := by have hq := GI_ex hG 57 27; replace hq : f57 (27 % 962) (Z 57 27) := hq; unfold f57 at hq; omega
          have b9 : (-2147483648) ≤ Z 57 27 ∧ Z 57 27 ≤ 2147483647 := hG.pr 57 27
          refine JialdI (z := Z 57 27) hx1 (show mx_Sn _ _ 26 (mx_iald 27) from sn_254 26) a57 s57 (by omega) (up_nk hE1 rfl) ?_
          obtain ⟨z10, hc10, b10⟩ := ct_252_56 (d := d + 0) (l := l) (D := D) (b0 := b0) (ad := ad) (Hb := Hb) (tau := tau) hx1 hG1 (show 0 ≤ w2_2 ∧ w2_2 ≤ 384 by omega) (show 0 ≤ Z 57 27 ∧ Z 57 27 ≤ 384 by omega)
          refine Jcv hx1 (show mx_Sn _ _ 27 (mx_callv 252 3 12 30) from sn_254 27) a56 s56 hc10 rfl rfl rfl ?_
          have c38 : ∀ (k11_1 : Int), 0 ≤ k11_1 ∧ k11_1 ≤ 1 → mx_J (tB l D b0 ad Hb tau) mt_254 (d + 2) 38 [some (.ref 56), some (xI w2_1), some (xI w2_2)] [xI k11_1, xI w2_1] h1 Post := by
            intro k11_1 f11_0
            refine JiaddN (show mx_Sn _ _ 38 (mx_iadd 39) from sn_254 38) (fun y12 hy12 hq12 => ?_)
            refine mx_J.step (ls2 := [some (.ref 56), some (xI y12), some (xI w2_2)]) (sn_254 39) (fun _ _ => rfl) ?_
            refine Jiinc (z := w2_2) (cz := 1) (ls2 := [some (.ref 56), some (xI y12), some (xI (w2_2 + 1))]) (show mx_Sn _ _ 40 (mx_iinc 2 1 43) from sn_254 40) rfl rfl rfl rfl ?_
            refine mx_J.step (sn_254 43) (fun _ _ => rfl) ?_
            exact ih2 y12 (w2_2 + 1) (by omega) (by omega) (by omega)
          refine Jif_eq (show mx_Sn _ _ 30 (mx_if_eq 37 33) from sn_254 30) (by omega) (fun q13 => ?_) (fun q13 => ?_)
          · skip
            refine JcI (z := 0) (show mx_Sn _ _ 37 (mx_const (.int 0) 38) from sn_254 37) rfl ?_
            exact c38 0 (by omega)
          · skip
            refine JcI (z := 1) (show mx_Sn _ _ 33 (mx_const (.int 1) 34) from sn_254 33) rfl ?_
            refine mx_J.step (sn_254 34) (fun _ _ => rfl) ?_
            exact c38 1 (by omega)
    exact c9 (Int.toNat (385 - 0) + 1) 0 0 (by omega) (by omega) (by omega)
theorem ct_254_56 {l : Launch} {D : va_G} {b0 : Nat} {ad : Nat → Nat} {Hb : Heap} {tau : Nat → Int64} {d n s : Nat} {S : Nat → xS} {Z : xZ} {h : mx_H} (hx : XH n s S Z h) (hG : GI n S Z)   : ∃ (z : Int) (Z' : xZ) (h' : mx_H), mx_Ca (tB l D b0 ad Hb tau) (d + 3) 254 [.ref 56] h (some (xI z), h') ∧ XH n s S Z' h' ∧ GI n S Z' ∧ fr' [(56, 0)] Z Z' ∧ ((-2147483648) ≤ z ∧ z ≤ 2147483647) := by
  obtain ⟨r, hca, z, Z', h', e, q⟩ := Jmt (B := tB l D b0 ad Hb tau) (M := mt_254) (mi := 254) (as := [.ref 56]) (d := d + 2) (ls := [some (.ref 56), none, none]) rfl rfl rfl rfl rfl rfl (cw_254_56 (l := l) (D := D) (b0 := b0) (ad := ad) (Hb := Hb) (tau := tau) (d := d) (Post := fun r => ∃ (z : Int) (Z' : xZ) (h' : mx_H), r = (some (xI z), h') ∧ XH n s S Z' h' ∧ GI n S Z' ∧ fr' [(56, 0)] Z Z' ∧ ((-2147483648) ≤ z ∧ z ≤ 2147483647)) hx hG  (fun z Z' h' q1 q2 q3 q4 => ⟨z, Z', h', rfl, q1, q2, q3, q4⟩))
  subst e; exact ⟨z, Z', h', hca, q⟩
set_option maxRecDepth 100000 in
theorem cw_251_56 {l : Launch} {D : va_G} {b0 : Nat} {ad : Nat → Nat} {Hb : Heap} {tau : Nat → Int64} {d n s : Nat} {S : Nat → xS} {Z : xZ} {h : mx_H} {Post : mx_R → Prop} (hx : XH n s S Z h) (hG : GI n S Z)   (hP : ∀ (z : Int) (Z' : xZ) (h' : mx_H), XH n s S Z' h' → GI n S Z' → fr' [(56, 0), (62, (-1))] Z Z' → 0 ≤ z ∧ z ≤ 384 → Post (some (xI z), h')) : mx_J (tB l D b0 ad Hb tau) mt_251 (d + 2) 0 [some (.ref 56), none, none, none] [] h Post := by
    have a56 : 56 < n := lt83 (GI_n hG) rfl
    have s56 : S 56 = .inl (12, [0, 2, 2, 2, 2, 0, 0, 0, 0, 0, 0, 0, 0, 0, 0, 2, 2, 2, 0, 2, 2, 2, 0, 0, 2, 2, 2, 2, 2, 2, 0, 0, 2, 2, 2, 2, 2, 2, 2, 2, 2, 2]) := GI_s hG 56 rfl
    have a57 : 57 < n := lt83 (GI_n hG) rfl
    have s57 : S 57 = .inr (.int, 2886, 0) := GI_s hG 57 rfl
    have a62 : 62 < n := lt83 (GI_n hG) rfl
    have s62 : S 62 = .inr (.int, 20, 0) := GI_s hG 62 rfl
    refine mx_J.step (sn_251 0) (fun _ _ => rfl) ?_
    refine JcI (z := 0) (show mx_Sn _ _ 1 (mx_const (.int 0) 2) from sn_251 1) rfl ?_
    refine JputI (g := 0) hx (show mx_Sn _ _ 2 (mx_putf 1 12 0 (.int) 5) from sn_251 2) a56 s56 rfl rfl rfl rfl (fun Z1 h1 hx1 hE1 => ?_)
    have hG1 := GI_up hG hE1 (show (-2147483648) ≤ 0 ∧ 0 ≤ 2147483647 by omega) trivial rfl
    refine mx_J.step (sn_251 5) (fun _ _ => rfl) ?_
    obtain ⟨Z2, h2, hc2, hx2, hG2, hf2, b2⟩ := ct_186_56 (d := d + 1) (l := l) (D := D) (b0 := b0) (ad := ad) (Hb := Hb) (tau := tau) hx1 hG1 
    have bs2_0 := b2
    clear b2
    refine Jcv0 hx1 (show mx_Sn _ _ 6 (mx_callv 186 1 12 9) from sn_251 6) a56 s56 hc2 rfl rfl rfl ?_
    refine mx_J.step (sn_251 9) (fun _ _ => rfl) ?_
    refine JgetR (g := 1) (b := 57) hx2 (show mx_Sn _ _ 10 (mx_getf 12 1 13) from sn_251 10) a56 s56 rfl rfl (hG2.prr 56 1 rfl) ?_
    refine JcI (z := 27) (show mx_Sn _ _ 13 (mx_const (.int 27) 15) from sn_251 13) rfl ?_
    have b4 := GI_st hG 27
    have b5 : 0 ≤ Z 56 18 ∧ Z 56 18 ≤ 385 := hG.pr 56 18
    have b6 : 0 ≤ Z 57 27 ∧ Z 57 27 ≤ 384 := by have hq := GI_ex hG 57 27; replace hq : f57 (27 % 962) (Z 57 27) := hq; unfold f57 at hq; omega
    have b7 : (-2147483648) ≤ Z 57 27 ∧ Z 57 27 ≤ 2147483647 := hG.pr 57 27
    refine JialdI (z := Z 57 27) hx2 (show mx_Sn _ _ 15 (mx_iald 16) from sn_251 15) a57 s57 (by omega) ((hf2 57 27 rfl).trans (up_nk hE1 rfl)) ?_
    refine mx_J.step (ls2 := [some (.ref 56), some (xI (Z 57 27)), none, none]) (sn_251 16) (fun _ _ => rfl) ?_
    refine JcI (z := 1) (show mx_Sn _ _ 17 (mx_const (.int 1) 18) from sn_251 17) rfl ?_
    refine mx_J.step (ls2 := [some (.ref 56), some (xI (Z 57 27)), some (xI 1), none]) (sn_251 18) (fun _ _ => rfl) ?_
    have c19 : ∀ (m8 : Nat) (w8_2 : Int) (u8_3 : Option Value) (Z9 : xZ) (h9 : mx_H), 19 - w8_2 < (m8 : Int) → 1 ≤ w8_2 ∧ w8_2 ≤ 19 → XH n s S Z9 h9 → GI n S Z9 → fr' [(62, (-1))] Z2 Z9 → mx_J (tB l D b0 ad Hb tau) mt_251 (d + 2) 19 [some (.ref 56), some (xI (Z 57 27)), some (xI w8_2), u8_3] [] h9 Post := by
      intro m8
      induction m8 with
      | zero => intro w8_2 u8_3 Z9 h9 q8 f8_0 hx9 hG9 hf9; exact absurd q8 (by omega)
      | succ m8 ih8 =>
        intro w8_2 u8_3 Z9 h9 q8 f8_0 hx9 hG9 hf9
        refine mx_J.step (sn_251 19) (fun _ _ => rfl) ?_
        refine JcI (z := 18) (show mx_Sn _ _ 20 (mx_const (.int 18) 22) from sn_251 20) rfl ?_
        refine Jicmp_gt (show mx_Sn _ _ 22 (mx_icmp_gt 71 25) from sn_251 22) (by omega) (by omega) (fun q10 => ?_) (fun q10 => ?_)
        · skip
          refine mx_J.step (sn_251 71) (fun _ _ => rfl) ?_
          have eq12 : Z9 56 18 = Z 56 18 := ((hf9 56 18 rfl).trans ((hf2 56 18 rfl).trans (up_ni hE1 (by decide))))
          obtain ⟨z11, Z11, h11, hc11, hx11, hG11, hf11, b11⟩ := ct_188_56 (d := d + 0) (l := l) (D := D) (b0 := b0) (ad := ad) (Hb := Hb) (tau := tau) hx9 hG9 
          try rw [eq12] at b11
          refine Jcv hx9 (show mx_Sn _ _ 72 (mx_callv 188 1 12 75) from sn_251 72) a56 s56 hc11 rfl rfl rfl ?_
          exact mx_J.ret (sn_251 75) (fun _ _ => rfl) (hP z11 Z11 h11 hx11 hG11 (fr_tr (M := [(56, 0), (62, (-1))]) (fr_tr (M := [(56, 0), (62, (-1))]) (fr_tr (M := [(56, 0), (62, (-1))]) (fr_tr (M := [(56, 0), (62, (-1))]) fr_rf (fr_up hE1) (M1 := []) rfl rfl) (hf2) rfl rfl) (hf9) rfl rfl) (hf11) rfl rfl) (by omega))
        · skip
          refine JcI (z := 0) (show mx_Sn _ _ 25 (mx_const (.int 0) 26) from sn_251 25) rfl ?_
          refine mx_J.step (ls2 := [some (.ref 56), some (xI (Z 57 27)), some (xI w8_2), some (xI 0)]) (sn_251 26) (fun _ _ => rfl) ?_
          have c27 : ∀ (m13 : Nat) (w13_3 : Int) (Z14 : xZ) (h14 : mx_H), 18 - w13_3 < (m13 : Int) → 0 ≤ w13_3 ∧ w13_3 ≤ 18 → XH n s S Z14 h14 → GI n S Z14 → fr' [(62, (-1))] Z9 Z14 → mx_J (tB l D b0 ad Hb tau) mt_251 (d + 2) 27 [some (.ref 56), some (xI (Z 57 27)), some (xI w8_2), some (xI w13_3)] [] h14 Post := by
            intro m13
            induction m13 with
            | zero => intro w13_3 Z14 h14 q13 f13_0 hx14 hG14 hf14; exact absurd q13 (by omega)
            | succ m13 ih13 =>
              intro w13_3 Z14 h14 q13 f13_0 hx14 hG14 hf14
              refine mx_J.step (sn_251 27) (fun _ _ => rfl) ?_
              refine JcI (z := 18) (show mx_Sn _ _ 28 (mx_const (.int 18) 30) from sn_251 28) rfl ?_
              refine Jicmp_ge (show mx_Sn _ _ 30 (mx_icmp_ge 65 33) from sn_251 30) (by omega) (by omega) (fun q15 => ?_) (fun q15 => ?_)
              · skip
                refine Jiinc (z := w8_2) (cz := 1) (ls2 := [some (.ref 56), some (xI (Z 57 27)), some (xI (w8_2 + 1)), some (xI w13_3)]) (show mx_Sn _ _ 65 (mx_iinc 2 1 68) from sn_251 65) rfl rfl rfl rfl ?_
                refine mx_J.step (sn_251 68) (fun _ _ => rfl) ?_
                exact ih8 (w8_2 + 1) (some (xI w13_3)) Z14 h14 (by omega) (by omega) hx14 hG14 (fr_tr (M := [(62, (-1))]) (fr_tr (M := [(62, (-1))]) fr_rf (hf9) (M1 := []) rfl rfl) (hf14) rfl rfl)
              · skip
                refine mx_J.step (sn_251 33) (fun _ _ => rfl) ?_
                refine JgetR (g := 16) (b := 62) hx14 (show mx_Sn _ _ 34 (mx_getf 12 16 37) from sn_251 34) a56 s56 rfl rfl (hG14.prr 56 16 rfl) ?_
                refine mx_J.step (sn_251 37) (fun _ _ => rfl) ?_
                refine JcI (z := 1) (show mx_Sn _ _ 38 (mx_const (.int 1) 39) from sn_251 38) rfl ?_
                refine Jisub (show mx_Sn _ _ 39 (mx_isub 40) from sn_251 39) ?_
                refine mx_J.step (sn_251 40) (fun _ _ => rfl) ?_
                have b17 : (-2147483648) ≤ Z14 62 (w8_2 - 1) ∧ Z14 62 (w8_2 - 1) ≤ 2147483647 := hG14.pr 62 (w8_2 - 1)
                refine JialdI (z := Z14 62 (w8_2 - 1)) hx14 (show mx_Sn _ _ 41 (mx_iald 42) from sn_251 41) a62 s62 (by omega) rfl ?_
                refine mx_J.step (sn_251 42) (fun _ _ => rfl) ?_
                refine mx_J.step (sn_251 43) (fun _ _ => rfl) ?_
                refine mx_J.step (sn_251 44) (fun _ _ => rfl) ?_
                have eq19 : Z14 61 (18 * (Z 57 27) + w13_3) = Z 61 (18 * (Z 57 27) + w13_3) := ((hf14 61 (18 * (Z 57 27) + w13_3) rfl).trans ((hf9 61 (18 * (Z 57 27) + w13_3) rfl).trans ((hf2 61 (18 * (Z 57 27) + w13_3) rfl).trans (up_nk hE1 rfl))))
                have b20 : 0 ≤ Z 61 (18 * (Z 57 27) + w13_3) ∧ Z 61 (18 * (Z 57 27) + w13_3) ≤ 18 := hG.pr 61 (18 * (Z 57 27) + w13_3)
                obtain ⟨z18, hc18, b18⟩ := ct_190_56 (d := d + 1) (l := l) (D := D) (b0 := b0) (ad := ad) (Hb := Hb) (tau := tau) hx14 hG14 (show 0 ≤ Z 57 27 ∧ Z 57 27 ≤ 384 by omega) (show 0 ≤ w13_3 ∧ w13_3 ≤ 17 by omega)
                try rw [eq19] at b18
                refine Jcv hx14 (show mx_Sn _ _ 45 (mx_callv 190 3 12 48) from sn_251 45) a56 s56 hc18 rfl rfl rfl ?_
                refine mx_J.step (sn_251 48) (fun _ _ => rfl) ?_
                have c57 : ∀ (k21_3 : Int), 0 ≤ k21_3 ∧ k21_3 ≤ 1 → mx_J (tB l D b0 ad Hb tau) mt_251 (d + 2) 57 [some (.ref 56), some (xI (Z 57 27)), some (xI w8_2), some (xI w13_3)] [xI k21_3, xI (Z14 62 (w8_2 - 1)), xI (w8_2 - 1), .ref 62] h14 Post := by
                  intro k21_3 f21_0
                  refine JiaddN (show mx_Sn _ _ 57 (mx_iadd 58) from sn_251 57) (fun y22 hy22 hq22 => ?_)
                  refine JiastI hx14 (show mx_Sn _ _ 58 (mx_iast 1 59) from sn_251 58) a62 s62 rfl (by omega) (fun Z23 h23 hx23 hE23 => ?_)
                  have hG23 := GI_up hG14 hE23 (show (-2147483648) ≤ y22 ∧ y22 ≤ 2147483647 by omega) trivial rfl
                  refine Jiinc (z := w13_3) (cz := 1) (ls2 := [some (.ref 56), some (xI (Z 57 27)), some (xI w8_2), some (xI (w13_3 + 1))]) (show mx_Sn _ _ 59 (mx_iinc 3 1 62) from sn_251 59) rfl rfl rfl rfl ?_
                  refine mx_J.step (sn_251 62) (fun _ _ => rfl) ?_
                  exact ih13 (w13_3 + 1) Z23 h23 (by omega) (by omega) hx23 hG23 (fr_tr (M := [(62, (-1))]) (fr_tr (M := [(62, (-1))]) fr_rf (hf14) (M1 := []) rfl rfl) (fr_ua hE23) rfl rfl)
                refine Jicmp_lt (show mx_Sn _ _ 49 (mx_icmp_lt 56 52) from sn_251 49) (by omega) (by omega) (fun q24 => ?_) (fun q24 => ?_)
                · skip
                  refine JcI (z := 0) (show mx_Sn _ _ 56 (mx_const (.int 0) 57) from sn_251 56) rfl ?_
                  exact c57 0 (by omega)
                · skip
                  refine JcI (z := 1) (show mx_Sn _ _ 52 (mx_const (.int 1) 53) from sn_251 52) rfl ?_
                  refine mx_J.step (sn_251 53) (fun _ _ => rfl) ?_
                  exact c57 1 (by omega)
          exact c27 (Int.toNat (18 - 0) + 1) 0 Z9 h9 (by omega) (by omega) hx9 hG9 fr_rf
    exact c19 (Int.toNat (19 - 1) + 1) 1 none Z2 h2 (by omega) (by omega) hx2 hG2 fr_rf
theorem ct_251_56 {l : Launch} {D : va_G} {b0 : Nat} {ad : Nat → Nat} {Hb : Heap} {tau : Nat → Int64} {d n s : Nat} {S : Nat → xS} {Z : xZ} {h : mx_H} (hx : XH n s S Z h) (hG : GI n S Z)   : ∃ (z : Int) (Z' : xZ) (h' : mx_H), mx_Ca (tB l D b0 ad Hb tau) (d + 3) 251 [.ref 56] h (some (xI z), h') ∧ XH n s S Z' h' ∧ GI n S Z' ∧ fr' [(56, 0), (62, (-1))] Z Z' ∧ (0 ≤ z ∧ z ≤ 384) := by
  obtain ⟨r, hca, z, Z', h', e, q⟩ := Jmt (B := tB l D b0 ad Hb tau) (M := mt_251) (mi := 251) (as := [.ref 56]) (d := d + 2) (ls := [some (.ref 56), none, none, none]) rfl rfl rfl rfl rfl rfl (cw_251_56 (l := l) (D := D) (b0 := b0) (ad := ad) (Hb := Hb) (tau := tau) (d := d) (Post := fun r => ∃ (z : Int) (Z' : xZ) (h' : mx_H), r = (some (xI z), h') ∧ XH n s S Z' h' ∧ GI n S Z' ∧ fr' [(56, 0), (62, (-1))] Z Z' ∧ (0 ≤ z ∧ z ≤ 384)) hx hG  (fun z Z' h' q1 q2 q3 q4 => ⟨z, Z', h', rfl, q1, q2, q3, q4⟩))
  subst e; exact ⟨z, Z', h', hca, q⟩
set_option maxRecDepth 100000 in
theorem cw_265_56 {l : Launch} {D : va_G} {b0 : Nat} {ad : Nat → Nat} {Hb : Heap} {tau : Nat → Int64} {d n s : Nat} {S : Nat → xS} {Z : xZ} {h : mx_H} {Post : mx_R → Prop} (hx : XH n s S Z h) (hG : GI n S Z)  {x0 x1 : Int} (p0 : 0 ≤ x0 ∧ x0 ≤ 384) (p1 : 0 ≤ x1 ∧ x1 ≤ 18) (hP : ∀ z : Int, 0 ≤ z ∧ z ≤ 268435456 ∧ z = fc Z x0 x1 → Post (some (xI z), h)) : mx_J (tB l D b0 ad Hb tau) mt_265 (d + 0) 0 [some (.ref 56), some (xI x0), some (xI x1), none] [] h Post := by
    have a56 : 56 < n := lt83 (GI_n hG) rfl
    have s56 : S 56 = .inl (12, [0, 2, 2, 2, 2, 0, 0, 0, 0, 0, 0, 0, 0, 0, 0, 2, 2, 2, 0, 2, 2, 2, 0, 0, 2, 2, 2, 2, 2, 2, 0, 0, 2, 2, 2, 2, 2, 2, 2, 2, 2, 2]) := GI_s hG 56 rfl
    have a73 : 73 < n := lt83 (GI_n hG) rfl
    have s73 : S 73 = .inr (.int, 7315, 0) := GI_s hG 73 rfl
    have a75 : 75 < n := lt83 (GI_n hG) rfl
    have s75 : S 75 = .inr (.int, 385, 0) := GI_s hG 75 rfl
    have ff := fc_e Z x0 x1
    refine mx_J.step (sn_265 0) (fun _ _ => rfl) ?_
    refine JgetR (g := 32) (b := 73) hx (show mx_Sn _ _ 1 (mx_getf 12 32 4) from sn_265 1) a56 s56 rfl rfl (hG.prr 56 32 rfl) ?_
    refine JcI (z := 19) (show mx_Sn _ _ 4 (mx_const (.int 19) 6) from sn_265 4) rfl ?_
    refine mx_J.step (sn_265 6) (fun _ _ => rfl) ?_
    refine Jimul (show mx_Sn _ _ 7 (mx_imul 8) from sn_265 7) ?_
    refine mx_J.step (sn_265 8) (fun _ _ => rfl) ?_
    refine Jiadd (show mx_Sn _ _ 9 (mx_iadd 10) from sn_265 9) ?_
    have b2 : (-1) ≤ Z 73 ((19 * x0) + x1) ∧ Z 73 ((19 * x0) + x1) ≤ 384 := hG.pr 73 ((19 * x0) + x1)
    refine JialdI (z := Z 73 ((19 * x0) + x1)) hx (show mx_Sn _ _ 10 (mx_iald 11) from sn_265 10) a73 s73 (by omega) rfl ?_
    refine mx_J.step (ls2 := [some (.ref 56), some (xI x0), some (xI x1), some (xI (Z 73 ((19 * x0) + x1)))]) (sn_265 11) (fun _ _ => rfl) ?_
    refine mx_J.step (sn_265 12) (fun _ _ => rfl) ?_
    refine JcI (z := (-1)) (show mx_Sn _ _ 13 (mx_const (.int (-1)) 14) from sn_265 13) rfl ?_
    have c43 : ∀ (k3_0 : Int), 1 ≤ k3_0 ∧ k3_0 ≤ 268435456 → (k3_0 = fc Z x0 x1) → mx_J (tB l D b0 ad Hb tau) mt_265 (d + 0) 43 [some (.ref 56), some (xI x0), some (xI x1), some (xI (Z 73 ((19 * x0) + x1)))] [xI k3_0] h Post := by
      intro k3_0 f3_0 f3_1
      exact mx_J.ret (sn_265 43) (fun _ _ => rfl) (hP k3_0 (by omega))
    have c29 : (Z 73 (19 * x0 + x1) = -1 ∨ Z 75 (Z 73 (19 * x0 + x1)) = 268435456) → mx_J (tB l D b0 ad Hb tau) mt_265 (d + 0) 29 [some (.ref 56), some (xI x0), some (xI x1), some (xI (Z 73 ((19 * x0) + x1)))] [] h Post := by
      intro f4_0
      refine JcI (z := 268435456) (show mx_Sn _ _ 29 (mx_const (.int 268435456) 32) from sn_265 29) rfl ?_
      refine mx_J.step (sn_265 32) (fun _ _ => rfl) ?_
      exact c43 268435456 (by omega) (by omega)
    refine Jicmp_eq (show mx_Sn _ _ 14 (mx_icmp_eq 29 17) from sn_265 14) (by omega) (by omega) (fun q5 => ?_) (fun q5 => ?_)
    · skip
      exact c29 (by omega)
    · skip
      refine mx_J.step (sn_265 17) (fun _ _ => rfl) ?_
      refine JgetR (g := 34) (b := 75) hx (show mx_Sn _ _ 18 (mx_getf 12 34 21) from sn_265 18) a56 s56 rfl rfl (hG.prr 56 34 rfl) ?_
      refine mx_J.step (sn_265 21) (fun _ _ => rfl) ?_
      have b7 : 0 ≤ Z 75 (Z 73 ((19 * x0) + x1)) ∧ Z 75 (Z 73 ((19 * x0) + x1)) ≤ 268435456 := hG.pr 75 (Z 73 ((19 * x0) + x1))
      refine JialdI (z := Z 75 (Z 73 ((19 * x0) + x1))) hx (show mx_Sn _ _ 22 (mx_iald 23) from sn_265 22) a75 s75 (by omega) rfl ?_
      refine JcI (z := 268435456) (show mx_Sn _ _ 23 (mx_const (.int 268435456) 26) from sn_265 23) rfl ?_
      refine Jicmp_ne (show mx_Sn _ _ 26 (mx_icmp_ne 35 29) from sn_265 26) (by omega) (by omega) (fun q8 => ?_) (fun q8 => ?_)
      · skip
        refine mx_J.step (sn_265 35) (fun _ _ => rfl) ?_
        refine JgetR (g := 34) (b := 75) hx (show mx_Sn _ _ 36 (mx_getf 12 34 39) from sn_265 36) a56 s56 rfl rfl (hG.prr 56 34 rfl) ?_
        refine mx_J.step (sn_265 39) (fun _ _ => rfl) ?_
        refine JialdI (z := Z 75 (Z 73 ((19 * x0) + x1))) hx (show mx_Sn _ _ 40 (mx_iald 41) from sn_265 40) a75 s75 (by omega) rfl ?_
        refine JcI (z := 1) (show mx_Sn _ _ 41 (mx_const (.int 1) 42) from sn_265 41) rfl ?_
        refine Jiadd (show mx_Sn _ _ 42 (mx_iadd 43) from sn_265 42) ?_
        exact c43 ((Z 75 (Z 73 ((19 * x0) + x1))) + 1) (by omega) (by omega)
      · skip
        exact c29 (by omega)
theorem ct_265_56 {l : Launch} {D : va_G} {b0 : Nat} {ad : Nat → Nat} {Hb : Heap} {tau : Nat → Int64} {d n s : Nat} {S : Nat → xS} {Z : xZ} {h : mx_H} (hx : XH n s S Z h) (hG : GI n S Z)  {x0 x1 : Int} (p0 : 0 ≤ x0 ∧ x0 ≤ 384) (p1 : 0 ≤ x1 ∧ x1 ≤ 18) : ∃ z : Int, mx_Ca (tB l D b0 ad Hb tau) (d + 1) 265 [.ref 56, xI x0, xI x1] h (some (xI z), h) ∧ (0 ≤ z ∧ z ≤ 268435456 ∧ z = fc Z x0 x1) := by
  obtain ⟨r, hca, z, e, hp⟩ := Jmt (B := tB l D b0 ad Hb tau) (M := mt_265) (mi := 265) (as := [.ref 56, xI x0, xI x1]) (d := d + 0) (ls := [some (.ref 56), some (xI x0), some (xI x1), none]) rfl rfl rfl rfl rfl rfl (cw_265_56 (l := l) (D := D) (b0 := b0) (ad := ad) (Hb := Hb) (tau := tau) (d := d) (Post := fun r => ∃ z : Int, r = (some (xI z), h) ∧ (0 ≤ z ∧ z ≤ 268435456 ∧ z = fc Z x0 x1)) hx hG p0 p1 (fun z hz => ⟨z, rfl, hz⟩))
  subst e; exact ⟨z, hca, hp⟩
set_option maxRecDepth 100000 in
theorem cw_266_56 {l : Launch} {D : va_G} {b0 : Nat} {ad : Nat → Nat} {Hb : Heap} {tau : Nat → Int64} {d n s : Nat} {S : Nat → xS} {Z : xZ} {h : mx_H} {Post : mx_R → Prop} (hx : XH n s S Z h) (hG : GI n S Z)  {x0 : Int} (p0 : 0 ≤ x0 ∧ x0 ≤ 384) (hP : ∀ z : Int, 0 ≤ z ∧ z ≤ 268435456 → Post (some (xI z), h)) : mx_J (tB l D b0 ad Hb tau) mt_266 (d + 0) 0 [some (.ref 56), some (xI x0), none, none, none] [] h Post := by
    have a56 : 56 < n := lt83 (GI_n hG) rfl
    have s56 : S 56 = .inl (12, [0, 2, 2, 2, 2, 0, 0, 0, 0, 0, 0, 0, 0, 0, 0, 2, 2, 2, 0, 2, 2, 2, 0, 0, 2, 2, 2, 2, 2, 2, 0, 0, 2, 2, 2, 2, 2, 2, 2, 2, 2, 2]) := GI_s hG 56 rfl
    have a73 : 73 < n := lt83 (GI_n hG) rfl
    have s73 : S 73 = .inr (.int, 7315, 0) := GI_s hG 73 rfl
    have a74 : 74 < n := lt83 (GI_n hG) rfl
    have s74 : S 74 = .inr (.int, 385, 0) := GI_s hG 74 rfl
    refine JcI (z := 0) (show mx_Sn _ _ 0 (mx_const (.int 0) 1) from sn_266 0) rfl ?_
    refine mx_J.step (ls2 := [some (.ref 56), some (xI x0), some (xI 0), none, none]) (sn_266 1) (fun _ _ => rfl) ?_
    refine JcI (z := 0) (show mx_Sn _ _ 2 (mx_const (.int 0) 3) from sn_266 2) rfl ?_
    refine mx_J.step (ls2 := [some (.ref 56), some (xI x0), some (xI 0), some (xI 0), none]) (sn_266 3) (fun _ _ => rfl) ?_
    have c4 : ∀ (m1 : Nat) (w1_2 : Int) (w1_3 : Int) (u1_4 : Option Value), 19 - w1_3 < (m1 : Int) → 0 ≤ w1_2 ∧ w1_2 ≤ 268435456 → 0 ≤ w1_3 ∧ w1_3 ≤ 19 → mx_J (tB l D b0 ad Hb tau) mt_266 (d + 0) 4 [some (.ref 56), some (xI x0), some (xI w1_2), some (xI w1_3), u1_4] [] h Post := by
      intro m1
      induction m1 with
      | zero => intro w1_2 w1_3 u1_4 q1 f1_0 f1_1; exact absurd q1 (by omega)
      | succ m1 ih1 =>
        intro w1_2 w1_3 u1_4 q1 f1_0 f1_1
        refine mx_J.step (sn_266 4) (fun _ _ => rfl) ?_
        refine JcI (z := 19) (show mx_Sn _ _ 5 (mx_const (.int 19) 7) from sn_266 5) rfl ?_
        refine Jicmp_ge (show mx_Sn _ _ 7 (mx_icmp_ge 82 10) from sn_266 7) (by omega) (by omega) (fun q2 => ?_) (fun q2 => ?_)
        · skip
          refine mx_J.step (sn_266 82) (fun _ _ => rfl) ?_
          exact mx_J.ret (sn_266 83) (fun _ _ => rfl) (hP w1_2 (by omega))
        · skip
          refine mx_J.step (sn_266 10) (fun _ _ => rfl) ?_
          refine JgetR (g := 32) (b := 73) hx (show mx_Sn _ _ 11 (mx_getf 12 32 14) from sn_266 11) a56 s56 rfl rfl (hG.prr 56 32 rfl) ?_
          refine JcI (z := 19) (show mx_Sn _ _ 14 (mx_const (.int 19) 16) from sn_266 14) rfl ?_
          refine mx_J.step (sn_266 16) (fun _ _ => rfl) ?_
          refine Jimul (show mx_Sn _ _ 17 (mx_imul 18) from sn_266 17) ?_
          refine mx_J.step (sn_266 18) (fun _ _ => rfl) ?_
          refine Jiadd (show mx_Sn _ _ 19 (mx_iadd 20) from sn_266 19) ?_
          have b4 : (-1) ≤ Z 73 ((19 * x0) + w1_3) ∧ Z 73 ((19 * x0) + w1_3) ≤ 384 := hG.pr 73 ((19 * x0) + w1_3)
          refine JialdI (z := Z 73 ((19 * x0) + w1_3)) hx (show mx_Sn _ _ 20 (mx_iald 21) from sn_266 20) a73 s73 (by omega) rfl ?_
          refine mx_J.step (ls2 := [some (.ref 56), some (xI x0), some (xI w1_2), some (xI w1_3), some (xI (Z 73 ((19 * x0) + w1_3)))]) (sn_266 21) (fun _ _ => rfl) ?_
          refine mx_J.step (sn_266 23) (fun _ _ => rfl) ?_
          refine JcI (z := (-1)) (show mx_Sn _ _ 25 (mx_const (.int (-1)) 26) from sn_266 25) rfl ?_
          have c76 : ∀ (w5_2 : Int), 0 ≤ w5_2 ∧ w5_2 ≤ 268435456 → mx_J (tB l D b0 ad Hb tau) mt_266 (d + 0) 76 [some (.ref 56), some (xI x0), some (xI w5_2), some (xI w1_3), some (xI (Z 73 ((19 * x0) + w1_3)))] [] h Post := by
            intro w5_2 f5_0
            refine Jiinc (z := w1_3) (cz := 1) (ls2 := [some (.ref 56), some (xI x0), some (xI w5_2), some (xI (w1_3 + 1)), some (xI (Z 73 ((19 * x0) + w1_3)))]) (show mx_Sn _ _ 76 (mx_iinc 3 1 79) from sn_266 76) rfl rfl rfl rfl ?_
            refine mx_J.step (sn_266 79) (fun _ _ => rfl) ?_
            exact ih1 w5_2 (w1_3 + 1) (some (xI (Z 73 ((19 * x0) + w1_3)))) (by omega) (by omega) (by omega)
          refine Jicmp_ne (show mx_Sn _ _ 26 (mx_icmp_ne 32 29) from sn_266 26) (by omega) (by omega) (fun q6 => ?_) (fun q6 => ?_)
          · skip
            refine mx_J.step (sn_266 32) (fun _ _ => rfl) ?_
            refine JgetR (g := 33) (b := 74) hx (show mx_Sn _ _ 33 (mx_getf 12 33 36) from sn_266 33) a56 s56 rfl rfl (hG.prr 56 33 rfl) ?_
            refine mx_J.step (sn_266 36) (fun _ _ => rfl) ?_
            have b8 : 0 ≤ Z 74 (Z 73 ((19 * x0) + w1_3)) ∧ Z 74 (Z 73 ((19 * x0) + w1_3)) ≤ 268435456 := hG.pr 74 (Z 73 ((19 * x0) + w1_3))
            refine JialdI (z := Z 74 (Z 73 ((19 * x0) + w1_3))) hx (show mx_Sn _ _ 38 (mx_iald 39) from sn_266 38) a74 s74 (by omega) rfl ?_
            refine JcI (z := 268435456) (show mx_Sn _ _ 39 (mx_const (.int 268435456) 42) from sn_266 39) rfl ?_
            refine Jicmp_ne (show mx_Sn _ _ 42 (mx_icmp_ne 49 45) from sn_266 42) (by omega) (by omega) (fun q9 => ?_) (fun q9 => ?_)
            · skip
              refine mx_J.step (sn_266 49) (fun _ _ => rfl) ?_
              refine JgetR (g := 33) (b := 74) hx (show mx_Sn _ _ 50 (mx_getf 12 33 53) from sn_266 50) a56 s56 rfl rfl (hG.prr 56 33 rfl) ?_
              refine mx_J.step (sn_266 53) (fun _ _ => rfl) ?_
              refine JialdI (z := Z 74 (Z 73 ((19 * x0) + w1_3))) hx (show mx_Sn _ _ 55 (mx_iald 56) from sn_266 55) a74 s74 (by omega) rfl ?_
              refine JcI (z := 1) (show mx_Sn _ _ 56 (mx_const (.int 1) 57) from sn_266 56) rfl ?_
              refine Jiadd (show mx_Sn _ _ 57 (mx_iadd 58) from sn_266 57) ?_
              refine mx_J.step (sn_266 58) (fun _ _ => rfl) ?_
              have c75 : ∀ (k11_0 : Int), 1 ≤ k11_0 ∧ k11_0 ≤ 268435456 → mx_J (tB l D b0 ad Hb tau) mt_266 (d + 0) 75 [some (.ref 56), some (xI x0), some (xI w1_2), some (xI w1_3), some (xI (Z 73 ((19 * x0) + w1_3)))] [xI k11_0] h Post := by
                intro k11_0 f11_0
                refine mx_J.step (ls2 := [some (.ref 56), some (xI x0), some (xI k11_0), some (xI w1_3), some (xI (Z 73 ((19 * x0) + w1_3)))]) (sn_266 75) (fun _ _ => rfl) ?_
                exact c76 k11_0 (by omega)
              refine Jicmp_le (show mx_Sn _ _ 59 (mx_icmp_le 74 62) from sn_266 59) (by omega) (by omega) (fun q12 => ?_) (fun q12 => ?_)
              · skip
                refine mx_J.step (sn_266 74) (fun _ _ => rfl) ?_
                exact c75 w1_2 (by omega)
              · skip
                refine mx_J.step (sn_266 62) (fun _ _ => rfl) ?_
                refine JgetR (g := 33) (b := 74) hx (show mx_Sn _ _ 63 (mx_getf 12 33 66) from sn_266 63) a56 s56 rfl rfl (hG.prr 56 33 rfl) ?_
                refine mx_J.step (sn_266 66) (fun _ _ => rfl) ?_
                refine JialdI (z := Z 74 (Z 73 ((19 * x0) + w1_3))) hx (show mx_Sn _ _ 68 (mx_iald 69) from sn_266 68) a74 s74 (by omega) rfl ?_
                refine JcI (z := 1) (show mx_Sn _ _ 69 (mx_const (.int 1) 70) from sn_266 69) rfl ?_
                refine Jiadd (show mx_Sn _ _ 70 (mx_iadd 71) from sn_266 70) ?_
                refine mx_J.step (sn_266 71) (fun _ _ => rfl) ?_
                exact c75 ((Z 74 (Z 73 ((19 * x0) + w1_3))) + 1) (by omega)
            · skip
              refine JcI (z := 268435456) (show mx_Sn _ _ 45 (mx_const (.int 268435456) 48) from sn_266 45) rfl ?_
              exact mx_J.ret (sn_266 48) (fun _ _ => rfl) (hP 268435456 (by omega))
          · skip
            refine mx_J.step (sn_266 29) (fun _ _ => rfl) ?_
            exact c76 w1_2 (by omega)
    exact c4 (Int.toNat (19 - 0) + 1) 0 0 none (by omega) (by omega) (by omega)
theorem ct_266_56 {l : Launch} {D : va_G} {b0 : Nat} {ad : Nat → Nat} {Hb : Heap} {tau : Nat → Int64} {d n s : Nat} {S : Nat → xS} {Z : xZ} {h : mx_H} (hx : XH n s S Z h) (hG : GI n S Z)  {x0 : Int} (p0 : 0 ≤ x0 ∧ x0 ≤ 384) : ∃ z : Int, mx_Ca (tB l D b0 ad Hb tau) (d + 1) 266 [.ref 56, xI x0] h (some (xI z), h) ∧ (0 ≤ z ∧ z ≤ 268435456) := by
  obtain ⟨r, hca, z, e, hp⟩ := Jmt (B := tB l D b0 ad Hb tau) (M := mt_266) (mi := 266) (as := [.ref 56, xI x0]) (d := d + 0) (ls := [some (.ref 56), some (xI x0), none, none, none]) rfl rfl rfl rfl rfl rfl (cw_266_56 (l := l) (D := D) (b0 := b0) (ad := ad) (Hb := Hb) (tau := tau) (d := d) (Post := fun r => ∃ z : Int, r = (some (xI z), h) ∧ (0 ≤ z ∧ z ≤ 268435456)) hx hG p0 (fun z hz => ⟨z, rfl, hz⟩))
  subst e; exact ⟨z, hca, hp⟩
set_option maxRecDepth 100000 in
theorem cw_270_56 {l : Launch} {D : va_G} {b0 : Nat} {ad : Nat → Nat} {Hb : Heap} {tau : Nat → Int64} {d n s : Nat} {S : Nat → xS} {Z : xZ} {h : mx_H} {Post : mx_R → Prop} (hx : XH n s S Z h) (hG : GI n S Z)  {x0 : Int} (p0 : (-2147483648) ≤ x0 ∧ x0 ≤ 2147483647) (hP : ∀ (z : Int) (Z' : xZ) (h' : mx_H), XH n s S Z' h' → GI n S Z' → fr' [(56, 0)] Z Z' → (-2147483648) ≤ z ∧ z ≤ 2147483647 → Post (some (xI z), h')) : mx_J (tB l D b0 ad Hb tau) mt_270 (d + 1) 0 [some (.ref 56), some (xI x0), none, none, none] [] h Post := by
    have a56 : 56 < n := lt83 (GI_n hG) rfl
    have s56 : S 56 = .inl (12, [0, 2, 2, 2, 2, 0, 0, 0, 0, 0, 0, 0, 0, 0, 0, 2, 2, 2, 0, 2, 2, 2, 0, 0, 2, 2, 2, 2, 2, 2, 0, 0, 2, 2, 2, 2, 2, 2, 2, 2, 2, 2]) := GI_s hG 56 rfl
    have a57 : 57 < n := lt83 (GI_n hG) rfl
    have s57 : S 57 = .inr (.int, 2886, 0) := GI_s hG 57 rfl
    refine mx_J.step (sn_270 0) (fun _ _ => rfl) ?_
    refine JcI (z := 0) (show mx_Sn _ _ 1 (mx_const (.int 0) 2) from sn_270 1) rfl ?_
    refine JputI (g := 0) hx (show mx_Sn _ _ 2 (mx_putf 1 12 0 (.int) 5) from sn_270 2) a56 s56 rfl rfl rfl rfl (fun Z1 h1 hx1 hE1 => ?_)
    have hG1 := GI_up hG hE1 (show (-2147483648) ≤ 0 ∧ 0 ≤ 2147483647 by omega) trivial rfl
    refine mx_J.step (sn_270 5) (fun _ _ => rfl) ?_
    refine Ji2l (show mx_Sn _ _ 6 (mx_i2l 7) from sn_270 6) (by omega) ?_
    refine JcL (z := 0) (show mx_Sn _ _ 7 (mx_const (.long 0) 8) from sn_270 7) rfl ?_
    refine JcL (z := 1) (show mx_Sn _ _ 8 (mx_const (.long 1) 9) from sn_270 8) rfl ?_
    obtain ⟨z2, hc2, b2⟩ := ct_154_ (d := d + 0) (l := l) (D := D) (b0 := b0) (ad := ad) (Hb := Hb) (tau := tau) hx1 hG1 (show (-9223372036854775808) ≤ x0 ∧ x0 ≤ 9223372036854775807 by omega) (show (-9223372036854775808) ≤ 0 ∧ 0 ≤ 9223372036854775807 by omega) (show (-9223372036854775808) ≤ 1 ∧ 1 ≤ 9223372036854775807 by omega)
    refine Jcs (show mx_Sn _ _ 9 (mx_calls 154 3 12) from sn_270 9) hc2 rfl rfl rfl ?_
    refine Jif_ne (show mx_Sn _ _ 12 (mx_if_ne 18 15) from sn_270 12) (by omega) (fun q3 => ?_) (fun q3 => ?_)
    · skip
      refine mx_J.step (sn_270 18) (fun _ _ => rfl) ?_
      refine JgetR (g := 1) (b := 57) hx1 (show mx_Sn _ _ 19 (mx_getf 12 1 22) from sn_270 19) a56 s56 rfl rfl (hG1.prr 56 1 rfl) ?_
      refine JcI (z := 27) (show mx_Sn _ _ 22 (mx_const (.int 27) 24) from sn_270 22) rfl ?_
      have b5 := GI_st hG 27
      have b6 : 0 ≤ Z 56 18 ∧ Z 56 18 ≤ 385 := hG.pr 56 18
      have b7 : 0 ≤ Z 57 27 ∧ Z 57 27 ≤ 384 := by have hq := GI_ex hG 57 27; replace hq : f57 (27 % 962) (Z 57 27) := hq; unfold f57 at hq; omega
      have b8 : (-2147483648) ≤ Z 57 27 ∧ Z 57 27 ≤ 2147483647 := hG.pr 57 27
      refine JialdI (z := Z 57 27) hx1 (show mx_Sn _ _ 24 (mx_iald 25) from sn_270 24) a57 s57 (by omega) (up_nk hE1 rfl) ?_
      refine mx_J.step (ls2 := [some (.ref 56), some (xI x0), some (xI (Z 57 27)), none, none]) (sn_270 25) (fun _ _ => rfl) ?_
      refine JcI (z := 0) (show mx_Sn _ _ 26 (mx_const (.int 0) 27) from sn_270 26) rfl ?_
      refine mx_J.step (ls2 := [some (.ref 56), some (xI x0), some (xI (Z 57 27)), some (xI 0), none]) (sn_270 27) (fun _ _ => rfl) ?_
      refine JcI (z := 0) (show mx_Sn _ _ 28 (mx_const (.int 0) 29) from sn_270 28) rfl ?_
      refine mx_J.step (ls2 := [some (.ref 56), some (xI x0), some (xI (Z 57 27)), some (xI 0), some (xI 0)]) (sn_270 29) (fun _ _ => rfl) ?_
      have c31 : ∀ (m9 : Nat) (w9_3 : Int) (w9_4 : Int), 18 - w9_4 < (m9 : Int) → (-2147483648) ≤ w9_3 ∧ w9_3 ≤ 2147483647 → 0 ≤ w9_4 ∧ w9_4 ≤ 18 → mx_J (tB l D b0 ad Hb tau) mt_270 (d + 1) 31 [some (.ref 56), some (xI x0), some (xI (Z 57 27)), some (xI w9_3), some (xI w9_4)] [] h1 Post := by
        intro m9
        induction m9 with
        | zero => intro w9_3 w9_4 q9 f9_0 f9_1; exact absurd q9 (by omega)
        | succ m9 ih9 =>
          intro w9_3 w9_4 q9 f9_0 f9_1
          refine mx_J.step (sn_270 31) (fun _ _ => rfl) ?_
          refine JcI (z := 18) (show mx_Sn _ _ 33 (mx_const (.int 18) 35) from sn_270 33) rfl ?_
          refine Jicmp_ge (show mx_Sn _ _ 35 (mx_icmp_ge 54 38) from sn_270 35) (by omega) (by omega) (fun q10 => ?_) (fun q10 => ?_)
          · skip
            refine JcI (z := 0) (show mx_Sn _ _ 54 (mx_const (.int 0) 55) from sn_270 54) rfl ?_
            refine mx_J.step (ls2 := [some (.ref 56), some (xI x0), some (xI (Z 57 27)), some (xI w9_3), some (xI 0)]) (sn_270 55) (fun _ _ => rfl) ?_
            have c57 : ∀ (m11 : Nat) (w11_4 : Int), 18 - w11_4 < (m11 : Int) → 0 ≤ w11_4 ∧ w11_4 ≤ 18 → mx_J (tB l D b0 ad Hb tau) mt_270 (d + 1) 57 [some (.ref 56), some (xI x0), some (xI (Z 57 27)), some (xI w9_3), some (xI w11_4)] [] h1 Post := by
              intro m11
              induction m11 with
              | zero => intro w11_4 q11 f11_0; exact absurd q11 (by omega)
              | succ m11 ih11 =>
                intro w11_4 q11 f11_0
                refine mx_J.step (sn_270 57) (fun _ _ => rfl) ?_
                refine JcI (z := 18) (show mx_Sn _ _ 59 (mx_const (.int 18) 61) from sn_270 59) rfl ?_
                have c120 : mx_J (tB l D b0 ad Hb tau) mt_270 (d + 1) 120 [some (.ref 56), some (xI x0), some (xI (Z 57 27)), some (xI w9_3), some (xI w11_4)] [] h1 Post := by
                  refine JcI (z := (-1)) (show mx_Sn _ _ 120 (mx_const (.int (-1)) 121) from sn_270 120) rfl ?_
                  exact mx_J.ret (sn_270 121) (fun _ _ => rfl) (hP (-1) Z1 h1 hx1 hG1 (fr_tr (M := [(56, 0)]) fr_rf (fr_up hE1) (M1 := []) rfl rfl) (by omega))
                refine Jicmp_ge (show mx_Sn _ _ 61 (mx_icmp_ge 120 64) from sn_270 61) (by omega) (by omega) (fun q13 => ?_) (fun q13 => ?_)
                · skip
                  exact c120 
                · skip
                  refine mx_J.step (sn_270 64) (fun _ _ => rfl) ?_
                  refine Jif_eq (show mx_Sn _ _ 65 (mx_if_eq 120 68) from sn_270 65) (by omega) (fun q14 => ?_) (fun q14 => ?_)
                  · skip
                    exact c120 
                  · skip
                    refine mx_J.step (sn_270 68) (fun _ _ => rfl) ?_
                    refine mx_J.step (sn_270 69) (fun _ _ => rfl) ?_
                    refine mx_J.step (sn_270 70) (fun _ _ => rfl) ?_
                    have eq16 : Z1 61 (18 * (Z 57 27) + w11_4) = Z 61 (18 * (Z 57 27) + w11_4) := (up_nk hE1 rfl)
                    have b17 : 0 ≤ Z 61 (18 * (Z 57 27) + w11_4) ∧ Z 61 (18 * (Z 57 27) + w11_4) ≤ 18 := hG.pr 61 (18 * (Z 57 27) + w11_4)
                    obtain ⟨z15, hc15, b15⟩ := ct_190_56 (d := d + 0) (l := l) (D := D) (b0 := b0) (ad := ad) (Hb := Hb) (tau := tau) hx1 hG1 (show 0 ≤ Z 57 27 ∧ Z 57 27 ≤ 384 by omega) (show 0 ≤ w11_4 ∧ w11_4 ≤ 17 by omega)
                    try rw [eq16] at b15
                    refine Jcv hx1 (show mx_Sn _ _ 72 (mx_callv 190 3 12 75) from sn_270 72) a56 s56 hc15 rfl rfl rfl ?_
                    refine mx_J.step (sn_270 75) (fun _ _ => rfl) ?_
                    refine JixorX (show mx_Sn _ _ 76 (mx_ixor 77) from sn_270 76) (fun y18 hy18 => ?_)
                    refine mx_J.step (sn_270 77) (fun _ _ => rfl) ?_
                    refine mx_J.step (sn_270 78) (fun _ _ => rfl) ?_
                    refine mx_J.step (sn_270 79) (fun _ _ => rfl) ?_
                    have eq20 : Z1 61 (18 * (Z 57 27) + w11_4) = Z 61 (18 * (Z 57 27) + w11_4) := (up_nk hE1 rfl)
                    obtain ⟨z19, hc19, b19⟩ := ct_190_56 (d := d + 0) (l := l) (D := D) (b0 := b0) (ad := ad) (Hb := Hb) (tau := tau) hx1 hG1 (show 0 ≤ Z 57 27 ∧ Z 57 27 ≤ 384 by omega) (show 0 ≤ w11_4 ∧ w11_4 ≤ 17 by omega)
                    try rw [eq20] at b19
                    refine Jcv hx1 (show mx_Sn _ _ 81 (mx_callv 190 3 12 84) from sn_270 81) a56 s56 hc19 rfl rfl rfl ?_
                    refine Jicmp_ge (show mx_Sn _ _ 84 (mx_icmp_ge 114 87) from sn_270 84) (by omega) (by omega) (fun q21 => ?_) (fun q21 => ?_)
                    · skip
                      refine Jiinc (z := w11_4) (cz := 1) (ls2 := [some (.ref 56), some (xI x0), some (xI (Z 57 27)), some (xI w9_3), some (xI (w11_4 + 1))]) (show mx_Sn _ _ 114 (mx_iinc 4 1 117) from sn_270 114) rfl rfl rfl rfl ?_
                      refine mx_J.step (sn_270 117) (fun _ _ => rfl) ?_
                      exact ih11 (w11_4 + 1) (by omega) (by omega)
                    · skip
                      refine mx_J.step (sn_270 87) (fun _ _ => rfl) ?_
                      have c113 : ∀ (k22_0 : Int), (-2147483648) ≤ k22_0 ∧ k22_0 ≤ 2147483647 → mx_J (tB l D b0 ad Hb tau) mt_270 (d + 1) 113 [some (.ref 56), some (xI x0), some (xI (Z 57 27)), some (xI w9_3), some (xI w11_4)] [xI k22_0] h1 Post := by
                        intro k22_0 f22_0
                        exact mx_J.ret (sn_270 113) (fun _ _ => rfl) (hP k22_0 Z1 h1 hx1 hG1 (fr_tr (M := [(56, 0)]) fr_rf (fr_up hE1) (M1 := []) rfl rfl) (by omega))
                      refine Jif_ne (show mx_Sn _ _ 88 (mx_if_ne 96 91) from sn_270 88) (by omega) (fun q23 => ?_) (fun q23 => ?_)
                      · skip
                        refine mx_J.step (sn_270 96) (fun _ _ => rfl) ?_
                        refine mx_J.step (sn_270 97) (fun _ _ => rfl) ?_
                        refine mx_J.step (sn_270 98) (fun _ _ => rfl) ?_
                        have eq25 : Z1 61 (18 * (Z 57 27) + w11_4) = Z 61 (18 * (Z 57 27) + w11_4) := (up_nk hE1 rfl)
                        obtain ⟨z24, hc24, b24⟩ := ct_190_56 (d := d + 0) (l := l) (D := D) (b0 := b0) (ad := ad) (Hb := Hb) (tau := tau) hx1 hG1 (show 0 ≤ Z 57 27 ∧ Z 57 27 ≤ 384 by omega) (show 0 ≤ w11_4 ∧ w11_4 ≤ 17 by omega)
                        try rw [eq25] at b24
                        refine Jcv hx1 (show mx_Sn _ _ 100 (mx_callv 190 3 12 103) from sn_270 100) a56 s56 hc24 rfl rfl rfl ?_
                        refine mx_J.step (sn_270 103) (fun _ _ => rfl) ?_
                        refine mx_J.step (sn_270 104) (fun _ _ => rfl) ?_
                        refine mx_J.step (sn_270 105) (fun _ _ => rfl) ?_
                        have eq27 : Z1 61 (18 * (Z 57 27) + w11_4) = Z 61 (18 * (Z 57 27) + w11_4) := (up_nk hE1 rfl)
                        obtain ⟨z26, hc26, b26⟩ := ct_190_56 (d := d + 0) (l := l) (D := D) (b0 := b0) (ad := ad) (Hb := Hb) (tau := tau) hx1 hG1 (show 0 ≤ Z 57 27 ∧ Z 57 27 ≤ 384 by omega) (show 0 ≤ w11_4 ∧ w11_4 ≤ 17 by omega)
                        try rw [eq27] at b26
                        refine Jcv hx1 (show mx_Sn _ _ 107 (mx_callv 190 3 12 110) from sn_270 107) a56 s56 hc26 rfl rfl rfl ?_
                        refine mx_J.step (sn_270 110) (fun _ _ => rfl) ?_
                        refine JixorX (show mx_Sn _ _ 111 (mx_ixor 112) from sn_270 111) (fun y28 hy28 => ?_)
                        refine JisubN (show mx_Sn _ _ 112 (mx_isub 113) from sn_270 112) (fun y29 hy29 hq29 => ?_)
                        exact c113 y29 (by omega)
                      · skip
                        refine mx_J.step (sn_270 91) (fun _ _ => rfl) ?_
                        refine mx_J.step (sn_270 93) (fun _ _ => rfl) ?_
                        exact c113 w11_4 (by omega)
            exact c57 (Int.toNat (18 - 0) + 1) 0 (by omega) (by omega)
          · skip
            refine mx_J.step (sn_270 38) (fun _ _ => rfl) ?_
            refine mx_J.step (sn_270 39) (fun _ _ => rfl) ?_
            refine mx_J.step (sn_270 40) (fun _ _ => rfl) ?_
            refine mx_J.step (sn_270 41) (fun _ _ => rfl) ?_
            have eq31 : Z1 61 (18 * (Z 57 27) + w9_4) = Z 61 (18 * (Z 57 27) + w9_4) := (up_nk hE1 rfl)
            have b32 : 0 ≤ Z 61 (18 * (Z 57 27) + w9_4) ∧ Z 61 (18 * (Z 57 27) + w9_4) ≤ 18 := hG.pr 61 (18 * (Z 57 27) + w9_4)
            obtain ⟨z30, hc30, b30⟩ := ct_190_56 (d := d + 0) (l := l) (D := D) (b0 := b0) (ad := ad) (Hb := Hb) (tau := tau) hx1 hG1 (show 0 ≤ Z 57 27 ∧ Z 57 27 ≤ 384 by omega) (show 0 ≤ w9_4 ∧ w9_4 ≤ 17 by omega)
            try rw [eq31] at b30
            refine Jcv hx1 (show mx_Sn _ _ 43 (mx_callv 190 3 12 46) from sn_270 43) a56 s56 hc30 rfl rfl rfl ?_
            refine JixorX (show mx_Sn _ _ 46 (mx_ixor 47) from sn_270 46) (fun y33 hy33 => ?_)
            refine mx_J.step (ls2 := [some (.ref 56), some (xI x0), some (xI (Z 57 27)), some (xI y33), some (xI w9_4)]) (sn_270 47) (fun _ _ => rfl) ?_
            refine Jiinc (z := w9_4) (cz := 1) (ls2 := [some (.ref 56), some (xI x0), some (xI (Z 57 27)), some (xI y33), some (xI (w9_4 + 1))]) (show mx_Sn _ _ 48 (mx_iinc 4 1 51) from sn_270 48) rfl rfl rfl rfl ?_
            refine mx_J.step (sn_270 51) (fun _ _ => rfl) ?_
            exact ih9 y33 (w9_4 + 1) (by omega) (by omega) (by omega)
      exact c31 (Int.toNat (18 - 0) + 1) 0 0 (by omega) (by omega) (by omega)
    · skip
      refine JcI (z := (-2)) (show mx_Sn _ _ 15 (mx_const (.int (-2)) 17) from sn_270 15) rfl ?_
      exact mx_J.ret (sn_270 17) (fun _ _ => rfl) (hP (-2) Z1 h1 hx1 hG1 (fr_tr (M := [(56, 0)]) fr_rf (fr_up hE1) (M1 := []) rfl rfl) (by omega))
theorem ct_270_56 {l : Launch} {D : va_G} {b0 : Nat} {ad : Nat → Nat} {Hb : Heap} {tau : Nat → Int64} {d n s : Nat} {S : Nat → xS} {Z : xZ} {h : mx_H} (hx : XH n s S Z h) (hG : GI n S Z)  {x0 : Int} (p0 : (-2147483648) ≤ x0 ∧ x0 ≤ 2147483647) : ∃ (z : Int) (Z' : xZ) (h' : mx_H), mx_Ca (tB l D b0 ad Hb tau) (d + 2) 270 [.ref 56, xI x0] h (some (xI z), h') ∧ XH n s S Z' h' ∧ GI n S Z' ∧ fr' [(56, 0)] Z Z' ∧ ((-2147483648) ≤ z ∧ z ≤ 2147483647) := by
  obtain ⟨r, hca, z, Z', h', e, q⟩ := Jmt (B := tB l D b0 ad Hb tau) (M := mt_270) (mi := 270) (as := [.ref 56, xI x0]) (d := d + 1) (ls := [some (.ref 56), some (xI x0), none, none, none]) rfl rfl rfl rfl rfl rfl (cw_270_56 (l := l) (D := D) (b0 := b0) (ad := ad) (Hb := Hb) (tau := tau) (d := d) (Post := fun r => ∃ (z : Int) (Z' : xZ) (h' : mx_H), r = (some (xI z), h') ∧ XH n s S Z' h' ∧ GI n S Z' ∧ fr' [(56, 0)] Z Z' ∧ ((-2147483648) ≤ z ∧ z ≤ 2147483647)) hx hG p0 (fun z Z' h' q1 q2 q3 q4 => ⟨z, Z', h', rfl, q1, q2, q3, q4⟩))
  subst e; exact ⟨z, Z', h', hca, q⟩
set_option maxRecDepth 100000 in
theorem cw_277_ {l : Launch} {D : va_G} {b0 : Nat} {ad : Nat → Nat} {Hb : Heap} {tau : Nat → Int64} {d n s : Nat} {S : Nat → xS} {Z : xZ} {h : mx_H} {Post : mx_R → Prop} (hx : XH n s S Z h) (hG : GI n S Z)  {x0 x1 : Int} (p0 : (-9223372036854775808) ≤ x0 ∧ x0 ≤ 9223372036854775807) (p1 : (-2147483648) ≤ x1 ∧ x1 ≤ 2147483647) (hP : ∀ z : Int, (-9223372036854775808) ≤ z ∧ z ≤ 9223372036854775807 ∧ ((x1 = 0 → -128 ≤ z ∧ z ≤ 127 ∧ (z - x0) % 256 = 0) ∧ (x1 = 1 → -32768 ≤ z ∧ z ≤ 32767 ∧ (z - x0) % 65536 = 0) ∧ (x1 = 2 → -2147483648 ≤ z ∧ z ≤ 2147483647 ∧ (z - x0) % 4294967296 = 0) ∧ (¬ x1 = 0 → ¬ x1 = 1 → ¬ x1 = 2 → z = x0)) → Post (some (xL z), h)) : mx_J (tB l D b0 ad Hb tau) mt_277 (d + 0) 0 [some (xL x0), none, some (xI x1)] [] h Post := by
    refine mx_J.step (sn_277 0) (fun _ _ => rfl) ?_
    have c35 : ∀ (k1_0 : Int), (-9223372036854775808) ≤ k1_0 ∧ k1_0 ≤ 9223372036854775807 → ((x1 = 0 → -128 ≤ k1_0 ∧ k1_0 ≤ 127 ∧ (k1_0 - x0) % 256 = 0) ∧ (x1 = 1 → -32768 ≤ k1_0 ∧ k1_0 ≤ 32767 ∧ (k1_0 - x0) % 65536 = 0) ∧ (x1 = 2 → -2147483648 ≤ k1_0 ∧ k1_0 ≤ 2147483647 ∧ (k1_0 - x0) % 4294967296 = 0) ∧ (¬ x1 = 0 → ¬ x1 = 1 → ¬ x1 = 2 → k1_0 = x0)) → mx_J (tB l D b0 ad Hb tau) mt_277 (d + 0) 35 [some (xL x0), none, some (xI x1)] [xL k1_0] h Post := by
      intro k1_0 f1_0 f1_1
      exact mx_J.ret (sn_277 35) (fun _ _ => rfl) (hP k1_0 (by omega))
    refine Jif_ne (show mx_Sn _ _ 1 (mx_if_ne 11 4) from sn_277 1) (by omega) (fun q2 => ?_) (fun q2 => ?_)
    · skip
      refine mx_J.step (sn_277 11) (fun _ _ => rfl) ?_
      refine JcI (z := 1) (show mx_Sn _ _ 12 (mx_const (.int 1) 13) from sn_277 12) rfl ?_
      refine Jicmp_ne (show mx_Sn _ _ 13 (mx_icmp_ne 23 16) from sn_277 13) (by omega) (by omega) (fun q3 => ?_) (fun q3 => ?_)
      · skip
        refine mx_J.step (sn_277 23) (fun _ _ => rfl) ?_
        refine JcI (z := 2) (show mx_Sn _ _ 24 (mx_const (.int 2) 25) from sn_277 24) rfl ?_
        refine Jicmp_ne (show mx_Sn _ _ 25 (mx_icmp_ne 34 28) from sn_277 25) (by omega) (by omega) (fun q4 => ?_) (fun q4 => ?_)
        · skip
          refine mx_J.step (sn_277 34) (fun _ _ => rfl) ?_
          exact c35 x0 (by omega) (by omega)
        · skip
          refine mx_J.step (sn_277 28) (fun _ _ => rfl) ?_
          refine Jl2iY (show mx_Sn _ _ 29 (mx_l2i 30) from sn_277 29) (fun y5 hy5 hq5 => ?_)
          refine Ji2l (show mx_Sn _ _ 30 (mx_i2l 31) from sn_277 30) (by omega) ?_
          refine mx_J.step (sn_277 31) (fun _ _ => rfl) ?_
          exact c35 y5 (by omega) (by omega)
      · skip
        refine mx_J.step (sn_277 16) (fun _ _ => rfl) ?_
        refine Jl2iY (show mx_Sn _ _ 17 (mx_l2i 18) from sn_277 17) (fun y6 hy6 hq6 => ?_)
        refine Ji2sY (show mx_Sn _ _ 18 (mx_i2s 19) from sn_277 18) (by omega) (fun y7 hy7 hq7 => ?_)
        refine Ji2l (show mx_Sn _ _ 19 (mx_i2l 20) from sn_277 19) (by omega) ?_
        refine mx_J.step (sn_277 20) (fun _ _ => rfl) ?_
        exact c35 y7 (by omega) (by omega)
    · skip
      refine mx_J.step (sn_277 4) (fun _ _ => rfl) ?_
      refine Jl2iY (show mx_Sn _ _ 5 (mx_l2i 6) from sn_277 5) (fun y8 hy8 hq8 => ?_)
      refine Ji2bY (show mx_Sn _ _ 6 (mx_i2b 7) from sn_277 6) (by omega) (fun y9 hy9 hq9 => ?_)
      refine Ji2l (show mx_Sn _ _ 7 (mx_i2l 8) from sn_277 7) (by omega) ?_
      refine mx_J.step (sn_277 8) (fun _ _ => rfl) ?_
      exact c35 y9 (by omega) (by omega)
theorem ct_277_ {l : Launch} {D : va_G} {b0 : Nat} {ad : Nat → Nat} {Hb : Heap} {tau : Nat → Int64} {d n s : Nat} {S : Nat → xS} {Z : xZ} {h : mx_H} (hx : XH n s S Z h) (hG : GI n S Z)  {x0 x1 : Int} (p0 : (-9223372036854775808) ≤ x0 ∧ x0 ≤ 9223372036854775807) (p1 : (-2147483648) ≤ x1 ∧ x1 ≤ 2147483647) : ∃ z : Int, mx_Ca (tB l D b0 ad Hb tau) (d + 1) 277 [xL x0, xI x1] h (some (xL z), h) ∧ ((-9223372036854775808) ≤ z ∧ z ≤ 9223372036854775807 ∧ ((x1 = 0 → -128 ≤ z ∧ z ≤ 127 ∧ (z - x0) % 256 = 0) ∧ (x1 = 1 → -32768 ≤ z ∧ z ≤ 32767 ∧ (z - x0) % 65536 = 0) ∧ (x1 = 2 → -2147483648 ≤ z ∧ z ≤ 2147483647 ∧ (z - x0) % 4294967296 = 0) ∧ (¬ x1 = 0 → ¬ x1 = 1 → ¬ x1 = 2 → z = x0))) := by
  obtain ⟨r, hca, z, e, hp⟩ := Jmt (B := tB l D b0 ad Hb tau) (M := mt_277) (mi := 277) (as := [xL x0, xI x1]) (d := d + 0) (ls := [some (xL x0), none, some (xI x1)]) rfl rfl rfl rfl rfl rfl (cw_277_ (l := l) (D := D) (b0 := b0) (ad := ad) (Hb := Hb) (tau := tau) (d := d) (Post := fun r => ∃ z : Int, r = (some (xL z), h) ∧ ((-9223372036854775808) ≤ z ∧ z ≤ 9223372036854775807 ∧ ((x1 = 0 → -128 ≤ z ∧ z ≤ 127 ∧ (z - x0) % 256 = 0) ∧ (x1 = 1 → -32768 ≤ z ∧ z ≤ 32767 ∧ (z - x0) % 65536 = 0) ∧ (x1 = 2 → -2147483648 ≤ z ∧ z ≤ 2147483647 ∧ (z - x0) % 4294967296 = 0) ∧ (¬ x1 = 0 → ¬ x1 = 1 → ¬ x1 = 2 → z = x0)))) hx hG p0 p1 (fun z hz => ⟨z, rfl, hz⟩))
  subst e; exact ⟨z, hca, hp⟩
set_option maxRecDepth 100000 in
theorem cw_278_56 {l : Launch} {D : va_G} {b0 : Nat} {ad : Nat → Nat} {Hb : Heap} {tau : Nat → Int64} {d n s : Nat} {S : Nat → xS} {Z : xZ} {h : mx_H} {Post : mx_R → Prop} (hx : XH n s S Z h) (hG : GI n S Z)  {x0 x1 x2 : Int} (p0 : (-2147483648) ≤ x0 ∧ x0 ≤ 2147483647) (p1 : (-2147483648) ≤ x1 ∧ x1 ≤ 2147483647) (p2 : (-2147483648) ≤ x2 ∧ x2 ≤ 2147483647) (hP : ∀ (z : Int) (Z' : xZ) (h' : mx_H), XH n s S Z' h' → GI n S Z' → fr' [(56, 0), (80, (-1)), (81, (-1)), (82, (-1))] Z Z' → (¬ (x0 < 0 ∨ 3 < x0 ∨ x1 < 0 ∨ 3 < x1) → ¬ (x2 < 0 ∨ 40 < x2) → ∀ i : Int, 0 ≤ i → i < x2 → Z' 82 (40 * x0 + i) = 0) ∧ (∀ i : Int, ((x0 < 0 ∨ 3 < x0 ∨ x1 < 0 ∨ 3 < x1) ∨ (x2 < 0 ∨ 40 < x2) ∨ i < 40 * x0 ∨ 40 * x0 + 40 ≤ i) → Z' 82 i = Z 82 i) ∧ (-3) ≤ z ∧ z ≤ 0 ∧ ((((x0 < 0 ∨ 3 < x0 ∨ x1 < 0 ∨ 3 < x1) → z = -2) ∧ (¬ (x0 < 0 ∨ 3 < x0 ∨ x1 < 0 ∨ 3 < x1) → (x2 < 0 ∨ 40 < x2) → z = -3) ∧ (¬ (x0 < 0 ∨ 3 < x0 ∨ x1 < 0 ∨ 3 < x1) → ¬ (x2 < 0 ∨ 40 < x2) → z = 0)) ∧ ((((x0 < 0 ∨ 3 < x0 ∨ x1 < 0 ∨ 3 < x1) ∨ (x2 < 0 ∨ 40 < x2) ∨ ¬ x0 = 0) → Z' 80 0 = Z 80 0 ∧ Z' 81 0 = Z 81 0) ∧ (¬ (x0 < 0 ∨ 3 < x0 ∨ x1 < 0 ∨ 3 < x1) → ¬ (x2 < 0 ∨ 40 < x2) → x0 = 0 → Z' 80 0 = x1 ∧ Z' 81 0 = x2) ∧ (((x0 < 0 ∨ 3 < x0 ∨ x1 < 0 ∨ 3 < x1) ∨ (x2 < 0 ∨ 40 < x2) ∨ ¬ x0 = 1) → Z' 80 1 = Z 80 1 ∧ Z' 81 1 = Z 81 1) ∧ (¬ (x0 < 0 ∨ 3 < x0 ∨ x1 < 0 ∨ 3 < x1) → ¬ (x2 < 0 ∨ 40 < x2) → x0 = 1 → Z' 80 1 = x1 ∧ Z' 81 1 = x2) ∧ (((x0 < 0 ∨ 3 < x0 ∨ x1 < 0 ∨ 3 < x1) ∨ (x2 < 0 ∨ 40 < x2) ∨ ¬ x0 = 2) → Z' 80 2 = Z 80 2 ∧ Z' 81 2 = Z 81 2) ∧ (¬ (x0 < 0 ∨ 3 < x0 ∨ x1 < 0 ∨ 3 < x1) → ¬ (x2 < 0 ∨ 40 < x2) → x0 = 2 → Z' 80 2 = x1 ∧ Z' 81 2 = x2) ∧ (((x0 < 0 ∨ 3 < x0 ∨ x1 < 0 ∨ 3 < x1) ∨ (x2 < 0 ∨ 40 < x2) ∨ ¬ x0 = 3) → Z' 80 3 = Z 80 3 ∧ Z' 81 3 = Z 81 3) ∧ (¬ (x0 < 0 ∨ 3 < x0 ∨ x1 < 0 ∨ 3 < x1) → ¬ (x2 < 0 ∨ 40 < x2) → x0 = 3 → Z' 80 3 = x1 ∧ Z' 81 3 = x2))) → Post (some (xI z), h')) : mx_J (tB l D b0 ad Hb tau) mt_278 (d + 1) 0 [some (.ref 56), some (xI x0), some (xI x1), some (xI x2), none] [] h Post := by
    have a56 : 56 < n := lt83 (GI_n hG) rfl
    have s56 : S 56 = .inl (12, [0, 2, 2, 2, 2, 0, 0, 0, 0, 0, 0, 0, 0, 0, 0, 2, 2, 2, 0, 2, 2, 2, 0, 0, 2, 2, 2, 2, 2, 2, 0, 0, 2, 2, 2, 2, 2, 2, 2, 2, 2, 2]) := GI_s hG 56 rfl
    have a80 : 80 < n := lt83 (GI_n hG) rfl
    have s80 : S 80 = .inr (.int, 4, 0) := GI_s hG 80 rfl
    have a81 : 81 < n := lt83 (GI_n hG) rfl
    have s81 : S 81 = .inr (.int, 4, 0) := GI_s hG 81 rfl
    have a82 : 82 < n := lt83 (GI_n hG) rfl
    have s82 : S 82 = .inr (.long, 160, 1) := GI_s hG 82 rfl
    refine mx_J.step (sn_278 0) (fun _ _ => rfl) ?_
    refine JcI (z := 0) (show mx_Sn _ _ 1 (mx_const (.int 0) 2) from sn_278 1) rfl ?_
    refine JputI (g := 0) hx (show mx_Sn _ _ 2 (mx_putf 1 12 0 (.int) 5) from sn_278 2) a56 s56 rfl rfl rfl rfl (fun Z1 h1 hx1 hE1 => ?_)
    have hG1 := GI_up hG hE1 (show (-2147483648) ≤ 0 ∧ 0 ≤ 2147483647 by omega) trivial rfl
    refine mx_J.step (sn_278 5) (fun _ _ => rfl) ?_
    refine Ji2l (show mx_Sn _ _ 6 (mx_i2l 7) from sn_278 6) (by omega) ?_
    refine JcL (z := 0) (show mx_Sn _ _ 7 (mx_const (.long 0) 8) from sn_278 7) rfl ?_
    refine JcL (z := 3) (show mx_Sn _ _ 8 (mx_const (.long 3) 11) from sn_278 8) rfl ?_
    obtain ⟨z2, hc2, b2⟩ := ct_154_ (d := d + 0) (l := l) (D := D) (b0 := b0) (ad := ad) (Hb := Hb) (tau := tau) hx1 hG1 (show (-9223372036854775808) ≤ x0 ∧ x0 ≤ 9223372036854775807 by omega) (show (-9223372036854775808) ≤ 0 ∧ 0 ≤ 9223372036854775807 by omega) (show (-9223372036854775808) ≤ 3 ∧ 3 ≤ 9223372036854775807 by omega)
    refine Jcs (show mx_Sn _ _ 11 (mx_calls 154 3 14) from sn_278 11) hc2 rfl rfl rfl ?_
    have c29 : (x0 < 0 ∨ 3 < x0 ∨ x1 < 0 ∨ 3 < x1) → mx_J (tB l D b0 ad Hb tau) mt_278 (d + 1) 29 [some (.ref 56), some (xI x0), some (xI x1), some (xI x2), none] [] h1 Post := by
      intro f3_0
      refine JcI (z := (-2)) (show mx_Sn _ _ 29 (mx_const (.int (-2)) 31) from sn_278 29) rfl ?_
      have r80 : ∀ t, Z1 80 t = Z 80 t := fun t => up_nk hE1 rfl
      have r81 : ∀ t, Z1 81 t = Z 81 t := fun t => up_nk hE1 rfl
      exact mx_J.ret (sn_278 31) (fun _ _ => rfl) (hP (-2) Z1 h1 hx1 hG1 (fr_tr (M := [(56, 0), (80, (-1)), (81, (-1)), (82, (-1))]) fr_rf (fr_up hE1) (M1 := []) rfl rfl) ⟨(fun a _ => absurd (by omega) a), (fun i _ => (show ∀ i, Z1 82 i = Z 82 i from (fun i => (up_nk hE1 rfl))) i), (and3 (by omega) (⟨by omega, by first | exact nm_ref (x0 := x0) (x1 := x1) (x2 := x2) (by omega) r80 r81 | exact nm_ok (x0 := x0) (x1 := x1) (x2 := x2) (by omega) (by omega) ((y80 _).trans ((w80 _).trans a80)) ((y81 _).trans a81) (fun t e => (y80 t).trans ((w80 t).trans (u80 t e))) (fun t e => (y81 t).trans (u81 t e))⟩))⟩)
    refine Jif_eq (show mx_Sn _ _ 14 (mx_if_eq 29 17) from sn_278 14) (by omega) (fun q4 => ?_) (fun q4 => ?_)
    · skip
      exact c29 (by omega)
    · skip
      refine mx_J.step (sn_278 17) (fun _ _ => rfl) ?_
      refine Ji2l (show mx_Sn _ _ 18 (mx_i2l 19) from sn_278 18) (by omega) ?_
      refine JcL (z := 0) (show mx_Sn _ _ 19 (mx_const (.long 0) 20) from sn_278 19) rfl ?_
      refine JcL (z := 3) (show mx_Sn _ _ 20 (mx_const (.long 3) 23) from sn_278 20) rfl ?_
      obtain ⟨z5, hc5, b5⟩ := ct_154_ (d := d + 0) (l := l) (D := D) (b0 := b0) (ad := ad) (Hb := Hb) (tau := tau) hx1 hG1 (show (-9223372036854775808) ≤ x1 ∧ x1 ≤ 9223372036854775807 by omega) (show (-9223372036854775808) ≤ 0 ∧ 0 ≤ 9223372036854775807 by omega) (show (-9223372036854775808) ≤ 3 ∧ 3 ≤ 9223372036854775807 by omega)
      refine Jcs (show mx_Sn _ _ 23 (mx_calls 154 3 26) from sn_278 23) hc5 rfl rfl rfl ?_
      refine Jif_ne (show mx_Sn _ _ 26 (mx_if_ne 32 29) from sn_278 26) (by omega) (fun q6 => ?_) (fun q6 => ?_)
      · skip
        refine mx_J.step (sn_278 32) (fun _ _ => rfl) ?_
        refine Ji2l (show mx_Sn _ _ 33 (mx_i2l 34) from sn_278 33) (by omega) ?_
        refine JcL (z := 0) (show mx_Sn _ _ 34 (mx_const (.long 0) 35) from sn_278 34) rfl ?_
        refine JcL (z := 40) (show mx_Sn _ _ 35 (mx_const (.long 40) 38) from sn_278 35) rfl ?_
        obtain ⟨z7, hc7, b7⟩ := ct_154_ (d := d + 0) (l := l) (D := D) (b0 := b0) (ad := ad) (Hb := Hb) (tau := tau) hx1 hG1 (show (-9223372036854775808) ≤ x2 ∧ x2 ≤ 9223372036854775807 by omega) (show (-9223372036854775808) ≤ 0 ∧ 0 ≤ 9223372036854775807 by omega) (show (-9223372036854775808) ≤ 40 ∧ 40 ≤ 9223372036854775807 by omega)
        refine Jcs (show mx_Sn _ _ 38 (mx_calls 154 3 41) from sn_278 38) hc7 rfl rfl rfl ?_
        refine Jif_ne (show mx_Sn _ _ 41 (mx_if_ne 47 44) from sn_278 41) (by omega) (fun q8 => ?_) (fun q8 => ?_)
        · skip
          refine mx_J.step (sn_278 47) (fun _ _ => rfl) ?_
          refine JgetR (g := 39) (b := 80) hx1 (show mx_Sn _ _ 48 (mx_getf 12 39 51) from sn_278 48) a56 s56 rfl rfl (hG1.prr 56 39 rfl) ?_
          refine mx_J.step (sn_278 51) (fun _ _ => rfl) ?_
          refine mx_J.step (sn_278 52) (fun _ _ => rfl) ?_
          refine JiastI hx1 (show mx_Sn _ _ 53 (mx_iast 1 54) from sn_278 53) a80 s80 rfl (by omega) (fun Z10 h10 hx10 hE10 => ?_)
          have hG10 := GI_up hG1 hE10 (show (-1) ≤ x1 ∧ x1 ≤ 3 by omega) trivial rfl
          have u80 : ∀ t, ¬ t = x0 → Z10 80 t = Z 80 t := fun t e => (up_ni hE10 e).trans (up_nk hE1 rfl)
          have a80 : Z10 80 x0 = x1 := up_at hE10
          refine mx_J.step (sn_278 54) (fun _ _ => rfl) ?_
          refine JgetR (g := 40) (b := 81) hx10 (show mx_Sn _ _ 55 (mx_getf 12 40 58) from sn_278 55) a56 s56 rfl rfl (hG10.prr 56 40 rfl) ?_
          refine mx_J.step (sn_278 58) (fun _ _ => rfl) ?_
          refine mx_J.step (sn_278 59) (fun _ _ => rfl) ?_
          refine JiastI hx10 (show mx_Sn _ _ 60 (mx_iast 1 61) from sn_278 60) a81 s81 rfl (by omega) (fun Z12 h12 hx12 hE12 => ?_)
          have hG12 := GI_up hG10 hE12 (show 0 ≤ x2 ∧ x2 ≤ 40 by omega) trivial rfl
          have u81 : ∀ t, ¬ t = x0 → Z12 81 t = Z 81 t := fun t e => (up_ni hE12 e).trans ((up_nk hE10 rfl).trans (up_nk hE1 rfl))
          have a81 : Z12 81 x0 = x2 := up_at hE12
          have w80 : ∀ t, Z12 80 t = Z10 80 t := fun t => up_nk hE12 rfl
          refine JcI (z := 0) (show mx_Sn _ _ 61 (mx_const (.int 0) 62) from sn_278 61) rfl ?_
          refine mx_J.step (ls2 := [some (.ref 56), some (xI x0), some (xI x1), some (xI x2), some (xI 0)]) (sn_278 62) (fun _ _ => rfl) ?_
          have c64 : ∀ (m13 : Nat) (w13_4 : Int) (Z14 : xZ) (h14 : mx_H), 40 - w13_4 < (m13 : Int) → 0 ≤ w13_4 ∧ w13_4 ≤ 40 → (∀ i : Int, 0 ≤ i → i < w13_4 → Z14 82 (40 * x0 + i) = 0) → (∀ i : Int, (i < 40 * x0 ∨ 40 * x0 + 40 ≤ i) → Z14 82 i = Z 82 i) → XH n s S Z14 h14 → GI n S Z14 → fr' [(82, (-1))] Z12 Z14 → mx_J (tB l D b0 ad Hb tau) mt_278 (d + 1) 64 [some (.ref 56), some (xI x0), some (xI x1), some (xI x2), some (xI w13_4)] [] h14 Post := by
            intro m13
            induction m13 with
            | zero => intro w13_4 Z14 h14 q13 f13_0 f13_1 f13_2 hx14 hG14 hf14; exact absurd q13 (by omega)
            | succ m13 ih13 =>
              intro w13_4 Z14 h14 q13 f13_0 f13_1 f13_2 hx14 hG14 hf14
              refine mx_J.step (sn_278 64) (fun _ _ => rfl) ?_
              refine mx_J.step (sn_278 66) (fun _ _ => rfl) ?_
              refine Jicmp_ge (show mx_Sn _ _ 67 (mx_icmp_ge 89 70) from sn_278 67) (by omega) (by omega) (fun q15 => ?_) (fun q15 => ?_)
              · skip
                refine JcI (z := 0) (show mx_Sn _ _ 89 (mx_const (.int 0) 90) from sn_278 89) rfl ?_
                have y80 : ∀ t, Z14 80 t = Z12 80 t := fun t => hf14 80 t rfl
                have y81 : ∀ t, Z14 81 t = Z12 81 t := fun t => hf14 81 t rfl
                exact mx_J.ret (sn_278 90) (fun _ _ => rfl) (hP 0 Z14 h14 hx14 hG14 (fr_tr (M := [(56, 0), (80, (-1)), (81, (-1)), (82, (-1))]) (fr_tr (M := [(56, 0), (80, (-1)), (81, (-1)), (82, (-1))]) (fr_tr (M := [(56, 0), (80, (-1)), (81, (-1)), (82, (-1))]) (fr_tr (M := [(56, 0), (80, (-1)), (81, (-1)), (82, (-1))]) fr_rf (fr_up hE1) (M1 := []) rfl rfl) (fr_ua hE10) rfl rfl) (fr_ua hE12) rfl rfl) (hf14) rfl rfl) ⟨(fun _ _ i a b => (by assumption : (∀ i : Int, 0 ≤ i → i < w13_4 → Z14 82 (40 * x0 + i) = 0)) i a (by omega)), (fun i q => (by assumption : (∀ i : Int, (i < 40 * x0 ∨ 40 * x0 + 40 ≤ i) → Z14 82 i = Z 82 i)) i (by omega)), (and3 (by omega) (⟨by omega, by first | exact nm_ref (x0 := x0) (x1 := x1) (x2 := x2) (by omega) r80 r81 | exact nm_ok (x0 := x0) (x1 := x1) (x2 := x2) (by omega) (by omega) ((y80 _).trans ((w80 _).trans a80)) ((y81 _).trans a81) (fun t e => (y80 t).trans ((w80 t).trans (u80 t e))) (fun t e => (y81 t).trans (u81 t e))⟩))⟩)
              · skip
                refine mx_J.step (sn_278 70) (fun _ _ => rfl) ?_
                refine JgetR (g := 41) (b := 82) hx14 (show mx_Sn _ _ 71 (mx_getf 12 41 74) from sn_278 71) a56 s56 rfl rfl (hG14.prr 56 41 rfl) ?_
                refine JcI (z := 40) (show mx_Sn _ _ 74 (mx_const (.int 40) 76) from sn_278 74) rfl ?_
                refine mx_J.step (sn_278 76) (fun _ _ => rfl) ?_
                refine Jimul (show mx_Sn _ _ 77 (mx_imul 78) from sn_278 77) ?_
                refine mx_J.step (sn_278 78) (fun _ _ => rfl) ?_
                refine Jiadd (show mx_Sn _ _ 80 (mx_iadd 81) from sn_278 80) ?_
                refine JcL (z := 0) (show mx_Sn _ _ 81 (mx_const (.long 0) 82) from sn_278 81) rfl ?_
                refine JlastL hx14 (show mx_Sn _ _ 82 (mx_last 1 83) from sn_278 82) a82 s82 rfl (by omega) (fun Z17 h17 hx17 hE17 => ?_)
                have hG17 := GI_up hG14 hE17 (show (-9223372036854775808) ≤ 0 ∧ 0 ≤ 9223372036854775807 by omega) trivial rfl
                have z1a : (∀ i : Int, 0 ≤ i → i < w13_4 + 1 → Z17 82 (40 * x0 + i) = 0) := fun i a b => if e : i = w13_4 then (by rw [e]; exact up_at hE17) else (up_ni hE17 (by omega)).trans ((by assumption : (∀ i : Int, 0 ≤ i → i < w13_4 → Z14 82 (40 * x0 + i) = 0)) i a (by omega))
                have z2a : (∀ i : Int, (i < 40 * x0 ∨ 40 * x0 + 40 ≤ i) → Z17 82 i = Z 82 i) := fun i q => (up_ni hE17 (by omega)).trans ((by assumption : (∀ i : Int, (i < 40 * x0 ∨ 40 * x0 + 40 ≤ i) → Z14 82 i = Z 82 i)) i q)
                refine Jiinc (z := w13_4) (cz := 1) (ls2 := [some (.ref 56), some (xI x0), some (xI x1), some (xI x2), some (xI (w13_4 + 1))]) (show mx_Sn _ _ 83 (mx_iinc 4 1 86) from sn_278 83) rfl rfl rfl rfl ?_
                refine mx_J.step (sn_278 86) (fun _ _ => rfl) ?_
                exact ih13 (w13_4 + 1) Z17 h17 (by omega) (by omega) (z1a) (z2a) hx17 hG17 (fr_tr (M := [(82, (-1))]) (fr_tr (M := [(82, (-1))]) fr_rf (hf14) (M1 := []) rfl rfl) (fr_ua hE17) rfl rfl)
          exact c64 (Int.toNat (40 - 0) + 1) 0 Z12 h12 (by omega) (by omega) (fun i a b => absurd b (by omega)) (fun i _ => (show ∀ i, Z12 82 i = Z 82 i from (fun i => ((up_nk hE12 rfl).trans ((up_nk hE10 rfl).trans (up_nk hE1 rfl))))) i) hx12 hG12 fr_rf
        · skip
          refine JcI (z := (-3)) (show mx_Sn _ _ 44 (mx_const (.int (-3)) 46) from sn_278 44) rfl ?_
          have r80 : ∀ t, Z1 80 t = Z 80 t := fun t => up_nk hE1 rfl
          have r81 : ∀ t, Z1 81 t = Z 81 t := fun t => up_nk hE1 rfl
          exact mx_J.ret (sn_278 46) (fun _ _ => rfl) (hP (-3) Z1 h1 hx1 hG1 (fr_tr (M := [(56, 0), (80, (-1)), (81, (-1)), (82, (-1))]) fr_rf (fr_up hE1) (M1 := []) rfl rfl) ⟨(fun _ b => absurd (by omega) b), (fun i _ => (show ∀ i, Z1 82 i = Z 82 i from (fun i => (up_nk hE1 rfl))) i), (and3 (by omega) (⟨by omega, by first | exact nm_ref (x0 := x0) (x1 := x1) (x2 := x2) (by omega) r80 r81 | exact nm_ok (x0 := x0) (x1 := x1) (x2 := x2) (by omega) (by omega) ((y80 _).trans ((w80 _).trans a80)) ((y81 _).trans a81) (fun t e => (y80 t).trans ((w80 t).trans (u80 t e))) (fun t e => (y81 t).trans (u81 t e))⟩))⟩)
      · skip
        exact c29 (by omega)
theorem ct_278_56 {l : Launch} {D : va_G} {b0 : Nat} {ad : Nat → Nat} {Hb : Heap} {tau : Nat → Int64} {d n s : Nat} {S : Nat → xS} {Z : xZ} {h : mx_H} (hx : XH n s S Z h) (hG : GI n S Z)  {x0 x1 x2 : Int} (p0 : (-2147483648) ≤ x0 ∧ x0 ≤ 2147483647) (p1 : (-2147483648) ≤ x1 ∧ x1 ≤ 2147483647) (p2 : (-2147483648) ≤ x2 ∧ x2 ≤ 2147483647) : ∃ (z : Int) (Z' : xZ) (h' : mx_H), mx_Ca (tB l D b0 ad Hb tau) (d + 2) 278 [.ref 56, xI x0, xI x1, xI x2] h (some (xI z), h') ∧ XH n s S Z' h' ∧ GI n S Z' ∧ fr' [(56, 0), (80, (-1)), (81, (-1)), (82, (-1))] Z Z' ∧ ((¬ (x0 < 0 ∨ 3 < x0 ∨ x1 < 0 ∨ 3 < x1) → ¬ (x2 < 0 ∨ 40 < x2) → ∀ i : Int, 0 ≤ i → i < x2 → Z' 82 (40 * x0 + i) = 0) ∧ (∀ i : Int, ((x0 < 0 ∨ 3 < x0 ∨ x1 < 0 ∨ 3 < x1) ∨ (x2 < 0 ∨ 40 < x2) ∨ i < 40 * x0 ∨ 40 * x0 + 40 ≤ i) → Z' 82 i = Z 82 i) ∧ (-3) ≤ z ∧ z ≤ 0 ∧ ((((x0 < 0 ∨ 3 < x0 ∨ x1 < 0 ∨ 3 < x1) → z = -2) ∧ (¬ (x0 < 0 ∨ 3 < x0 ∨ x1 < 0 ∨ 3 < x1) → (x2 < 0 ∨ 40 < x2) → z = -3) ∧ (¬ (x0 < 0 ∨ 3 < x0 ∨ x1 < 0 ∨ 3 < x1) → ¬ (x2 < 0 ∨ 40 < x2) → z = 0)) ∧ ((((x0 < 0 ∨ 3 < x0 ∨ x1 < 0 ∨ 3 < x1) ∨ (x2 < 0 ∨ 40 < x2) ∨ ¬ x0 = 0) → Z' 80 0 = Z 80 0 ∧ Z' 81 0 = Z 81 0) ∧ (¬ (x0 < 0 ∨ 3 < x0 ∨ x1 < 0 ∨ 3 < x1) → ¬ (x2 < 0 ∨ 40 < x2) → x0 = 0 → Z' 80 0 = x1 ∧ Z' 81 0 = x2) ∧ (((x0 < 0 ∨ 3 < x0 ∨ x1 < 0 ∨ 3 < x1) ∨ (x2 < 0 ∨ 40 < x2) ∨ ¬ x0 = 1) → Z' 80 1 = Z 80 1 ∧ Z' 81 1 = Z 81 1) ∧ (¬ (x0 < 0 ∨ 3 < x0 ∨ x1 < 0 ∨ 3 < x1) → ¬ (x2 < 0 ∨ 40 < x2) → x0 = 1 → Z' 80 1 = x1 ∧ Z' 81 1 = x2) ∧ (((x0 < 0 ∨ 3 < x0 ∨ x1 < 0 ∨ 3 < x1) ∨ (x2 < 0 ∨ 40 < x2) ∨ ¬ x0 = 2) → Z' 80 2 = Z 80 2 ∧ Z' 81 2 = Z 81 2) ∧ (¬ (x0 < 0 ∨ 3 < x0 ∨ x1 < 0 ∨ 3 < x1) → ¬ (x2 < 0 ∨ 40 < x2) → x0 = 2 → Z' 80 2 = x1 ∧ Z' 81 2 = x2) ∧ (((x0 < 0 ∨ 3 < x0 ∨ x1 < 0 ∨ 3 < x1) ∨ (x2 < 0 ∨ 40 < x2) ∨ ¬ x0 = 3) → Z' 80 3 = Z 80 3 ∧ Z' 81 3 = Z 81 3) ∧ (¬ (x0 < 0 ∨ 3 < x0 ∨ x1 < 0 ∨ 3 < x1) → ¬ (x2 < 0 ∨ 40 < x2) → x0 = 3 → Z' 80 3 = x1 ∧ Z' 81 3 = x2)))) := by
  obtain ⟨r, hca, z, Z', h', e, q⟩ := Jmt (B := tB l D b0 ad Hb tau) (M := mt_278) (mi := 278) (as := [.ref 56, xI x0, xI x1, xI x2]) (d := d + 1) (ls := [some (.ref 56), some (xI x0), some (xI x1), some (xI x2), none]) rfl rfl rfl rfl rfl rfl (cw_278_56 (l := l) (D := D) (b0 := b0) (ad := ad) (Hb := Hb) (tau := tau) (d := d) (Post := fun r => ∃ (z : Int) (Z' : xZ) (h' : mx_H), r = (some (xI z), h') ∧ XH n s S Z' h' ∧ GI n S Z' ∧ fr' [(56, 0), (80, (-1)), (81, (-1)), (82, (-1))] Z Z' ∧ ((¬ (x0 < 0 ∨ 3 < x0 ∨ x1 < 0 ∨ 3 < x1) → ¬ (x2 < 0 ∨ 40 < x2) → ∀ i : Int, 0 ≤ i → i < x2 → Z' 82 (40 * x0 + i) = 0) ∧ (∀ i : Int, ((x0 < 0 ∨ 3 < x0 ∨ x1 < 0 ∨ 3 < x1) ∨ (x2 < 0 ∨ 40 < x2) ∨ i < 40 * x0 ∨ 40 * x0 + 40 ≤ i) → Z' 82 i = Z 82 i) ∧ (-3) ≤ z ∧ z ≤ 0 ∧ ((((x0 < 0 ∨ 3 < x0 ∨ x1 < 0 ∨ 3 < x1) → z = -2) ∧ (¬ (x0 < 0 ∨ 3 < x0 ∨ x1 < 0 ∨ 3 < x1) → (x2 < 0 ∨ 40 < x2) → z = -3) ∧ (¬ (x0 < 0 ∨ 3 < x0 ∨ x1 < 0 ∨ 3 < x1) → ¬ (x2 < 0 ∨ 40 < x2) → z = 0)) ∧ ((((x0 < 0 ∨ 3 < x0 ∨ x1 < 0 ∨ 3 < x1) ∨ (x2 < 0 ∨ 40 < x2) ∨ ¬ x0 = 0) → Z' 80 0 = Z 80 0 ∧ Z' 81 0 = Z 81 0) ∧ (¬ (x0 < 0 ∨ 3 < x0 ∨ x1 < 0 ∨ 3 < x1) → ¬ (x2 < 0 ∨ 40 < x2) → x0 = 0 → Z' 80 0 = x1 ∧ Z' 81 0 = x2) ∧ (((x0 < 0 ∨ 3 < x0 ∨ x1 < 0 ∨ 3 < x1) ∨ (x2 < 0 ∨ 40 < x2) ∨ ¬ x0 = 1) → Z' 80 1 = Z 80 1 ∧ Z' 81 1 = Z 81 1) ∧ (¬ (x0 < 0 ∨ 3 < x0 ∨ x1 < 0 ∨ 3 < x1) → ¬ (x2 < 0 ∨ 40 < x2) → x0 = 1 → Z' 80 1 = x1 ∧ Z' 81 1 = x2) ∧ (((x0 < 0 ∨ 3 < x0 ∨ x1 < 0 ∨ 3 < x1) ∨ (x2 < 0 ∨ 40 < x2) ∨ ¬ x0 = 2) → Z' 80 2 = Z 80 2 ∧ Z' 81 2 = Z 81 2) ∧ (¬ (x0 < 0 ∨ 3 < x0 ∨ x1 < 0 ∨ 3 < x1) → ¬ (x2 < 0 ∨ 40 < x2) → x0 = 2 → Z' 80 2 = x1 ∧ Z' 81 2 = x2) ∧ (((x0 < 0 ∨ 3 < x0 ∨ x1 < 0 ∨ 3 < x1) ∨ (x2 < 0 ∨ 40 < x2) ∨ ¬ x0 = 3) → Z' 80 3 = Z 80 3 ∧ Z' 81 3 = Z 81 3) ∧ (¬ (x0 < 0 ∨ 3 < x0 ∨ x1 < 0 ∨ 3 < x1) → ¬ (x2 < 0 ∨ 40 < x2) → x0 = 3 → Z' 80 3 = x1 ∧ Z' 81 3 = x2))))) hx hG p0 p1 p2 (fun z Z' h' q1 q2 q3 q4 => ⟨z, Z', h', rfl, q1, q2, q3, q4⟩))
  subst e; exact ⟨z, Z', h', hca, q⟩
