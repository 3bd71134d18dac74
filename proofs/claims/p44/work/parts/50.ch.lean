set_option maxRecDepth 100000 in
theorem cw_278_56 {l : Launch} {D : va_G} {b0 : Nat} {ad : Nat → Nat} {Hb : Heap} {tau : Nat → Int64} {d n s : Nat} {S : Nat → xS} {Z : xZ} {h : mx_H} {Post : mx_R → Prop} (hx : XH n s S Z h) (hG : GI n S Z)  {x0 x1 x2 : Int} (p0 : (-2147483648) ≤ x0 ∧ x0 ≤ 2147483647) (p1 : (-2147483648) ≤ x1 ∧ x1 ≤ 2147483647) (p2 : (-2147483648) ≤ x2 ∧ x2 ≤ 2147483647) (hP : ∀ (z : Int) (Z' : xZ) (h' : mx_H), XH n s S Z' h' → GI n S Z' → fr' [(56, 0), (80, (-1)), (81, (-1)), (82, (-1))] Z Z' → (-3) ≤ z ∧ z ≤ 0 ∧ ((((x0 < 0 ∨ 3 < x0 ∨ x1 < 0 ∨ 3 < x1) → z = -2) ∧ (¬ (x0 < 0 ∨ 3 < x0 ∨ x1 < 0 ∨ 3 < x1) → (x2 < 0 ∨ 40 < x2) → z = -3) ∧ (¬ (x0 < 0 ∨ 3 < x0 ∨ x1 < 0 ∨ 3 < x1) → ¬ (x2 < 0 ∨ 40 < x2) → z = 0)) ∧ ((((x0 < 0 ∨ 3 < x0 ∨ x1 < 0 ∨ 3 < x1) ∨ (x2 < 0 ∨ 40 < x2) ∨ ¬ x0 = 0) → Z' 80 0 = Z 80 0 ∧ Z' 81 0 = Z 81 0) ∧ (¬ (x0 < 0 ∨ 3 < x0 ∨ x1 < 0 ∨ 3 < x1) → ¬ (x2 < 0 ∨ 40 < x2) → x0 = 0 → Z' 80 0 = x1 ∧ Z' 81 0 = x2) ∧ (((x0 < 0 ∨ 3 < x0 ∨ x1 < 0 ∨ 3 < x1) ∨ (x2 < 0 ∨ 40 < x2) ∨ ¬ x0 = 1) → Z' 80 1 = Z 80 1 ∧ Z' 81 1 = Z 81 1) ∧ (¬ (x0 < 0 ∨ 3 < x0 ∨ x1 < 0 ∨ 3 < x1) → ¬ (x2 < 0 ∨ 40 < x2) → x0 = 1 → Z' 80 1 = x1 ∧ Z' 81 1 = x2) ∧ (((x0 < 0 ∨ 3 < x0 ∨ x1 < 0 ∨ 3 < x1) ∨ (x2 < 0 ∨ 40 < x2) ∨ ¬ x0 = 2) → Z' 80 2 = Z 80 2 ∧ Z' 81 2 = Z 81 2) ∧ (¬ (x0 < 0 ∨ 3 < x0 ∨ x1 < 0 ∨ 3 < x1) → ¬ (x2 < 0 ∨ 40 < x2) → x0 = 2 → Z' 80 2 = x1 ∧ Z' 81 2 = x2) ∧ (((x0 < 0 ∨ 3 < x0 ∨ x1 < 0 ∨ 3 < x1) ∨ (x2 < 0 ∨ 40 < x2) ∨ ¬ x0 = 3) → Z' 80 3 = Z 80 3 ∧ Z' 81 3 = Z 81 3) ∧ (¬ (x0 < 0 ∨ 3 < x0 ∨ x1 < 0 ∨ 3 < x1) → ¬ (x2 < 0 ∨ 40 < x2) → x0 = 3 → Z' 80 3 = x1 ∧ Z' 81 3 = x2))) → Post (some (xI z), h')) : mx_J (tB l D b0 ad Hb tau) mt_278 (d + 1) 0 [some (.ref 56), some (xI x0), some (xI x1), some (xI x2), none] [] h Post := by
    have a56 : 56 < n := lt83 (GI_n hG) rfl
    have s56 : S 56 = .inl (12, [0, 2, 2, 2, 2, 0, 0, 0, 0, 0, 0, 0, 0, 0, 0, 2, 2, 2, 0, 2, 2, 2, 0, 0, 2, 2, 2, 2, 2, 2, 0, 0, 2, 2, 2, 2, 2, 2, 2, 2, 2, 2]) := GI_s hG 56 rfl
    have a80 : 80 < n := lt83 (GI_n hG) rfl
    have s80 : S 80 = .inr (.int, 4, 0) := GI_s hG 80 rfl
    have a81 : 81 < n := lt83 (GI_n hG) rfl
    have s81 : S 81 = .inr (.int, 4, 0) := GI_s hG 81 rfl
    have a82 : 82 < n := lt83 (GI_n hG) rfl
    have s82 : S 82 = .inr (.long, 160, 1) := GI_s hG 82 rfl
    refine mx_J.step (sn_278 0) (fun _ _ => rfl) ?_
    refine JcI (z := 0) (show mx_Sn _ _ 1 (mx_const (.int 0) 2) from sn_278 1) rfl ?_
    refine JputI (g := 0) hx (show mx_Sn _ _ 2 (mx_putf 1 12 0 (.int) 5) from sn_278 2) a56 s56 rfl rfl rfl rfl (fun Z1 h1 hx1 hE1 => ?_)
    have hG1 := GI_up hG hE1 (show (-2147483648) ≤ 0 ∧ 0 ≤ 2147483647 by omega) trivial rfl
    refine mx_J.step (sn_278 5) (fun _ _ => rfl) ?_
    refine Ji2l (show mx_Sn _ _ 6 (mx_i2l 7) from sn_278 6) (by omega) ?_
    refine JcL (z := 0) (show mx_Sn _ _ 7 (mx_const (.long 0) 8) from sn_278 7) rfl ?_
    refine JcL (z := 3) (show mx_Sn _ _ 8 (mx_const (.long 3) 11) from sn_278 8) rfl ?_
    obtain ⟨z2, hc2, b2⟩ := ct_154_ (d := d + 0) (l := l) (D := D) (b0 := b0) (ad := ad) (Hb := Hb) (tau := tau) hx1 hG1 (show (-9223372036854775808) ≤ x0 ∧ x0 ≤ 9223372036854775807 by omega) (show (-9223372036854775808) ≤ 0 ∧ 0 ≤ 9223372036854775807 by omega) (show (-9223372036854775808) ≤ 3 ∧ 3 ≤ 9223372036854775807 by omega)
    refine Jcs (show mx_Sn _ _ 11 (mx_calls 154 3 14) from sn_278 11) hc2 rfl rfl rfl ?_
    have c29 : (x0 < 0 ∨ 3 < x0 ∨ x1 < 0 ∨ 3 < x1) → mx_J (tB l D b0 ad Hb tau) mt_278 (d + 1) 29 [some (.ref 56), some (xI x0), some (xI x1), some (xI x2), none] [] h1 Post := by
      intro f3_0
      refine JcI (z := (-2)) (show mx_Sn _ _ 29 (mx_const (.int (-2)) 31) from sn_278 29) rfl ?_
      have r80 : ∀ t, Z1 80 t = Z 80 t := fun t => up_nk hE1 rfl
      have r81 : ∀ t, Z1 81 t = Z 81 t := fun t => up_nk hE1 rfl
      exact mx_J.ret (sn_278 31) (fun _ _ => rfl) (hP (-2) Z1 h1 hx1 hG1 (fr_tr (M := [(56, 0), (80, (-1)), (81, (-1)), (82, (-1))]) fr_rf (fr_up hE1) (M1 := []) rfl rfl) (and3 (by omega) (⟨by omega, by first | exact nm_ref (x0 := x0) (x1 := x1) (x2 := x2) (by omega) r80 r81 | exact nm_ok (x0 := x0) (x1 := x1) (x2 := x2) (by omega) (by omega) ((y80 _).trans ((w80 _).trans a80)) ((y81 _).trans a81) (fun t e => (y80 t).trans ((w80 t).trans (u80 t e))) (fun t e => (y81 t).trans (u81 t e))⟩)))
    refine Jif_eq (show mx_Sn _ _ 14 (mx_if_eq 29 17) from sn_278 14) (by omega) (fun q4 => ?_) (fun q4 => ?_)
    · skip
      exact c29 (by omega)
    · skip
      refine mx_J.step (sn_278 17) (fun _ _ => rfl) ?_
      refine Ji2l (show mx_Sn _ _ 18 (mx_i2l 19) from sn_278 18) (by omega) ?_
      refine JcL (z := 0) (show mx_Sn _ _ 19 (mx_const (.long 0) 20) from sn_278 19) rfl ?_
      refine JcL (z := 3) (show mx_Sn _ _ 20 (mx_const (.long 3) 23) from sn_278 20) rfl ?_
      obtain ⟨z5, hc5, b5⟩ := ct_154_ (d := d + 0) (l := l) (D := D) (b0 := b0) (ad := ad) (Hb := Hb) (tau := tau) hx1 hG1 (show (-9223372036854775808) ≤ x1 ∧ x1 ≤ 9223372036854775807 by omega) (show (-9223372036854775808) ≤ 0 ∧ 0 ≤ 9223372036854775807 by omega) (show (-9223372036854775808) ≤ 3 ∧ 3 ≤ 9223372036854775807 by omega)
      refine Jcs (show mx_Sn _ _ 23 (mx_calls 154 3 26) from sn_278 23) hc5 rfl rfl rfl ?_
      refine Jif_ne (show mx_Sn _ _ 26 (mx_if_ne 32 29) from sn_278 26) (by omega) (fun q6 => ?_) (fun q6 => ?_)
      · skip
        refine mx_J.step (sn_278 32) (fun _ _ => rfl) ?_
        refine Ji2l (show mx_Sn _ _ 33 (mx_i2l 34) from sn_278 33) (by omega) ?_
        refine JcL (z := 0) (show mx_Sn _ _ 34 (mx_const (.long 0) 35) from sn_278 34) rfl ?_
        refine JcL (z := 40) (show mx_Sn _ _ 35 (mx_const (.long 40) 38) from sn_278 35) rfl ?_
        obtain ⟨z7, hc7, b7⟩ := ct_154_ (d := d + 0) (l := l) (D := D) (b0 := b0) (ad := ad) (Hb := Hb) (tau := tau) hx1 hG1 (show (-9223372036854775808) ≤ x2 ∧ x2 ≤ 9223372036854775807 by omega) (show (-9223372036854775808) ≤ 0 ∧ 0 ≤ 9223372036854775807 by omega) (show (-9223372036854775808) ≤ 40 ∧ 40 ≤ 9223372036854775807 by omega)
        refine Jcs (show mx_Sn _ _ 38 (mx_calls 154 3 41) from sn_278 38) hc7 rfl rfl rfl ?_
        refine Jif_ne (show mx_Sn _ _ 41 (mx_if_ne 47 44) from sn_278 41) (by omega) (fun q8 => ?_) (fun q8 => ?_)
        · skip
          refine mx_J.step (sn_278 47) (fun _ _ => rfl) ?_
          refine JgetR (g := 39) (b := 80) hx1 (show mx_Sn _ _ 48 (mx_getf 12 39 51) from sn_278 48) a56 s56 rfl rfl (hG1.prr 56 39 rfl) ?_
          refine mx_J.step (sn_278 51) (fun _ _ => rfl) ?_
          refine mx_J.step (sn_278 52) (fun _ _ => rfl) ?_
          refine JiastI hx1 (show mx_Sn _ _ 53 (mx_iast 1 54) from sn_278 53) a80 s80 rfl (by omega) (fun Z10 h10 hx10 hE10 => ?_)
          have hG10 := GI_up hG1 hE10 (show (-1) ≤ x1 ∧ x1 ≤ 3 by omega) trivial rfl
          have u80 : ∀ t, ¬ t = x0 → Z10 80 t = Z 80 t := fun t e => (up_ni hE10 e).trans (up_nk hE1 rfl)
          have a80 : Z10 80 x0 = x1 := up_at hE10
          refine mx_J.step (sn_278 54) (fun _ _ => rfl) ?_
          refine JgetR (g := 40) (b := 81) hx10 (show mx_Sn _ _ 55 (mx_getf 12 40 58) from sn_278 55) a56 s56 rfl rfl (hG10.prr 56 40 rfl) ?_
          refine mx_J.step (sn_278 58) (fun _ _ => rfl) ?_
          refine mx_J.step (sn_278 59) (fun _ _ => rfl) ?_
          refine JiastI hx10 (show mx_Sn _ _ 60 (mx_iast 1 61) from sn_278 60) a81 s81 rfl (by omega) (fun Z12 h12 hx12 hE12 => ?_)
          have hG12 := GI_up hG10 hE12 (show 0 ≤ x2 ∧ x2 ≤ 40 by omega) trivial rfl
          have u81 : ∀ t, ¬ t = x0 → Z12 81 t = Z 81 t := fun t e => (up_ni hE12 e).trans ((up_nk hE10 rfl).trans (up_nk hE1 rfl))
          have a81 : Z12 81 x0 = x2 := up_at hE12
          have w80 : ∀ t, Z12 80 t = Z10 80 t := fun t => up_nk hE12 rfl
          refine JcI (z := 0) (show mx_Sn _ _ 61 (mx_const (.int 0) 62) from sn_278 61) rfl ?_
          refine mx_J.step (ls2 := [some (.ref 56), some (xI x0), some (xI x1), some (xI x2), some (xI 0)]) (sn_278 62) (fun _ _ => rfl) ?_
          have c64 : ∀ (m13 : Nat) (w13_4 : Int) (Z14 : xZ) (h14 : mx_H), 40 - w13_4 < (m13 : Int) → 0 ≤ w13_4 ∧ w13_4 ≤ 40 → XH n s S Z14 h14 → GI n S Z14 → fr' [(82, (-1))] Z12 Z14 → mx_J (tB l D b0 ad Hb tau) mt_278 (d + 1) 64 [some (.ref 56), some (xI x0), some (xI x1), some (xI x2), some (xI w13_4)] [] h14 Post := by
            intro m13
            induction m13 with
            | zero => intro w13_4 Z14 h14 q13 f13_0 hx14 hG14 hf14; exact absurd q13 (by omega)
            | succ m13 ih13 =>
              intro w13_4 Z14 h14 q13 f13_0 hx14 hG14 hf14
              refine mx_J.step (sn_278 64) (fun _ _ => rfl) ?_
              refine mx_J.step (sn_278 66) (fun _ _ => rfl) ?_
              refine Jicmp_ge (show mx_Sn _ _ 67 (mx_icmp_ge 89 70) from sn_278 67) (by omega) (by omega) (fun q15 => ?_) (fun q15 => ?_)
              · skip
                refine JcI (z := 0) (show mx_Sn _ _ 89 (mx_const (.int 0) 90) from sn_278 89) rfl ?_
                have y80 : ∀ t, Z14 80 t = Z12 80 t := fun t => hf14 80 t rfl
                have y81 : ∀ t, Z14 81 t = Z12 81 t := fun t => hf14 81 t rfl
                exact mx_J.ret (sn_278 90) (fun _ _ => rfl) (hP 0 Z14 h14 hx14 hG14 (fr_tr (M := [(56, 0), (80, (-1)), (81, (-1)), (82, (-1))]) (fr_tr (M := [(56, 0), (80, (-1)), (81, (-1)), (82, (-1))]) (fr_tr (M := [(56, 0), (80, (-1)), (81, (-1)), (82, (-1))]) (fr_tr (M := [(56, 0), (80, (-1)), (81, (-1)), (82, (-1))]) fr_rf (fr_up hE1) (M1 := []) rfl rfl) (fr_ua hE10) rfl rfl) (fr_ua hE12) rfl rfl) (hf14) rfl rfl) (and3 (by omega) (⟨by omega, by first | exact nm_ref (x0 := x0) (x1 := x1) (x2 := x2) (by omega) r80 r81 | exact nm_ok (x0 := x0) (x1 := x1) (x2 := x2) (by omega) (by omega) ((y80 _).trans ((w80 _).trans a80)) ((y81 _).trans a81) (fun t e => (y80 t).trans ((w80 t).trans (u80 t e))) (fun t e => (y81 t).trans (u81 t e))⟩)))
              · skip
                refine mx_J.step (sn_278 70) (fun _ _ => rfl) ?_
                refine JgetR (g := 41) (b := 82) hx14 (show mx_Sn _ _ 71 (mx_getf 12 41 74) from sn_278 71) a56 s56 rfl rfl (hG14.prr 56 41 rfl) ?_
                refine JcI (z := 40) (show mx_Sn _ _ 74 (mx_const (.int 40) 76) from sn_278 74) rfl ?_
                refine mx_J.step (sn_278 76) (fun _ _ => rfl) ?_
                refine Jimul (show mx_Sn _ _ 77 (mx_imul 78) from sn_278 77) ?_
                refine mx_J.step (sn_278 78) (fun _ _ => rfl) ?_
                refine Jiadd (show mx_Sn _ _ 80 (mx_iadd 81) from sn_278 80) ?_
                refine JcL (z := 0) (show mx_Sn _ _ 81 (mx_const (.long 0) 82) from sn_278 81) rfl ?_
                refine JlastL hx14 (show mx_Sn _ _ 82 (mx_last 1 83) from sn_278 82) a82 s82 rfl (by omega) (fun Z17 h17 hx17 hE17 => ?_)
                have hG17 := GI_up hG14 hE17 (show (-9223372036854775808) ≤ 0 ∧ 0 ≤ 9223372036854775807 by omega) trivial rfl
                refine Jiinc (z := w13_4) (cz := 1) (ls2 := [some (.ref 56), some (xI x0), some (xI x1), some (xI x2), some (xI (w13_4 + 1))]) (show mx_Sn _ _ 83 (mx_iinc 4 1 86) from sn_278 83) rfl rfl rfl rfl ?_
                refine mx_J.step (sn_278 86) (fun _ _ => rfl) ?_
                exact ih13 (w13_4 + 1) Z17 h17 (by omega) (by omega) hx17 hG17 (fr_tr (M := [(82, (-1))]) (fr_tr (M := [(82, (-1))]) fr_rf (hf14) (M1 := []) rfl rfl) (fr_ua hE17) rfl rfl)
          exact c64 (Int.toNat (40 - 0) + 1) 0 Z12 h12 (by omega) (by omega) hx12 hG12 fr_rf
        · skip
          refine JcI (z := (-3)) (show mx_Sn _ _ 44 (mx_const (.int (-3)) 46) from sn_278 44) rfl ?_
          have r80 : ∀ t, Z1 80 t = Z 80 t := fun t => up_nk hE1 rfl
          have r81 : ∀ t, Z1 81 t = Z 81 t := fun t => up_nk hE1 rfl
          exact mx_J.ret (sn_278 46) (fun _ _ => rfl) (hP (-3) Z1 h1 hx1 hG1 (fr_tr (M := [(56, 0), (80, (-1)), (81, (-1)), (82, (-1))]) fr_rf (fr_up hE1) (M1 := []) rfl rfl) (and3 (by omega) (⟨by omega, by first | exact nm_ref (x0 := x0) (x1 := x1) (x2 := x2) (by omega) r80 r81 | exact nm_ok (x0 := x0) (x1 := x1) (x2 := x2) (by omega) (by omega) ((y80 _).trans ((w80 _).trans a80)) ((y81 _).trans a81) (fun t e => (y80 t).trans ((w80 t).trans (u80 t e))) (fun t e => (y81 t).trans (u81 t e))⟩)))
      · skip
        exact c29 (by omega)
theorem ct_278_56 {l : Launch} {D : va_G} {b0 : Nat} {ad : Nat → Nat} {Hb : Heap} {tau : Nat → Int64} {d n s : Nat} {S : Nat → xS} {Z : xZ} {h : mx_H} (hx : XH n s S Z h) (hG : GI n S Z)  {x0 x1 x2 : Int} (p0 : (-2147483648) ≤ x0 ∧ x0 ≤ 2147483647) (p1 : (-2147483648) ≤ x1 ∧ x1 ≤ 2147483647) (p2 : (-2147483648) ≤ x2 ∧ x2 ≤ 2147483647) : ∃ (z : Int) (Z' : xZ) (h' : mx_H), mx_Ca (tB l D b0 ad Hb tau) (d + 2) 278 [.ref 56, xI x0, xI x1, xI x2] h (some (xI z), h') ∧ XH n s S Z' h' ∧ GI n S Z' ∧ fr' [(56, 0), (80, (-1)), (81, (-1)), (82, (-1))] Z Z' ∧ ((-3) ≤ z ∧ z ≤ 0 ∧ ((((x0 < 0 ∨ 3 < x0 ∨ x1 < 0 ∨ 3 < x1) → z = -2) ∧ (¬ (x0 < 0 ∨ 3 < x0 ∨ x1 < 0 ∨ 3 < x1) → (x2 < 0 ∨ 40 < x2) → z = -3) ∧ (¬ (x0 < 0 ∨ 3 < x0 ∨ x1 < 0 ∨ 3 < x1) → ¬ (x2 < 0 ∨ 40 < x2) → z = 0)) ∧ ((((x0 < 0 ∨ 3 < x0 ∨ x1 < 0 ∨ 3 < x1) ∨ (x2 < 0 ∨ 40 < x2) ∨ ¬ x0 = 0) → Z' 80 0 = Z 80 0 ∧ Z' 81 0 = Z 81 0) ∧ (¬ (x0 < 0 ∨ 3 < x0 ∨ x1 < 0 ∨ 3 < x1) → ¬ (x2 < 0 ∨ 40 < x2) → x0 = 0 → Z' 80 0 = x1 ∧ Z' 81 0 = x2) ∧ (((x0 < 0 ∨ 3 < x0 ∨ x1 < 0 ∨ 3 < x1) ∨ (x2 < 0 ∨ 40 < x2) ∨ ¬ x0 = 1) → Z' 80 1 = Z 80 1 ∧ Z' 81 1 = Z 81 1) ∧ (¬ (x0 < 0 ∨ 3 < x0 ∨ x1 < 0 ∨ 3 < x1) → ¬ (x2 < 0 ∨ 40 < x2) → x0 = 1 → Z' 80 1 = x1 ∧ Z' 81 1 = x2) ∧ (((x0 < 0 ∨ 3 < x0 ∨ x1 < 0 ∨ 3 < x1) ∨ (x2 < 0 ∨ 40 < x2) ∨ ¬ x0 = 2) → Z' 80 2 = Z 80 2 ∧ Z' 81 2 = Z 81 2) ∧ (¬ (x0 < 0 ∨ 3 < x0 ∨ x1 < 0 ∨ 3 < x1) → ¬ (x2 < 0 ∨ 40 < x2) → x0 = 2 → Z' 80 2 = x1 ∧ Z' 81 2 = x2) ∧ (((x0 < 0 ∨ 3 < x0 ∨ x1 < 0 ∨ 3 < x1) ∨ (x2 < 0 ∨ 40 < x2) ∨ ¬ x0 = 3) → Z' 80 3 = Z 80 3 ∧ Z' 81 3 = Z 81 3) ∧ (¬ (x0 < 0 ∨ 3 < x0 ∨ x1 < 0 ∨ 3 < x1) → ¬ (x2 < 0 ∨ 40 < x2) → x0 = 3 → Z' 80 3 = x1 ∧ Z' 81 3 = x2)))) := by
  obtain ⟨r, hca, z, Z', h', e, q⟩ := Jmt (B := tB l D b0 ad Hb tau) (M := mt_278) (mi := 278) (as := [.ref 56, xI x0, xI x1, xI x2]) (d := d + 1) (ls := [some (.ref 56), some (xI x0), some (xI x1), some (xI x2), none]) rfl rfl rfl rfl rfl rfl (cw_278_56 (l := l) (D := D) (b0 := b0) (ad := ad) (Hb := Hb) (tau := tau) (d := d) (Post := fun r => ∃ (z : Int) (Z' : xZ) (h' : mx_H), r = (some (xI z), h') ∧ XH n s S Z' h' ∧ GI n S Z' ∧ fr' [(56, 0), (80, (-1)), (81, (-1)), (82, (-1))] Z Z' ∧ ((-3) ≤ z ∧ z ≤ 0 ∧ ((((x0 < 0 ∨ 3 < x0 ∨ x1 < 0 ∨ 3 < x1) → z = -2) ∧ (¬ (x0 < 0 ∨ 3 < x0 ∨ x1 < 0 ∨ 3 < x1) → (x2 < 0 ∨ 40 < x2) → z = -3) ∧ (¬ (x0 < 0 ∨ 3 < x0 ∨ x1 < 0 ∨ 3 < x1) → ¬ (x2 < 0 ∨ 40 < x2) → z = 0)) ∧ ((((x0 < 0 ∨ 3 < x0 ∨ x1 < 0 ∨ 3 < x1) ∨ (x2 < 0 ∨ 40 < x2) ∨ ¬ x0 = 0) → Z' 80 0 = Z 80 0 ∧ Z' 81 0 = Z 81 0) ∧ (¬ (x0 < 0 ∨ 3 < x0 ∨ x1 < 0 ∨ 3 < x1) → ¬ (x2 < 0 ∨ 40 < x2) → x0 = 0 → Z' 80 0 = x1 ∧ Z' 81 0 = x2) ∧ (((x0 < 0 ∨ 3 < x0 ∨ x1 < 0 ∨ 3 < x1) ∨ (x2 < 0 ∨ 40 < x2) ∨ ¬ x0 = 1) → Z' 80 1 = Z 80 1 ∧ Z' 81 1 = Z 81 1) ∧ (¬ (x0 < 0 ∨ 3 < x0 ∨ x1 < 0 ∨ 3 < x1) → ¬ (x2 < 0 ∨ 40 < x2) → x0 = 1 → Z' 80 1 = x1 ∧ Z' 81 1 = x2) ∧ (((x0 < 0 ∨ 3 < x0 ∨ x1 < 0 ∨ 3 < x1) ∨ (x2 < 0 ∨ 40 < x2) ∨ ¬ x0 = 2) → Z' 80 2 = Z 80 2 ∧ Z' 81 2 = Z 81 2) ∧ (¬ (x0 < 0 ∨ 3 < x0 ∨ x1 < 0 ∨ 3 < x1) → ¬ (x2 < 0 ∨ 40 < x2) → x0 = 2 → Z' 80 2 = x1 ∧ Z' 81 2 = x2) ∧ (((x0 < 0 ∨ 3 < x0 ∨ x1 < 0 ∨ 3 < x1) ∨ (x2 < 0 ∨ 40 < x2) ∨ ¬ x0 = 3) → Z' 80 3 = Z 80 3 ∧ Z' 81 3 = Z 81 3) ∧ (¬ (x0 < 0 ∨ 3 < x0 ∨ x1 < 0 ∨ 3 < x1) → ¬ (x2 < 0 ∨ 40 < x2) → x0 = 3 → Z' 80 3 = x1 ∧ Z' 81 3 = x2))))) hx hG p0 p1 p2 (fun z Z' h' q1 q2 q3 q4 => ⟨z, Z', h', rfl, q1, q2, q3, q4⟩))
  subst e; exact ⟨z, Z', h', hca, q⟩
