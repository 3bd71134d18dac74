set_option maxHeartbeats 8000000 in
set_option maxRecDepth 100000 in
theorem cw_182_56 {l : Launch} {D : va_G} {b0 : Nat} {ad : Nat → Nat} {Hb : Heap} {tau : Nat → Int64} {d n s : Nat} {S : Nat → xS} {Z : xZ} {h : mx_H} {Post : mx_R → Prop} {T : Int → Int} {N : Int} (hx : XH n s S Z h) (hG : GI n S Z)  {x0 : Int} (p0 : (-2147483648) ≤ x0 ∧ x0 ≤ 2147483647) (k0 : (¬ (x0 < 0 ∨ Z 56 5 < x0) → TE T N Z)) (k1 : N = x0) (hP : ∀ (z : Int) (Z' : xZ) (h' : mx_H), XH n s S Z' h' → GI n S Z' → fr' [(56, 0), (56, 5), (56, 6), (56, 7), (56, 8), (56, 9), (56, 10), (56, 11), (56, 12), (56, 13), (56, 14), (56, 18), (57, (-1)), (60, (-1)), (61, (-1)), (62, (-1)), (63, (-1))] Z Z' → (¬ (x0 < 0 ∨ Z 56 5 < x0) → BR T x0 z (Z' 56 13) (Z' 56 14)) ∧ ((x0 < 0 ∨ Z 56 5 < x0) → Z' 56 5 = Z 56 5 ∧ z = -3 ∧ Z' 56 13 = Z 56 13 ∧ Z' 56 14 = Z 56 14) ∧ (¬ (x0 < 0 ∨ Z 56 5 < x0) → Z' 56 5 = 0) ∧ BST T x0 z (Z 57 1) (Z' 57 1) ∧ (1 ≤ Z' 57 1 → RTB Z (Z 57 1) → RTB Z' (Z' 57 1)) ∧ (-2147483648) ≤ z ∧ z ≤ 2147483647 ∧ (Z' 57 963 = Z 57 963 ∧ Z' 57 1925 = Z 57 1925) → Post (some (xI z), h')) : mx_J (tB l D b0 ad Hb tau) mt_182 (d + 100) 0 [some (.ref 56), some (xI x0), none] [] h Post := by
    have a56 : 56 < n := lt83 (GI_n hG) rfl
    have s56 : S 56 = .inl (12, [0, 2, 2, 2, 2, 0, 0, 0, 0, 0, 0, 0, 0, 0, 0, 2, 2, 2, 0, 2, 2, 2, 0, 0, 2, 2, 2, 2, 2, 2, 0, 0, 2, 2, 2, 2, 2, 2, 2, 2, 2, 2]) := GI_s hG 56 rfl
    have a57 : 57 < n := lt83 (GI_n hG) rfl
    have s57 : S 57 = .inr (.int, 2886, 0) := GI_s hG 57 rfl
    have a60 : 60 < n := lt83 (GI_n hG) rfl
    have s60 : S 60 = .inr (.int, 962, 0) := GI_s hG 60 rfl
    have a62 : 62 < n := lt83 (GI_n hG) rfl
    have s62 : S 62 = .inr (.int, 20, 0) := GI_s hG 62 rfl
    refine mx_J.step (sn_182 0) (fun _ _ => rfl) ?_
    refine JcI (z := 0) (show mx_Sn _ _ 1 (mx_const (.int 0) 2) from sn_182 1) rfl ?_
    refine JputI (g := 0) hx (show mx_Sn _ _ 2 (mx_putf 1 12 0 (.int) 5) from sn_182 2) a56 s56 rfl rfl rfl rfl (fun Z1 h1 hx1 hE1 => ?_)
    have hG1 := GI_up hG hE1 (show (-2147483648) ≤ 0 ∧ 0 ≤ 2147483647 by omega) trivial rfl
    refine mx_J.step (sn_182 5) (fun _ _ => rfl) ?_
    refine Ji2l (show mx_Sn _ _ 6 (mx_i2l 7) from sn_182 6) (by omega) ?_
    refine JcL (z := 0) (show mx_Sn _ _ 7 (mx_const (.long 0) 8) from sn_182 7) rfl ?_
    refine mx_J.step (sn_182 8) (fun _ _ => rfl) ?_
    have b3 : 0 ≤ Z 56 5 ∧ Z 56 5 ≤ 900 := hG.pr 56 5
    refine JgetI (g := 5) (z := Z 56 5) hx1 (show mx_Sn _ _ 9 (mx_getf 12 5 12) from sn_182 9) a56 s56 rfl rfl (up_ni hE1 (by decide)) ?_
    refine Ji2l (show mx_Sn _ _ 12 (mx_i2l 13) from sn_182 12) (by omega) ?_
    obtain ⟨z4, hc4, b4⟩ := ct_154_ (d := d + 99) (l := l) (D := D) (b0 := b0) (ad := ad) (Hb := Hb) (tau := tau) hx1 hG1 (show (-9223372036854775808) ≤ x0 ∧ x0 ≤ 9223372036854775807 by omega) (show (-9223372036854775808) ≤ 0 ∧ 0 ≤ 9223372036854775807 by omega) (show (-9223372036854775808) ≤ Z 56 5 ∧ Z 56 5 ≤ 9223372036854775807 by omega)
    refine Jcs (show mx_Sn _ _ 13 (mx_calls 154 3 16) from sn_182 13) hc4 rfl rfl rfl ?_
    refine Jif_ne (show mx_Sn _ _ 16 (mx_if_ne 22 19) from sn_182 16) (by omega) (fun q5 => ?_) (fun q5 => ?_)
    · skip
      have nw : ¬ (x0 < 0 ∨ Z 56 5 < x0) := by omega
      refine mx_J.step (sn_182 22) (fun _ _ => rfl) ?_
      refine mx_J.step (sn_182 23) (fun _ _ => rfl) ?_
      refine JputI (g := 8) hx1 (show mx_Sn _ _ 24 (mx_putf 1 12 8 (.int) 27) from sn_182 24) a56 s56 rfl rfl rfl rfl (fun Z6 h6 hx6 hE6 => ?_)
      have hG6 := GI_up hG1 hE6 (show 0 ≤ x0 ∧ x0 ≤ 900 by omega) trivial rfl
      refine mx_J.step (sn_182 27) (fun _ _ => rfl) ?_
      refine JcI (z := 0) (show mx_Sn _ _ 28 (mx_const (.int 0) 29) from sn_182 28) rfl ?_
      refine JputI (g := 5) hx6 (show mx_Sn _ _ 29 (mx_putf 1 12 5 (.int) 32) from sn_182 29) a56 s56 rfl rfl rfl rfl (fun Z7 h7 hx7 hE7 => ?_)
      have hG7 := GI_up hG6 hE7 (show 0 ≤ 0 ∧ 0 ≤ 900 by omega) trivial rfl
      refine mx_J.step (sn_182 32) (fun _ _ => rfl) ?_
      refine JcI (z := 0) (show mx_Sn _ _ 33 (mx_const (.int 0) 34) from sn_182 33) rfl ?_
      refine JputI (g := 7) hx7 (show mx_Sn _ _ 34 (mx_putf 1 12 7 (.int) 37) from sn_182 34) a56 s56 rfl rfl rfl rfl (fun Z8 h8 hx8 hE8 => ?_)
      have hG8 := GI_up hG7 hE8 (show 0 ≤ 0 ∧ 0 ≤ 900 by omega) trivial rfl
      refine mx_J.step (sn_182 37) (fun _ _ => rfl) ?_
      refine JcI (z := 0) (show mx_Sn _ _ 38 (mx_const (.int 0) 39) from sn_182 38) rfl ?_
      refine JputI (g := 11) hx8 (show mx_Sn _ _ 39 (mx_putf 1 12 11 (.int) 42) from sn_182 39) a56 s56 rfl rfl rfl rfl (fun Z9 h9 hx9 hE9 => ?_)
      have hG9 := GI_up hG8 hE9 (show 0 ≤ 0 ∧ 0 ≤ 4 by omega) trivial rfl
      refine mx_J.step (sn_182 42) (fun _ _ => rfl) ?_
      refine JgetR (g := 4) (b := 60) hx9 (show mx_Sn _ _ 43 (mx_getf 12 4 46) from sn_182 43) a56 s56 rfl rfl (hG9.prr 56 4 rfl) ?_
      obtain ⟨Z11, h11, hc11, hx11, hG11, hf11, b11⟩ := ct_156_60 (d := d + 99) (l := l) (D := D) (b0 := b0) (ad := ad) (Hb := Hb) (tau := tau) hx9 hG9 
      refine Jcs0 (show mx_Sn _ _ 46 (mx_calls 156 1 49) from sn_182 46) hc11 rfl rfl rfl ?_
      have wz := wf_z (Z := Z11) b11
      have z61 := ai_at (i := 61) b11 (by omega)
      have z0 := ai_at (i := 0) b11 (by omega)
      have z1 := ai_at (i := 1) b11 (by omega)
      have z2 := ai_at (i := 2) b11 (by omega)
      have tm0 : TM T N Z11 := TE_m (TE_c (k0 nw) (fun i => ((hf11 59 i rfl).trans ((up_nk hE9 rfl).trans ((up_nk hE8 rfl).trans ((up_nk hE7 rfl).trans ((up_nk hE6 rfl).trans (up_nk hE1 rfl)))))))) ((((hf11 56 8 rfl).trans ((up_ni hE9 (by decide)).trans ((up_ni hE8 (by decide)).trans ((up_ni hE7 (by decide)).trans (up_at hE6)))))).trans k1.symm) (by omega)
      refine mx_J.step (sn_182 49) (fun _ _ => rfl) ?_
      have eq13 : Z11 56 7 = 0 := ((hf11 56 7 rfl).trans ((up_ni hE9 (by decide)).trans (up_at hE8)))
      have eq14 : Z11 56 8 = x0 := ((hf11 56 8 rfl).trans ((up_ni hE9 (by decide)).trans ((up_ni hE8 (by decide)).trans ((up_ni hE7 (by decide)).trans (up_at hE6)))))
      obtain ⟨Z12, h12, hc12, hx12, hG12, hf12, b12⟩ := ct_162_56 (T := T) (N := N) (d := d + 94) (l := l) (D := D) (b0 := b0) (ad := ad) (Hb := Hb) (tau := tau) hx11 hG11  (show Z11 56 7 ≤ Z11 56 8 by first | omega | (simp only [eq13, eq14]; omega)) (tm0) ((((hf11 56 8 rfl).trans ((up_ni hE9 (by decide)).trans ((up_ni hE8 (by decide)).trans ((up_ni hE7 (by decide)).trans (up_at hE6)))))).trans k1.symm)
      try rw [eq13] at b12
      try rw [eq14] at b12
      obtain ⟨bs12_0, b12⟩ := b12
      have b15 : 0 ≤ Z12 56 6 ∧ Z12 56 6 ≤ 900 := hG12.pr 56 6
      have b16 : 0 ≤ Z12 56 7 ∧ Z12 56 7 ≤ 900 := hG12.pr 56 7
      have b17 : 0 ≤ Z12 56 9 ∧ Z12 56 9 ≤ 100 := hG12.pr 56 9
      refine Jcv0 hx11 (show mx_Sn _ _ 50 (mx_callv 162 1 12 53) from sn_182 50) a56 s56 hc12 rfl rfl rfl ?_
      have rc18 : RMx T N Z12 ((tBg T N 0, [])) := RMx_0 (TM_c tm0 (hf12 56 8 rfl) (fun i => (hf12 59 i rfl))) bs12_0 ((hf11 56 7 rfl).trans ((up_ni hE9 (by decide)).trans (up_at hE8))) ((hf12 56 11 rfl).trans ((hf11 56 11 rfl).trans (up_at hE9))) (by have q := (hf12 60 61 rfl); omega)
      have gt0 := RMx_is (k := 0) rc18
      refine mx_J.step (sn_182 53) (fun _ _ => rfl) ?_
      refine JcI (z := 0) (show mx_Sn _ _ 54 (mx_const (.int 0) 55) from sn_182 54) rfl ?_
      have eq20 : Z12 56 8 = x0 := ((hf12 56 8 rfl).trans ((hf11 56 8 rfl).trans ((up_ni hE9 (by decide)).trans ((up_ni hE8 (by decide)).trans ((up_ni hE7 (by decide)).trans (up_at hE6))))))
      have eq21 : Z12 56 11 = 0 := ((hf12 56 11 rfl).trans ((hf11 56 11 rfl).trans (up_at hE9)))
      obtain ⟨z19, Z19, h19, hc19, hx19, hG19, hf19, b19⟩ := ct_165_56x (T := T) (N := N) (sg := (tBg T N 0, [])) (d := d + 93) (l := l) (D := D) (b0 := b0) (ad := ad) (Hb := Hb) (tau := tau) hx12 hG12 (show 0 ≤ 0 ∧ 0 ≤ 100 by omega) (show (Z12 56 6 ≤ Z12 56 7 ∧ Z12 56 7 ≤ Z12 56 8 ∧ (Z12 56 9 = 24 ∨ Z12 56 6 < Z12 56 7)) by first | omega | (simp only [eq20, eq21]; omega)) (show ¬ 0 = 24 by first | omega | (simp only [eq20, eq21]; omega)) rc18
      try rw [eq20] at b19
      try rw [eq21] at b19
      obtain ⟨br19, b19⟩ := b19
      have b22 : 0 ≤ Z19 56 6 ∧ Z19 56 6 ≤ 900 := hG19.pr 56 6
      have b23 : 0 ≤ Z19 56 7 ∧ Z19 56 7 ≤ 900 := hG19.pr 56 7
      have b24 : 0 ≤ Z19 56 9 ∧ Z19 56 9 ≤ 100 := hG19.pr 56 9
      refine Jcv hx12 (show mx_Sn _ _ 55 (mx_callv 165 2 12 58) from sn_182 55) a56 s56 hc19 rfl rfl rfl ?_
      have c74 : ∀  (Z26 : xZ) (h26 : mx_H), (Z26 56 6 ≤ Z26 56 7 ∧ Z26 56 7 ≤ Z26 56 8 ∧ (Z26 56 9 = 24 ∨ Z26 56 6 < Z26 56 7) ∧ Z26 60 61 ≤ Z26 56 6 ∧ Z26 60 2 ≤ Z26 60 1 ∧ Z26 60 1 ≤ 18 * Z26 60 2 ∧ (Z26 56 11 = 0 → WFF Z26 = 1)) → (Z26 60 0 = 0 ∧ Z26 60 1 = 0) → RMx T N Z26 (rdA T N) → XH n s S Z26 h26 → GI n S Z26 → fr' [(56, 6), (56, 7), (56, 9), (56, 10), (56, 11), (56, 12)] Z19 Z26 → mx_J (tB l D b0 ad Hb tau) mt_182 (d + 100) 74 [some (.ref 56), some (xI x0), none] [] h26 Post := by
        intro Z26 h26 f25_0 f25_1 f25_2 hx26 hG26 hf26
        have b27 : 0 ≤ Z26 56 6 ∧ Z26 56 6 ≤ 900 := hG26.pr 56 6
        have b28 : 0 ≤ Z26 56 7 ∧ Z26 56 7 ≤ 900 := hG26.pr 56 7
        have eq29 : Z26 56 8 = x0 := ((hf26 56 8 rfl).trans ((hf19 56 8 rfl).trans ((hf12 56 8 rfl).trans ((hf11 56 8 rfl).trans ((up_ni hE9 (by decide)).trans ((up_ni hE8 (by decide)).trans ((up_ni hE7 (by decide)).trans (up_at hE6))))))))
        have b30 : 0 ≤ Z26 56 9 ∧ Z26 56 9 ≤ 100 := hG26.pr 56 9
        have b31 : 0 ≤ Z26 56 11 ∧ Z26 56 11 ≤ 4 := hG26.pr 56 11
        have eq32 : Z26 60 61 = Z11 60 61 := ((hf26 60 61 rfl).trans ((hf19 60 61 rfl).trans (hf12 60 61 rfl)))
        have b33 : 0 ≤ Z11 60 61 ∧ Z11 60 61 ≤ 900 := by have hq : f60 (61 % 962) (Z11 60 61) := (by first | exact GI_ex hG11 60 61 | exact GB_ex hG11 60 61); unfold f60 at hq; omega
        have b34 : (-2147483648) ≤ Z11 60 61 ∧ Z11 60 61 ≤ 2147483647 := hG11.pr 60 61
        have eq35 : Z26 60 0 = Z11 60 0 := ((hf26 60 0 rfl).trans ((hf19 60 0 rfl).trans (hf12 60 0 rfl)))
        have b36 : (-2147483648) ≤ Z11 60 0 ∧ Z11 60 0 ≤ 2147483647 := hG11.pr 60 0
        have eq37 : Z26 60 1 = Z11 60 1 := ((hf26 60 1 rfl).trans ((hf19 60 1 rfl).trans (hf12 60 1 rfl)))
        have b38 : 0 ≤ Z11 60 1 ∧ Z11 60 1 ≤ 18 := by have hq : f60 (1 % 962) (Z11 60 1) := (by first | exact GI_ex hG11 60 1 | exact GB_ex hG11 60 1); unfold f60 at hq; omega
        have b39 : (-2147483648) ≤ Z11 60 1 ∧ Z11 60 1 ≤ 2147483647 := hG11.pr 60 1
        have eq40 : Z26 60 2 = Z11 60 2 := ((hf26 60 2 rfl).trans ((hf19 60 2 rfl).trans (hf12 60 2 rfl)))
        have b41 : 0 ≤ Z11 60 2 ∧ Z11 60 2 ≤ 18 := by have hq : f60 (2 % 962) (Z11 60 2) := (by first | exact GI_ex hG11 60 2 | exact GB_ex hG11 60 2); unfold f60 at hq; omega
        have b42 : (-2147483648) ≤ Z11 60 2 ∧ Z11 60 2 ≤ 2147483647 := hG11.pr 60 2
        have eq43 : WFF Z26  = WFF Z11 := ((WFF_c (fun i => hf26 60 i rfl)).trans ((WFF_c (fun i => hf19 60 i rfl)).trans (WFF_c (fun i => hf12 60 i rfl))))
        have eq44 : Z26 60 0 = Z11 60 0 := ((hf26 60 0 rfl).trans ((hf19 60 0 rfl).trans (hf12 60 0 rfl)))
        have eq45 : Z26 60 1 = Z11 60 1 := ((hf26 60 1 rfl).trans ((hf19 60 1 rfl).trans (hf12 60 1 rfl)))
        refine mx_J.step (sn_182 74) (fun _ _ => rfl) ?_
        refine JgetR (g := 4) (b := 60) hx26 (show mx_Sn _ _ 75 (mx_getf 12 4 78) from sn_182 75) a56 s56 rfl rfl (hG26.prr 56 4 rfl) ?_
        refine JcI (z := 28) (show mx_Sn _ _ 78 (mx_const (.int 28) 80) from sn_182 78) rfl ?_
        refine mx_J.step (sn_182 80) (fun _ _ => rfl) ?_
        refine JcI (z := 0) (show mx_Sn _ _ 81 (mx_const (.int 0) 82) from sn_182 81) rfl ?_
        refine JcI (z := 9) (show mx_Sn _ _ 82 (mx_const (.int 9) 84) from sn_182 82) rfl ?_
        have eq48 : Z26 56 8 = x0 := ((hf26 56 8 rfl).trans ((hf19 56 8 rfl).trans ((hf12 56 8 rfl).trans ((hf11 56 8 rfl).trans ((up_ni hE9 (by decide)).trans ((up_ni hE8 (by decide)).trans ((up_ni hE7 (by decide)).trans (up_at hE6))))))))
        have b49 : 0 ≤ Z26 56 10 ∧ Z26 56 10 ≤ 999 := hG26.pr 56 10
        obtain ⟨z47, Z47, h47, hc47, hx47, hG47, hf47, b47⟩ := ct_166_56x (T := T) (N := N) (sg := rdA T N) (d := d + 93) (l := l) (D := D) (b0 := b0) (ad := ad) (Hb := Hb) (tau := tau) hx26 hG26 (show 0 ≤ 0 ∧ 0 ≤ 1 by omega) (show 0 ≤ 9 ∧ 9 ≤ 18 by omega) (show (Z26 56 6 ≤ Z26 56 7 ∧ Z26 56 7 ≤ Z26 56 8 ∧ (Z26 56 9 = 24 ∨ Z26 56 6 < Z26 56 7)) by first | omega | (simp only [eq48]; omega)) f25_2
        try rw [eq48] at b47
        obtain ⟨br47, b47⟩ := b47
        obtain ⟨bs47_0, b47⟩ := b47
        have b50 : 0 ≤ Z47 56 6 ∧ Z47 56 6 ≤ 900 := hG47.pr 56 6
        have b51 : 0 ≤ Z47 56 7 ∧ Z47 56 7 ≤ 900 := hG47.pr 56 7
        have b52 : 0 ≤ Z47 56 9 ∧ Z47 56 9 ≤ 100 := hG47.pr 56 9
        have b53 : 0 ≤ Z47 56 11 ∧ Z47 56 11 ≤ 4 := hG47.pr 56 11
        refine Jcv hx26 (show mx_Sn _ _ 84 (mx_callv 166 3 12 87) from sn_182 84) a56 s56 hc47 rfl rfl rfl ?_
        have eq54 : Z47 56 8 = x0 := ((hf47 56 8 rfl).trans ((hf26 56 8 rfl).trans ((hf19 56 8 rfl).trans ((hf12 56 8 rfl).trans ((hf11 56 8 rfl).trans ((up_ni hE9 (by decide)).trans ((up_ni hE8 (by decide)).trans ((up_ni hE7 (by decide)).trans (up_at hE6)))))))))
        have eq55 : Z47 60 61 = Z11 60 61 := ((hf47 60 61 rfl).trans ((hf26 60 61 rfl).trans ((hf19 60 61 rfl).trans (hf12 60 61 rfl))))
        have eq56 : Z47 60 0 = Z11 60 0 := ((hf47 60 0 rfl).trans ((hf26 60 0 rfl).trans ((hf19 60 0 rfl).trans (hf12 60 0 rfl))))
        have eq57 : Z47 60 1 = Z11 60 1 := ((hf47 60 1 rfl).trans ((hf26 60 1 rfl).trans ((hf19 60 1 rfl).trans (hf12 60 1 rfl))))
        have eq58 : Z47 60 2 = Z11 60 2 := ((hf47 60 2 rfl).trans ((hf26 60 2 rfl).trans ((hf19 60 2 rfl).trans (hf12 60 2 rfl))))
        have eq59 : WFF Z47  = WFF Z11 := ((WFF_c (fun i => hf47 60 i rfl)).trans ((WFF_c (fun i => hf26 60 i rfl)).trans ((WFF_c (fun i => hf19 60 i rfl)).trans (WFF_c (fun i => hf12 60 i rfl)))))
        refine JiastI hx47 (show mx_Sn _ _ 87 (mx_iast 1 88) from sn_182 87) a60 s60 rfl (by omega) (fun Z60 h60 hx60 hE60 => ?_)
        have hG60 := GI_up hG47 hE60 (show (-2147483648) ≤ z47 ∧ z47 ≤ 2147483647 by omega) (show f60 ((28) % 962) (z47) by first | assumption | (unfold f60; omega) | (unfold f60 at *; omega)) rfl
        have w28 : (Z47 56 11) = 0 → WFF Z60 = 1 := fun e => wf_28 hE60 (by omega) (by omega)
        refine mx_J.step (sn_182 88) (fun _ _ => rfl) ?_
        have rc62 : RMx T N Z60 (gTk T N 0 9 (rdA T N)) := RMx_c br47 ⟨(up_nk hE60 rfl), (up_nk hE60 rfl), (up_nk hE60 rfl), (up_nk hE60 rfl), (up_nk hE60 rfl), (up_nk hE60 rfl), (up_nk hE60 rfl), fun i => (up_nk hE60 rfl)⟩ (up_ni hE60 (by decide)) (fun i h62 => (up_ni hE60 (by omega))) trivial
        have eq63 : Z60 56 6 = Z47 56 6 := (up_nk hE60 rfl)
        have eq64 : Z60 56 7 = Z47 56 7 := (up_nk hE60 rfl)
        have eq65 : Z60 56 8 = x0 := ((up_nk hE60 rfl).trans ((hf47 56 8 rfl).trans ((hf26 56 8 rfl).trans ((hf19 56 8 rfl).trans ((hf12 56 8 rfl).trans ((hf11 56 8 rfl).trans ((up_ni hE9 (by decide)).trans ((up_ni hE8 (by decide)).trans ((up_ni hE7 (by decide)).trans (up_at hE6))))))))))
        have eq66 : Z60 56 9 = Z47 56 9 := (up_nk hE60 rfl)
        have eq67 : Z60 56 11 = Z47 56 11 := (up_nk hE60 rfl)
        have eq68 : Z60 60 61 = Z11 60 61 := ((up_ni hE60 (by decide)).trans ((hf47 60 61 rfl).trans ((hf26 60 61 rfl).trans ((hf19 60 61 rfl).trans (hf12 60 61 rfl)))))
        have eq69 : Z60 60 0 = Z11 60 0 := ((up_ni hE60 (by decide)).trans ((hf47 60 0 rfl).trans ((hf26 60 0 rfl).trans ((hf19 60 0 rfl).trans (hf12 60 0 rfl)))))
        have eq70 : Z60 60 1 = Z11 60 1 := ((up_ni hE60 (by decide)).trans ((hf47 60 1 rfl).trans ((hf26 60 1 rfl).trans ((hf19 60 1 rfl).trans (hf12 60 1 rfl)))))
        have eq71 : Z60 60 2 = Z11 60 2 := ((up_ni hE60 (by decide)).trans ((hf47 60 2 rfl).trans ((hf26 60 2 rfl).trans ((hf19 60 2 rfl).trans (hf12 60 2 rfl)))))
        obtain ⟨Z61, h61, hc61, hx61, hG61, hf61, b61⟩ := ct_181_56 (T := T) (N := N) (sg := gTk T N 0 9 (rdA T N)) (d := d + 92) (l := l) (D := D) (b0 := b0) (ad := ad) (Hb := Hb) (tau := tau) hx60 hG60  (show (Z60 56 6 ≤ Z60 56 7 ∧ Z60 56 7 ≤ Z60 56 8 ∧ (Z60 56 9 = 24 ∨ Z60 56 6 < Z60 56 7)) by first | omega | (simp only [eq63, eq64, eq65, eq66, eq67, eq68, eq69, eq70, eq71]; omega)) (show (0 ≤ Z60 60 0 ∧ Z60 60 0 ≤ 901) by first | omega | (simp only [eq63, eq64, eq65, eq66, eq67, eq68, eq69, eq70, eq71]; omega)) rc62
        try rw [eq63] at b61
        try rw [eq64] at b61
        try rw [eq65] at b61
        try rw [eq66] at b61
        try rw [eq67] at b61
        try rw [eq68] at b61
        try rw [eq69] at b61
        try rw [eq70] at b61
        try rw [eq71] at b61
        obtain ⟨br61, b61⟩ := b61
        have b72 : 0 ≤ Z61 56 6 ∧ Z61 56 6 ≤ 900 := hG61.pr 56 6
        have b73 : 0 ≤ Z61 56 7 ∧ Z61 56 7 ≤ 900 := hG61.pr 56 7
        have b74 : 0 ≤ Z61 56 9 ∧ Z61 56 9 ≤ 100 := hG61.pr 56 9
        have b75 : 0 ≤ Z61 56 11 ∧ Z61 56 11 ≤ 4 := hG61.pr 56 11
        have b76 : 0 ≤ Z61 60 61 ∧ Z61 60 61 ≤ 900 := by have hq : f60 (61 % 962) (Z61 60 61) := (by first | exact GI_ex hG61 60 61 | exact GB_ex hG61 60 61); unfold f60 at hq; omega
        have b77 : (-2147483648) ≤ Z61 60 61 ∧ Z61 60 61 ≤ 2147483647 := hG61.pr 60 61
        have b78 : (-2147483648) ≤ Z61 60 0 ∧ Z61 60 0 ≤ 2147483647 := hG61.pr 60 0
        have b79 : 0 ≤ Z61 60 1 ∧ Z61 60 1 ≤ 18 := by have hq : f60 (1 % 962) (Z61 60 1) := (by first | exact GI_ex hG61 60 1 | exact GB_ex hG61 60 1); unfold f60 at hq; omega
        have b80 : (-2147483648) ≤ Z61 60 1 ∧ Z61 60 1 ≤ 2147483647 := hG61.pr 60 1
        have b81 : 0 ≤ Z61 60 2 ∧ Z61 60 2 ≤ 18 := by have hq : f60 (2 % 962) (Z61 60 2) := (by first | exact GI_ex hG61 60 2 | exact GB_ex hG61 60 2); unfold f60 at hq; omega
        have b82 : (-2147483648) ≤ Z61 60 2 ∧ Z61 60 2 ≤ 2147483647 := hG61.pr 60 2
        refine Jcv0 hx60 (show mx_Sn _ _ 89 (mx_callv 181 1 12 92) from sn_182 89) a56 s56 hc61 rfl rfl rfl ?_
        have c92 : ∀ (m83 : Nat) (sg83 : SS) (Z84 : xZ) (h84 : mx_H), ((((Z84 56 8 - Z84 56 6) * 5 + 4 - Z84 56 11).toNat : Nat) : Int) < (m83 : Int) → RMx T N Z84 sg83 → (Z84 56 6 ≤ Z84 56 7 ∧ Z84 56 7 ≤ Z84 56 8 ∧ (Z84 56 9 = 24 ∨ Z84 56 6 < Z84 56 7) ∧ Z84 60 61 ≤ Z84 56 6 ∧ Z84 60 2 ≤ Z84 60 1 ∧ Z84 60 1 ≤ 18 * Z84 60 2 ∧ (Z84 56 11 = 0 → WFF Z84 = 1)) → (0 ≤ Z84 60 0 ∧ Z84 60 0 ≤ Z84 56 6 + 1 + Z84 56 11) → LK T N sg83 (Z84 60 1) (Z84 60 0) → XH n s S Z84 h84 → GI n S Z84 → fr' [(56, 6), (56, 7), (56, 9), (56, 10), (56, 11), (56, 12), (60, (-1))] Z61 Z84 → mx_J (tB l D b0 ad Hb tau) mt_182 (d + 100) 92 [some (.ref 56), some (xI x0), none] [] h84 Post := by
          intro m83
          induction m83 with
          | zero => intro sg83 Z84 h84 q83 f83_0 f83_1 f83_2 f83_3 hx84 hG84 hf84; exact absurd q83 (by omega)
          | succ m83 ih83 =>
            intro sg83 Z84 h84 q83 f83_0 f83_1 f83_2 f83_3 hx84 hG84 hf84
            clear b4 b11 b12 b19 b47 b61
            have b85 : 0 ≤ Z84 56 6 ∧ Z84 56 6 ≤ 900 := hG84.pr 56 6
            have b86 : 0 ≤ Z84 56 7 ∧ Z84 56 7 ≤ 900 := hG84.pr 56 7
            have eq87 : Z84 56 8 = x0 := ((hf84 56 8 rfl).trans ((hf61 56 8 rfl).trans ((up_nk hE60 rfl).trans ((hf47 56 8 rfl).trans ((hf26 56 8 rfl).trans ((hf19 56 8 rfl).trans ((hf12 56 8 rfl).trans ((hf11 56 8 rfl).trans ((up_ni hE9 (by decide)).trans ((up_ni hE8 (by decide)).trans ((up_ni hE7 (by decide)).trans (up_at hE6))))))))))))
            have b88 : 0 ≤ Z84 56 9 ∧ Z84 56 9 ≤ 100 := hG84.pr 56 9
            have b89 : 0 ≤ Z84 56 11 ∧ Z84 56 11 ≤ 4 := hG84.pr 56 11
            have b90 : 0 ≤ Z84 60 61 ∧ Z84 60 61 ≤ 900 := by have hq : f60 (61 % 962) (Z84 60 61) := (by first | exact GI_ex hG84 60 61 | exact GB_ex hG84 60 61); unfold f60 at hq; omega
            have b91 : (-2147483648) ≤ Z84 60 61 ∧ Z84 60 61 ≤ 2147483647 := hG84.pr 60 61
            have b92 : (-2147483648) ≤ Z84 60 0 ∧ Z84 60 0 ≤ 2147483647 := hG84.pr 60 0
            have b93 : 0 ≤ Z84 60 1 ∧ Z84 60 1 ≤ 18 := by have hq : f60 (1 % 962) (Z84 60 1) := (by first | exact GI_ex hG84 60 1 | exact GB_ex hG84 60 1); unfold f60 at hq; omega
            have b94 : (-2147483648) ≤ Z84 60 1 ∧ Z84 60 1 ≤ 2147483647 := hG84.pr 60 1
            have b95 : 0 ≤ Z84 60 2 ∧ Z84 60 2 ≤ 18 := by have hq : f60 (2 % 962) (Z84 60 2) := (by first | exact GI_ex hG84 60 2 | exact GB_ex hG84 60 2); unfold f60 at hq; omega
            have b96 : (-2147483648) ≤ Z84 60 2 ∧ Z84 60 2 ≤ 2147483647 := hG84.pr 60 2
            have eq97 : Z84 56 8 = x0 := ((hf84 56 8 rfl).trans ((hf61 56 8 rfl).trans ((up_nk hE60 rfl).trans ((hf47 56 8 rfl).trans ((hf26 56 8 rfl).trans ((hf19 56 8 rfl).trans ((hf12 56 8 rfl).trans ((hf11 56 8 rfl).trans ((up_ni hE9 (by decide)).trans ((up_ni hE8 (by decide)).trans ((up_ni hE7 (by decide)).trans (up_at hE6))))))))))))
            have eq98 : Z84 56 8 = x0 := ((hf84 56 8 rfl).trans ((hf61 56 8 rfl).trans ((up_nk hE60 rfl).trans ((hf47 56 8 rfl).trans ((hf26 56 8 rfl).trans ((hf19 56 8 rfl).trans ((hf12 56 8 rfl).trans ((hf11 56 8 rfl).trans ((up_ni hE9 (by decide)).trans ((up_ni hE8 (by decide)).trans ((up_ni hE7 (by decide)).trans (up_at hE6))))))))))))
            refine mx_J.step (sn_182 92) (fun _ _ => rfl) ?_
            refine JgetI (g := 11) (z := Z84 56 11) hx84 (show mx_Sn _ _ 93 (mx_getf 12 11 96) from sn_182 93) a56 s56 rfl rfl rfl ?_
            have c119 : RZ T N sg83 (Z84 60 1) (Z84 60 0) → mx_J (tB l D b0 ad Hb tau) mt_182 (d + 100) 119 [some (.ref 56), some (xI x0), none] [] h84 Post := by
              intro f100_0
              have rzz : RZ T N sg83 (Z84 60 1) (Z84 60 0) := (by assumption)
              have rcc := f83_0
              have wge : ¬ (Z84 56 11) = 0 → 1 ≤ (Z84 56 11) := fun q => by omega
              refine mx_J.step (sn_182 119) (fun _ _ => rfl) ?_
              refine mx_J.step (sn_182 120) (fun _ _ => rfl) ?_
              refine JgetI (g := 11) (z := Z84 56 11) hx84 (show mx_Sn _ _ 121 (mx_getf 12 11 124) from sn_182 121) a56 s56 rfl rfl rfl ?_
              refine JputI (g := 13) hx84 (show mx_Sn _ _ 124 (mx_putf 1 12 13 (.int) 127) from sn_182 124) a56 s56 rfl rfl rfl rfl (fun Z102 h102 hx102 hE102 => ?_)
              have hG102 := GI_up hG84 hE102 (show 0 ≤ Z84 56 11 ∧ Z84 56 11 ≤ 4 by omega) trivial rfl
              refine mx_J.step (sn_182 127) (fun _ _ => rfl) ?_
              refine mx_J.step (sn_182 128) (fun _ _ => rfl) ?_
              refine JgetI (g := 11) (z := Z84 56 11) hx102 (show mx_Sn _ _ 129 (mx_getf 12 11 132) from sn_182 129) a56 s56 rfl rfl (up_ni hE102 (by decide)) ?_
              have c143 : ∀ (k104_1 : Int), (-1) ≤ k104_1 ∧ k104_1 ≤ 900 → (((Z84 56 11) = 0 → k104_1 = -1) ∧ (¬ (Z84 56 11) = 0 → k104_1 = (Z84 56 12))) → mx_J (tB l D b0 ad Hb tau) mt_182 (d + 100) 143 [some (.ref 56), some (xI x0), none] [xI k104_1, .ref 56] h102 Post := by
                intro k104_1 f104_0 f104_1
                refine JputI (g := 14) hx102 (show mx_Sn _ _ 143 (mx_putf 1 12 14 (.int) 146) from sn_182 143) a56 s56 rfl rfl rfl rfl (fun Z105 h105 hx105 hE105 => ?_)
                have hG105 := GI_up hG102 hE105 (show (-1) ≤ k104_1 ∧ k104_1 ≤ 900 by omega) trivial rfl
                refine mx_J.step (sn_182 146) (fun _ _ => rfl) ?_
                refine JgetI (g := 11) (z := Z84 56 11) hx105 (show mx_Sn _ _ 147 (mx_getf 12 11 150) from sn_182 147) a56 s56 rfl rfl ((up_ni hE105 (by decide)).trans (up_ni hE102 (by decide))) ?_
                refine Jif_eq (show mx_Sn _ _ 150 (mx_if_eq 161 153) from sn_182 150) (by omega) (fun q107 => ?_) (fun q107 => ?_)
                · skip
                  have eq108 : Z105 56 6 = Z84 56 6 := ((up_ni hE105 (by decide)).trans (up_ni hE102 (by decide)))
                  have eq109 : Z105 56 7 = Z84 56 7 := ((up_ni hE105 (by decide)).trans (up_ni hE102 (by decide)))
                  have eq110 : Z105 56 8 = x0 := ((up_ni hE105 (by decide)).trans ((up_ni hE102 (by decide)).trans ((hf84 56 8 rfl).trans ((hf61 56 8 rfl).trans ((up_nk hE60 rfl).trans ((hf47 56 8 rfl).trans ((hf26 56 8 rfl).trans ((hf19 56 8 rfl).trans ((hf12 56 8 rfl).trans ((hf11 56 8 rfl).trans ((up_ni hE9 (by decide)).trans ((up_ni hE8 (by decide)).trans ((up_ni hE7 (by decide)).trans (up_at hE6))))))))))))))
                  have eq111 : Z105 56 9 = Z84 56 9 := ((up_ni hE105 (by decide)).trans (up_ni hE102 (by decide)))
                  have eq112 : Z105 56 11 = Z84 56 11 := ((up_ni hE105 (by decide)).trans (up_ni hE102 (by decide)))
                  have eq113 : Z105 60 61 = Z84 60 61 := ((up_nk hE105 rfl).trans (up_nk hE102 rfl))
                  have eq114 : Z105 60 0 = Z84 60 0 := ((up_nk hE105 rfl).trans (up_nk hE102 rfl))
                  have eq115 : Z105 60 1 = Z84 60 1 := ((up_nk hE105 rfl).trans (up_nk hE102 rfl))
                  have eq116 : Z105 60 2 = Z84 60 2 := ((up_nk hE105 rfl).trans (up_nk hE102 rfl))
                  have eq117 : WFF Z105  = WFF Z84 := ((WFF_c (fun i => up_nk hE105 rfl)).trans (WFF_c (fun i => up_nk hE102 rfl)))
                  have hw9 : WFF Z105 = 1 := by omega
                  have le : Z105 60 0 = _ := ((up_nk hE105 rfl).trans (up_nk hE102 rfl))
                  have hGo : GI n S Z105 := hG105
                  have hG105 := GI_gb hGo
                  refine JcI (z := 0) (show mx_Sn _ _ 161 (mx_const (.int 0) 162) from sn_182 161) rfl ?_
                  refine mx_J.step (ls2 := [some (.ref 56), some (xI x0), some (xI 0)]) (sn_182 162) (fun _ _ => rfl) ?_
                  have c163 : ∀ (m118 : Nat) (w118_2 : Int) (sg118 : SS) (Z119 : xZ) (h119 : mx_H), 962 - w118_2 < (m118 : Int) → 0 ≤ w118_2 ∧ w118_2 ≤ 962 → RMx T N Z119 sg118 → CB Z119 Z105 w118_2 → XH n s S Z119 h119 → GB n S Z119 → fr' [(57, (-1))] Z105 Z119 → mx_J (tB l D b0 ad Hb tau) mt_182 (d + 100) 163 [some (.ref 56), some (xI x0), some (xI w118_2)] [] h119 Post := by
                    intro m118
                    induction m118 with
                    | zero => intro w118_2 sg118 Z119 h119 q118 f118_0 f118_1 f118_2 hx119 hG119 hf119; exact absurd q118 (by omega)
                    | succ m118 ih118 =>
                      intro w118_2 sg118 Z119 h119 q118 f118_0 f118_1 f118_2 hx119 hG119 hf119
                      refine mx_J.step (sn_182 163) (fun _ _ => rfl) ?_
                      refine JcI (z := 962) (show mx_Sn _ _ 164 (mx_const (.int 962) 167) from sn_182 164) rfl ?_
                      refine Jicmp_ge (show mx_Sn _ _ 167 (mx_icmp_ge 188 170) from sn_182 167) (by omega) (by omega) (fun q120 => ?_) (fun q120 => ?_)
                      · skip
                        have cz : CB Z119 Z105 962 := (show w118_2 = (962 : Int) by omega) ▸ (by assumption : CB Z119 Z105 w118_2)
                        have cz1 : Z119 57 1 = Z105 60 1 := (cz 1).trans (if_pos (by decide))
                        have cz2 : Z119 57 2 = Z105 60 2 := (cz 2).trans (if_pos (by decide))
                        have cz9 : Z119 57 963 = Z105 57 963 := (cz 963).trans (if_neg (by decide))
                        have cz8 : Z119 57 1925 = Z105 57 1925 := (cz 1925).trans (if_neg (by decide))
                        have eq121 : Z105 57 963 = Z 57 963 := ((up_nk hE105 rfl).trans ((up_nk hE102 rfl).trans ((hf84 57 963 rfl).trans ((hf61 57 963 rfl).trans ((up_nk hE60 rfl).trans ((hf47 57 963 rfl).trans ((hf26 57 963 rfl).trans ((hf19 57 963 rfl).trans ((hf12 57 963 rfl).trans ((hf11 57 963 rfl).trans ((up_nk hE9 rfl).trans ((up_nk hE8 rfl).trans ((up_nk hE7 rfl).trans ((up_nk hE6 rfl).trans (up_nk hE1 rfl)))))))))))))))
                        have b122 : 0 ≤ Z 57 963 ∧ Z 57 963 ≤ 18 := by have hq : f57 (963 % 962) (Z 57 963) := (by first | exact GI_ex (GI_gb hG) 57 963 | exact GB_ex (GI_gb hG) 57 963); unfold f57 at hq; omega
                        have b123 : (-2147483648) ≤ Z 57 963 ∧ Z 57 963 ≤ 2147483647 := (GI_gb hG).pr 57 963
                        have eq124 : Z105 57 1925 = Z 57 1925 := ((up_nk hE105 rfl).trans ((up_nk hE102 rfl).trans ((hf84 57 1925 rfl).trans ((hf61 57 1925 rfl).trans ((up_nk hE60 rfl).trans ((hf47 57 1925 rfl).trans ((hf26 57 1925 rfl).trans ((hf19 57 1925 rfl).trans ((hf12 57 1925 rfl).trans ((hf11 57 1925 rfl).trans ((up_nk hE9 rfl).trans ((up_nk hE8 rfl).trans ((up_nk hE7 rfl).trans ((up_nk hE6 rfl).trans (up_nk hE1 rfl)))))))))))))))
                        have b125 : 0 ≤ Z 57 1925 ∧ Z 57 1925 ≤ 18 := by have hq : f57 (1925 % 962) (Z 57 1925) := (by first | exact GI_ex (GI_gb hG) 57 1925 | exact GB_ex (GI_gb hG) 57 1925); unfold f57 at hq; omega
                        have b126 : (-2147483648) ≤ Z 57 1925 ∧ Z 57 1925 ≤ 2147483647 := (GI_gb hG).pr 57 1925
                        have eq127 : Z105 60 1 = Z84 60 1 := ((up_nk hE105 rfl).trans (up_nk hE102 rfl))
                        have b128 : 0 ≤ Z84 60 1 ∧ Z84 60 1 ≤ 18 := by have hq : f60 (1 % 962) (Z84 60 1) := (by first | exact GI_ex hG84 60 1 | exact GB_ex hG84 60 1); unfold f60 at hq; omega
                        have b129 : (-2147483648) ≤ Z84 60 1 ∧ Z84 60 1 ≤ 2147483647 := hG84.pr 60 1
                        have eq130 : Z105 60 2 = Z84 60 2 := ((up_nk hE105 rfl).trans (up_nk hE102 rfl))
                        have b131 : 0 ≤ Z84 60 2 ∧ Z84 60 2 ≤ 18 := by have hq : f60 (2 % 962) (Z84 60 2) := (by first | exact GI_ex hG84 60 2 | exact GB_ex hG84 60 2); unfold f60 at hq; omega
                        have b132 : (-2147483648) ≤ Z84 60 2 ∧ Z84 60 2 ≤ 2147483647 := hG84.pr 60 2
                        refine mx_J.step (sn_182 188) (fun _ _ => rfl) ?_
                        obtain ⟨Z133, h133, hc133, hx133, hG133, hf133⟩ := ct_186_56_gb (d := d + 99) (l := l) (D := D) (b0 := b0) (ad := ad) (Hb := Hb) (tau := tau) hx119 hG119 
                        refine Jcv0 hx119 (show mx_Sn _ _ 189 (mx_callv 186 1 12 192) from sn_182 189) a56 s56 hc133 rfl rfl rfl ?_
                        refine JcI (z := 0) (show mx_Sn _ _ 192 (mx_const (.int 0) 193) from sn_182 192) rfl ?_
                        refine mx_J.step (ls2 := [some (.ref 56), some (xI x0), some (xI 0)]) (sn_182 193) (fun _ _ => rfl) ?_
                        have c194 : ∀ (m134 : Nat) (w134_2 : Int) (sg134 : SS) (Z135 : xZ) (h135 : mx_H), 18 - w134_2 < (m134 : Int) → 0 ≤ w134_2 ∧ w134_2 ≤ 18 → RMx T N Z135 sg134 → XH n s S Z135 h135 → GB n S Z135 → fr' [(62, (-1))] Z133 Z135 → mx_J (tB l D b0 ad Hb tau) mt_182 (d + 100) 194 [some (.ref 56), some (xI x0), some (xI w134_2)] [] h135 Post := by
                          intro m134
                          induction m134 with
                          | zero => intro w134_2 sg134 Z135 h135 q134 f134_0 f134_1 hx135 hG135 hf135; exact absurd q134 (by omega)
                          | succ m134 ih134 =>
                            intro w134_2 sg134 Z135 h135 q134 f134_0 f134_1 hx135 hG135 hf135
                            refine mx_J.step (sn_182 194) (fun _ _ => rfl) ?_
                            refine mx_J.step (sn_182 195) (fun _ _ => rfl) ?_
                            refine JgetR (g := 1) (b := 57) hx135 (show mx_Sn _ _ 196 (mx_getf 12 1 199) from sn_182 196) a56 s56 rfl rfl (hG135.prr 56 1 rfl) ?_
                            refine JcI (z := 2) (show mx_Sn _ _ 199 (mx_const (.int 2) 200) from sn_182 199) rfl ?_
                            have b137 : 0 ≤ Z119 57 2 ∧ Z119 57 2 ≤ 18 := by have hq : f57 (2 % 962) (Z119 57 2) := (by first | exact GI_ex hG119 57 2 | exact GB_ex hG119 57 2); unfold f57 at hq; omega
                            have b138 : (-2147483648) ≤ Z119 57 2 ∧ Z119 57 2 ≤ 2147483647 := hG119.pr 57 2
                            refine JialdI (z := Z119 57 2) hx135 (show mx_Sn _ _ 200 (mx_iald 201) from sn_182 200) a57 s57 (by omega) ((hf135 57 2 rfl).trans (hf133 57 2 rfl)) ?_
                            refine Jicmp_ge (show mx_Sn _ _ 201 (mx_icmp_ge 224 204) from sn_182 201) (by omega) (by omega) (fun q139 => ?_) (fun q139 => ?_)
                            · skip
                              have ha : ∀ i, Z135 57 i = Z119 57 i := fun i => (fr_tr (M := [(62, (-1))]) (fr_tr (M := [(62, (-1))]) fr_rf (hf133) (M1 := []) rfl rfl) (hf135) rfl rfl) 57 i rfl
                              refine mx_J.step (sn_182 224) (fun _ _ => rfl) ?_
                              refine JgetR (g := 1) (b := 57) hx135 (show mx_Sn _ _ 225 (mx_getf 12 1 228) from sn_182 225) a56 s56 rfl rfl (hG135.prr 56 1 rfl) ?_
                              refine JcI (z := 2) (show mx_Sn _ _ 228 (mx_const (.int 2) 229) from sn_182 228) rfl ?_
                              refine JialdI (z := Z119 57 2) hx135 (show mx_Sn _ _ 229 (mx_iald 230) from sn_182 229) a57 s57 (by omega) ((hf135 57 2 rfl).trans (hf133 57 2 rfl)) ?_
                              have c247 : ∀ (sg141 : SS) (Z142 : xZ) (h142 : mx_H), RMx T N Z142 sg141 → (∀ i, ¬ i = 1 → Z142 57 i = Z119 57 i) → ((Z119 57 2 = 0 → Z142 57 1 = 1) ∧ (¬ Z119 57 2 = 0 → Z142 57 1 = Z119 57 1)) → XH n s S Z142 h142 → GB n S Z142 → fr' [(57, (-1)), (62, (-1))] Z135 Z142 → mx_J (tB l D b0 ad Hb tau) mt_182 (d + 100) 247 [some (.ref 56), some (xI x0), some (xI w134_2)] [] h142 Post := by
                                intro sg141 Z142 h142 f141_0 f141_1 f141_2 hx142 hG142 hf142
                                refine mx_J.step (sn_182 247) (fun _ _ => rfl) ?_
                                have b144 : 0 ≤ Z142 57 1 ∧ Z142 57 1 ≤ 18 := by have hq : f57 (1 % 962) (Z142 57 1) := (by first | exact GI_ex hG142 57 1 | exact GB_ex hG142 57 1); unfold f57 at hq; omega
                                have b145 : (-2147483648) ≤ Z142 57 1 ∧ Z142 57 1 ≤ 2147483647 := hG142.pr 57 1
                                obtain ⟨Z143, h143, hc143, hx143, hG143, hf143, b143⟩ := ct_184_56 (d := d + 80) (l := l) (D := D) (b0 := b0) (ad := ad) (Hb := Hb) (tau := tau) hx142 hG142 
                                obtain ⟨bs143_0, b143⟩ := b143
                                have b146 : 0 ≤ Z143 56 18 ∧ Z143 56 18 ≤ 385 := hG143.pr 56 18
                                refine Jcv0 hx142 (show mx_Sn _ _ 248 (mx_callv 184 1 12 251) from sn_182 248) a56 s56 hc143 rfl rfl rfl ?_
                                have rtb9 := bs143_0
                                have eq147 : Z143 57 1 = Z142 57 1 := (hf143 57 1 rfl)
                                have hGx148 : GI n S Z143 := ⟨hG143, ba_fin hGo cz hw9 (by omega) (fun i hi => (hf143 57 i rfl).trans ((by assumption : ∀ i, ¬ i = 1 → Z142 57 i = Z119 57 i) i hi)) (by have hq := GB_ex hG143 57 1; replace hq : f57 (1 % 962) (Z143 57 1) := hq; unfold f57 at hq; omega) ((fr_tr (M := [(56, 0), (56, 5), (56, 6), (56, 7), (56, 8), (56, 9), (56, 10), (56, 11), (56, 12), (56, 13), (56, 14), (56, 18), (57, (-1)), (60, (-1)), (61, (-1)), (62, (-1)), (63, (-1))]) (fr_tr (M := [(56, 0), (56, 5), (56, 6), (56, 7), (56, 8), (56, 9), (56, 10), (56, 11), (56, 12), (56, 13), (56, 14), (56, 18), (57, (-1)), (60, (-1)), (61, (-1)), (62, (-1)), (63, (-1))]) (fr_tr (M := [(56, 0), (56, 5), (56, 6), (56, 7), (56, 8), (56, 9), (56, 10), (56, 11), (56, 12), (56, 13), (56, 14), (56, 18), (57, (-1)), (60, (-1)), (61, (-1)), (62, (-1)), (63, (-1))]) (fr_tr (M := [(56, 0), (56, 5), (56, 6), (56, 7), (56, 8), (56, 9), (56, 10), (56, 11), (56, 12), (56, 13), (56, 14), (56, 18), (57, (-1)), (60, (-1)), (61, (-1)), (62, (-1)), (63, (-1))]) (fr_tr (M := [(56, 0), (56, 5), (56, 6), (56, 7), (56, 8), (56, 9), (56, 10), (56, 11), (56, 12), (56, 13), (56, 14), (56, 18), (57, (-1)), (60, (-1)), (61, (-1)), (62, (-1)), (63, (-1))]) fr_rf (hf119) (M1 := []) rfl rfl) (hf133) rfl rfl) (hf135) rfl rfl) (hf142) rfl rfl) (hf143) rfl rfl) 7 5 rfl) (fun i => (fr_tr (M := [(56, 0), (56, 5), (56, 6), (56, 7), (56, 8), (56, 9), (56, 10), (56, 11), (56, 12), (56, 13), (56, 14), (56, 18), (57, (-1)), (60, (-1)), (61, (-1)), (62, (-1)), (63, (-1))]) (fr_tr (M := [(56, 0), (56, 5), (56, 6), (56, 7), (56, 8), (56, 9), (56, 10), (56, 11), (56, 12), (56, 13), (56, 14), (56, 18), (57, (-1)), (60, (-1)), (61, (-1)), (62, (-1)), (63, (-1))]) (fr_tr (M := [(56, 0), (56, 5), (56, 6), (56, 7), (56, 8), (56, 9), (56, 10), (56, 11), (56, 12), (56, 13), (56, 14), (56, 18), (57, (-1)), (60, (-1)), (61, (-1)), (62, (-1)), (63, (-1))]) (fr_tr (M := [(56, 0), (56, 5), (56, 6), (56, 7), (56, 8), (56, 9), (56, 10), (56, 11), (56, 12), (56, 13), (56, 14), (56, 18), (57, (-1)), (60, (-1)), (61, (-1)), (62, (-1)), (63, (-1))]) (fr_tr (M := [(56, 0), (56, 5), (56, 6), (56, 7), (56, 8), (56, 9), (56, 10), (56, 11), (56, 12), (56, 13), (56, 14), (56, 18), (57, (-1)), (60, (-1)), (61, (-1)), (62, (-1)), (63, (-1))]) fr_rf (hf119) (M1 := []) rfl rfl) (hf133) rfl rfl) (hf135) rfl rfl) (hf142) rfl rfl) (hf143) rfl rfl) 9 i rfl) (fun i => (fr_tr (M := [(56, 0), (56, 5), (56, 6), (56, 7), (56, 8), (56, 9), (56, 10), (56, 11), (56, 12), (56, 13), (56, 14), (56, 18), (57, (-1)), (60, (-1)), (61, (-1)), (62, (-1)), (63, (-1))]) (fr_tr (M := [(56, 0), (56, 5), (56, 6), (56, 7), (56, 8), (56, 9), (56, 10), (56, 11), (56, 12), (56, 13), (56, 14), (56, 18), (57, (-1)), (60, (-1)), (61, (-1)), (62, (-1)), (63, (-1))]) (fr_tr (M := [(56, 0), (56, 5), (56, 6), (56, 7), (56, 8), (56, 9), (56, 10), (56, 11), (56, 12), (56, 13), (56, 14), (56, 18), (57, (-1)), (60, (-1)), (61, (-1)), (62, (-1)), (63, (-1))]) (fr_tr (M := [(56, 0), (56, 5), (56, 6), (56, 7), (56, 8), (56, 9), (56, 10), (56, 11), (56, 12), (56, 13), (56, 14), (56, 18), (57, (-1)), (60, (-1)), (61, (-1)), (62, (-1)), (63, (-1))]) (fr_tr (M := [(56, 0), (56, 5), (56, 6), (56, 7), (56, 8), (56, 9), (56, 10), (56, 11), (56, 12), (56, 13), (56, 14), (56, 18), (57, (-1)), (60, (-1)), (61, (-1)), (62, (-1)), (63, (-1))]) fr_rf (hf119) (M1 := []) rfl rfl) (hf133) rfl rfl) (hf135) rfl rfl) (hf142) rfl rfl) (hf143) rfl rfl) 10 i rfl) (by have e9 : Z143 57 1 = (Z142 57 1) := (by omega); rw [e9]; exact b143)⟩
                                have hG143 := hGx148
                                refine mx_J.step (sn_182 251) (fun _ _ => rfl) ?_
                                refine JgetR (g := 1) (b := 57) hx143 (show mx_Sn _ _ 252 (mx_getf 12 1 255) from sn_182 252) a56 s56 rfl rfl (hG143.prr 56 1 rfl) ?_
                                refine JcI (z := 27) (show mx_Sn _ _ 255 (mx_const (.int 27) 257) from sn_182 255) rfl ?_
                                refine mx_J.step (sn_182 257) (fun _ _ => rfl) ?_
                                have b151 : 0 ≤ Z143 56 18 ∧ Z143 56 18 ≤ 385 := hG143.pr 56 18
                                obtain ⟨z150, Z150, h150, hc150, hx150, hG150, hf150, b150⟩ := ct_188_56 (d := d + 98) (l := l) (D := D) (b0 := b0) (ad := ad) (Hb := Hb) (tau := tau) hx143 hG143 
                                refine Jcv hx143 (show mx_Sn _ _ 258 (mx_callv 188 1 12 261) from sn_182 258) a56 s56 hc150 rfl rfl rfl ?_
                                refine JiastI hx150 (show mx_Sn _ _ 261 (mx_iast 1 262) from sn_182 261) a57 s57 rfl (by omega) (fun Z152 h152 hx152 hE152 => ?_)
                                have eq153 : Z150 56 18 = Z143 56 18 := (hf150 56 18 rfl)
                                have hG152 := GI_up57 hG150 hE152 (show (-2147483648) ≤ z150 ∧ z150 ≤ 2147483647 by omega) (show f57 ((27) % 962) (z150) by first | assumption | (unfold f57; omega) | (unfold f57 at *; omega)) (by omega) (by omega)
                                refine mx_J.step (sn_182 262) (fun _ _ => rfl) ?_
                                refine JgetR (g := 1) (b := 57) hx152 (show mx_Sn _ _ 263 (mx_getf 12 1 266) from sn_182 263) a56 s56 rfl rfl (hG152.prr 56 1 rfl) ?_
                                refine JcI (z := 0) (show mx_Sn _ _ 266 (mx_const (.int 0) 267) from sn_182 266) rfl ?_
                                have b155 : (-2147483648) ≤ Z142 57 0 ∧ Z142 57 0 ≤ 2147483647 := hG142.pr 57 0
                                refine JialdI (z := Z142 57 0) hx152 (show mx_Sn _ _ 267 (mx_iald 268) from sn_182 267) a57 s57 (by omega) ((up_ni hE152 (by decide)).trans ((hf150 57 0 rfl).trans (hf143 57 0 rfl))) ?_
                                have lc : Z119 57 0 = Z105 60 0 := (cz 0).trans (if_pos (by decide))
                                have ld := (by assumption : ∀ i, ¬ i = 1 → Z142 57 i = Z119 57 i) 0 (by decide)
                                have lk9 := (by assumption : ∀ i, ¬ i = 1 → Z142 57 i = Z119 57 i) 963 (by decide)
                                have lk8 := (by assumption : ∀ i, ¬ i = 1 → Z142 57 i = Z119 57 i) 1925 (by decide)
                                have eq156 : Z152 57 963 = Z142 57 963 := ((up_ni hE152 (by decide)).trans ((hf150 57 963 rfl).trans (hf143 57 963 rfl)))
                                have b157 : 0 ≤ Z142 57 963 ∧ Z142 57 963 ≤ 18 := by have hq : f57 (963 % 962) (Z142 57 963) := (by first | exact GI_ex hG142 57 963 | exact GB_ex hG142 57 963); unfold f57 at hq; omega
                                have b158 : (-2147483648) ≤ Z142 57 963 ∧ Z142 57 963 ≤ 2147483647 := hG142.pr 57 963
                                have eq159 : Z152 57 1925 = Z142 57 1925 := ((up_ni hE152 (by decide)).trans ((hf150 57 1925 rfl).trans (hf143 57 1925 rfl)))
                                have b160 : 0 ≤ Z142 57 1925 ∧ Z142 57 1925 ≤ 18 := by have hq : f57 (1925 % 962) (Z142 57 1925) := (by first | exact GI_ex hG142 57 1925 | exact GB_ex hG142 57 1925); unfold f57 at hq; omega
                                have b161 : (-2147483648) ≤ Z142 57 1925 ∧ Z142 57 1925 ≤ 2147483647 := hG142.pr 57 1925
                                have eq162 : Z152 56 5 = 0 := ((up_nk hE152 rfl).trans ((hf150 56 5 rfl).trans ((hf143 56 5 rfl).trans ((hf142 56 5 rfl).trans ((hf135 56 5 rfl).trans ((hf133 56 5 rfl).trans ((hf119 56 5 rfl).trans ((up_ni hE105 (by decide)).trans ((up_ni hE102 (by decide)).trans ((hf84 56 5 rfl).trans ((hf61 56 5 rfl).trans ((up_nk hE60 rfl).trans ((hf47 56 5 rfl).trans ((hf26 56 5 rfl).trans ((hf19 56 5 rfl).trans ((hf12 56 5 rfl).trans ((hf11 56 5 rfl).trans ((up_ni hE9 (by decide)).trans ((up_ni hE8 (by decide)).trans (up_at hE7))))))))))))))))))))
                                have eq163 : Z152 56 13 = Z84 56 11 := ((up_nk hE152 rfl).trans ((hf150 56 13 rfl).trans ((hf143 56 13 rfl).trans ((hf142 56 13 rfl).trans ((hf135 56 13 rfl).trans ((hf133 56 13 rfl).trans ((hf119 56 13 rfl).trans ((up_ni hE105 (by decide)).trans (up_at hE102)))))))))
                                have eq164 : Z152 56 14 = k104_1 := ((up_nk hE152 rfl).trans ((hf150 56 14 rfl).trans ((hf143 56 14 rfl).trans ((hf142 56 14 rfl).trans ((hf135 56 14 rfl).trans ((hf133 56 14 rfl).trans ((hf119 56 14 rfl).trans (up_at hE105))))))))
                                have eq165 : Z152 57 963 = Z142 57 963 := ((up_ni hE152 (by decide)).trans ((hf150 57 963 rfl).trans (hf143 57 963 rfl)))
                                have eq166 : Z152 57 1925 = Z142 57 1925 := ((up_ni hE152 (by decide)).trans ((hf150 57 1925 rfl).trans (hf143 57 1925 rfl)))
                                have eq167 : Z152 56 5 = 0 := ((up_nk hE152 rfl).trans ((hf150 56 5 rfl).trans ((hf143 56 5 rfl).trans ((hf142 56 5 rfl).trans ((hf135 56 5 rfl).trans ((hf133 56 5 rfl).trans ((hf119 56 5 rfl).trans ((up_ni hE105 (by decide)).trans ((up_ni hE102 (by decide)).trans ((hf84 56 5 rfl).trans ((hf61 56 5 rfl).trans ((up_nk hE60 rfl).trans ((hf47 56 5 rfl).trans ((hf26 56 5 rfl).trans ((hf19 56 5 rfl).trans ((hf12 56 5 rfl).trans ((hf11 56 5 rfl).trans ((up_ni hE9 (by decide)).trans ((up_ni hE8 (by decide)).trans (up_at hE7))))))))))))))))))))
                                have eq168 : Z152 56 13 = Z84 56 11 := ((up_nk hE152 rfl).trans ((hf150 56 13 rfl).trans ((hf143 56 13 rfl).trans ((hf142 56 13 rfl).trans ((hf135 56 13 rfl).trans ((hf133 56 13 rfl).trans ((hf119 56 13 rfl).trans ((up_ni hE105 (by decide)).trans (up_at hE102)))))))))
                                have eq169 : Z152 56 14 = k104_1 := ((up_nk hE152 rfl).trans ((hf150 56 14 rfl).trans ((hf143 56 14 rfl).trans ((hf142 56 14 rfl).trans ((hf135 56 14 rfl).trans ((hf133 56 14 rfl).trans ((hf119 56 14 rfl).trans (up_at hE105))))))))
                                have eq170 : Z152 57 963 = Z142 57 963 := ((up_ni hE152 (by decide)).trans ((hf150 57 963 rfl).trans (hf143 57 963 rfl)))
                                have eq171 : Z152 57 1925 = Z142 57 1925 := ((up_ni hE152 (by decide)).trans ((hf150 57 1925 rfl).trans (hf143 57 1925 rfl)))
                                have eq172 : Z152 57 1 = Z142 57 1 := ((up_ni hE152 (by decide)).trans ((hf150 57 1 rfl).trans (hf143 57 1 rfl)))
                                have b173 : 0 ≤ Z142 57 1 ∧ Z142 57 1 ≤ 18 := by have hq : f57 (1 % 962) (Z142 57 1) := (by first | exact GI_ex hG142 57 1 | exact GB_ex hG142 57 1); unfold f57 at hq; omega
                                have b174 : (-2147483648) ≤ Z142 57 1 ∧ Z142 57 1 ≤ 2147483647 := hG142.pr 57 1
                                exact mx_J.ret (sn_182 268) (fun _ _ => rfl) (hP (Z142 57 0) Z152 h152 hx152 hG152 (fr_tr (M := [(56, 0), (56, 5), (56, 6), (56, 7), (56, 8), (56, 9), (56, 10), (56, 11), (56, 12), (56, 13), (56, 14), (56, 18), (57, (-1)), (60, (-1)), (61, (-1)), (62, (-1)), (63, (-1))]) (fr_tr (M := [(56, 0), (56, 5), (56, 6), (56, 7), (56, 8), (56, 9), (56, 10), (56, 11), (56, 12), (56, 13), (56, 14), (56, 18), (57, (-1)), (60, (-1)), (61, (-1)), (62, (-1)), (63, (-1))]) (fr_tr (M := [(56, 0), (56, 5), (56, 6), (56, 7), (56, 8), (56, 9), (56, 10), (56, 11), (56, 12), (56, 13), (56, 14), (56, 18), (57, (-1)), (60, (-1)), (61, (-1)), (62, (-1)), (63, (-1))]) (fr_tr (M := [(56, 0), (56, 5), (56, 6), (56, 7), (56, 8), (56, 9), (56, 10), (56, 11), (56, 12), (56, 13), (56, 14), (56, 18), (57, (-1)), (60, (-1)), (61, (-1)), (62, (-1)), (63, (-1))]) (fr_tr (M := [(56, 0), (56, 5), (56, 6), (56, 7), (56, 8), (56, 9), (56, 10), (56, 11), (56, 12), (56, 13), (56, 14), (56, 18), (57, (-1)), (60, (-1)), (61, (-1)), (62, (-1)), (63, (-1))]) (fr_tr (M := [(56, 0), (56, 5), (56, 6), (56, 7), (56, 8), (56, 9), (56, 10), (56, 11), (56, 12), (56, 13), (56, 14), (56, 18), (57, (-1)), (60, (-1)), (61, (-1)), (62, (-1)), (63, (-1))]) (fr_tr (M := [(56, 0), (56, 5), (56, 6), (56, 7), (56, 8), (56, 9), (56, 10), (56, 11), (56, 12), (56, 13), (56, 14), (56, 18), (57, (-1)), (60, (-1)), (61, (-1)), (62, (-1)), (63, (-1))]) (fr_tr (M := [(56, 0), (56, 5), (56, 6), (56, 7), (56, 8), (56, 9), (56, 10), (56, 11), (56, 12), (56, 13), (56, 14), (56, 18), (57, (-1)), (60, (-1)), (61, (-1)), (62, (-1)), (63, (-1))]) (fr_tr (M := [(56, 0), (56, 5), (56, 6), (56, 7), (56, 8), (56, 9), (56, 10), (56, 11), (56, 12), (56, 13), (56, 14), (56, 18), (57, (-1)), (60, (-1)), (61, (-1)), (62, (-1)), (63, (-1))]) (fr_tr (M := [(56, 0), (56, 5), (56, 6), (56, 7), (56, 8), (56, 9), (56, 10), (56, 11), (56, 12), (56, 13), (56, 14), (56, 18), (57, (-1)), (60, (-1)), (61, (-1)), (62, (-1)), (63, (-1))]) (fr_tr (M := [(56, 0), (56, 5), (56, 6), (56, 7), (56, 8), (56, 9), (56, 10), (56, 11), (56, 12), (56, 13), (56, 14), (56, 18), (57, (-1)), (60, (-1)), (61, (-1)), (62, (-1)), (63, (-1))]) (fr_tr (M := [(56, 0), (56, 5), (56, 6), (56, 7), (56, 8), (56, 9), (56, 10), (56, 11), (56, 12), (56, 13), (56, 14), (56, 18), (57, (-1)), (60, (-1)), (61, (-1)), (62, (-1)), (63, (-1))]) (fr_tr (M := [(56, 0), (56, 5), (56, 6), (56, 7), (56, 8), (56, 9), (56, 10), (56, 11), (56, 12), (56, 13), (56, 14), (56, 18), (57, (-1)), (60, (-1)), (61, (-1)), (62, (-1)), (63, (-1))]) (fr_tr (M := [(56, 0), (56, 5), (56, 6), (56, 7), (56, 8), (56, 9), (56, 10), (56, 11), (56, 12), (56, 13), (56, 14), (56, 18), (57, (-1)), (60, (-1)), (61, (-1)), (62, (-1)), (63, (-1))]) (fr_tr (M := [(56, 0), (56, 5), (56, 6), (56, 7), (56, 8), (56, 9), (56, 10), (56, 11), (56, 12), (56, 13), (56, 14), (56, 18), (57, (-1)), (60, (-1)), (61, (-1)), (62, (-1)), (63, (-1))]) (fr_tr (M := [(56, 0), (56, 5), (56, 6), (56, 7), (56, 8), (56, 9), (56, 10), (56, 11), (56, 12), (56, 13), (56, 14), (56, 18), (57, (-1)), (60, (-1)), (61, (-1)), (62, (-1)), (63, (-1))]) (fr_tr (M := [(56, 0), (56, 5), (56, 6), (56, 7), (56, 8), (56, 9), (56, 10), (56, 11), (56, 12), (56, 13), (56, 14), (56, 18), (57, (-1)), (60, (-1)), (61, (-1)), (62, (-1)), (63, (-1))]) (fr_tr (M := [(56, 0), (56, 5), (56, 6), (56, 7), (56, 8), (56, 9), (56, 10), (56, 11), (56, 12), (56, 13), (56, 14), (56, 18), (57, (-1)), (60, (-1)), (61, (-1)), (62, (-1)), (63, (-1))]) (fr_tr (M := [(56, 0), (56, 5), (56, 6), (56, 7), (56, 8), (56, 9), (56, 10), (56, 11), (56, 12), (56, 13), (56, 14), (56, 18), (57, (-1)), (60, (-1)), (61, (-1)), (62, (-1)), (63, (-1))]) (fr_tr (M := [(56, 0), (56, 5), (56, 6), (56, 7), (56, 8), (56, 9), (56, 10), (56, 11), (56, 12), (56, 13), (56, 14), (56, 18), (57, (-1)), (60, (-1)), (61, (-1)), (62, (-1)), (63, (-1))]) (fr_tr (M := [(56, 0), (56, 5), (56, 6), (56, 7), (56, 8), (56, 9), (56, 10), (56, 11), (56, 12), (56, 13), (56, 14), (56, 18), (57, (-1)), (60, (-1)), (61, (-1)), (62, (-1)), (63, (-1))]) (fr_tr (M := [(56, 0), (56, 5), (56, 6), (56, 7), (56, 8), (56, 9), (56, 10), (56, 11), (56, 12), (56, 13), (56, 14), (56, 18), (57, (-1)), (60, (-1)), (61, (-1)), (62, (-1)), (63, (-1))]) fr_rf (fr_up hE1) (M1 := []) rfl rfl) (fr_up hE6) rfl rfl) (fr_up hE7) rfl rfl) (fr_up hE8) rfl rfl) (fr_up hE9) rfl rfl) (hf11) rfl rfl) (hf12) rfl rfl) (hf19) rfl rfl) (hf26) rfl rfl) (hf47) rfl rfl) (fr_ua hE60) rfl rfl) (hf61) rfl rfl) (hf84) rfl rfl) (fr_up hE102) rfl rfl) (fr_up hE105) rfl rfl) (hf119) rfl rfl) (hf133) rfl rfl) (hf135) rfl rfl) (hf142) rfl rfl) (hf143) rfl rfl) (hf150) rfl rfl) (fr_ua hE152) rfl rfl) ⟨(fun _ => by have r3 := ((up_nk hE152 rfl).trans ((hf150 56 13 rfl).trans ((hf143 56 13 rfl).trans ((hf142 56 13 rfl).trans ((hf135 56 13 rfl).trans ((hf133 56 13 rfl).trans ((hf119 56 13 rfl).trans ((up_ni hE105 (by decide)).trans (up_at hE102))))))))); have r4 := ((up_nk hE152 rfl).trans ((hf150 56 14 rfl).trans ((hf143 56 14 rfl).trans ((hf142 56 14 rfl).trans ((hf135 56 14 rfl).trans ((hf133 56 14 rfl).trans ((hf119 56 14 rfl).trans (up_at hE105)))))))); rw [← k1]; exact BR_m rcc rzz (fun q => by have := wge q; omega) (fun q => by omega)), (fun q => absurd q nw), (fun _ => ((up_nk hE152 rfl).trans ((hf150 56 5 rfl).trans ((hf143 56 5 rfl).trans ((hf142 56 5 rfl).trans ((hf135 56 5 rfl).trans ((hf133 56 5 rfl).trans ((hf119 56 5 rfl).trans ((up_ni hE105 (by decide)).trans ((up_ni hE102 (by decide)).trans ((hf84 56 5 rfl).trans ((hf61 56 5 rfl).trans ((up_nk hE60 rfl).trans ((hf47 56 5 rfl).trans ((hf26 56 5 rfl).trans ((hf19 56 5 rfl).trans ((hf12 56 5 rfl).trans ((hf11 56 5 rfl).trans ((up_ni hE9 (by decide)).trans ((up_ni hE8 (by decide)).trans (up_at hE7))))))))))))))))))))), (⟨fun q => absurd q (by omega), fun _ => by have r0 := rzz.2 ((RMx_p rcc).1.mp (by omega)); have e1 : Z152 57 1 = Z142 57 1 := ((up_ni hE152 (by decide)).trans ((hf150 57 1 rfl).trans (hf143 57 1 rfl))); have e0 : tot (rdX T x0).2.1.1 = tot (rdX T N).2.1.1 := (by rw [k1]); unfold tt; split <;> omega⟩), (fun q _ => RTB_e (rtb9 (by have e1 : Z152 57 1 = Z142 57 1 := ((up_ni hE152 (by decide)).trans ((hf150 57 1 rfl).trans (hf143 57 1 rfl))); omega)) (fun i => ((up_nk hE152 rfl).trans (hf150 61 i rfl))) (by have e1 : Z152 57 1 = Z142 57 1 := ((up_ni hE152 (by decide)).trans ((hf150 57 1 rfl).trans (hf143 57 1 rfl))); omega)), by omega⟩)
                              refine Jif_ne (show mx_Sn _ _ 230 (mx_if_ne 247 233) from sn_182 230) (by omega) (fun q175 => ?_) (fun q175 => ?_)
                              · skip
                                exact c247 sg134 Z135 h135 f134_1 (by first | exact (fun i _ => ha i) | exact (fun i hi => (up_nk hE135 rfl).trans ((h1a i hi).trans (ha i)))) (⟨fun q => absurd q (by have e2 := ha 2; omega), fun _ => ha 1⟩) hx135 hG135 fr_rf
                              · skip
                                refine mx_J.step (sn_182 233) (fun _ _ => rfl) ?_
                                refine JgetR (g := 1) (b := 57) hx135 (show mx_Sn _ _ 234 (mx_getf 12 1 237) from sn_182 234) a56 s56 rfl rfl (hG135.prr 56 1 rfl) ?_
                                refine JcI (z := 1) (show mx_Sn _ _ 237 (mx_const (.int 1) 238) from sn_182 237) rfl ?_
                                refine JcI (z := 1) (show mx_Sn _ _ 238 (mx_const (.int 1) 239) from sn_182 238) rfl ?_
                                refine JiastI hx135 (show mx_Sn _ _ 239 (mx_iast 1 240) from sn_182 239) a57 s57 rfl (by omega) (fun Z177 h177 hx177 hE177 => ?_)
                                have hG177 := GB_up hG135 hE177 (show (-2147483648) ≤ 1 ∧ 1 ≤ 2147483647 by omega) (show f57 ((1) % 962) (1) by first | assumption | (unfold f57; omega) | (unfold f57 at *; omega)) rfl
                                have h1a : ∀ i, ¬ i = 1 → Z177 57 i = Z135 57 i := fun i hi => up_ni hE177 hi
                                refine mx_J.step (sn_182 240) (fun _ _ => rfl) ?_
                                refine JgetR (g := 16) (b := 62) hx177 (show mx_Sn _ _ 241 (mx_getf 12 16 244) from sn_182 241) a56 s56 rfl rfl (hG177.prr 56 16 rfl) ?_
                                refine JcI (z := 0) (show mx_Sn _ _ 244 (mx_const (.int 0) 245) from sn_182 244) rfl ?_
                                refine JcI (z := 1) (show mx_Sn _ _ 245 (mx_const (.int 1) 246) from sn_182 245) rfl ?_
                                refine JiastI hx177 (show mx_Sn _ _ 246 (mx_iast 1 247) from sn_182 246) a62 s62 rfl (by omega) (fun Z179 h179 hx179 hE179 => ?_)
                                have hG179 := GB_up hG177 hE179 (show (-2147483648) ≤ 1 ∧ 1 ≤ 2147483647 by omega) trivial rfl
                                have rc180 : RMx T N Z177 (sg134) := RMx_c f134_1 ⟨(up_nk hE177 rfl), (up_nk hE177 rfl), (up_nk hE177 rfl), (up_nk hE177 rfl), (up_nk hE177 rfl), (up_nk hE177 rfl), (up_nk hE177 rfl), fun i => (up_nk hE177 rfl)⟩ (up_nk hE177 rfl) (fun i h62 => (up_nk hE177 rfl)) trivial
                                have rc181 : RMx T N Z179 (sg134) := RMx_c rc180 ⟨(up_nk hE179 rfl), (up_nk hE179 rfl), (up_nk hE179 rfl), (up_nk hE179 rfl), (up_nk hE179 rfl), (up_nk hE179 rfl), (up_nk hE179 rfl), fun i => (up_nk hE179 rfl)⟩ (up_nk hE179 rfl) (fun i h62 => (up_nk hE179 rfl)) trivial
                                exact c247 sg134 Z179 h179 rc181 (by first | exact (fun i _ => ha i) | exact (fun i hi => (up_nk hE179 rfl).trans ((h1a i hi).trans (ha i)))) (⟨fun _ => (up_nk hE179 rfl).trans (up_at hE177), fun q => absurd q (by have e2 := ha 2; omega)⟩) hx179 hG179 (fr_tr (M := [(57, (-1)), (62, (-1))]) (fr_tr (M := [(57, (-1)), (62, (-1))]) fr_rf (fr_ua hE177) (M1 := []) rfl rfl) (fr_ua hE179) rfl rfl)
                            · skip
                              refine mx_J.step (sn_182 204) (fun _ _ => rfl) ?_
                              refine JgetR (g := 16) (b := 62) hx135 (show mx_Sn _ _ 205 (mx_getf 12 16 208) from sn_182 205) a56 s56 rfl rfl (hG135.prr 56 16 rfl) ?_
                              refine mx_J.step (sn_182 208) (fun _ _ => rfl) ?_
                              refine mx_J.step (sn_182 209) (fun _ _ => rfl) ?_
                              refine JgetR (g := 1) (b := 57) hx135 (show mx_Sn _ _ 210 (mx_getf 12 1 213) from sn_182 210) a56 s56 rfl rfl (hG135.prr 56 1 rfl) ?_
                              refine JcI (z := 3) (show mx_Sn _ _ 213 (mx_const (.int 3) 214) from sn_182 213) rfl ?_
                              refine mx_J.step (sn_182 214) (fun _ _ => rfl) ?_
                              refine Jiadd (show mx_Sn _ _ 215 (mx_iadd 216) from sn_182 215) ?_
                              have b184 : f57 ((3 + w134_2) % 962) (Z119 57 (3 + w134_2)) := GB_ex hG119 57 (3 + w134_2)
                              have b185 : (-2147483648) ≤ Z119 57 (3 + w134_2) ∧ Z119 57 (3 + w134_2) ≤ 2147483647 := hG119.pr 57 (3 + w134_2)
                              refine JialdI (z := Z119 57 (3 + w134_2)) hx135 (show mx_Sn _ _ 216 (mx_iald 217) from sn_182 216) a57 s57 (by omega) ((hf135 57 (3 + w134_2) rfl).trans (hf133 57 (3 + w134_2) rfl)) ?_
                              refine JiastI hx135 (show mx_Sn _ _ 217 (mx_iast 1 218) from sn_182 217) a62 s62 rfl (by omega) (fun Z186 h186 hx186 hE186 => ?_)
                              have hG186 := GB_up hG135 hE186 (show (-2147483648) ≤ Z119 57 (3 + w134_2) ∧ Z119 57 (3 + w134_2) ≤ 2147483647 by omega) trivial rfl
                              refine Jiinc (z := w134_2) (cz := 1) (ls2 := [some (.ref 56), some (xI x0), some (xI (w134_2 + 1))]) (show mx_Sn _ _ 218 (mx_iinc 2 1 221) from sn_182 218) rfl rfl rfl rfl ?_
                              refine mx_J.step (sn_182 221) (fun _ _ => rfl) ?_
                              have rc187 : RMx T N Z186 (sg134) := RMx_c f134_1 ⟨(up_nk hE186 rfl), (up_nk hE186 rfl), (up_nk hE186 rfl), (up_nk hE186 rfl), (up_nk hE186 rfl), (up_nk hE186 rfl), (up_nk hE186 rfl), fun i => (up_nk hE186 rfl)⟩ (up_nk hE186 rfl) (fun i h62 => (up_nk hE186 rfl)) trivial
                              exact ih134 (w134_2 + 1) sg134 Z186 h186 (by omega) (by omega) rc187 hx186 hG186 (fr_tr (M := [(62, (-1))]) (fr_tr (M := [(62, (-1))]) fr_rf (hf135) (M1 := []) rfl rfl) (fr_ua hE186) rfl rfl)
                        have rc188 : RMx T N Z133 (sg118) := RMx_c f118_1 ⟨(hf133 56 6 rfl), (hf133 56 7 rfl), (hf133 56 8 rfl), (hf133 56 9 rfl), (hf133 56 10 rfl), (hf133 56 11 rfl), (hf133 56 12 rfl), fun i => (hf133 59 i rfl)⟩ (hf133 60 61 rfl) (fun i h62 => (hf133 60 i rfl)) trivial
                        exact c194 (Int.toNat (18 - 0) + 1) 0 sg118 Z133 h133 (by omega) (by omega) rc188 hx133 hG133 fr_rf
                      · skip
                        refine mx_J.step (sn_182 170) (fun _ _ => rfl) ?_
                        refine JgetR (g := 1) (b := 57) hx119 (show mx_Sn _ _ 171 (mx_getf 12 1 174) from sn_182 171) a56 s56 rfl rfl (hG119.prr 56 1 rfl) ?_
                        refine mx_J.step (sn_182 174) (fun _ _ => rfl) ?_
                        refine mx_J.step (sn_182 175) (fun _ _ => rfl) ?_
                        refine JgetR (g := 4) (b := 60) hx119 (show mx_Sn _ _ 176 (mx_getf 12 4 179) from sn_182 176) a56 s56 rfl rfl (hG119.prr 56 4 rfl) ?_
                        refine mx_J.step (sn_182 179) (fun _ _ => rfl) ?_
                        have b191 : f60 ((w118_2) % 962) (Z84 60 w118_2) := GI_ex hG84 60 w118_2
                        have b192 : (-2147483648) ≤ Z84 60 w118_2 ∧ Z84 60 w118_2 ≤ 2147483647 := hG84.pr 60 w118_2
                        refine JialdI (z := Z84 60 w118_2) hx119 (show mx_Sn _ _ 180 (mx_iald 181) from sn_182 180) a60 s60 (by omega) ((hf119 60 w118_2 rfl).trans ((up_nk hE105 rfl).trans (up_nk hE102 rfl))) ?_
                        have eq193 : Z105 60 w118_2 = Z84 60 w118_2 := ((up_nk hE105 rfl).trans (up_nk hE102 rfl))
                        have eq194 : Z105 60 28 = Z84 60 28 := ((up_nk hE105 rfl).trans (up_nk hE102 rfl))
                        have b195 : (-2147483648) ≤ Z84 60 28 ∧ Z84 60 28 ≤ 2147483647 := hG84.pr 60 28
                        have s28 : w118_2 = 28 → 0 ≤ (Z84 60 w118_2) ∧ (Z84 60 w118_2) ≤ 9 := fun e => by have h9 := (WFF_b hw9).1; rw [e]; omega
                        refine JiastI hx119 (show mx_Sn _ _ 181 (mx_iast 1 182) from sn_182 181) a57 s57 rfl (by omega) (fun Z196 h196 hx196 hE196 => ?_)
                        have hG196 := GB_up hG119 hE196 (show (-2147483648) ≤ Z84 60 w118_2 ∧ Z84 60 w118_2 ≤ 2147483647 by omega) (show f57 ((w118_2) % 962) (Z84 60 w118_2) by first | exact f57_f60 (by assumption) (fun e9 => s28 (by omega)) | (have hq := GB_ex hG84 60 w118_2; replace hq : f60 (w118_2 % 962) (Z84 60 w118_2) := hq; rw [Int.emod_eq_of_lt (a := w118_2) (by omega) (by omega)] at hq; rw [Int.emod_eq_of_lt (a := w118_2) (by omega) (by omega)]; unfold f60 at hq; unfold f57; omega) | (rw [Int.emod_eq_of_lt (by omega) (by omega)]; unfold f57; omega) | assumption | (unfold f57; omega) | (unfold f57 at *; omega)) rfl
                        have cs : CB Z196 Z105 (w118_2 + 1) := cb_s (by assumption) hE196 rfl (by omega) (by omega)
                        refine Jiinc (z := w118_2) (cz := 1) (ls2 := [some (.ref 56), some (xI x0), some (xI (w118_2 + 1))]) (show mx_Sn _ _ 182 (mx_iinc 2 1 185) from sn_182 182) rfl rfl rfl rfl ?_
                        refine mx_J.step (sn_182 185) (fun _ _ => rfl) ?_
                        have rc197 : RMx T N Z196 (sg118) := RMx_c f118_1 ⟨(up_nk hE196 rfl), (up_nk hE196 rfl), (up_nk hE196 rfl), (up_nk hE196 rfl), (up_nk hE196 rfl), (up_nk hE196 rfl), (up_nk hE196 rfl), fun i => (up_nk hE196 rfl)⟩ (up_nk hE196 rfl) (fun i h62 => (up_nk hE196 rfl)) trivial
                        exact ih118 (w118_2 + 1) sg118 Z196 h196 (by omega) (by omega) rc197 (by first | exact cb_0 | assumption) hx196 hG196 (fr_tr (M := [(57, (-1))]) (fr_tr (M := [(57, (-1))]) fr_rf (hf119) (M1 := []) rfl rfl) (fr_ua hE196) rfl rfl)
                  have rc198 : RMx T N Z102 (sg83) := RMx_c f83_0 ⟨(up_ni hE102 (by decide)), (up_ni hE102 (by decide)), (up_ni hE102 (by decide)), (up_ni hE102 (by decide)), (up_ni hE102 (by decide)), (up_ni hE102 (by decide)), (up_ni hE102 (by decide)), fun i => (up_nk hE102 rfl)⟩ (up_nk hE102 rfl) (fun i h62 => (up_nk hE102 rfl)) trivial
                  have rc199 : RMx T N Z105 (sg83) := RMx_c rc198 ⟨(up_ni hE105 (by decide)), (up_ni hE105 (by decide)), (up_ni hE105 (by decide)), (up_ni hE105 (by decide)), (up_ni hE105 (by decide)), (up_ni hE105 (by decide)), (up_ni hE105 (by decide)), fun i => (up_nk hE105 rfl)⟩ (up_nk hE105 rfl) (fun i h62 => (up_nk hE105 rfl)) trivial
                  exact c163 (Int.toNat (962 - 0) + 1) 0 sg83 Z105 h105 (by omega) (by omega) rc199 (by first | exact cb_0 | assumption) hx105 hG105 fr_rf
                · skip
                  refine JcI (z := (-30)) (show mx_Sn _ _ 153 (mx_const (.int (-30)) 155) from sn_182 153) rfl ?_
                  refine mx_J.step (sn_182 155) (fun _ _ => rfl) ?_
                  refine JgetI (g := 11) (z := Z84 56 11) hx105 (show mx_Sn _ _ 156 (mx_getf 12 11 159) from sn_182 156) a56 s56 rfl rfl ((up_ni hE105 (by decide)).trans (up_ni hE102 (by decide))) ?_
                  refine Jisub (show mx_Sn _ _ 159 (mx_isub 160) from sn_182 159) ?_
                  have eq201 : Z105 56 5 = 0 := ((up_ni hE105 (by decide)).trans ((up_ni hE102 (by decide)).trans ((hf84 56 5 rfl).trans ((hf61 56 5 rfl).trans ((up_nk hE60 rfl).trans ((hf47 56 5 rfl).trans ((hf26 56 5 rfl).trans ((hf19 56 5 rfl).trans ((hf12 56 5 rfl).trans ((hf11 56 5 rfl).trans ((up_ni hE9 (by decide)).trans ((up_ni hE8 (by decide)).trans (up_at hE7)))))))))))))
                  have eq202 : Z105 56 13 = Z84 56 11 := ((up_ni hE105 (by decide)).trans (up_at hE102))
                  have eq203 : Z105 56 14 = k104_1 := (up_at hE105)
                  have eq204 : Z105 57 963 = Z 57 963 := ((up_nk hE105 rfl).trans ((up_nk hE102 rfl).trans ((hf84 57 963 rfl).trans ((hf61 57 963 rfl).trans ((up_nk hE60 rfl).trans ((hf47 57 963 rfl).trans ((hf26 57 963 rfl).trans ((hf19 57 963 rfl).trans ((hf12 57 963 rfl).trans ((hf11 57 963 rfl).trans ((up_nk hE9 rfl).trans ((up_nk hE8 rfl).trans ((up_nk hE7 rfl).trans ((up_nk hE6 rfl).trans (up_nk hE1 rfl)))))))))))))))
                  have b205 : 0 ≤ Z 57 963 ∧ Z 57 963 ≤ 18 := by have hq : f57 (963 % 962) (Z 57 963) := (by first | exact GI_ex hG 57 963 | exact GB_ex hG 57 963); unfold f57 at hq; omega
                  have b206 : (-2147483648) ≤ Z 57 963 ∧ Z 57 963 ≤ 2147483647 := hG.pr 57 963
                  have eq207 : Z105 57 1925 = Z 57 1925 := ((up_nk hE105 rfl).trans ((up_nk hE102 rfl).trans ((hf84 57 1925 rfl).trans ((hf61 57 1925 rfl).trans ((up_nk hE60 rfl).trans ((hf47 57 1925 rfl).trans ((hf26 57 1925 rfl).trans ((hf19 57 1925 rfl).trans ((hf12 57 1925 rfl).trans ((hf11 57 1925 rfl).trans ((up_nk hE9 rfl).trans ((up_nk hE8 rfl).trans ((up_nk hE7 rfl).trans ((up_nk hE6 rfl).trans (up_nk hE1 rfl)))))))))))))))
                  have b208 : 0 ≤ Z 57 1925 ∧ Z 57 1925 ≤ 18 := by have hq : f57 (1925 % 962) (Z 57 1925) := (by first | exact GI_ex hG 57 1925 | exact GB_ex hG 57 1925); unfold f57 at hq; omega
                  have b209 : (-2147483648) ≤ Z 57 1925 ∧ Z 57 1925 ≤ 2147483647 := hG.pr 57 1925
                  have eq210 : Z105 56 5 = 0 := ((up_ni hE105 (by decide)).trans ((up_ni hE102 (by decide)).trans ((hf84 56 5 rfl).trans ((hf61 56 5 rfl).trans ((up_nk hE60 rfl).trans ((hf47 56 5 rfl).trans ((hf26 56 5 rfl).trans ((hf19 56 5 rfl).trans ((hf12 56 5 rfl).trans ((hf11 56 5 rfl).trans ((up_ni hE9 (by decide)).trans ((up_ni hE8 (by decide)).trans (up_at hE7)))))))))))))
                  have eq211 : Z105 56 13 = Z84 56 11 := ((up_ni hE105 (by decide)).trans (up_at hE102))
                  have eq212 : Z105 56 14 = k104_1 := (up_at hE105)
                  have eq213 : Z105 57 963 = Z 57 963 := ((up_nk hE105 rfl).trans ((up_nk hE102 rfl).trans ((hf84 57 963 rfl).trans ((hf61 57 963 rfl).trans ((up_nk hE60 rfl).trans ((hf47 57 963 rfl).trans ((hf26 57 963 rfl).trans ((hf19 57 963 rfl).trans ((hf12 57 963 rfl).trans ((hf11 57 963 rfl).trans ((up_nk hE9 rfl).trans ((up_nk hE8 rfl).trans ((up_nk hE7 rfl).trans ((up_nk hE6 rfl).trans (up_nk hE1 rfl)))))))))))))))
                  have eq214 : Z105 57 1925 = Z 57 1925 := ((up_nk hE105 rfl).trans ((up_nk hE102 rfl).trans ((hf84 57 1925 rfl).trans ((hf61 57 1925 rfl).trans ((up_nk hE60 rfl).trans ((hf47 57 1925 rfl).trans ((hf26 57 1925 rfl).trans ((hf19 57 1925 rfl).trans ((hf12 57 1925 rfl).trans ((hf11 57 1925 rfl).trans ((up_nk hE9 rfl).trans ((up_nk hE8 rfl).trans ((up_nk hE7 rfl).trans ((up_nk hE6 rfl).trans (up_nk hE1 rfl)))))))))))))))
                  have eq215 : Z105 57 1 = Z 57 1 := ((up_nk hE105 rfl).trans ((up_nk hE102 rfl).trans ((hf84 57 1 rfl).trans ((hf61 57 1 rfl).trans ((up_nk hE60 rfl).trans ((hf47 57 1 rfl).trans ((hf26 57 1 rfl).trans ((hf19 57 1 rfl).trans ((hf12 57 1 rfl).trans ((hf11 57 1 rfl).trans ((up_nk hE9 rfl).trans ((up_nk hE8 rfl).trans ((up_nk hE7 rfl).trans ((up_nk hE6 rfl).trans (up_nk hE1 rfl)))))))))))))))
                  have b216 : 0 ≤ Z 57 1 ∧ Z 57 1 ≤ 18 := by have hq : f57 (1 % 962) (Z 57 1) := (by first | exact GI_ex hG 57 1 | exact GB_ex hG 57 1); unfold f57 at hq; omega
                  have b217 : (-2147483648) ≤ Z 57 1 ∧ Z 57 1 ≤ 2147483647 := hG.pr 57 1
                  exact mx_J.ret (sn_182 160) (fun _ _ => rfl) (hP ((-30) - (Z84 56 11)) Z105 h105 hx105 hG105 (fr_tr (M := [(56, 0), (56, 5), (56, 6), (56, 7), (56, 8), (56, 9), (56, 10), (56, 11), (56, 12), (56, 13), (56, 14), (56, 18), (57, (-1)), (60, (-1)), (61, (-1)), (62, (-1)), (63, (-1))]) (fr_tr (M := [(56, 0), (56, 5), (56, 6), (56, 7), (56, 8), (56, 9), (56, 10), (56, 11), (56, 12), (56, 13), (56, 14), (56, 18), (57, (-1)), (60, (-1)), (61, (-1)), (62, (-1)), (63, (-1))]) (fr_tr (M := [(56, 0), (56, 5), (56, 6), (56, 7), (56, 8), (56, 9), (56, 10), (56, 11), (56, 12), (56, 13), (56, 14), (56, 18), (57, (-1)), (60, (-1)), (61, (-1)), (62, (-1)), (63, (-1))]) (fr_tr (M := [(56, 0), (56, 5), (56, 6), (56, 7), (56, 8), (56, 9), (56, 10), (56, 11), (56, 12), (56, 13), (56, 14), (56, 18), (57, (-1)), (60, (-1)), (61, (-1)), (62, (-1)), (63, (-1))]) (fr_tr (M := [(56, 0), (56, 5), (56, 6), (56, 7), (56, 8), (56, 9), (56, 10), (56, 11), (56, 12), (56, 13), (56, 14), (56, 18), (57, (-1)), (60, (-1)), (61, (-1)), (62, (-1)), (63, (-1))]) (fr_tr (M := [(56, 0), (56, 5), (56, 6), (56, 7), (56, 8), (56, 9), (56, 10), (56, 11), (56, 12), (56, 13), (56, 14), (56, 18), (57, (-1)), (60, (-1)), (61, (-1)), (62, (-1)), (63, (-1))]) (fr_tr (M := [(56, 0), (56, 5), (56, 6), (56, 7), (56, 8), (56, 9), (56, 10), (56, 11), (56, 12), (56, 13), (56, 14), (56, 18), (57, (-1)), (60, (-1)), (61, (-1)), (62, (-1)), (63, (-1))]) (fr_tr (M := [(56, 0), (56, 5), (56, 6), (56, 7), (56, 8), (56, 9), (56, 10), (56, 11), (56, 12), (56, 13), (56, 14), (56, 18), (57, (-1)), (60, (-1)), (61, (-1)), (62, (-1)), (63, (-1))]) (fr_tr (M := [(56, 0), (56, 5), (56, 6), (56, 7), (56, 8), (56, 9), (56, 10), (56, 11), (56, 12), (56, 13), (56, 14), (56, 18), (57, (-1)), (60, (-1)), (61, (-1)), (62, (-1)), (63, (-1))]) (fr_tr (M := [(56, 0), (56, 5), (56, 6), (56, 7), (56, 8), (56, 9), (56, 10), (56, 11), (56, 12), (56, 13), (56, 14), (56, 18), (57, (-1)), (60, (-1)), (61, (-1)), (62, (-1)), (63, (-1))]) (fr_tr (M := [(56, 0), (56, 5), (56, 6), (56, 7), (56, 8), (56, 9), (56, 10), (56, 11), (56, 12), (56, 13), (56, 14), (56, 18), (57, (-1)), (60, (-1)), (61, (-1)), (62, (-1)), (63, (-1))]) (fr_tr (M := [(56, 0), (56, 5), (56, 6), (56, 7), (56, 8), (56, 9), (56, 10), (56, 11), (56, 12), (56, 13), (56, 14), (56, 18), (57, (-1)), (60, (-1)), (61, (-1)), (62, (-1)), (63, (-1))]) (fr_tr (M := [(56, 0), (56, 5), (56, 6), (56, 7), (56, 8), (56, 9), (56, 10), (56, 11), (56, 12), (56, 13), (56, 14), (56, 18), (57, (-1)), (60, (-1)), (61, (-1)), (62, (-1)), (63, (-1))]) (fr_tr (M := [(56, 0), (56, 5), (56, 6), (56, 7), (56, 8), (56, 9), (56, 10), (56, 11), (56, 12), (56, 13), (56, 14), (56, 18), (57, (-1)), (60, (-1)), (61, (-1)), (62, (-1)), (63, (-1))]) (fr_tr (M := [(56, 0), (56, 5), (56, 6), (56, 7), (56, 8), (56, 9), (56, 10), (56, 11), (56, 12), (56, 13), (56, 14), (56, 18), (57, (-1)), (60, (-1)), (61, (-1)), (62, (-1)), (63, (-1))]) fr_rf (fr_up hE1) (M1 := []) rfl rfl) (fr_up hE6) rfl rfl) (fr_up hE7) rfl rfl) (fr_up hE8) rfl rfl) (fr_up hE9) rfl rfl) (hf11) rfl rfl) (hf12) rfl rfl) (hf19) rfl rfl) (hf26) rfl rfl) (hf47) rfl rfl) (fr_ua hE60) rfl rfl) (hf61) rfl rfl) (hf84) rfl rfl) (fr_up hE102) rfl rfl) (fr_up hE105) rfl rfl) ⟨(fun _ => by have r3 := ((up_ni hE105 (by decide)).trans (up_at hE102)); have r4 := (up_at hE105); rw [← k1]; exact BR_m rcc rzz (fun q => by have := wge q; omega) (fun q => by omega)), (fun q => absurd q nw), (fun _ => ((up_ni hE105 (by decide)).trans ((up_ni hE102 (by decide)).trans ((hf84 56 5 rfl).trans ((hf61 56 5 rfl).trans ((up_nk hE60 rfl).trans ((hf47 56 5 rfl).trans ((hf26 56 5 rfl).trans ((hf19 56 5 rfl).trans ((hf12 56 5 rfl).trans ((hf11 56 5 rfl).trans ((up_ni hE9 (by decide)).trans ((up_ni hE8 (by decide)).trans (up_at hE7)))))))))))))), (⟨fun _ => ((up_nk hE105 rfl).trans ((up_nk hE102 rfl).trans ((hf84 57 1 rfl).trans ((hf61 57 1 rfl).trans ((up_nk hE60 rfl).trans ((hf47 57 1 rfl).trans ((hf26 57 1 rfl).trans ((hf19 57 1 rfl).trans ((hf12 57 1 rfl).trans ((hf11 57 1 rfl).trans ((up_nk hE9 rfl).trans ((up_nk hE8 rfl).trans ((up_nk hE7 rfl).trans ((up_nk hE6 rfl).trans (up_nk hE1 rfl))))))))))))))), fun q => absurd q (by omega)⟩), (fun _ r => RTB_e r (fun i => ((up_nk hE105 rfl).trans ((up_nk hE102 rfl).trans ((hf84 61 i rfl).trans ((hf61 61 i rfl).trans ((up_nk hE60 rfl).trans ((hf47 61 i rfl).trans ((hf26 61 i rfl).trans ((hf19 61 i rfl).trans ((hf12 61 i rfl).trans ((hf11 61 i rfl).trans ((up_nk hE9 rfl).trans ((up_nk hE8 rfl).trans ((up_nk hE7 rfl).trans ((up_nk hE6 rfl).trans (up_nk hE1 rfl)))))))))))))))) ((up_nk hE105 rfl).trans ((up_nk hE102 rfl).trans ((hf84 57 1 rfl).trans ((hf61 57 1 rfl).trans ((up_nk hE60 rfl).trans ((hf47 57 1 rfl).trans ((hf26 57 1 rfl).trans ((hf19 57 1 rfl).trans ((hf12 57 1 rfl).trans ((hf11 57 1 rfl).trans ((up_nk hE9 rfl).trans ((up_nk hE8 rfl).trans ((up_nk hE7 rfl).trans ((up_nk hE6 rfl).trans (up_nk hE1 rfl)))))))))))))))), by omega⟩)
              refine Jif_ne (show mx_Sn _ _ 132 (mx_if_ne 139 135) from sn_182 132) (by omega) (fun q218 => ?_) (fun q218 => ?_)
              · skip
                refine mx_J.step (sn_182 139) (fun _ _ => rfl) ?_
                have b220 : 0 ≤ Z84 56 12 ∧ Z84 56 12 ≤ 900 := hG84.pr 56 12
                refine JgetI (g := 12) (z := Z84 56 12) hx102 (show mx_Sn _ _ 140 (mx_getf 12 12 143) from sn_182 140) a56 s56 rfl rfl (up_ni hE102 (by decide)) ?_
                exact c143 (Z84 56 12) (by omega) (by omega)
              · skip
                refine JcI (z := (-1)) (show mx_Sn _ _ 135 (mx_const (.int (-1)) 136) from sn_182 135) rfl ?_
                refine mx_J.step (sn_182 136) (fun _ _ => rfl) ?_
                exact c143 (-1) (by omega) (by omega)
            refine Jif_ne (show mx_Sn _ _ 96 (mx_if_ne 119 99) from sn_182 96) (by omega) (fun q221 => ?_) (fun q221 => ?_)
            · skip
              exact c119 (LK_e (by assumption) (fun q => by have := (RMx_p f83_0).1.mpr q.1; omega))
            · skip
              refine mx_J.step (sn_182 99) (fun _ _ => rfl) ?_
              refine JgetI (g := 9) (z := Z84 56 9) hx84 (show mx_Sn _ _ 100 (mx_getf 12 9 103) from sn_182 100) a56 s56 rfl rfl rfl ?_
              refine JcI (z := 24) (show mx_Sn _ _ 103 (mx_const (.int 24) 105) from sn_182 103) rfl ?_
              refine Jicmp_eq (show mx_Sn _ _ 105 (mx_icmp_eq 119 108) from sn_182 105) (by omega) (by omega) (fun q223 => ?_) (fun q223 => ?_)
              · skip
                exact c119 (LK_e (by assumption) (fun q => q.2 (by have := ((RMx_p f83_0).2.1 q.1).2; omega)))
              · skip
                have lk : LK T N sg83 (Z84 60 1) (Z84 60 0) := (by assumption)
                have la := (RMx_p f83_0).1.mp (by omega)
                have lnn := (RMx_p f83_0).2.2.1
                have lk24 : ¬ tKd T N (sg83).1 = 24 := fun q => by have := ((RMx_p f83_0).2.1 la).2; omega
                refine mx_J.step (sn_182 108) (fun _ _ => rfl) ?_
                have eq225 : Z84 56 8 = x0 := ((hf84 56 8 rfl).trans ((hf61 56 8 rfl).trans ((up_nk hE60 rfl).trans ((hf47 56 8 rfl).trans ((hf26 56 8 rfl).trans ((hf19 56 8 rfl).trans ((hf12 56 8 rfl).trans ((hf11 56 8 rfl).trans ((up_ni hE9 (by decide)).trans ((up_ni hE8 (by decide)).trans ((up_ni hE7 (by decide)).trans (up_at hE6))))))))))))
                obtain ⟨Z224, h224, hc224, hx224, hG224, hf224, b224⟩ := ct_180_56 (T := T) (N := N) (sg := sg83) (d := d + 0) (l := l) (D := D) (b0 := b0) (ad := ad) (Hb := Hb) (tau := tau) hx84 hG84  (show (Z84 56 6 ≤ Z84 56 7 ∧ Z84 56 7 ≤ Z84 56 8 ∧ (Z84 56 9 = 24 ∨ Z84 56 6 < Z84 56 7)) by first | omega | (simp only [eq225]; omega)) (show Z84 60 61 ≤ Z84 56 6 by first | omega | (simp only [eq225]; omega)) (show (Z84 60 2 ≤ Z84 60 1 ∧ Z84 60 1 ≤ 18 * Z84 60 2) by first | omega | (simp only [eq225]; omega)) (show Z84 56 11 = 0 by first | omega | (simp only [eq225]; omega)) (show ¬ Z84 56 9 = 24 by first | omega | (simp only [eq225]; omega)) f83_0
                try rw [eq225] at b224
                obtain ⟨br224, b224⟩ := b224
                obtain ⟨bs224_0, b224⟩ := b224
                have b226 : 0 ≤ Z224 56 6 ∧ Z224 56 6 ≤ 900 := hG224.pr 56 6
                have b227 : 0 ≤ Z224 56 7 ∧ Z224 56 7 ≤ 900 := hG224.pr 56 7
                have b228 : 0 ≤ Z224 56 9 ∧ Z224 56 9 ≤ 100 := hG224.pr 56 9
                have b229 : 0 ≤ Z224 56 11 ∧ Z224 56 11 ≤ 4 := hG224.pr 56 11
                have b230 : 0 ≤ Z224 60 61 ∧ Z224 60 61 ≤ 900 := by have hq : f60 (61 % 962) (Z224 60 61) := (by first | exact GI_ex hG224 60 61 | exact GB_ex hG224 60 61); unfold f60 at hq; omega
                have b231 : (-2147483648) ≤ Z224 60 61 ∧ Z224 60 61 ≤ 2147483647 := hG224.pr 60 61
                have b232 : (-2147483648) ≤ Z224 60 0 ∧ Z224 60 0 ≤ 2147483647 := hG224.pr 60 0
                have b233 : 0 ≤ Z224 60 1 ∧ Z224 60 1 ≤ 18 := by have hq : f60 (1 % 962) (Z224 60 1) := (by first | exact GI_ex hG224 60 1 | exact GB_ex hG224 60 1); unfold f60 at hq; omega
                have b234 : (-2147483648) ≤ Z224 60 1 ∧ Z224 60 1 ≤ 2147483647 := hG224.pr 60 1
                have b235 : 0 ≤ Z224 60 2 ∧ Z224 60 2 ≤ 18 := by have hq : f60 (2 % 962) (Z224 60 2) := (by first | exact GI_ex hG224 60 2 | exact GB_ex hG224 60 2); unfold f60 at hq; omega
                have b236 : (-2147483648) ≤ Z224 60 2 ∧ Z224 60 2 ≤ 2147483647 := hG224.pr 60 2
                refine Jcv0 hx84 (show mx_Sn _ _ 109 (mx_callv 180 1 12 112) from sn_182 109) a56 s56 hc224 rfl rfl rfl ?_
                refine mx_J.step (sn_182 112) (fun _ _ => rfl) ?_
                have eq238 : Z224 56 8 = x0 := ((hf224 56 8 rfl).trans ((hf84 56 8 rfl).trans ((hf61 56 8 rfl).trans ((up_nk hE60 rfl).trans ((hf47 56 8 rfl).trans ((hf26 56 8 rfl).trans ((hf19 56 8 rfl).trans ((hf12 56 8 rfl).trans ((hf11 56 8 rfl).trans ((up_ni hE9 (by decide)).trans ((up_ni hE8 (by decide)).trans ((up_ni hE7 (by decide)).trans (up_at hE6)))))))))))))
                obtain ⟨Z237, h237, hc237, hx237, hG237, hf237, b237⟩ := ct_181_56 (T := T) (N := N) (sg := lnS T N sg83 (Z84 60 1)) (d := d + 92) (l := l) (D := D) (b0 := b0) (ad := ad) (Hb := Hb) (tau := tau) hx224 hG224  (show (Z224 56 6 ≤ Z224 56 7 ∧ Z224 56 7 ≤ Z224 56 8 ∧ (Z224 56 9 = 24 ∨ Z224 56 6 < Z224 56 7)) by first | omega | (simp only [eq238]; omega)) (show (0 ≤ Z224 60 0 ∧ Z224 60 0 ≤ 901) by first | omega | (simp only [eq238]; omega)) br224
                try rw [eq238] at b237
                obtain ⟨br237, b237⟩ := b237
                have b239 : 0 ≤ Z237 56 6 ∧ Z237 56 6 ≤ 900 := hG237.pr 56 6
                have b240 : 0 ≤ Z237 56 7 ∧ Z237 56 7 ≤ 900 := hG237.pr 56 7
                have b241 : 0 ≤ Z237 56 9 ∧ Z237 56 9 ≤ 100 := hG237.pr 56 9
                have b242 : 0 ≤ Z237 56 11 ∧ Z237 56 11 ≤ 4 := hG237.pr 56 11
                have b243 : 0 ≤ Z237 60 61 ∧ Z237 60 61 ≤ 900 := by have hq : f60 (61 % 962) (Z237 60 61) := (by first | exact GI_ex hG237 60 61 | exact GB_ex hG237 60 61); unfold f60 at hq; omega
                have b244 : (-2147483648) ≤ Z237 60 61 ∧ Z237 60 61 ≤ 2147483647 := hG237.pr 60 61
                have b245 : (-2147483648) ≤ Z237 60 0 ∧ Z237 60 0 ≤ 2147483647 := hG237.pr 60 0
                have b246 : 0 ≤ Z237 60 1 ∧ Z237 60 1 ≤ 18 := by have hq : f60 (1 % 962) (Z237 60 1) := (by first | exact GI_ex hG237 60 1 | exact GB_ex hG237 60 1); unfold f60 at hq; omega
                have b247 : (-2147483648) ≤ Z237 60 1 ∧ Z237 60 1 ≤ 2147483647 := hG237.pr 60 1
                have b248 : 0 ≤ Z237 60 2 ∧ Z237 60 2 ≤ 18 := by have hq : f60 (2 % 962) (Z237 60 2) := (by first | exact GI_ex hG237 60 2 | exact GB_ex hG237 60 2); unfold f60 at hq; omega
                have b249 : (-2147483648) ≤ Z237 60 2 ∧ Z237 60 2 ≤ 2147483647 := hG237.pr 60 2
                refine Jcv0 hx224 (show mx_Sn _ _ 113 (mx_callv 181 1 12 116) from sn_182 113) a56 s56 hc237 rfl rfl rfl ?_
                refine mx_J.step (sn_182 116) (fun _ _ => rfl) ?_
                have eq250 : Z237 56 8 = x0 := ((hf237 56 8 rfl).trans ((hf224 56 8 rfl).trans ((hf84 56 8 rfl).trans ((hf61 56 8 rfl).trans ((up_nk hE60 rfl).trans ((hf47 56 8 rfl).trans ((hf26 56 8 rfl).trans ((hf19 56 8 rfl).trans ((hf12 56 8 rfl).trans ((hf11 56 8 rfl).trans ((up_ni hE9 (by decide)).trans ((up_ni hE8 (by decide)).trans ((up_ni hE7 (by decide)).trans (up_at hE6))))))))))))))
                have eq251 : Z237 56 8 = x0 := ((hf237 56 8 rfl).trans ((hf224 56 8 rfl).trans ((hf84 56 8 rfl).trans ((hf61 56 8 rfl).trans ((up_nk hE60 rfl).trans ((hf47 56 8 rfl).trans ((hf26 56 8 rfl).trans ((hf19 56 8 rfl).trans ((hf12 56 8 rfl).trans ((hf11 56 8 rfl).trans ((up_ni hE9 (by decide)).trans ((up_ni hE8 (by decide)).trans ((up_ni hE7 (by decide)).trans (up_at hE6))))))))))))))
                have eq252 : Z237 56 8 = x0 := ((hf237 56 8 rfl).trans ((hf224 56 8 rfl).trans ((hf84 56 8 rfl).trans ((hf61 56 8 rfl).trans ((up_nk hE60 rfl).trans ((hf47 56 8 rfl).trans ((hf26 56 8 rfl).trans ((hf19 56 8 rfl).trans ((hf12 56 8 rfl).trans ((hf11 56 8 rfl).trans ((up_ni hE9 (by decide)).trans ((up_ni hE8 (by decide)).trans ((up_ni hE7 (by decide)).trans (up_at hE6))))))))))))))
                exact ih83 (gEx T N 30 (lnS T N sg83 (Z84 60 1))) Z237 h237 (by omega) br237 (by omega) (by omega) (by rw [show Z237 60 0 = Z84 60 0 + 1 by omega]; exact LK_s lk lnn la lk24 (LY_e (by assumption) (by omega))) hx237 hG237 (fr_tr (M := [(56, 6), (56, 7), (56, 9), (56, 10), (56, 11), (56, 12), (60, (-1))]) (fr_tr (M := [(56, 6), (56, 7), (56, 9), (56, 10), (56, 11), (56, 12), (60, (-1))]) (fr_tr (M := [(56, 6), (56, 7), (56, 9), (56, 10), (56, 11), (56, 12), (60, (-1))]) fr_rf (hf84) (M1 := []) rfl rfl) (hf224) rfl rfl) (hf237) rfl rfl)
        have eq253 : Z61 56 8 = x0 := ((hf61 56 8 rfl).trans ((up_nk hE60 rfl).trans ((hf47 56 8 rfl).trans ((hf26 56 8 rfl).trans ((hf19 56 8 rfl).trans ((hf12 56 8 rfl).trans ((hf11 56 8 rfl).trans ((up_ni hE9 (by decide)).trans ((up_ni hE8 (by decide)).trans ((up_ni hE7 (by decide)).trans (up_at hE6)))))))))))
        have eq254 : Z61 56 8 = x0 := ((hf61 56 8 rfl).trans ((up_nk hE60 rfl).trans ((hf47 56 8 rfl).trans ((hf26 56 8 rfl).trans ((hf19 56 8 rfl).trans ((hf12 56 8 rfl).trans ((hf11 56 8 rfl).trans ((up_ni hE9 (by decide)).trans ((up_ni hE8 (by decide)).trans ((up_ni hE7 (by decide)).trans (up_at hE6)))))))))))
        have eq255 : Z61 56 8 = x0 := ((hf61 56 8 rfl).trans ((up_nk hE60 rfl).trans ((hf47 56 8 rfl).trans ((hf26 56 8 rfl).trans ((hf19 56 8 rfl).trans ((hf12 56 8 rfl).trans ((hf11 56 8 rfl).trans ((up_ni hE9 (by decide)).trans ((up_ni hE8 (by decide)).trans ((up_ni hE7 (by decide)).trans (up_at hE6)))))))))))
        exact c92 (Int.toNat (((((Z61 56 8 - Z61 56 6) * 5 + 4 - Z61 56 11).toNat : Nat) : Int)) + 1) (gEx T N 30 (gTk T N 0 9 (rdA T N))) Z61 h61 (by omega) br61 (by omega) (by omega) (by rw [show Z61 60 0 = 1 by omega]; exact LK_0 (s0 := gEx T N 30 (gTk T N 0 9 (rdA T N))) rfl rfl (by omega)) hx61 hG61 fr_rf
      have c69 : ∀ (sg256 : SS) (Z257 : xZ) (h257 : mx_H), RMx T N Z257 sg256 → (Z257 56 6 ≤ Z257 56 7 ∧ Z257 56 7 ≤ Z257 56 8 ∧ (Z257 56 9 = 24 ∨ Z257 56 6 < Z257 56 7) ∧ Z257 60 61 ≤ Z257 56 6 ∧ Z257 60 2 ≤ Z257 60 1 ∧ Z257 60 1 ≤ 18 * Z257 60 2 ∧ (Z257 56 11 = 0 → WFF Z257 = 1)) → (Z257 60 0 = 0 ∧ Z257 60 1 = 0) → gFt T N 2 sg256 = rdA T N → XH n s S Z257 h257 → GI n S Z257 → fr' [(56, 6), (56, 7), (56, 9), (56, 10)] Z19 Z257 → mx_J (tB l D b0 ad Hb tau) mt_182 (d + 100) 69 [some (.ref 56), some (xI x0), none] [] h257 Post := by
        intro sg256 Z257 h257 f256_0 f256_1 f256_2 f256_3 hx257 hG257 hf257
        have b258 : 0 ≤ Z257 56 6 ∧ Z257 56 6 ≤ 900 := hG257.pr 56 6
        have b259 : 0 ≤ Z257 56 7 ∧ Z257 56 7 ≤ 900 := hG257.pr 56 7
        have eq260 : Z257 56 8 = x0 := ((hf257 56 8 rfl).trans ((hf19 56 8 rfl).trans ((hf12 56 8 rfl).trans ((hf11 56 8 rfl).trans ((up_ni hE9 (by decide)).trans ((up_ni hE8 (by decide)).trans ((up_ni hE7 (by decide)).trans (up_at hE6))))))))
        have b261 : 0 ≤ Z257 56 9 ∧ Z257 56 9 ≤ 100 := hG257.pr 56 9
        have eq262 : Z257 56 11 = 0 := ((hf257 56 11 rfl).trans ((hf19 56 11 rfl).trans ((hf12 56 11 rfl).trans ((hf11 56 11 rfl).trans (up_at hE9)))))
        have eq263 : Z257 60 61 = Z11 60 61 := ((hf257 60 61 rfl).trans ((hf19 60 61 rfl).trans (hf12 60 61 rfl)))
        have b264 : 0 ≤ Z11 60 61 ∧ Z11 60 61 ≤ 900 := by have hq : f60 (61 % 962) (Z11 60 61) := (by first | exact GI_ex hG11 60 61 | exact GB_ex hG11 60 61); unfold f60 at hq; omega
        have b265 : (-2147483648) ≤ Z11 60 61 ∧ Z11 60 61 ≤ 2147483647 := hG11.pr 60 61
        have eq266 : Z257 60 0 = Z11 60 0 := ((hf257 60 0 rfl).trans ((hf19 60 0 rfl).trans (hf12 60 0 rfl)))
        have b267 : (-2147483648) ≤ Z11 60 0 ∧ Z11 60 0 ≤ 2147483647 := hG11.pr 60 0
        have eq268 : Z257 60 1 = Z11 60 1 := ((hf257 60 1 rfl).trans ((hf19 60 1 rfl).trans (hf12 60 1 rfl)))
        have b269 : 0 ≤ Z11 60 1 ∧ Z11 60 1 ≤ 18 := by have hq : f60 (1 % 962) (Z11 60 1) := (by first | exact GI_ex hG11 60 1 | exact GB_ex hG11 60 1); unfold f60 at hq; omega
        have b270 : (-2147483648) ≤ Z11 60 1 ∧ Z11 60 1 ≤ 2147483647 := hG11.pr 60 1
        have eq271 : Z257 60 2 = Z11 60 2 := ((hf257 60 2 rfl).trans ((hf19 60 2 rfl).trans (hf12 60 2 rfl)))
        have b272 : 0 ≤ Z11 60 2 ∧ Z11 60 2 ≤ 18 := by have hq : f60 (2 % 962) (Z11 60 2) := (by first | exact GI_ex hG11 60 2 | exact GB_ex hG11 60 2); unfold f60 at hq; omega
        have b273 : (-2147483648) ≤ Z11 60 2 ∧ Z11 60 2 ≤ 2147483647 := hG11.pr 60 2
        have eq274 : WFF Z257  = WFF Z11 := ((WFF_c (fun i => hf257 60 i rfl)).trans ((WFF_c (fun i => hf19 60 i rfl)).trans (WFF_c (fun i => hf12 60 i rfl))))
        have eq275 : Z257 60 0 = Z11 60 0 := ((hf257 60 0 rfl).trans ((hf19 60 0 rfl).trans (hf12 60 0 rfl)))
        have eq276 : Z257 60 1 = Z11 60 1 := ((hf257 60 1 rfl).trans ((hf19 60 1 rfl).trans (hf12 60 1 rfl)))
        refine mx_J.step (sn_182 69) (fun _ _ => rfl) ?_
        refine JcI (z := 2) (show mx_Sn _ _ 70 (mx_const (.int 2) 71) from sn_182 70) rfl ?_
        have eq278 : Z257 56 11 = 0 := ((hf257 56 11 rfl).trans ((hf19 56 11 rfl).trans ((hf12 56 11 rfl).trans ((hf11 56 11 rfl).trans (up_at hE9)))))
        obtain ⟨Z277, h277, hc277, hx277, hG277, hf277, b277⟩ := ct_163_56x (T := T) (N := N) (sg := sg256) (d := d + 99) (l := l) (D := D) (b0 := b0) (ad := ad) (Hb := Hb) (tau := tau) hx257 hG257 (show 2 ≤ 2 ∧ 2 ≤ 4 by omega) f256_0
        try rw [eq278] at b277
        obtain ⟨br277, b277⟩ := b277
        have b279 : 0 ≤ Z277 56 11 ∧ Z277 56 11 ≤ 4 := hG277.pr 56 11
        refine Jcv0 hx257 (show mx_Sn _ _ 71 (mx_callv 163 2 12 74) from sn_182 71) a56 s56 hc277 rfl rfl rfl ?_
        have eq280 : Z277 56 6 = Z257 56 6 := (hf277 56 6 rfl)
        have eq281 : Z277 56 7 = Z257 56 7 := (hf277 56 7 rfl)
        have eq282 : Z277 56 8 = x0 := ((hf277 56 8 rfl).trans ((hf257 56 8 rfl).trans ((hf19 56 8 rfl).trans ((hf12 56 8 rfl).trans ((hf11 56 8 rfl).trans ((up_ni hE9 (by decide)).trans ((up_ni hE8 (by decide)).trans ((up_ni hE7 (by decide)).trans (up_at hE6)))))))))
        have eq283 : Z277 56 9 = Z257 56 9 := (hf277 56 9 rfl)
        have eq284 : Z277 60 61 = Z11 60 61 := ((hf277 60 61 rfl).trans ((hf257 60 61 rfl).trans ((hf19 60 61 rfl).trans (hf12 60 61 rfl))))
        have eq285 : Z277 60 0 = Z11 60 0 := ((hf277 60 0 rfl).trans ((hf257 60 0 rfl).trans ((hf19 60 0 rfl).trans (hf12 60 0 rfl))))
        have eq286 : Z277 60 1 = Z11 60 1 := ((hf277 60 1 rfl).trans ((hf257 60 1 rfl).trans ((hf19 60 1 rfl).trans (hf12 60 1 rfl))))
        have eq287 : Z277 60 2 = Z11 60 2 := ((hf277 60 2 rfl).trans ((hf257 60 2 rfl).trans ((hf19 60 2 rfl).trans (hf12 60 2 rfl))))
        have eq288 : WFF Z277  = WFF Z11 := ((WFF_c (fun i => hf277 60 i rfl)).trans ((WFF_c (fun i => hf257 60 i rfl)).trans ((WFF_c (fun i => hf19 60 i rfl)).trans (WFF_c (fun i => hf12 60 i rfl)))))
        have eq289 : Z277 60 0 = Z11 60 0 := ((hf277 60 0 rfl).trans ((hf257 60 0 rfl).trans ((hf19 60 0 rfl).trans (hf12 60 0 rfl))))
        have eq290 : Z277 60 1 = Z11 60 1 := ((hf277 60 1 rfl).trans ((hf257 60 1 rfl).trans ((hf19 60 1 rfl).trans (hf12 60 1 rfl))))
        exact c74 Z277 h277 (by omega) (by omega) (RMx_e br277 ((by assumption : gFt T N 2 sg256 = rdA T N).symm)) hx277 hG277 (fr_tr (M := [(56, 6), (56, 7), (56, 9), (56, 10), (56, 11), (56, 12)]) (fr_tr (M := [(56, 6), (56, 7), (56, 9), (56, 10), (56, 11), (56, 12)]) fr_rf (hf257) (M1 := []) rfl rfl) (hf277) rfl rfl)
      refine Jif_eq (show mx_Sn _ _ 58 (mx_if_eq 69 61) from sn_182 58) (by omega) (fun q291 => ?_) (fun q291 => ?_)
      · skip
        have eq292 : Z19 56 8 = x0 := ((hf19 56 8 rfl).trans ((hf12 56 8 rfl).trans ((hf11 56 8 rfl).trans ((up_ni hE9 (by decide)).trans ((up_ni hE8 (by decide)).trans ((up_ni hE7 (by decide)).trans (up_at hE6)))))))
        have eq293 : Z19 56 11 = 0 := ((hf19 56 11 rfl).trans ((hf12 56 11 rfl).trans ((hf11 56 11 rfl).trans (up_at hE9))))
        have eq294 : Z19 60 61 = Z11 60 61 := ((hf19 60 61 rfl).trans (hf12 60 61 rfl))
        have b295 : 0 ≤ Z11 60 61 ∧ Z11 60 61 ≤ 900 := by have hq : f60 (61 % 962) (Z11 60 61) := (by first | exact GI_ex hG11 60 61 | exact GB_ex hG11 60 61); unfold f60 at hq; omega
        have b296 : (-2147483648) ≤ Z11 60 61 ∧ Z11 60 61 ≤ 2147483647 := hG11.pr 60 61
        have eq297 : Z19 60 0 = Z11 60 0 := ((hf19 60 0 rfl).trans (hf12 60 0 rfl))
        have b298 : (-2147483648) ≤ Z11 60 0 ∧ Z11 60 0 ≤ 2147483647 := hG11.pr 60 0
        have eq299 : Z19 60 1 = Z11 60 1 := ((hf19 60 1 rfl).trans (hf12 60 1 rfl))
        have b300 : 0 ≤ Z11 60 1 ∧ Z11 60 1 ≤ 18 := by have hq : f60 (1 % 962) (Z11 60 1) := (by first | exact GI_ex hG11 60 1 | exact GB_ex hG11 60 1); unfold f60 at hq; omega
        have b301 : (-2147483648) ≤ Z11 60 1 ∧ Z11 60 1 ≤ 2147483647 := hG11.pr 60 1
        have eq302 : Z19 60 2 = Z11 60 2 := ((hf19 60 2 rfl).trans (hf12 60 2 rfl))
        have b303 : 0 ≤ Z11 60 2 ∧ Z11 60 2 ≤ 18 := by have hq : f60 (2 % 962) (Z11 60 2) := (by first | exact GI_ex hG11 60 2 | exact GB_ex hG11 60 2); unfold f60 at hq; omega
        have b304 : (-2147483648) ≤ Z11 60 2 ∧ Z11 60 2 ≤ 2147483647 := hG11.pr 60 2
        have eq305 : WFF Z19  = WFF Z11 := ((WFF_c (fun i => hf19 60 i rfl)).trans (WFF_c (fun i => hf12 60 i rfl)))
        have eq306 : Z19 60 0 = Z11 60 0 := ((hf19 60 0 rfl).trans (hf12 60 0 rfl))
        have eq307 : Z19 60 1 = Z11 60 1 := ((hf19 60 1 rfl).trans (hf12 60 1 rfl))
        exact c69 (gEt T N 0 (tBg T N 0, [])) Z19 h19 br19 (by omega) (by omega) (rdA_0 (fun q => by have := gt0.mpr q; omega)) hx19 hG19 fr_rf
      · skip
        have gt1 := RMx_is (k := 1) br19
        refine mx_J.step (sn_182 61) (fun _ _ => rfl) ?_
        refine JcI (z := 1) (show mx_Sn _ _ 62 (mx_const (.int 1) 63) from sn_182 62) rfl ?_
        have eq309 : Z19 56 8 = x0 := ((hf19 56 8 rfl).trans ((hf12 56 8 rfl).trans ((hf11 56 8 rfl).trans ((up_ni hE9 (by decide)).trans ((up_ni hE8 (by decide)).trans ((up_ni hE7 (by decide)).trans (up_at hE6)))))))
        have eq310 : Z19 56 11 = 0 := ((hf19 56 11 rfl).trans ((hf12 56 11 rfl).trans ((hf11 56 11 rfl).trans (up_at hE9))))
        obtain ⟨z308, Z308, h308, hc308, hx308, hG308, hf308, b308⟩ := ct_165_56x (T := T) (N := N) (sg := gEt T N 0 (tBg T N 0, [])) (d := d + 93) (l := l) (D := D) (b0 := b0) (ad := ad) (Hb := Hb) (tau := tau) hx19 hG19 (show 0 ≤ 1 ∧ 1 ≤ 100 by omega) (show (Z19 56 6 ≤ Z19 56 7 ∧ Z19 56 7 ≤ Z19 56 8 ∧ (Z19 56 9 = 24 ∨ Z19 56 6 < Z19 56 7)) by first | omega | (simp only [eq309, eq310]; omega)) (show ¬ 1 = 24 by first | omega | (simp only [eq309, eq310]; omega)) br19
        try rw [eq309] at b308
        try rw [eq310] at b308
        obtain ⟨br308, b308⟩ := b308
        have b311 : 0 ≤ Z308 56 6 ∧ Z308 56 6 ≤ 900 := hG308.pr 56 6
        have b312 : 0 ≤ Z308 56 7 ∧ Z308 56 7 ≤ 900 := hG308.pr 56 7
        have b313 : 0 ≤ Z308 56 9 ∧ Z308 56 9 ≤ 100 := hG308.pr 56 9
        refine Jcv hx19 (show mx_Sn _ _ 63 (mx_callv 165 2 12 66) from sn_182 63) a56 s56 hc308 rfl rfl rfl ?_
        refine Jif_ne (show mx_Sn _ _ 66 (mx_if_ne 74 69) from sn_182 66) (by omega) (fun q314 => ?_) (fun q314 => ?_)
        · skip
          have eq315 : Z308 56 8 = x0 := ((hf308 56 8 rfl).trans ((hf19 56 8 rfl).trans ((hf12 56 8 rfl).trans ((hf11 56 8 rfl).trans ((up_ni hE9 (by decide)).trans ((up_ni hE8 (by decide)).trans ((up_ni hE7 (by decide)).trans (up_at hE6))))))))
          have eq316 : Z308 56 11 = 0 := ((hf308 56 11 rfl).trans ((hf19 56 11 rfl).trans ((hf12 56 11 rfl).trans ((hf11 56 11 rfl).trans (up_at hE9)))))
          have eq317 : Z308 60 61 = Z11 60 61 := ((hf308 60 61 rfl).trans ((hf19 60 61 rfl).trans (hf12 60 61 rfl)))
          have b318 : 0 ≤ Z11 60 61 ∧ Z11 60 61 ≤ 900 := by have hq : f60 (61 % 962) (Z11 60 61) := (by first | exact GI_ex hG11 60 61 | exact GB_ex hG11 60 61); unfold f60 at hq; omega
          have b319 : (-2147483648) ≤ Z11 60 61 ∧ Z11 60 61 ≤ 2147483647 := hG11.pr 60 61
          have eq320 : Z308 60 0 = Z11 60 0 := ((hf308 60 0 rfl).trans ((hf19 60 0 rfl).trans (hf12 60 0 rfl)))
          have b321 : (-2147483648) ≤ Z11 60 0 ∧ Z11 60 0 ≤ 2147483647 := hG11.pr 60 0
          have eq322 : Z308 60 1 = Z11 60 1 := ((hf308 60 1 rfl).trans ((hf19 60 1 rfl).trans (hf12 60 1 rfl)))
          have b323 : 0 ≤ Z11 60 1 ∧ Z11 60 1 ≤ 18 := by have hq : f60 (1 % 962) (Z11 60 1) := (by first | exact GI_ex hG11 60 1 | exact GB_ex hG11 60 1); unfold f60 at hq; omega
          have b324 : (-2147483648) ≤ Z11 60 1 ∧ Z11 60 1 ≤ 2147483647 := hG11.pr 60 1
          have eq325 : Z308 60 2 = Z11 60 2 := ((hf308 60 2 rfl).trans ((hf19 60 2 rfl).trans (hf12 60 2 rfl)))
          have b326 : 0 ≤ Z11 60 2 ∧ Z11 60 2 ≤ 18 := by have hq : f60 (2 % 962) (Z11 60 2) := (by first | exact GI_ex hG11 60 2 | exact GB_ex hG11 60 2); unfold f60 at hq; omega
          have b327 : (-2147483648) ≤ Z11 60 2 ∧ Z11 60 2 ≤ 2147483647 := hG11.pr 60 2
          have eq328 : WFF Z308  = WFF Z11 := ((WFF_c (fun i => hf308 60 i rfl)).trans ((WFF_c (fun i => hf19 60 i rfl)).trans (WFF_c (fun i => hf12 60 i rfl))))
          have eq329 : Z308 60 0 = Z11 60 0 := ((hf308 60 0 rfl).trans ((hf19 60 0 rfl).trans (hf12 60 0 rfl)))
          have eq330 : Z308 60 1 = Z11 60 1 := ((hf308 60 1 rfl).trans ((hf19 60 1 rfl).trans (hf12 60 1 rfl)))
          exact c74 Z308 h308 (by omega) (by omega) (RMx_e br308 (rdA_2 (gt0.mp (by omega)) (gt1.mp (by omega)))) hx308 hG308 (fr_tr (M := [(56, 6), (56, 7), (56, 9), (56, 10), (56, 11), (56, 12)]) fr_rf (hf308) (M1 := []) rfl rfl)
        · skip
          have eq331 : Z308 56 8 = x0 := ((hf308 56 8 rfl).trans ((hf19 56 8 rfl).trans ((hf12 56 8 rfl).trans ((hf11 56 8 rfl).trans ((up_ni hE9 (by decide)).trans ((up_ni hE8 (by decide)).trans ((up_ni hE7 (by decide)).trans (up_at hE6))))))))
          have eq332 : Z308 56 11 = 0 := ((hf308 56 11 rfl).trans ((hf19 56 11 rfl).trans ((hf12 56 11 rfl).trans ((hf11 56 11 rfl).trans (up_at hE9)))))
          have eq333 : Z308 60 61 = Z11 60 61 := ((hf308 60 61 rfl).trans ((hf19 60 61 rfl).trans (hf12 60 61 rfl)))
          have b334 : 0 ≤ Z11 60 61 ∧ Z11 60 61 ≤ 900 := by have hq : f60 (61 % 962) (Z11 60 61) := (by first | exact GI_ex hG11 60 61 | exact GB_ex hG11 60 61); unfold f60 at hq; omega
          have b335 : (-2147483648) ≤ Z11 60 61 ∧ Z11 60 61 ≤ 2147483647 := hG11.pr 60 61
          have eq336 : Z308 60 0 = Z11 60 0 := ((hf308 60 0 rfl).trans ((hf19 60 0 rfl).trans (hf12 60 0 rfl)))
          have b337 : (-2147483648) ≤ Z11 60 0 ∧ Z11 60 0 ≤ 2147483647 := hG11.pr 60 0
          have eq338 : Z308 60 1 = Z11 60 1 := ((hf308 60 1 rfl).trans ((hf19 60 1 rfl).trans (hf12 60 1 rfl)))
          have b339 : 0 ≤ Z11 60 1 ∧ Z11 60 1 ≤ 18 := by have hq : f60 (1 % 962) (Z11 60 1) := (by first | exact GI_ex hG11 60 1 | exact GB_ex hG11 60 1); unfold f60 at hq; omega
          have b340 : (-2147483648) ≤ Z11 60 1 ∧ Z11 60 1 ≤ 2147483647 := hG11.pr 60 1
          have eq341 : Z308 60 2 = Z11 60 2 := ((hf308 60 2 rfl).trans ((hf19 60 2 rfl).trans (hf12 60 2 rfl)))
          have b342 : 0 ≤ Z11 60 2 ∧ Z11 60 2 ≤ 18 := by have hq : f60 (2 % 962) (Z11 60 2) := (by first | exact GI_ex hG11 60 2 | exact GB_ex hG11 60 2); unfold f60 at hq; omega
          have b343 : (-2147483648) ≤ Z11 60 2 ∧ Z11 60 2 ≤ 2147483647 := hG11.pr 60 2
          have eq344 : WFF Z308  = WFF Z11 := ((WFF_c (fun i => hf308 60 i rfl)).trans ((WFF_c (fun i => hf19 60 i rfl)).trans (WFF_c (fun i => hf12 60 i rfl))))
          have eq345 : Z308 60 0 = Z11 60 0 := ((hf308 60 0 rfl).trans ((hf19 60 0 rfl).trans (hf12 60 0 rfl)))
          have eq346 : Z308 60 1 = Z11 60 1 := ((hf308 60 1 rfl).trans ((hf19 60 1 rfl).trans (hf12 60 1 rfl)))
          exact c69 (gEt T N 1 (gEt T N 0 (tBg T N 0, []))) Z308 h308 br308 (by omega) (by omega) (rdA_1 (gt0.mp (by omega)) (fun q => by have := gt1.mpr q; omega)) hx308 hG308 (fr_tr (M := [(56, 6), (56, 7), (56, 9), (56, 10)]) fr_rf (hf308) (M1 := []) rfl rfl)
    · skip
      have wr : (x0 < 0 ∨ Z 56 5 < x0) := by omega
      refine JcI (z := (-3)) (show mx_Sn _ _ 19 (mx_const (.int (-3)) 21) from sn_182 19) rfl ?_
      have eq347 : Z1 56 5 = Z 56 5 := (up_ni hE1 (by decide))
      have eq348 : Z1 56 13 = Z 56 13 := (up_ni hE1 (by decide))
      have b349 : 0 ≤ Z 56 13 ∧ Z 56 13 ≤ 4 := hG.pr 56 13
      have eq350 : Z1 56 14 = Z 56 14 := (up_ni hE1 (by decide))
      have b351 : (-1) ≤ Z 56 14 ∧ Z 56 14 ≤ 900 := hG.pr 56 14
      have eq352 : Z1 57 963 = Z 57 963 := (up_nk hE1 rfl)
      have b353 : 0 ≤ Z 57 963 ∧ Z 57 963 ≤ 18 := by have hq : f57 (963 % 962) (Z 57 963) := (by first | exact GI_ex hG 57 963 | exact GB_ex hG 57 963); unfold f57 at hq; omega
      have b354 : (-2147483648) ≤ Z 57 963 ∧ Z 57 963 ≤ 2147483647 := hG.pr 57 963
      have eq355 : Z1 57 1925 = Z 57 1925 := (up_nk hE1 rfl)
      have b356 : 0 ≤ Z 57 1925 ∧ Z 57 1925 ≤ 18 := by have hq : f57 (1925 % 962) (Z 57 1925) := (by first | exact GI_ex hG 57 1925 | exact GB_ex hG 57 1925); unfold f57 at hq; omega
      have b357 : (-2147483648) ≤ Z 57 1925 ∧ Z 57 1925 ≤ 2147483647 := hG.pr 57 1925
      have eq358 : Z1 56 5 = Z 56 5 := (up_ni hE1 (by decide))
      have eq359 : Z1 56 13 = Z 56 13 := (up_ni hE1 (by decide))
      have eq360 : Z1 56 14 = Z 56 14 := (up_ni hE1 (by decide))
      have eq361 : Z1 57 963 = Z 57 963 := (up_nk hE1 rfl)
      have eq362 : Z1 57 1925 = Z 57 1925 := (up_nk hE1 rfl)
      have eq363 : Z1 57 1 = Z 57 1 := (up_nk hE1 rfl)
      have b364 : 0 ≤ Z 57 1 ∧ Z 57 1 ≤ 18 := by have hq : f57 (1 % 962) (Z 57 1) := (by first | exact GI_ex hG 57 1 | exact GB_ex hG 57 1); unfold f57 at hq; omega
      have b365 : (-2147483648) ≤ Z 57 1 ∧ Z 57 1 ≤ 2147483647 := hG.pr 57 1
      exact mx_J.ret (sn_182 21) (fun _ _ => rfl) (hP (-3) Z1 h1 hx1 hG1 (fr_tr (M := [(56, 0), (56, 5), (56, 6), (56, 7), (56, 8), (56, 9), (56, 10), (56, 11), (56, 12), (56, 13), (56, 14), (56, 18), (57, (-1)), (60, (-1)), (61, (-1)), (62, (-1)), (63, (-1))]) fr_rf (fr_up hE1) (M1 := []) rfl rfl) ⟨(fun q => absurd wr q), (fun _ => ⟨(up_ni hE1 (by decide)), rfl, (up_ni hE1 (by decide)), (up_ni hE1 (by decide))⟩), (fun q => absurd wr q), (⟨fun _ => (up_nk hE1 rfl), fun q => absurd q (by decide)⟩), (fun _ r => RTB_e r (fun i => (up_nk hE1 rfl)) (up_nk hE1 rfl)), by omega⟩)
theorem ct_182_56 {l : Launch} {D : va_G} {b0 : Nat} {ad : Nat → Nat} {Hb : Heap} {tau : Nat → Int64} {d n s : Nat} {S : Nat → xS} {Z : xZ} {h : mx_H} {T : Int → Int} {N : Int} (hx : XH n s S Z h) (hG : GI n S Z)  {x0 : Int} (p0 : (-2147483648) ≤ x0 ∧ x0 ≤ 2147483647) (k0 : (¬ (x0 < 0 ∨ Z 56 5 < x0) → TE T N Z)) (k1 : N = x0) : ∃ (z : Int) (Z' : xZ) (h' : mx_H), mx_Ca (tB l D b0 ad Hb tau) (d + 101) 182 [.ref 56, xI x0] h (some (xI z), h') ∧ XH n s S Z' h' ∧ GI n S Z' ∧ fr' [(56, 0), (56, 5), (56, 6), (56, 7), (56, 8), (56, 9), (56, 10), (56, 11), (56, 12), (56, 13), (56, 14), (56, 18), (57, (-1)), (60, (-1)), (61, (-1)), (62, (-1)), (63, (-1))] Z Z' ∧ ((¬ (x0 < 0 ∨ Z 56 5 < x0) → BR T x0 z (Z' 56 13) (Z' 56 14)) ∧ ((x0 < 0 ∨ Z 56 5 < x0) → Z' 56 5 = Z 56 5 ∧ z = -3 ∧ Z' 56 13 = Z 56 13 ∧ Z' 56 14 = Z 56 14) ∧ (¬ (x0 < 0 ∨ Z 56 5 < x0) → Z' 56 5 = 0) ∧ BST T x0 z (Z 57 1) (Z' 57 1) ∧ (1 ≤ Z' 57 1 → RTB Z (Z 57 1) → RTB Z' (Z' 57 1)) ∧ (-2147483648) ≤ z ∧ z ≤ 2147483647 ∧ (Z' 57 963 = Z 57 963 ∧ Z' 57 1925 = Z 57 1925)) := by
  obtain ⟨r, hca, z, Z', h', e, q⟩ := Jmt (B := tB l D b0 ad Hb tau) (M := mt_182) (mi := 182) (as := [.ref 56, xI x0]) (d := d + 100) (ls := [some (.ref 56), some (xI x0), none]) rfl rfl rfl rfl rfl rfl (cw_182_56 (l := l) (D := D) (b0 := b0) (ad := ad) (Hb := Hb) (tau := tau) (d := d) (Post := fun r => ∃ (z : Int) (Z' : xZ) (h' : mx_H), r = (some (xI z), h') ∧ XH n s S Z' h' ∧ GI n S Z' ∧ fr' [(56, 0), (56, 5), (56, 6), (56, 7), (56, 8), (56, 9), (56, 10), (56, 11), (56, 12), (56, 13), (56, 14), (56, 18), (57, (-1)), (60, (-1)), (61, (-1)), (62, (-1)), (63, (-1))] Z Z' ∧ ((¬ (x0 < 0 ∨ Z 56 5 < x0) → BR T x0 z (Z' 56 13) (Z' 56 14)) ∧ ((x0 < 0 ∨ Z 56 5 < x0) → Z' 56 5 = Z 56 5 ∧ z = -3 ∧ Z' 56 13 = Z 56 13 ∧ Z' 56 14 = Z 56 14) ∧ (¬ (x0 < 0 ∨ Z 56 5 < x0) → Z' 56 5 = 0) ∧ BST T x0 z (Z 57 1) (Z' 57 1) ∧ (1 ≤ Z' 57 1 → RTB Z (Z 57 1) → RTB Z' (Z' 57 1)) ∧ (-2147483648) ≤ z ∧ z ≤ 2147483647 ∧ (Z' 57 963 = Z 57 963 ∧ Z' 57 1925 = Z 57 1925))) hx hG p0 k0 k1 (fun z Z' h' q1 q2 q3 q4 => ⟨z, Z', h', rfl, q1, q2, q3, q4⟩))
  subst e; exact ⟨z, Z', h', hca, q⟩
