set_option maxHeartbeats 8000000 in
set_option maxRecDepth 100000 in
theorem cw_182_56 {l : Launch} {D : va_G} {b0 : Nat} {ad : Nat → Nat} {Hb : Heap} {tau : Nat → Int64} {d n s : Nat} {S : Nat → xS} {Z : xZ} {h : mx_H} {Post : mx_R → Prop} (hx : XH n s S Z h) (hG : GI n S Z)  {x0 : Int} (p0 : (-2147483648) ≤ x0 ∧ x0 ≤ 2147483647) (hP : ∀ (z : Int) (Z' : xZ) (h' : mx_H), XH n s S Z' h' → GI n S Z' → fr' [(56, 0), (56, 5), (56, 6), (56, 7), (56, 8), (56, 9), (56, 10), (56, 11), (56, 12), (56, 13), (56, 14), (56, 18), (57, (-1)), (60, (-1)), (61, (-1)), (62, (-1)), (63, (-1))] Z Z' → (-2147483648) ≤ z ∧ z ≤ 2147483647 ∧ (((x0 < 0 ∨ Z 56 5 < x0) → Z' 56 5 = Z 56 5) ∧ (¬ (x0 < 0 ∨ Z 56 5 < x0) → Z' 56 5 = 0)) → Post (some (xI z), h')) : mx_J (tB l D b0 ad Hb tau) mt_182 (d + 100) 0 [some (.ref 56), some (xI x0), none] [] h Post := by
    have a56 : 56 < n := lt83 (GI_n hG) rfl
    have s56 : S 56 = .inl (12, [0, 2, 2, 2, 2, 0, 0, 0, 0, 0, 0, 0, 0, 0, 0, 2, 2, 2, 0, 2, 2, 2, 0, 0, 2, 2, 2, 2, 2, 2, 0, 0, 2, 2, 2, 2, 2, 2, 2, 2, 2, 2]) := GI_s hG 56 rfl
    have a57 : 57 < n := lt83 (GI_n hG) rfl
    have s57 : S 57 = .inr (.int, 2886, 0) := GI_s hG 57 rfl
    have a60 : 60 < n := lt83 (GI_n hG) rfl
    have s60 : S 60 = .inr (.int, 962, 0) := GI_s hG 60 rfl
    have a62 : 62 < n := lt83 (GI_n hG) rfl
    have s62 : S 62 = .inr (.int, 20, 0) := GI_s hG 62 rfl
    refine mx_J.step (sn_182 0) (fun _ _ => rfl) ?_
    refine JcI (z := 0) (show mx_Sn _ _ 1 (mx_const (.int 0) 2) from sn_182 1) rfl ?_
    refine JputI (g := 0) hx (show mx_Sn _ _ 2 (mx_putf 1 12 0 (.int) 5) from sn_182 2) a56 s56 rfl rfl rfl rfl (fun Z1 h1 hx1 hE1 => ?_)
    have hG1 := GI_up hG hE1 (show (-2147483648) ≤ 0 ∧ 0 ≤ 2147483647 by omega) trivial rfl
    refine mx_J.step (sn_182 5) (fun _ _ => rfl) ?_
    refine Ji2l (show mx_Sn _ _ 6 (mx_i2l 7) from sn_182 6) (by omega) ?_
    refine JcL (z := 0) (show mx_Sn _ _ 7 (mx_const (.long 0) 8) from sn_182 7) rfl ?_
    refine mx_J.step (sn_182 8) (fun _ _ => rfl) ?_
    have b3 : 0 ≤ Z 56 5 ∧ Z 56 5 ≤ 900 := hG.pr 56 5
    refine JgetI (g := 5) (z := Z 56 5) hx1 (show mx_Sn _ _ 9 (mx_getf 12 5 12) from sn_182 9) a56 s56 rfl rfl (up_ni hE1 (by decide)) ?_
    refine Ji2l (show mx_Sn _ _ 12 (mx_i2l 13) from sn_182 12) (by omega) ?_
    obtain ⟨z4, hc4, b4⟩ := ct_154_ (d := d + 99) (l := l) (D := D) (b0 := b0) (ad := ad) (Hb := Hb) (tau := tau) hx1 hG1 (show (-9223372036854775808) ≤ x0 ∧ x0 ≤ 9223372036854775807 by omega) (show (-9223372036854775808) ≤ 0 ∧ 0 ≤ 9223372036854775807 by omega) (show (-9223372036854775808) ≤ Z 56 5 ∧ Z 56 5 ≤ 9223372036854775807 by omega)
    refine Jcs (show mx_Sn _ _ 13 (mx_calls 154 3 16) from sn_182 13) hc4 rfl rfl rfl ?_
    refine Jif_ne (show mx_Sn _ _ 16 (mx_if_ne 22 19) from sn_182 16) (by omega) (fun q5 => ?_) (fun q5 => ?_)
    · skip
      have nw : ¬ (x0 < 0 ∨ Z 56 5 < x0) := by omega
      refine mx_J.step (sn_182 22) (fun _ _ => rfl) ?_
      refine mx_J.step (sn_182 23) (fun _ _ => rfl) ?_
      refine JputI (g := 8) hx1 (show mx_Sn _ _ 24 (mx_putf 1 12 8 (.int) 27) from sn_182 24) a56 s56 rfl rfl rfl rfl (fun Z6 h6 hx6 hE6 => ?_)
      have hG6 := GI_up hG1 hE6 (show 0 ≤ x0 ∧ x0 ≤ 900 by omega) trivial rfl
      refine mx_J.step (sn_182 27) (fun _ _ => rfl) ?_
      refine JcI (z := 0) (show mx_Sn _ _ 28 (mx_const (.int 0) 29) from sn_182 28) rfl ?_
      refine JputI (g := 5) hx6 (show mx_Sn _ _ 29 (mx_putf 1 12 5 (.int) 32) from sn_182 29) a56 s56 rfl rfl rfl rfl (fun Z7 h7 hx7 hE7 => ?_)
      have hG7 := GI_up hG6 hE7 (show 0 ≤ 0 ∧ 0 ≤ 900 by omega) trivial rfl
      refine mx_J.step (sn_182 32) (fun _ _ => rfl) ?_
      refine JcI (z := 0) (show mx_Sn _ _ 33 (mx_const (.int 0) 34) from sn_182 33) rfl ?_
      refine JputI (g := 7) hx7 (show mx_Sn _ _ 34 (mx_putf 1 12 7 (.int) 37) from sn_182 34) a56 s56 rfl rfl rfl rfl (fun Z8 h8 hx8 hE8 => ?_)
      have hG8 := GI_up hG7 hE8 (show 0 ≤ 0 ∧ 0 ≤ 900 by omega) trivial rfl
      refine mx_J.step (sn_182 37) (fun _ _ => rfl) ?_
      refine JcI (z := 0) (show mx_Sn _ _ 38 (mx_const (.int 0) 39) from sn_182 38) rfl ?_
      refine JputI (g := 11) hx8 (show mx_Sn _ _ 39 (mx_putf 1 12 11 (.int) 42) from sn_182 39) a56 s56 rfl rfl rfl rfl (fun Z9 h9 hx9 hE9 => ?_)
      have hG9 := GI_up hG8 hE9 (show 0 ≤ 0 ∧ 0 ≤ 4 by omega) trivial rfl
      refine mx_J.step (sn_182 42) (fun _ _ => rfl) ?_
      refine JgetR (g := 4) (b := 60) hx9 (show mx_Sn _ _ 43 (mx_getf 12 4 46) from sn_182 43) a56 s56 rfl rfl (hG9.prr 56 4 rfl) ?_
      obtain ⟨Z11, h11, hc11, hx11, hG11, hf11, b11⟩ := ct_156_60 (d := d + 99) (l := l) (D := D) (b0 := b0) (ad := ad) (Hb := Hb) (tau := tau) hx9 hG9 
      refine Jcs0 (show mx_Sn _ _ 46 (mx_calls 156 1 49) from sn_182 46) hc11 rfl rfl rfl ?_
      have wz := wf_z (Z := Z11) b11
      have z61 := ai_at (i := 61) b11 (by omega)
      have z1 := ai_at (i := 1) b11 (by omega)
      have z2 := ai_at (i := 2) b11 (by omega)
      refine mx_J.step (sn_182 49) (fun _ _ => rfl) ?_
      have eq13 : Z11 56 7 = 0 := ((hf11 56 7 rfl).trans ((up_ni hE9 (by decide)).trans (up_at hE8)))
      have eq14 : Z11 56 8 = x0 := ((hf11 56 8 rfl).trans ((up_ni hE9 (by decide)).trans ((up_ni hE8 (by decide)).trans ((up_ni hE7 (by decide)).trans (up_at hE6)))))
      obtain ⟨Z12, h12, hc12, hx12, hG12, hf12, b12⟩ := ct_162_56 (d := d + 94) (l := l) (D := D) (b0 := b0) (ad := ad) (Hb := Hb) (tau := tau) hx11 hG11  (show Z11 56 7 ≤ Z11 56 8 by first | omega | (simp only [eq13, eq14]; omega))
      try rw [eq13] at b12
      try rw [eq14] at b12
      have b15 : 0 ≤ Z12 56 6 ∧ Z12 56 6 ≤ 900 := hG12.pr 56 6
      have b16 : 0 ≤ Z12 56 7 ∧ Z12 56 7 ≤ 900 := hG12.pr 56 7
      have b17 : 0 ≤ Z12 56 9 ∧ Z12 56 9 ≤ 100 := hG12.pr 56 9
      refine Jcv0 hx11 (show mx_Sn _ _ 50 (mx_callv 162 1 12 53) from sn_182 50) a56 s56 hc12 rfl rfl rfl ?_
      refine mx_J.step (sn_182 53) (fun _ _ => rfl) ?_
      refine JcI (z := 0) (show mx_Sn _ _ 54 (mx_const (.int 0) 55) from sn_182 54) rfl ?_
      have b19 : 0 ≤ Z12 56 6 ∧ Z12 56 6 ≤ 900 := hG12.pr 56 6
      have b20 : 0 ≤ Z12 56 7 ∧ Z12 56 7 ≤ 900 := hG12.pr 56 7
      have eq21 : Z12 56 8 = x0 := ((hf12 56 8 rfl).trans ((hf11 56 8 rfl).trans ((up_ni hE9 (by decide)).trans ((up_ni hE8 (by decide)).trans ((up_ni hE7 (by decide)).trans (up_at hE6))))))
      have b22 : 0 ≤ Z12 56 9 ∧ Z12 56 9 ≤ 100 := hG12.pr 56 9
      have eq23 : Z12 56 11 = 0 := ((hf12 56 11 rfl).trans ((hf11 56 11 rfl).trans (up_at hE9)))
      obtain ⟨z18, Z18, h18, hc18, hx18, hG18, hf18, b18⟩ := ct_165_56 (d := d + 93) (l := l) (D := D) (b0 := b0) (ad := ad) (Hb := Hb) (tau := tau) hx12 hG12 (show 0 ≤ 0 ∧ 0 ≤ 100 by omega) (show (Z12 56 6 ≤ Z12 56 7 ∧ Z12 56 7 ≤ Z12 56 8 ∧ (Z12 56 9 = 24 ∨ Z12 56 6 < Z12 56 7)) by first | omega | (simp only [eq21, eq23]; omega)) (show ¬ 0 = 24 by first | omega | (simp only [eq21, eq23]; omega))
      try rw [eq21] at b18
      try rw [eq23] at b18
      have b24 : 0 ≤ Z18 56 6 ∧ Z18 56 6 ≤ 900 := hG18.pr 56 6
      have b25 : 0 ≤ Z18 56 7 ∧ Z18 56 7 ≤ 900 := hG18.pr 56 7
      have b26 : 0 ≤ Z18 56 9 ∧ Z18 56 9 ≤ 100 := hG18.pr 56 9
      refine Jcv hx12 (show mx_Sn _ _ 55 (mx_callv 165 2 12 58) from sn_182 55) a56 s56 hc18 rfl rfl rfl ?_
      have c74 : ∀  (Z28 : xZ) (h28 : mx_H), (Z28 56 6 ≤ Z28 56 7 ∧ Z28 56 7 ≤ Z28 56 8 ∧ (Z28 56 9 = 24 ∨ Z28 56 6 < Z28 56 7) ∧ Z28 60 61 ≤ Z28 56 6 ∧ Z28 60 2 ≤ Z28 60 1 ∧ (Z28 56 11 = 0 → WFF Z28 = 1)) → XH n s S Z28 h28 → GI n S Z28 → fr' [(56, 6), (56, 7), (56, 9), (56, 10), (56, 11), (56, 12)] Z18 Z28 → mx_J (tB l D b0 ad Hb tau) mt_182 (d + 100) 74 [some (.ref 56), some (xI x0), none] [] h28 Post := by
        intro Z28 h28 f27_0 hx28 hG28 hf28
        have b29 : 0 ≤ Z28 56 6 ∧ Z28 56 6 ≤ 900 := hG28.pr 56 6
        have b30 : 0 ≤ Z28 56 7 ∧ Z28 56 7 ≤ 900 := hG28.pr 56 7
        have eq31 : Z28 56 8 = x0 := ((hf28 56 8 rfl).trans ((hf18 56 8 rfl).trans ((hf12 56 8 rfl).trans ((hf11 56 8 rfl).trans ((up_ni hE9 (by decide)).trans ((up_ni hE8 (by decide)).trans ((up_ni hE7 (by decide)).trans (up_at hE6))))))))
        have b32 : 0 ≤ Z28 56 9 ∧ Z28 56 9 ≤ 100 := hG28.pr 56 9
        have b33 : 0 ≤ Z28 56 11 ∧ Z28 56 11 ≤ 4 := hG28.pr 56 11
        have eq34 : Z28 60 61 = Z11 60 61 := ((hf28 60 61 rfl).trans ((hf18 60 61 rfl).trans (hf12 60 61 rfl)))
        have b35 : 0 ≤ Z11 60 61 ∧ Z11 60 61 ≤ 900 := by have hq := GI_ex hG11 60 61; replace hq : f60 (61 % 962) (Z11 60 61) := hq; unfold f60 at hq; omega
        have b36 : (-2147483648) ≤ Z11 60 61 ∧ Z11 60 61 ≤ 2147483647 := hG11.pr 60 61
        have eq37 : Z28 60 1 = Z11 60 1 := ((hf28 60 1 rfl).trans ((hf18 60 1 rfl).trans (hf12 60 1 rfl)))
        have b38 : 0 ≤ Z11 60 1 ∧ Z11 60 1 ≤ 18 := by have hq := GI_ex hG11 60 1; replace hq : f60 (1 % 962) (Z11 60 1) := hq; unfold f60 at hq; omega
        have b39 : (-2147483648) ≤ Z11 60 1 ∧ Z11 60 1 ≤ 2147483647 := hG11.pr 60 1
        have eq40 : Z28 60 2 = Z11 60 2 := ((hf28 60 2 rfl).trans ((hf18 60 2 rfl).trans (hf12 60 2 rfl)))
        have b41 : 0 ≤ Z11 60 2 ∧ Z11 60 2 ≤ 18 := by have hq := GI_ex hG11 60 2; replace hq : f60 (2 % 962) (Z11 60 2) := hq; unfold f60 at hq; omega
        have b42 : (-2147483648) ≤ Z11 60 2 ∧ Z11 60 2 ≤ 2147483647 := hG11.pr 60 2
        have eq43 : WFF Z28  = WFF Z11 := ((WFF_c (fun i => hf28 60 i rfl)).trans ((WFF_c (fun i => hf18 60 i rfl)).trans (WFF_c (fun i => hf12 60 i rfl))))
        refine mx_J.step (sn_182 74) (fun _ _ => rfl) ?_
        refine JgetR (g := 4) (b := 60) hx28 (show mx_Sn _ _ 75 (mx_getf 12 4 78) from sn_182 75) a56 s56 rfl rfl (hG28.prr 56 4 rfl) ?_
        refine JcI (z := 28) (show mx_Sn _ _ 78 (mx_const (.int 28) 80) from sn_182 78) rfl ?_
        refine mx_J.step (sn_182 80) (fun _ _ => rfl) ?_
        refine JcI (z := 0) (show mx_Sn _ _ 81 (mx_const (.int 0) 82) from sn_182 81) rfl ?_
        refine JcI (z := 9) (show mx_Sn _ _ 82 (mx_const (.int 9) 84) from sn_182 82) rfl ?_
        have b46 : 0 ≤ Z28 56 6 ∧ Z28 56 6 ≤ 900 := hG28.pr 56 6
        have b47 : 0 ≤ Z28 56 7 ∧ Z28 56 7 ≤ 900 := hG28.pr 56 7
        have eq48 : Z28 56 8 = x0 := ((hf28 56 8 rfl).trans ((hf18 56 8 rfl).trans ((hf12 56 8 rfl).trans ((hf11 56 8 rfl).trans ((up_ni hE9 (by decide)).trans ((up_ni hE8 (by decide)).trans ((up_ni hE7 (by decide)).trans (up_at hE6))))))))
        have b49 : 0 ≤ Z28 56 9 ∧ Z28 56 9 ≤ 100 := hG28.pr 56 9
        have b50 : 0 ≤ Z28 56 11 ∧ Z28 56 11 ≤ 4 := hG28.pr 56 11
        have b51 : 0 ≤ Z28 56 10 ∧ Z28 56 10 ≤ 999 := hG28.pr 56 10
        obtain ⟨z45, Z45, h45, hc45, hx45, hG45, hf45, b45⟩ := ct_166_56 (d := d + 93) (l := l) (D := D) (b0 := b0) (ad := ad) (Hb := Hb) (tau := tau) hx28 hG28 (show 0 ≤ 0 ∧ 0 ≤ 1 by omega) (show 0 ≤ 9 ∧ 9 ≤ 18 by omega) (show (Z28 56 6 ≤ Z28 56 7 ∧ Z28 56 7 ≤ Z28 56 8 ∧ (Z28 56 9 = 24 ∨ Z28 56 6 < Z28 56 7)) by first | omega | (simp only [eq48]; omega))
        try rw [eq48] at b45
        have b52 : 0 ≤ Z45 56 6 ∧ Z45 56 6 ≤ 900 := hG45.pr 56 6
        have b53 : 0 ≤ Z45 56 7 ∧ Z45 56 7 ≤ 900 := hG45.pr 56 7
        have b54 : 0 ≤ Z45 56 9 ∧ Z45 56 9 ≤ 100 := hG45.pr 56 9
        have b55 : 0 ≤ Z45 56 11 ∧ Z45 56 11 ≤ 4 := hG45.pr 56 11
        refine Jcv hx28 (show mx_Sn _ _ 84 (mx_callv 166 3 12 87) from sn_182 84) a56 s56 hc45 rfl rfl rfl ?_
        have b56 : 0 ≤ Z45 56 6 ∧ Z45 56 6 ≤ 900 := hG45.pr 56 6
        have b57 : 0 ≤ Z45 56 7 ∧ Z45 56 7 ≤ 900 := hG45.pr 56 7
        have eq58 : Z45 56 8 = x0 := ((hf45 56 8 rfl).trans ((hf28 56 8 rfl).trans ((hf18 56 8 rfl).trans ((hf12 56 8 rfl).trans ((hf11 56 8 rfl).trans ((up_ni hE9 (by decide)).trans ((up_ni hE8 (by decide)).trans ((up_ni hE7 (by decide)).trans (up_at hE6)))))))))
        have b59 : 0 ≤ Z45 56 9 ∧ Z45 56 9 ≤ 100 := hG45.pr 56 9
        have b60 : 0 ≤ Z45 56 11 ∧ Z45 56 11 ≤ 4 := hG45.pr 56 11
        have eq61 : Z45 60 61 = Z11 60 61 := ((hf45 60 61 rfl).trans ((hf28 60 61 rfl).trans ((hf18 60 61 rfl).trans (hf12 60 61 rfl))))
        have b62 : 0 ≤ Z11 60 61 ∧ Z11 60 61 ≤ 900 := by have hq := GI_ex hG11 60 61; replace hq : f60 (61 % 962) (Z11 60 61) := hq; unfold f60 at hq; omega
        have b63 : (-2147483648) ≤ Z11 60 61 ∧ Z11 60 61 ≤ 2147483647 := hG11.pr 60 61
        have eq64 : Z45 60 1 = Z11 60 1 := ((hf45 60 1 rfl).trans ((hf28 60 1 rfl).trans ((hf18 60 1 rfl).trans (hf12 60 1 rfl))))
        have b65 : 0 ≤ Z11 60 1 ∧ Z11 60 1 ≤ 18 := by have hq := GI_ex hG11 60 1; replace hq : f60 (1 % 962) (Z11 60 1) := hq; unfold f60 at hq; omega
        have b66 : (-2147483648) ≤ Z11 60 1 ∧ Z11 60 1 ≤ 2147483647 := hG11.pr 60 1
        have eq67 : Z45 60 2 = Z11 60 2 := ((hf45 60 2 rfl).trans ((hf28 60 2 rfl).trans ((hf18 60 2 rfl).trans (hf12 60 2 rfl))))
        have b68 : 0 ≤ Z11 60 2 ∧ Z11 60 2 ≤ 18 := by have hq := GI_ex hG11 60 2; replace hq : f60 (2 % 962) (Z11 60 2) := hq; unfold f60 at hq; omega
        have b69 : (-2147483648) ≤ Z11 60 2 ∧ Z11 60 2 ≤ 2147483647 := hG11.pr 60 2
        have eq70 : WFF Z45  = WFF Z11 := ((WFF_c (fun i => hf45 60 i rfl)).trans ((WFF_c (fun i => hf28 60 i rfl)).trans ((WFF_c (fun i => hf18 60 i rfl)).trans (WFF_c (fun i => hf12 60 i rfl)))))
        refine JiastI hx45 (show mx_Sn _ _ 87 (mx_iast 1 88) from sn_182 87) a60 s60 rfl (by omega) (fun Z71 h71 hx71 hE71 => ?_)
        have hG71 := GI_up hG45 hE71 (show (-2147483648) ≤ z45 ∧ z45 ≤ 2147483647 by omega) (show f60 ((28) % 962) (z45) by first | assumption | (unfold f60; omega) | (unfold f60 at *; omega)) rfl
        have w28 : (Z45 56 11) = 0 → WFF Z71 = 1 := fun e => wf_28 hE71 (by omega) (by omega)
        refine mx_J.step (sn_182 88) (fun _ _ => rfl) ?_
        have eq73 : Z71 56 6 = Z45 56 6 := (up_nk hE71 rfl)
        have b74 : 0 ≤ Z45 56 6 ∧ Z45 56 6 ≤ 900 := hG45.pr 56 6
        have eq75 : Z71 56 7 = Z45 56 7 := (up_nk hE71 rfl)
        have b76 : 0 ≤ Z45 56 7 ∧ Z45 56 7 ≤ 900 := hG45.pr 56 7
        have eq77 : Z71 56 8 = x0 := ((up_nk hE71 rfl).trans ((hf45 56 8 rfl).trans ((hf28 56 8 rfl).trans ((hf18 56 8 rfl).trans ((hf12 56 8 rfl).trans ((hf11 56 8 rfl).trans ((up_ni hE9 (by decide)).trans ((up_ni hE8 (by decide)).trans ((up_ni hE7 (by decide)).trans (up_at hE6))))))))))
        have eq78 : Z71 56 9 = Z45 56 9 := (up_nk hE71 rfl)
        have b79 : 0 ≤ Z45 56 9 ∧ Z45 56 9 ≤ 100 := hG45.pr 56 9
        have eq80 : Z71 56 11 = Z45 56 11 := (up_nk hE71 rfl)
        have b81 : 0 ≤ Z45 56 11 ∧ Z45 56 11 ≤ 4 := hG45.pr 56 11
        have eq82 : Z71 60 61 = Z11 60 61 := ((up_ni hE71 (by decide)).trans ((hf45 60 61 rfl).trans ((hf28 60 61 rfl).trans ((hf18 60 61 rfl).trans (hf12 60 61 rfl)))))
        have b83 : 0 ≤ Z11 60 61 ∧ Z11 60 61 ≤ 900 := by have hq := GI_ex hG11 60 61; replace hq : f60 (61 % 962) (Z11 60 61) := hq; unfold f60 at hq; omega
        have b84 : (-2147483648) ≤ Z11 60 61 ∧ Z11 60 61 ≤ 2147483647 := hG11.pr 60 61
        have eq85 : Z71 60 1 = Z11 60 1 := ((up_ni hE71 (by decide)).trans ((hf45 60 1 rfl).trans ((hf28 60 1 rfl).trans ((hf18 60 1 rfl).trans (hf12 60 1 rfl)))))
        have b86 : 0 ≤ Z11 60 1 ∧ Z11 60 1 ≤ 18 := by have hq := GI_ex hG11 60 1; replace hq : f60 (1 % 962) (Z11 60 1) := hq; unfold f60 at hq; omega
        have b87 : (-2147483648) ≤ Z11 60 1 ∧ Z11 60 1 ≤ 2147483647 := hG11.pr 60 1
        have eq88 : Z71 60 2 = Z11 60 2 := ((up_ni hE71 (by decide)).trans ((hf45 60 2 rfl).trans ((hf28 60 2 rfl).trans ((hf18 60 2 rfl).trans (hf12 60 2 rfl)))))
        have b89 : 0 ≤ Z11 60 2 ∧ Z11 60 2 ≤ 18 := by have hq := GI_ex hG11 60 2; replace hq : f60 (2 % 962) (Z11 60 2) := hq; unfold f60 at hq; omega
        have b90 : (-2147483648) ≤ Z11 60 2 ∧ Z11 60 2 ≤ 2147483647 := hG11.pr 60 2
        obtain ⟨Z72, h72, hc72, hx72, hG72, hf72, b72⟩ := ct_181_56 (d := d + 92) (l := l) (D := D) (b0 := b0) (ad := ad) (Hb := Hb) (tau := tau) hx71 hG71  (show (Z71 56 6 ≤ Z71 56 7 ∧ Z71 56 7 ≤ Z71 56 8 ∧ (Z71 56 9 = 24 ∨ Z71 56 6 < Z71 56 7)) by first | omega | (simp only [eq73, eq75, eq77, eq78, eq80, eq82, eq85, eq88]; omega))
        try rw [eq73] at b72
        try rw [eq75] at b72
        try rw [eq77] at b72
        try rw [eq78] at b72
        try rw [eq80] at b72
        try rw [eq82] at b72
        try rw [eq85] at b72
        try rw [eq88] at b72
        have b91 : 0 ≤ Z72 56 6 ∧ Z72 56 6 ≤ 900 := hG72.pr 56 6
        have b92 : 0 ≤ Z72 56 7 ∧ Z72 56 7 ≤ 900 := hG72.pr 56 7
        have b93 : 0 ≤ Z72 56 9 ∧ Z72 56 9 ≤ 100 := hG72.pr 56 9
        have b94 : 0 ≤ Z72 56 11 ∧ Z72 56 11 ≤ 4 := hG72.pr 56 11
        have b95 : 0 ≤ Z72 60 61 ∧ Z72 60 61 ≤ 900 := by have hq := GI_ex hG72 60 61; replace hq : f60 (61 % 962) (Z72 60 61) := hq; unfold f60 at hq; omega
        have b96 : (-2147483648) ≤ Z72 60 61 ∧ Z72 60 61 ≤ 2147483647 := hG72.pr 60 61
        have b97 : 0 ≤ Z72 60 1 ∧ Z72 60 1 ≤ 18 := by have hq := GI_ex hG72 60 1; replace hq : f60 (1 % 962) (Z72 60 1) := hq; unfold f60 at hq; omega
        have b98 : (-2147483648) ≤ Z72 60 1 ∧ Z72 60 1 ≤ 2147483647 := hG72.pr 60 1
        have b99 : 0 ≤ Z72 60 2 ∧ Z72 60 2 ≤ 18 := by have hq := GI_ex hG72 60 2; replace hq : f60 (2 % 962) (Z72 60 2) := hq; unfold f60 at hq; omega
        have b100 : (-2147483648) ≤ Z72 60 2 ∧ Z72 60 2 ≤ 2147483647 := hG72.pr 60 2
        refine Jcv0 hx71 (show mx_Sn _ _ 89 (mx_callv 181 1 12 92) from sn_182 89) a56 s56 hc72 rfl rfl rfl ?_
        have c92 : ∀ (m101 : Nat)  (Z102 : xZ) (h102 : mx_H), ((((Z102 56 8 - Z102 56 6) * 5 + 4 - Z102 56 11).toNat : Nat) : Int) < (m101 : Int) → (Z102 56 6 ≤ Z102 56 7 ∧ Z102 56 7 ≤ Z102 56 8 ∧ (Z102 56 9 = 24 ∨ Z102 56 6 < Z102 56 7) ∧ Z102 60 61 ≤ Z102 56 6 ∧ Z102 60 2 ≤ Z102 60 1 ∧ (Z102 56 11 = 0 → WFF Z102 = 1)) → XH n s S Z102 h102 → GI n S Z102 → fr' [(56, 6), (56, 7), (56, 9), (56, 10), (56, 11), (56, 12), (60, (-1))] Z72 Z102 → mx_J (tB l D b0 ad Hb tau) mt_182 (d + 100) 92 [some (.ref 56), some (xI x0), none] [] h102 Post := by
          intro m101
          induction m101 with
          | zero => intro Z102 h102 q101 f101_0 hx102 hG102 hf102; exact absurd q101 (by omega)
          | succ m101 ih101 =>
            intro Z102 h102 q101 f101_0 hx102 hG102 hf102
            have b103 : 0 ≤ Z102 56 6 ∧ Z102 56 6 ≤ 900 := hG102.pr 56 6
            have b104 : 0 ≤ Z102 56 7 ∧ Z102 56 7 ≤ 900 := hG102.pr 56 7
            have eq105 : Z102 56 8 = x0 := ((hf102 56 8 rfl).trans ((hf72 56 8 rfl).trans ((up_nk hE71 rfl).trans ((hf45 56 8 rfl).trans ((hf28 56 8 rfl).trans ((hf18 56 8 rfl).trans ((hf12 56 8 rfl).trans ((hf11 56 8 rfl).trans ((up_ni hE9 (by decide)).trans ((up_ni hE8 (by decide)).trans ((up_ni hE7 (by decide)).trans (up_at hE6))))))))))))
            have b106 : 0 ≤ Z102 56 9 ∧ Z102 56 9 ≤ 100 := hG102.pr 56 9
            have b107 : 0 ≤ Z102 56 11 ∧ Z102 56 11 ≤ 4 := hG102.pr 56 11
            have b108 : 0 ≤ Z102 60 61 ∧ Z102 60 61 ≤ 900 := by have hq := GI_ex hG102 60 61; replace hq : f60 (61 % 962) (Z102 60 61) := hq; unfold f60 at hq; omega
            have b109 : (-2147483648) ≤ Z102 60 61 ∧ Z102 60 61 ≤ 2147483647 := hG102.pr 60 61
            have b110 : 0 ≤ Z102 60 1 ∧ Z102 60 1 ≤ 18 := by have hq := GI_ex hG102 60 1; replace hq : f60 (1 % 962) (Z102 60 1) := hq; unfold f60 at hq; omega
            have b111 : (-2147483648) ≤ Z102 60 1 ∧ Z102 60 1 ≤ 2147483647 := hG102.pr 60 1
            have b112 : 0 ≤ Z102 60 2 ∧ Z102 60 2 ≤ 18 := by have hq := GI_ex hG102 60 2; replace hq : f60 (2 % 962) (Z102 60 2) := hq; unfold f60 at hq; omega
            have b113 : (-2147483648) ≤ Z102 60 2 ∧ Z102 60 2 ≤ 2147483647 := hG102.pr 60 2
            have b114 : 0 ≤ Z102 56 6 ∧ Z102 56 6 ≤ 900 := hG102.pr 56 6
            have eq115 : Z102 56 8 = x0 := ((hf102 56 8 rfl).trans ((hf72 56 8 rfl).trans ((up_nk hE71 rfl).trans ((hf45 56 8 rfl).trans ((hf28 56 8 rfl).trans ((hf18 56 8 rfl).trans ((hf12 56 8 rfl).trans ((hf11 56 8 rfl).trans ((up_ni hE9 (by decide)).trans ((up_ni hE8 (by decide)).trans ((up_ni hE7 (by decide)).trans (up_at hE6))))))))))))
            have b116 : 0 ≤ Z102 56 11 ∧ Z102 56 11 ≤ 4 := hG102.pr 56 11
            refine mx_J.step (sn_182 92) (fun _ _ => rfl) ?_
            have b118 : 0 ≤ Z102 56 11 ∧ Z102 56 11 ≤ 4 := hG102.pr 56 11
            refine JgetI (g := 11) (z := Z102 56 11) hx102 (show mx_Sn _ _ 93 (mx_getf 12 11 96) from sn_182 93) a56 s56 rfl rfl rfl ?_
            have c119 : mx_J (tB l D b0 ad Hb tau) mt_182 (d + 100) 119 [some (.ref 56), some (xI x0), none] [] h102 Post := by
              refine mx_J.step (sn_182 119) (fun _ _ => rfl) ?_
              refine mx_J.step (sn_182 120) (fun _ _ => rfl) ?_
              have b121 : 0 ≤ Z102 56 11 ∧ Z102 56 11 ≤ 4 := hG102.pr 56 11
              refine JgetI (g := 11) (z := Z102 56 11) hx102 (show mx_Sn _ _ 121 (mx_getf 12 11 124) from sn_182 121) a56 s56 rfl rfl rfl ?_
              refine JputI (g := 13) hx102 (show mx_Sn _ _ 124 (mx_putf 1 12 13 (.int) 127) from sn_182 124) a56 s56 rfl rfl rfl rfl (fun Z122 h122 hx122 hE122 => ?_)
              have hG122 := GI_up hG102 hE122 (show 0 ≤ Z102 56 11 ∧ Z102 56 11 ≤ 4 by omega) trivial rfl
              refine mx_J.step (sn_182 127) (fun _ _ => rfl) ?_
              refine mx_J.step (sn_182 128) (fun _ _ => rfl) ?_
              have b124 : 0 ≤ Z102 56 11 ∧ Z102 56 11 ≤ 4 := hG102.pr 56 11
              refine JgetI (g := 11) (z := Z102 56 11) hx122 (show mx_Sn _ _ 129 (mx_getf 12 11 132) from sn_182 129) a56 s56 rfl rfl (up_ni hE122 (by decide)) ?_
              have c143 : ∀ (k125_1 : Int), (-1) ≤ k125_1 ∧ k125_1 ≤ 900 → mx_J (tB l D b0 ad Hb tau) mt_182 (d + 100) 143 [some (.ref 56), some (xI x0), none] [xI k125_1, .ref 56] h122 Post := by
                intro k125_1 f125_0
                refine JputI (g := 14) hx122 (show mx_Sn _ _ 143 (mx_putf 1 12 14 (.int) 146) from sn_182 143) a56 s56 rfl rfl rfl rfl (fun Z126 h126 hx126 hE126 => ?_)
                have hG126 := GI_up hG122 hE126 (show (-1) ≤ k125_1 ∧ k125_1 ≤ 900 by omega) trivial rfl
                refine mx_J.step (sn_182 146) (fun _ _ => rfl) ?_
                have b128 : 0 ≤ Z102 56 11 ∧ Z102 56 11 ≤ 4 := hG102.pr 56 11
                refine JgetI (g := 11) (z := Z102 56 11) hx126 (show mx_Sn _ _ 147 (mx_getf 12 11 150) from sn_182 147) a56 s56 rfl rfl ((up_ni hE126 (by decide)).trans (up_ni hE122 (by decide))) ?_
                refine Jif_eq (show mx_Sn _ _ 150 (mx_if_eq 161 153) from sn_182 150) (by omega) (fun q129 => ?_) (fun q129 => ?_)
                · skip
                  have eq130 : Z126 56 6 = Z102 56 6 := ((up_ni hE126 (by decide)).trans (up_ni hE122 (by decide)))
                  have b131 : 0 ≤ Z102 56 6 ∧ Z102 56 6 ≤ 900 := hG102.pr 56 6
                  have eq132 : Z126 56 7 = Z102 56 7 := ((up_ni hE126 (by decide)).trans (up_ni hE122 (by decide)))
                  have b133 : 0 ≤ Z102 56 7 ∧ Z102 56 7 ≤ 900 := hG102.pr 56 7
                  have eq134 : Z126 56 8 = x0 := ((up_ni hE126 (by decide)).trans ((up_ni hE122 (by decide)).trans ((hf102 56 8 rfl).trans ((hf72 56 8 rfl).trans ((up_nk hE71 rfl).trans ((hf45 56 8 rfl).trans ((hf28 56 8 rfl).trans ((hf18 56 8 rfl).trans ((hf12 56 8 rfl).trans ((hf11 56 8 rfl).trans ((up_ni hE9 (by decide)).trans ((up_ni hE8 (by decide)).trans ((up_ni hE7 (by decide)).trans (up_at hE6))))))))))))))
                  have eq135 : Z126 56 9 = Z102 56 9 := ((up_ni hE126 (by decide)).trans (up_ni hE122 (by decide)))
                  have b136 : 0 ≤ Z102 56 9 ∧ Z102 56 9 ≤ 100 := hG102.pr 56 9
                  have eq137 : Z126 56 11 = Z102 56 11 := ((up_ni hE126 (by decide)).trans (up_ni hE122 (by decide)))
                  have b138 : 0 ≤ Z102 56 11 ∧ Z102 56 11 ≤ 4 := hG102.pr 56 11
                  have eq139 : Z126 60 61 = Z102 60 61 := ((up_nk hE126 rfl).trans (up_nk hE122 rfl))
                  have b140 : 0 ≤ Z102 60 61 ∧ Z102 60 61 ≤ 900 := by have hq := GI_ex hG102 60 61; replace hq : f60 (61 % 962) (Z102 60 61) := hq; unfold f60 at hq; omega
                  have b141 : (-2147483648) ≤ Z102 60 61 ∧ Z102 60 61 ≤ 2147483647 := hG102.pr 60 61
                  have eq142 : Z126 60 1 = Z102 60 1 := ((up_nk hE126 rfl).trans (up_nk hE122 rfl))
                  have b143 : 0 ≤ Z102 60 1 ∧ Z102 60 1 ≤ 18 := by have hq := GI_ex hG102 60 1; replace hq : f60 (1 % 962) (Z102 60 1) := hq; unfold f60 at hq; omega
                  have b144 : (-2147483648) ≤ Z102 60 1 ∧ Z102 60 1 ≤ 2147483647 := hG102.pr 60 1
                  have eq145 : Z126 60 2 = Z102 60 2 := ((up_nk hE126 rfl).trans (up_nk hE122 rfl))
                  have b146 : 0 ≤ Z102 60 2 ∧ Z102 60 2 ≤ 18 := by have hq := GI_ex hG102 60 2; replace hq : f60 (2 % 962) (Z102 60 2) := hq; unfold f60 at hq; omega
                  have b147 : (-2147483648) ≤ Z102 60 2 ∧ Z102 60 2 ≤ 2147483647 := hG102.pr 60 2
                  have eq148 : WFF Z126  = WFF Z102 := ((WFF_c (fun i => up_nk hE126 rfl)).trans (WFF_c (fun i => up_nk hE122 rfl)))
                  have hw9 : WFF Z126 = 1 := by omega
                  have hGo : GI n S Z126 := hG126
                  have hG126 := GI_gb hGo
                  refine JcI (z := 0) (show mx_Sn _ _ 161 (mx_const (.int 0) 162) from sn_182 161) rfl ?_
                  refine mx_J.step (ls2 := [some (.ref 56), some (xI x0), some (xI 0)]) (sn_182 162) (fun _ _ => rfl) ?_
                  have c163 : ∀ (m149 : Nat) (w149_2 : Int) (Z150 : xZ) (h150 : mx_H), 962 - w149_2 < (m149 : Int) → 0 ≤ w149_2 ∧ w149_2 ≤ 962 → CB Z150 Z126 w149_2 → XH n s S Z150 h150 → GB n S Z150 → fr' [(57, (-1))] Z126 Z150 → mx_J (tB l D b0 ad Hb tau) mt_182 (d + 100) 163 [some (.ref 56), some (xI x0), some (xI w149_2)] [] h150 Post := by
                    intro m149
                    induction m149 with
                    | zero => intro w149_2 Z150 h150 q149 f149_0 f149_1 hx150 hG150 hf150; exact absurd q149 (by omega)
                    | succ m149 ih149 =>
                      intro w149_2 Z150 h150 q149 f149_0 f149_1 hx150 hG150 hf150
                      refine mx_J.step (sn_182 163) (fun _ _ => rfl) ?_
                      refine JcI (z := 962) (show mx_Sn _ _ 164 (mx_const (.int 962) 167) from sn_182 164) rfl ?_
                      refine Jicmp_ge (show mx_Sn _ _ 167 (mx_icmp_ge 188 170) from sn_182 167) (by omega) (by omega) (fun q151 => ?_) (fun q151 => ?_)
                      · skip
                        have cz : CB Z150 Z126 962 := (show w149_2 = (962 : Int) by omega) ▸ (by assumption : CB Z150 Z126 w149_2)
                        refine mx_J.step (sn_182 188) (fun _ _ => rfl) ?_
                        obtain ⟨Z152, h152, hc152, hx152, hG152, hf152⟩ := ct_186_56_gb (d := d + 99) (l := l) (D := D) (b0 := b0) (ad := ad) (Hb := Hb) (tau := tau) hx150 hG150 
                        refine Jcv0 hx150 (show mx_Sn _ _ 189 (mx_callv 186 1 12 192) from sn_182 189) a56 s56 hc152 rfl rfl rfl ?_
                        refine JcI (z := 0) (show mx_Sn _ _ 192 (mx_const (.int 0) 193) from sn_182 192) rfl ?_
                        refine mx_J.step (ls2 := [some (.ref 56), some (xI x0), some (xI 0)]) (sn_182 193) (fun _ _ => rfl) ?_
                        have c194 : ∀ (m153 : Nat) (w153_2 : Int) (Z154 : xZ) (h154 : mx_H), 18 - w153_2 < (m153 : Int) → 0 ≤ w153_2 ∧ w153_2 ≤ 18 → XH n s S Z154 h154 → GB n S Z154 → fr' [(62, (-1))] Z152 Z154 → mx_J (tB l D b0 ad Hb tau) mt_182 (d + 100) 194 [some (.ref 56), some (xI x0), some (xI w153_2)] [] h154 Post := by
                          intro m153
                          induction m153 with
                          | zero => intro w153_2 Z154 h154 q153 f153_0 hx154 hG154 hf154; exact absurd q153 (by omega)
                          | succ m153 ih153 =>
                            intro w153_2 Z154 h154 q153 f153_0 hx154 hG154 hf154
                            refine mx_J.step (sn_182 194) (fun _ _ => rfl) ?_
                            refine mx_J.step (sn_182 195) (fun _ _ => rfl) ?_
                            refine JgetR (g := 1) (b := 57) hx154 (show mx_Sn _ _ 196 (mx_getf 12 1 199) from sn_182 196) a56 s56 rfl rfl (hG154.prr 56 1 rfl) ?_
                            refine JcI (z := 2) (show mx_Sn _ _ 199 (mx_const (.int 2) 200) from sn_182 199) rfl ?_
                            have b156 : 0 ≤ Z150 57 2 ∧ Z150 57 2 ≤ 18 := by have hq := GB_ex hG150 57 2; replace hq : f57 (2 % 962) (Z150 57 2) := hq; unfold f57 at hq; omega
                            have b157 : (-2147483648) ≤ Z150 57 2 ∧ Z150 57 2 ≤ 2147483647 := hG150.pr 57 2
                            refine JialdI (z := Z150 57 2) hx154 (show mx_Sn _ _ 200 (mx_iald 201) from sn_182 200) a57 s57 (by omega) ((hf154 57 2 rfl).trans (hf152 57 2 rfl)) ?_
                            refine Jicmp_ge (show mx_Sn _ _ 201 (mx_icmp_ge 224 204) from sn_182 201) (by omega) (by omega) (fun q158 => ?_) (fun q158 => ?_)
                            · skip
                              have ha : ∀ i, Z154 57 i = Z150 57 i := fun i => (fr_tr (M := [(62, (-1))]) (fr_tr (M := [(62, (-1))]) fr_rf (hf152) (M1 := []) rfl rfl) (hf154) rfl rfl) 57 i rfl
                              refine mx_J.step (sn_182 224) (fun _ _ => rfl) ?_
                              refine JgetR (g := 1) (b := 57) hx154 (show mx_Sn _ _ 225 (mx_getf 12 1 228) from sn_182 225) a56 s56 rfl rfl (hG154.prr 56 1 rfl) ?_
                              refine JcI (z := 2) (show mx_Sn _ _ 228 (mx_const (.int 2) 229) from sn_182 228) rfl ?_
                              have b160 : 0 ≤ Z150 57 2 ∧ Z150 57 2 ≤ 18 := by have hq := GB_ex hG150 57 2; replace hq : f57 (2 % 962) (Z150 57 2) := hq; unfold f57 at hq; omega
                              have b161 : (-2147483648) ≤ Z150 57 2 ∧ Z150 57 2 ≤ 2147483647 := hG150.pr 57 2
                              refine JialdI (z := Z150 57 2) hx154 (show mx_Sn _ _ 229 (mx_iald 230) from sn_182 229) a57 s57 (by omega) ((hf154 57 2 rfl).trans (hf152 57 2 rfl)) ?_
                              have c247 : ∀  (Z163 : xZ) (h163 : mx_H), (∀ i, ¬ i = 1 → Z163 57 i = Z150 57 i) → XH n s S Z163 h163 → GB n S Z163 → fr' [(57, (-1)), (62, (-1))] Z154 Z163 → mx_J (tB l D b0 ad Hb tau) mt_182 (d + 100) 247 [some (.ref 56), some (xI x0), some (xI w153_2)] [] h163 Post := by
                                intro Z163 h163 f162_0 hx163 hG163 hf163
                                refine mx_J.step (sn_182 247) (fun _ _ => rfl) ?_
                                have b165 : 0 ≤ Z163 57 1 ∧ Z163 57 1 ≤ 18 := by have hq := GB_ex hG163 57 1; replace hq : f57 (1 % 962) (Z163 57 1) := hq; unfold f57 at hq; omega
                                have b166 : (-2147483648) ≤ Z163 57 1 ∧ Z163 57 1 ≤ 2147483647 := hG163.pr 57 1
                                obtain ⟨Z164, h164, hc164, hx164, hG164, hf164, b164⟩ := ct_184_56 (d := d + 80) (l := l) (D := D) (b0 := b0) (ad := ad) (Hb := Hb) (tau := tau) hx163 hG163 
                                have b167 : 0 ≤ Z164 56 18 ∧ Z164 56 18 ≤ 385 := hG164.pr 56 18
                                refine Jcv0 hx163 (show mx_Sn _ _ 248 (mx_callv 184 1 12 251) from sn_182 248) a56 s56 hc164 rfl rfl rfl ?_
                                have eq168 : Z164 57 1 = Z163 57 1 := (hf164 57 1 rfl)
                                have b169 : 0 ≤ Z163 57 1 ∧ Z163 57 1 ≤ 18 := by have hq := GB_ex hG163 57 1; replace hq : f57 (1 % 962) (Z163 57 1) := hq; unfold f57 at hq; omega
                                have b170 : (-2147483648) ≤ Z163 57 1 ∧ Z163 57 1 ≤ 2147483647 := hG163.pr 57 1
                                have hGx171 : GI n S Z164 := ⟨hG164, ba_fin hGo cz hw9 (by omega) (fun i hi => (hf164 57 i rfl).trans ((by assumption : ∀ i, ¬ i = 1 → Z163 57 i = Z150 57 i) i hi)) (by have hq := GB_ex hG164 57 1; replace hq : f57 (1 % 962) (Z164 57 1) := hq; unfold f57 at hq; omega) ((fr_tr (M := [(56, 0), (56, 5), (56, 6), (56, 7), (56, 8), (56, 9), (56, 10), (56, 11), (56, 12), (56, 13), (56, 14), (56, 18), (57, (-1)), (60, (-1)), (61, (-1)), (62, (-1)), (63, (-1))]) (fr_tr (M := [(56, 0), (56, 5), (56, 6), (56, 7), (56, 8), (56, 9), (56, 10), (56, 11), (56, 12), (56, 13), (56, 14), (56, 18), (57, (-1)), (60, (-1)), (61, (-1)), (62, (-1)), (63, (-1))]) (fr_tr (M := [(56, 0), (56, 5), (56, 6), (56, 7), (56, 8), (56, 9), (56, 10), (56, 11), (56, 12), (56, 13), (56, 14), (56, 18), (57, (-1)), (60, (-1)), (61, (-1)), (62, (-1)), (63, (-1))]) (fr_tr (M := [(56, 0), (56, 5), (56, 6), (56, 7), (56, 8), (56, 9), (56, 10), (56, 11), (56, 12), (56, 13), (56, 14), (56, 18), (57, (-1)), (60, (-1)), (61, (-1)), (62, (-1)), (63, (-1))]) (fr_tr (M := [(56, 0), (56, 5), (56, 6), (56, 7), (56, 8), (56, 9), (56, 10), (56, 11), (56, 12), (56, 13), (56, 14), (56, 18), (57, (-1)), (60, (-1)), (61, (-1)), (62, (-1)), (63, (-1))]) fr_rf (hf150) (M1 := []) rfl rfl) (hf152) rfl rfl) (hf154) rfl rfl) (hf163) rfl rfl) (hf164) rfl rfl) 7 5 rfl) (fun i => (fr_tr (M := [(56, 0), (56, 5), (56, 6), (56, 7), (56, 8), (56, 9), (56, 10), (56, 11), (56, 12), (56, 13), (56, 14), (56, 18), (57, (-1)), (60, (-1)), (61, (-1)), (62, (-1)), (63, (-1))]) (fr_tr (M := [(56, 0), (56, 5), (56, 6), (56, 7), (56, 8), (56, 9), (56, 10), (56, 11), (56, 12), (56, 13), (56, 14), (56, 18), (57, (-1)), (60, (-1)), (61, (-1)), (62, (-1)), (63, (-1))]) (fr_tr (M := [(56, 0), (56, 5), (56, 6), (56, 7), (56, 8), (56, 9), (56, 10), (56, 11), (56, 12), (56, 13), (56, 14), (56, 18), (57, (-1)), (60, (-1)), (61, (-1)), (62, (-1)), (63, (-1))]) (fr_tr (M := [(56, 0), (56, 5), (56, 6), (56, 7), (56, 8), (56, 9), (56, 10), (56, 11), (56, 12), (56, 13), (56, 14), (56, 18), (57, (-1)), (60, (-1)), (61, (-1)), (62, (-1)), (63, (-1))]) (fr_tr (M := [(56, 0), (56, 5), (56, 6), (56, 7), (56, 8), (56, 9), (56, 10), (56, 11), (56, 12), (56, 13), (56, 14), (56, 18), (57, (-1)), (60, (-1)), (61, (-1)), (62, (-1)), (63, (-1))]) fr_rf (hf150) (M1 := []) rfl rfl) (hf152) rfl rfl) (hf154) rfl rfl) (hf163) rfl rfl) (hf164) rfl rfl) 9 i rfl) (fun i => (fr_tr (M := [(56, 0), (56, 5), (56, 6), (56, 7), (56, 8), (56, 9), (56, 10), (56, 11), (56, 12), (56, 13), (56, 14), (56, 18), (57, (-1)), (60, (-1)), (61, (-1)), (62, (-1)), (63, (-1))]) (fr_tr (M := [(56, 0), (56, 5), (56, 6), (56, 7), (56, 8), (56, 9), (56, 10), (56, 11), (56, 12), (56, 13), (56, 14), (56, 18), (57, (-1)), (60, (-1)), (61, (-1)), (62, (-1)), (63, (-1))]) (fr_tr (M := [(56, 0), (56, 5), (56, 6), (56, 7), (56, 8), (56, 9), (56, 10), (56, 11), (56, 12), (56, 13), (56, 14), (56, 18), (57, (-1)), (60, (-1)), (61, (-1)), (62, (-1)), (63, (-1))]) (fr_tr (M := [(56, 0), (56, 5), (56, 6), (56, 7), (56, 8), (56, 9), (56, 10), (56, 11), (56, 12), (56, 13), (56, 14), (56, 18), (57, (-1)), (60, (-1)), (61, (-1)), (62, (-1)), (63, (-1))]) (fr_tr (M := [(56, 0), (56, 5), (56, 6), (56, 7), (56, 8), (56, 9), (56, 10), (56, 11), (56, 12), (56, 13), (56, 14), (56, 18), (57, (-1)), (60, (-1)), (61, (-1)), (62, (-1)), (63, (-1))]) fr_rf (hf150) (M1 := []) rfl rfl) (hf152) rfl rfl) (hf154) rfl rfl) (hf163) rfl rfl) (hf164) rfl rfl) 10 i rfl) (by have e9 : Z164 57 1 = (Z163 57 1) := (by omega); rw [e9]; exact b164)⟩
                                have hG164 := hGx171
                                refine mx_J.step (sn_182 251) (fun _ _ => rfl) ?_
                                refine JgetR (g := 1) (b := 57) hx164 (show mx_Sn _ _ 252 (mx_getf 12 1 255) from sn_182 252) a56 s56 rfl rfl (hG164.prr 56 1 rfl) ?_
                                refine JcI (z := 27) (show mx_Sn _ _ 255 (mx_const (.int 27) 257) from sn_182 255) rfl ?_
                                refine mx_J.step (sn_182 257) (fun _ _ => rfl) ?_
                                have b174 : 0 ≤ Z164 56 18 ∧ Z164 56 18 ≤ 385 := hG164.pr 56 18
                                obtain ⟨z173, Z173, h173, hc173, hx173, hG173, hf173, b173⟩ := ct_188_56 (d := d + 98) (l := l) (D := D) (b0 := b0) (ad := ad) (Hb := Hb) (tau := tau) hx164 hG164 
                                refine Jcv hx164 (show mx_Sn _ _ 258 (mx_callv 188 1 12 261) from sn_182 258) a56 s56 hc173 rfl rfl rfl ?_
                                refine JiastI hx173 (show mx_Sn _ _ 261 (mx_iast 1 262) from sn_182 261) a57 s57 rfl (by omega) (fun Z175 h175 hx175 hE175 => ?_)
                                have eq176 : Z173 56 18 = Z164 56 18 := (hf173 56 18 rfl)
                                have b177 : 0 ≤ Z164 56 18 ∧ Z164 56 18 ≤ 385 := hG164.pr 56 18
                                have hG175 := GI_up57 hG173 hE175 (show (-2147483648) ≤ z173 ∧ z173 ≤ 2147483647 by omega) (show f57 ((27) % 962) (z173) by first | assumption | (unfold f57; omega) | (unfold f57 at *; omega)) (by omega) (by omega)
                                refine mx_J.step (sn_182 262) (fun _ _ => rfl) ?_
                                refine JgetR (g := 1) (b := 57) hx175 (show mx_Sn _ _ 263 (mx_getf 12 1 266) from sn_182 263) a56 s56 rfl rfl (hG175.prr 56 1 rfl) ?_
                                refine JcI (z := 0) (show mx_Sn _ _ 266 (mx_const (.int 0) 267) from sn_182 266) rfl ?_
                                have b179 : (-2147483648) ≤ Z163 57 0 ∧ Z163 57 0 ≤ 2147483647 := hG163.pr 57 0
                                refine JialdI (z := Z163 57 0) hx175 (show mx_Sn _ _ 267 (mx_iald 268) from sn_182 267) a57 s57 (by omega) ((up_ni hE175 (by decide)).trans ((hf173 57 0 rfl).trans (hf164 57 0 rfl))) ?_
                                have eq180 : Z175 56 5 = 0 := ((up_nk hE175 rfl).trans ((hf173 56 5 rfl).trans ((hf164 56 5 rfl).trans ((hf163 56 5 rfl).trans ((hf154 56 5 rfl).trans ((hf152 56 5 rfl).trans ((hf150 56 5 rfl).trans ((up_ni hE126 (by decide)).trans ((up_ni hE122 (by decide)).trans ((hf102 56 5 rfl).trans ((hf72 56 5 rfl).trans ((up_nk hE71 rfl).trans ((hf45 56 5 rfl).trans ((hf28 56 5 rfl).trans ((hf18 56 5 rfl).trans ((hf12 56 5 rfl).trans ((hf11 56 5 rfl).trans ((up_ni hE9 (by decide)).trans ((up_ni hE8 (by decide)).trans (up_at hE7))))))))))))))))))))
                                have eq181 : Z175 56 5 = 0 := ((up_nk hE175 rfl).trans ((hf173 56 5 rfl).trans ((hf164 56 5 rfl).trans ((hf163 56 5 rfl).trans ((hf154 56 5 rfl).trans ((hf152 56 5 rfl).trans ((hf150 56 5 rfl).trans ((up_ni hE126 (by decide)).trans ((up_ni hE122 (by decide)).trans ((hf102 56 5 rfl).trans ((hf72 56 5 rfl).trans ((up_nk hE71 rfl).trans ((hf45 56 5 rfl).trans ((hf28 56 5 rfl).trans ((hf18 56 5 rfl).trans ((hf12 56 5 rfl).trans ((hf11 56 5 rfl).trans ((up_ni hE9 (by decide)).trans ((up_ni hE8 (by decide)).trans (up_at hE7))))))))))))))))))))
                                exact mx_J.ret (sn_182 268) (fun _ _ => rfl) (hP (Z163 57 0) Z175 h175 hx175 hG175 (fr_tr (M := [(56, 0), (56, 5), (56, 6), (56, 7), (56, 8), (56, 9), (56, 10), (56, 11), (56, 12), (56, 13), (56, 14), (56, 18), (57, (-1)), (60, (-1)), (61, (-1)), (62, (-1)), (63, (-1))]) (fr_tr (M := [(56, 0), (56, 5), (56, 6), (56, 7), (56, 8), (56, 9), (56, 10), (56, 11), (56, 12), (56, 13), (56, 14), (56, 18), (57, (-1)), (60, (-1)), (61, (-1)), (62, (-1)), (63, (-1))]) (fr_tr (M := [(56, 0), (56, 5), (56, 6), (56, 7), (56, 8), (56, 9), (56, 10), (56, 11), (56, 12), (56, 13), (56, 14), (56, 18), (57, (-1)), (60, (-1)), (61, (-1)), (62, (-1)), (63, (-1))]) (fr_tr (M := [(56, 0), (56, 5), (56, 6), (56, 7), (56, 8), (56, 9), (56, 10), (56, 11), (56, 12), (56, 13), (56, 14), (56, 18), (57, (-1)), (60, (-1)), (61, (-1)), (62, (-1)), (63, (-1))]) (fr_tr (M := [(56, 0), (56, 5), (56, 6), (56, 7), (56, 8), (56, 9), (56, 10), (56, 11), (56, 12), (56, 13), (56, 14), (56, 18), (57, (-1)), (60, (-1)), (61, (-1)), (62, (-1)), (63, (-1))]) (fr_tr (M := [(56, 0), (56, 5), (56, 6), (56, 7), (56, 8), (56, 9), (56, 10), (56, 11), (56, 12), (56, 13), (56, 14), (56, 18), (57, (-1)), (60, (-1)), (61, (-1)), (62, (-1)), (63, (-1))]) (fr_tr (M := [(56, 0), (56, 5), (56, 6), (56, 7), (56, 8), (56, 9), (56, 10), (56, 11), (56, 12), (56, 13), (56, 14), (56, 18), (57, (-1)), (60, (-1)), (61, (-1)), (62, (-1)), (63, (-1))]) (fr_tr (M := [(56, 0), (56, 5), (56, 6), (56, 7), (56, 8), (56, 9), (56, 10), (56, 11), (56, 12), (56, 13), (56, 14), (56, 18), (57, (-1)), (60, (-1)), (61, (-1)), (62, (-1)), (63, (-1))]) (fr_tr (M := [(56, 0), (56, 5), (56, 6), (56, 7), (56, 8), (56, 9), (56, 10), (56, 11), (56, 12), (56, 13), (56, 14), (56, 18), (57, (-1)), (60, (-1)), (61, (-1)), (62, (-1)), (63, (-1))]) (fr_tr (M := [(56, 0), (56, 5), (56, 6), (56, 7), (56, 8), (56, 9), (56, 10), (56, 11), (56, 12), (56, 13), (56, 14), (56, 18), (57, (-1)), (60, (-1)), (61, (-1)), (62, (-1)), (63, (-1))]) (fr_tr (M := [(56, 0), (56, 5), (56, 6), (56, 7), (56, 8), (56, 9), (56, 10), (56, 11), (56, 12), (56, 13), (56, 14), (56, 18), (57, (-1)), (60, (-1)), (61, (-1)), (62, (-1)), (63, (-1))]) (fr_tr (M := [(56, 0), (56, 5), (56, 6), (56, 7), (56, 8), (56, 9), (56, 10), (56, 11), (56, 12), (56, 13), (56, 14), (56, 18), (57, (-1)), (60, (-1)), (61, (-1)), (62, (-1)), (63, (-1))]) (fr_tr (M := [(56, 0), (56, 5), (56, 6), (56, 7), (56, 8), (56, 9), (56, 10), (56, 11), (56, 12), (56, 13), (56, 14), (56, 18), (57, (-1)), (60, (-1)), (61, (-1)), (62, (-1)), (63, (-1))]) (fr_tr (M := [(56, 0), (56, 5), (56, 6), (56, 7), (56, 8), (56, 9), (56, 10), (56, 11), (56, 12), (56, 13), (56, 14), (56, 18), (57, (-1)), (60, (-1)), (61, (-1)), (62, (-1)), (63, (-1))]) (fr_tr (M := [(56, 0), (56, 5), (56, 6), (56, 7), (56, 8), (56, 9), (56, 10), (56, 11), (56, 12), (56, 13), (56, 14), (56, 18), (57, (-1)), (60, (-1)), (61, (-1)), (62, (-1)), (63, (-1))]) (fr_tr (M := [(56, 0), (56, 5), (56, 6), (56, 7), (56, 8), (56, 9), (56, 10), (56, 11), (56, 12), (56, 13), (56, 14), (56, 18), (57, (-1)), (60, (-1)), (61, (-1)), (62, (-1)), (63, (-1))]) (fr_tr (M := [(56, 0), (56, 5), (56, 6), (56, 7), (56, 8), (56, 9), (56, 10), (56, 11), (56, 12), (56, 13), (56, 14), (56, 18), (57, (-1)), (60, (-1)), (61, (-1)), (62, (-1)), (63, (-1))]) (fr_tr (M := [(56, 0), (56, 5), (56, 6), (56, 7), (56, 8), (56, 9), (56, 10), (56, 11), (56, 12), (56, 13), (56, 14), (56, 18), (57, (-1)), (60, (-1)), (61, (-1)), (62, (-1)), (63, (-1))]) (fr_tr (M := [(56, 0), (56, 5), (56, 6), (56, 7), (56, 8), (56, 9), (56, 10), (56, 11), (56, 12), (56, 13), (56, 14), (56, 18), (57, (-1)), (60, (-1)), (61, (-1)), (62, (-1)), (63, (-1))]) (fr_tr (M := [(56, 0), (56, 5), (56, 6), (56, 7), (56, 8), (56, 9), (56, 10), (56, 11), (56, 12), (56, 13), (56, 14), (56, 18), (57, (-1)), (60, (-1)), (61, (-1)), (62, (-1)), (63, (-1))]) (fr_tr (M := [(56, 0), (56, 5), (56, 6), (56, 7), (56, 8), (56, 9), (56, 10), (56, 11), (56, 12), (56, 13), (56, 14), (56, 18), (57, (-1)), (60, (-1)), (61, (-1)), (62, (-1)), (63, (-1))]) (fr_tr (M := [(56, 0), (56, 5), (56, 6), (56, 7), (56, 8), (56, 9), (56, 10), (56, 11), (56, 12), (56, 13), (56, 14), (56, 18), (57, (-1)), (60, (-1)), (61, (-1)), (62, (-1)), (63, (-1))]) fr_rf (fr_up hE1) (M1 := []) rfl rfl) (fr_up hE6) rfl rfl) (fr_up hE7) rfl rfl) (fr_up hE8) rfl rfl) (fr_up hE9) rfl rfl) (hf11) rfl rfl) (hf12) rfl rfl) (hf18) rfl rfl) (hf28) rfl rfl) (hf45) rfl rfl) (fr_ua hE71) rfl rfl) (hf72) rfl rfl) (hf102) rfl rfl) (fr_up hE122) rfl rfl) (fr_up hE126) rfl rfl) (hf150) rfl rfl) (hf152) rfl rfl) (hf154) rfl rfl) (hf163) rfl rfl) (hf164) rfl rfl) (hf173) rfl rfl) (fr_ua hE175) rfl rfl) (and3 (by omega) (by first | exact ⟨fun _ => s5, fun h => absurd wr h⟩ | exact ⟨fun h => absurd h nw, fun _ => by omega⟩)))
                              refine Jif_ne (show mx_Sn _ _ 230 (mx_if_ne 247 233) from sn_182 230) (by omega) (fun q182 => ?_) (fun q182 => ?_)
                              · skip
                                exact c247 Z154 h154 (by first | exact (fun i _ => ha i) | exact (fun i hi => (up_nk hE154 rfl).trans ((h1a i hi).trans (ha i)))) hx154 hG154 fr_rf
                              · skip
                                refine mx_J.step (sn_182 233) (fun _ _ => rfl) ?_
                                refine JgetR (g := 1) (b := 57) hx154 (show mx_Sn _ _ 234 (mx_getf 12 1 237) from sn_182 234) a56 s56 rfl rfl (hG154.prr 56 1 rfl) ?_
                                refine JcI (z := 1) (show mx_Sn _ _ 237 (mx_const (.int 1) 238) from sn_182 237) rfl ?_
                                refine JcI (z := 1) (show mx_Sn _ _ 238 (mx_const (.int 1) 239) from sn_182 238) rfl ?_
                                refine JiastI hx154 (show mx_Sn _ _ 239 (mx_iast 1 240) from sn_182 239) a57 s57 rfl (by omega) (fun Z184 h184 hx184 hE184 => ?_)
                                have hG184 := GB_up hG154 hE184 (show (-2147483648) ≤ 1 ∧ 1 ≤ 2147483647 by omega) (show f57 ((1) % 962) (1) by first | assumption | (unfold f57; omega) | (unfold f57 at *; omega)) rfl
                                have h1a : ∀ i, ¬ i = 1 → Z184 57 i = Z154 57 i := fun i hi => up_ni hE184 hi
                                refine mx_J.step (sn_182 240) (fun _ _ => rfl) ?_
                                refine JgetR (g := 16) (b := 62) hx184 (show mx_Sn _ _ 241 (mx_getf 12 16 244) from sn_182 241) a56 s56 rfl rfl (hG184.prr 56 16 rfl) ?_
                                refine JcI (z := 0) (show mx_Sn _ _ 244 (mx_const (.int 0) 245) from sn_182 244) rfl ?_
                                refine JcI (z := 1) (show mx_Sn _ _ 245 (mx_const (.int 1) 246) from sn_182 245) rfl ?_
                                refine JiastI hx184 (show mx_Sn _ _ 246 (mx_iast 1 247) from sn_182 246) a62 s62 rfl (by omega) (fun Z186 h186 hx186 hE186 => ?_)
                                have hG186 := GB_up hG184 hE186 (show (-2147483648) ≤ 1 ∧ 1 ≤ 2147483647 by omega) trivial rfl
                                exact c247 Z186 h186 (by first | exact (fun i _ => ha i) | exact (fun i hi => (up_nk hE186 rfl).trans ((h1a i hi).trans (ha i)))) hx186 hG186 (fr_tr (M := [(57, (-1)), (62, (-1))]) (fr_tr (M := [(57, (-1)), (62, (-1))]) fr_rf (fr_ua hE184) (M1 := []) rfl rfl) (fr_ua hE186) rfl rfl)
                            · skip
                              refine mx_J.step (sn_182 204) (fun _ _ => rfl) ?_
                              refine JgetR (g := 16) (b := 62) hx154 (show mx_Sn _ _ 205 (mx_getf 12 16 208) from sn_182 205) a56 s56 rfl rfl (hG154.prr 56 16 rfl) ?_
                              refine mx_J.step (sn_182 208) (fun _ _ => rfl) ?_
                              refine mx_J.step (sn_182 209) (fun _ _ => rfl) ?_
                              refine JgetR (g := 1) (b := 57) hx154 (show mx_Sn _ _ 210 (mx_getf 12 1 213) from sn_182 210) a56 s56 rfl rfl (hG154.prr 56 1 rfl) ?_
                              refine JcI (z := 3) (show mx_Sn _ _ 213 (mx_const (.int 3) 214) from sn_182 213) rfl ?_
                              refine mx_J.step (sn_182 214) (fun _ _ => rfl) ?_
                              refine Jiadd (show mx_Sn _ _ 215 (mx_iadd 216) from sn_182 215) ?_
                              have b189 : f57 ((3 + w153_2) % 962) (Z150 57 (3 + w153_2)) := GB_ex hG150 57 (3 + w153_2)
                              have b190 : (-2147483648) ≤ Z150 57 (3 + w153_2) ∧ Z150 57 (3 + w153_2) ≤ 2147483647 := hG150.pr 57 (3 + w153_2)
                              refine JialdI (z := Z150 57 (3 + w153_2)) hx154 (show mx_Sn _ _ 216 (mx_iald 217) from sn_182 216) a57 s57 (by omega) ((hf154 57 (3 + w153_2) rfl).trans (hf152 57 (3 + w153_2) rfl)) ?_
                              refine JiastI hx154 (show mx_Sn _ _ 217 (mx_iast 1 218) from sn_182 217) a62 s62 rfl (by omega) (fun Z191 h191 hx191 hE191 => ?_)
                              have hG191 := GB_up hG154 hE191 (show (-2147483648) ≤ Z150 57 (3 + w153_2) ∧ Z150 57 (3 + w153_2) ≤ 2147483647 by omega) trivial rfl
                              refine Jiinc (z := w153_2) (cz := 1) (ls2 := [some (.ref 56), some (xI x0), some (xI (w153_2 + 1))]) (show mx_Sn _ _ 218 (mx_iinc 2 1 221) from sn_182 218) rfl rfl rfl rfl ?_
                              refine mx_J.step (sn_182 221) (fun _ _ => rfl) ?_
                              exact ih153 (w153_2 + 1) Z191 h191 (by omega) (by omega) hx191 hG191 (fr_tr (M := [(62, (-1))]) (fr_tr (M := [(62, (-1))]) fr_rf (hf154) (M1 := []) rfl rfl) (fr_ua hE191) rfl rfl)
                        exact c194 (Int.toNat (18 - 0) + 1) 0 Z152 h152 (by omega) (by omega) hx152 hG152 fr_rf
                      · skip
                        refine mx_J.step (sn_182 170) (fun _ _ => rfl) ?_
                        refine JgetR (g := 1) (b := 57) hx150 (show mx_Sn _ _ 171 (mx_getf 12 1 174) from sn_182 171) a56 s56 rfl rfl (hG150.prr 56 1 rfl) ?_
                        refine mx_J.step (sn_182 174) (fun _ _ => rfl) ?_
                        refine mx_J.step (sn_182 175) (fun _ _ => rfl) ?_
                        refine JgetR (g := 4) (b := 60) hx150 (show mx_Sn _ _ 176 (mx_getf 12 4 179) from sn_182 176) a56 s56 rfl rfl (hG150.prr 56 4 rfl) ?_
                        refine mx_J.step (sn_182 179) (fun _ _ => rfl) ?_
                        have b194 : f60 ((w149_2) % 962) (Z102 60 w149_2) := GI_ex hG102 60 w149_2
                        have b195 : (-2147483648) ≤ Z102 60 w149_2 ∧ Z102 60 w149_2 ≤ 2147483647 := hG102.pr 60 w149_2
                        refine JialdI (z := Z102 60 w149_2) hx150 (show mx_Sn _ _ 180 (mx_iald 181) from sn_182 180) a60 s60 (by omega) ((hf150 60 w149_2 rfl).trans ((up_nk hE126 rfl).trans (up_nk hE122 rfl))) ?_
                        have eq196 : Z126 60 w149_2 = Z102 60 w149_2 := ((up_nk hE126 rfl).trans (up_nk hE122 rfl))
                        have b197 : f60 ((w149_2) % 962) (Z102 60 w149_2) := GI_ex hG102 60 w149_2
                        have b198 : (-2147483648) ≤ Z102 60 w149_2 ∧ Z102 60 w149_2 ≤ 2147483647 := hG102.pr 60 w149_2
                        have eq199 : Z126 60 28 = Z102 60 28 := ((up_nk hE126 rfl).trans (up_nk hE122 rfl))
                        have b200 : (-2147483648) ≤ Z102 60 28 ∧ Z102 60 28 ≤ 2147483647 := hG102.pr 60 28
                        have s28 : w149_2 = 28 → 0 ≤ (Z102 60 w149_2) ∧ (Z102 60 w149_2) ≤ 9 := fun e => by have h9 := (WFF_b hw9).1; rw [e]; omega
                        refine JiastI hx150 (show mx_Sn _ _ 181 (mx_iast 1 182) from sn_182 181) a57 s57 rfl (by omega) (fun Z201 h201 hx201 hE201 => ?_)
                        have hG201 := GB_up hG150 hE201 (show (-2147483648) ≤ Z102 60 w149_2 ∧ Z102 60 w149_2 ≤ 2147483647 by omega) (show f57 ((w149_2) % 962) (Z102 60 w149_2) by first | exact f57_f60 (by assumption) (fun e9 => s28 (by omega)) | (have hq := GB_ex hG102 60 w149_2; replace hq : f60 (w149_2 % 962) (Z102 60 w149_2) := hq; rw [Int.emod_eq_of_lt (a := w149_2) (by omega) (by omega)] at hq; rw [Int.emod_eq_of_lt (a := w149_2) (by omega) (by omega)]; unfold f60 at hq; unfold f57; omega) | (rw [Int.emod_eq_of_lt (by omega) (by omega)]; unfold f57; omega) | assumption | (unfold f57; omega) | (unfold f57 at *; omega)) rfl
                        have cs : CB Z201 Z126 (w149_2 + 1) := cb_s (by assumption) hE201 rfl (by omega) (by omega)
                        refine Jiinc (z := w149_2) (cz := 1) (ls2 := [some (.ref 56), some (xI x0), some (xI (w149_2 + 1))]) (show mx_Sn _ _ 182 (mx_iinc 2 1 185) from sn_182 182) rfl rfl rfl rfl ?_
                        refine mx_J.step (sn_182 185) (fun _ _ => rfl) ?_
                        exact ih149 (w149_2 + 1) Z201 h201 (by omega) (by omega) (by first | exact cb_0 | assumption) hx201 hG201 (fr_tr (M := [(57, (-1))]) (fr_tr (M := [(57, (-1))]) fr_rf (hf150) (M1 := []) rfl rfl) (fr_ua hE201) rfl rfl)
                  exact c163 (Int.toNat (962 - 0) + 1) 0 Z126 h126 (by omega) (by omega) (by first | exact cb_0 | assumption) hx126 hG126 fr_rf
                · skip
                  refine JcI (z := (-30)) (show mx_Sn _ _ 153 (mx_const (.int (-30)) 155) from sn_182 153) rfl ?_
                  refine mx_J.step (sn_182 155) (fun _ _ => rfl) ?_
                  have b203 : 0 ≤ Z102 56 11 ∧ Z102 56 11 ≤ 4 := hG102.pr 56 11
                  refine JgetI (g := 11) (z := Z102 56 11) hx126 (show mx_Sn _ _ 156 (mx_getf 12 11 159) from sn_182 156) a56 s56 rfl rfl ((up_ni hE126 (by decide)).trans (up_ni hE122 (by decide))) ?_
                  refine Jisub (show mx_Sn _ _ 159 (mx_isub 160) from sn_182 159) ?_
                  have eq204 : Z126 56 5 = 0 := ((up_ni hE126 (by decide)).trans ((up_ni hE122 (by decide)).trans ((hf102 56 5 rfl).trans ((hf72 56 5 rfl).trans ((up_nk hE71 rfl).trans ((hf45 56 5 rfl).trans ((hf28 56 5 rfl).trans ((hf18 56 5 rfl).trans ((hf12 56 5 rfl).trans ((hf11 56 5 rfl).trans ((up_ni hE9 (by decide)).trans ((up_ni hE8 (by decide)).trans (up_at hE7)))))))))))))
                  have eq205 : Z126 56 5 = 0 := ((up_ni hE126 (by decide)).trans ((up_ni hE122 (by decide)).trans ((hf102 56 5 rfl).trans ((hf72 56 5 rfl).trans ((up_nk hE71 rfl).trans ((hf45 56 5 rfl).trans ((hf28 56 5 rfl).trans ((hf18 56 5 rfl).trans ((hf12 56 5 rfl).trans ((hf11 56 5 rfl).trans ((up_ni hE9 (by decide)).trans ((up_ni hE8 (by decide)).trans (up_at hE7)))))))))))))
                  exact mx_J.ret (sn_182 160) (fun _ _ => rfl) (hP ((-30) - (Z102 56 11)) Z126 h126 hx126 hG126 (fr_tr (M := [(56, 0), (56, 5), (56, 6), (56, 7), (56, 8), (56, 9), (56, 10), (56, 11), (56, 12), (56, 13), (56, 14), (56, 18), (57, (-1)), (60, (-1)), (61, (-1)), (62, (-1)), (63, (-1))]) (fr_tr (M := [(56, 0), (56, 5), (56, 6), (56, 7), (56, 8), (56, 9), (56, 10), (56, 11), (56, 12), (56, 13), (56, 14), (56, 18), (57, (-1)), (60, (-1)), (61, (-1)), (62, (-1)), (63, (-1))]) (fr_tr (M := [(56, 0), (56, 5), (56, 6), (56, 7), (56, 8), (56, 9), (56, 10), (56, 11), (56, 12), (56, 13), (56, 14), (56, 18), (57, (-1)), (60, (-1)), (61, (-1)), (62, (-1)), (63, (-1))]) (fr_tr (M := [(56, 0), (56, 5), (56, 6), (56, 7), (56, 8), (56, 9), (56, 10), (56, 11), (56, 12), (56, 13), (56, 14), (56, 18), (57, (-1)), (60, (-1)), (61, (-1)), (62, (-1)), (63, (-1))]) (fr_tr (M := [(56, 0), (56, 5), (56, 6), (56, 7), (56, 8), (56, 9), (56, 10), (56, 11), (56, 12), (56, 13), (56, 14), (56, 18), (57, (-1)), (60, (-1)), (61, (-1)), (62, (-1)), (63, (-1))]) (fr_tr (M := [(56, 0), (56, 5), (56, 6), (56, 7), (56, 8), (56, 9), (56, 10), (56, 11), (56, 12), (56, 13), (56, 14), (56, 18), (57, (-1)), (60, (-1)), (61, (-1)), (62, (-1)), (63, (-1))]) (fr_tr (M := [(56, 0), (56, 5), (56, 6), (56, 7), (56, 8), (56, 9), (56, 10), (56, 11), (56, 12), (56, 13), (56, 14), (56, 18), (57, (-1)), (60, (-1)), (61, (-1)), (62, (-1)), (63, (-1))]) (fr_tr (M := [(56, 0), (56, 5), (56, 6), (56, 7), (56, 8), (56, 9), (56, 10), (56, 11), (56, 12), (56, 13), (56, 14), (56, 18), (57, (-1)), (60, (-1)), (61, (-1)), (62, (-1)), (63, (-1))]) (fr_tr (M := [(56, 0), (56, 5), (56, 6), (56, 7), (56, 8), (56, 9), (56, 10), (56, 11), (56, 12), (56, 13), (56, 14), (56, 18), (57, (-1)), (60, (-1)), (61, (-1)), (62, (-1)), (63, (-1))]) (fr_tr (M := [(56, 0), (56, 5), (56, 6), (56, 7), (56, 8), (56, 9), (56, 10), (56, 11), (56, 12), (56, 13), (56, 14), (56, 18), (57, (-1)), (60, (-1)), (61, (-1)), (62, (-1)), (63, (-1))]) (fr_tr (M := [(56, 0), (56, 5), (56, 6), (56, 7), (56, 8), (56, 9), (56, 10), (56, 11), (56, 12), (56, 13), (56, 14), (56, 18), (57, (-1)), (60, (-1)), (61, (-1)), (62, (-1)), (63, (-1))]) (fr_tr (M := [(56, 0), (56, 5), (56, 6), (56, 7), (56, 8), (56, 9), (56, 10), (56, 11), (56, 12), (56, 13), (56, 14), (56, 18), (57, (-1)), (60, (-1)), (61, (-1)), (62, (-1)), (63, (-1))]) (fr_tr (M := [(56, 0), (56, 5), (56, 6), (56, 7), (56, 8), (56, 9), (56, 10), (56, 11), (56, 12), (56, 13), (56, 14), (56, 18), (57, (-1)), (60, (-1)), (61, (-1)), (62, (-1)), (63, (-1))]) (fr_tr (M := [(56, 0), (56, 5), (56, 6), (56, 7), (56, 8), (56, 9), (56, 10), (56, 11), (56, 12), (56, 13), (56, 14), (56, 18), (57, (-1)), (60, (-1)), (61, (-1)), (62, (-1)), (63, (-1))]) (fr_tr (M := [(56, 0), (56, 5), (56, 6), (56, 7), (56, 8), (56, 9), (56, 10), (56, 11), (56, 12), (56, 13), (56, 14), (56, 18), (57, (-1)), (60, (-1)), (61, (-1)), (62, (-1)), (63, (-1))]) fr_rf (fr_up hE1) (M1 := []) rfl rfl) (fr_up hE6) rfl rfl) (fr_up hE7) rfl rfl) (fr_up hE8) rfl rfl) (fr_up hE9) rfl rfl) (hf11) rfl rfl) (hf12) rfl rfl) (hf18) rfl rfl) (hf28) rfl rfl) (hf45) rfl rfl) (fr_ua hE71) rfl rfl) (hf72) rfl rfl) (hf102) rfl rfl) (fr_up hE122) rfl rfl) (fr_up hE126) rfl rfl) (and3 (by omega) (by first | exact ⟨fun _ => s5, fun h => absurd wr h⟩ | exact ⟨fun h => absurd h nw, fun _ => by omega⟩)))
              refine Jif_ne (show mx_Sn _ _ 132 (mx_if_ne 139 135) from sn_182 132) (by omega) (fun q206 => ?_) (fun q206 => ?_)
              · skip
                refine mx_J.step (sn_182 139) (fun _ _ => rfl) ?_
                have b208 : 0 ≤ Z102 56 12 ∧ Z102 56 12 ≤ 900 := hG102.pr 56 12
                refine JgetI (g := 12) (z := Z102 56 12) hx122 (show mx_Sn _ _ 140 (mx_getf 12 12 143) from sn_182 140) a56 s56 rfl rfl (up_ni hE122 (by decide)) ?_
                exact c143 (Z102 56 12) (by omega)
              · skip
                refine JcI (z := (-1)) (show mx_Sn _ _ 135 (mx_const (.int (-1)) 136) from sn_182 135) rfl ?_
                refine mx_J.step (sn_182 136) (fun _ _ => rfl) ?_
                exact c143 (-1) (by omega)
            refine Jif_ne (show mx_Sn _ _ 96 (mx_if_ne 119 99) from sn_182 96) (by omega) (fun q209 => ?_) (fun q209 => ?_)
            · skip
              exact c119 
            · skip
              refine mx_J.step (sn_182 99) (fun _ _ => rfl) ?_
              have b211 : 0 ≤ Z102 56 9 ∧ Z102 56 9 ≤ 100 := hG102.pr 56 9
              refine JgetI (g := 9) (z := Z102 56 9) hx102 (show mx_Sn _ _ 100 (mx_getf 12 9 103) from sn_182 100) a56 s56 rfl rfl rfl ?_
              refine JcI (z := 24) (show mx_Sn _ _ 103 (mx_const (.int 24) 105) from sn_182 103) rfl ?_
              refine Jicmp_eq (show mx_Sn _ _ 105 (mx_icmp_eq 119 108) from sn_182 105) (by omega) (by omega) (fun q212 => ?_) (fun q212 => ?_)
              · skip
                exact c119 
              · skip
                refine mx_J.step (sn_182 108) (fun _ _ => rfl) ?_
                have b214 : 0 ≤ Z102 56 6 ∧ Z102 56 6 ≤ 900 := hG102.pr 56 6
                have b215 : 0 ≤ Z102 56 7 ∧ Z102 56 7 ≤ 900 := hG102.pr 56 7
                have eq216 : Z102 56 8 = x0 := ((hf102 56 8 rfl).trans ((hf72 56 8 rfl).trans ((up_nk hE71 rfl).trans ((hf45 56 8 rfl).trans ((hf28 56 8 rfl).trans ((hf18 56 8 rfl).trans ((hf12 56 8 rfl).trans ((hf11 56 8 rfl).trans ((up_ni hE9 (by decide)).trans ((up_ni hE8 (by decide)).trans ((up_ni hE7 (by decide)).trans (up_at hE6))))))))))))
                have b217 : 0 ≤ Z102 56 9 ∧ Z102 56 9 ≤ 100 := hG102.pr 56 9
                have b218 : 0 ≤ Z102 56 11 ∧ Z102 56 11 ≤ 4 := hG102.pr 56 11
                have b219 : 0 ≤ Z102 60 61 ∧ Z102 60 61 ≤ 900 := by have hq := GI_ex hG102 60 61; replace hq : f60 (61 % 962) (Z102 60 61) := hq; unfold f60 at hq; omega
                have b220 : (-2147483648) ≤ Z102 60 61 ∧ Z102 60 61 ≤ 2147483647 := hG102.pr 60 61
                have b221 : 0 ≤ Z102 60 1 ∧ Z102 60 1 ≤ 18 := by have hq := GI_ex hG102 60 1; replace hq : f60 (1 % 962) (Z102 60 1) := hq; unfold f60 at hq; omega
                have b222 : (-2147483648) ≤ Z102 60 1 ∧ Z102 60 1 ≤ 2147483647 := hG102.pr 60 1
                have b223 : 0 ≤ Z102 60 2 ∧ Z102 60 2 ≤ 18 := by have hq := GI_ex hG102 60 2; replace hq : f60 (2 % 962) (Z102 60 2) := hq; unfold f60 at hq; omega
                have b224 : (-2147483648) ≤ Z102 60 2 ∧ Z102 60 2 ≤ 2147483647 := hG102.pr 60 2
                obtain ⟨Z213, h213, hc213, hx213, hG213, hf213, b213⟩ := ct_180_56 (d := d + 0) (l := l) (D := D) (b0 := b0) (ad := ad) (Hb := Hb) (tau := tau) hx102 hG102  (show (Z102 56 6 ≤ Z102 56 7 ∧ Z102 56 7 ≤ Z102 56 8 ∧ (Z102 56 9 = 24 ∨ Z102 56 6 < Z102 56 7)) by first | omega | (simp only [eq216]; omega)) (show Z102 60 61 ≤ Z102 56 6 by first | omega | (simp only [eq216]; omega)) (show Z102 60 2 ≤ Z102 60 1 by first | omega | (simp only [eq216]; omega)) (show Z102 56 11 = 0 by first | omega | (simp only [eq216]; omega)) (show ¬ Z102 56 9 = 24 by first | omega | (simp only [eq216]; omega))
                try rw [eq216] at b213
                have b225 : 0 ≤ Z213 56 6 ∧ Z213 56 6 ≤ 900 := hG213.pr 56 6
                have b226 : 0 ≤ Z213 56 7 ∧ Z213 56 7 ≤ 900 := hG213.pr 56 7
                have b227 : 0 ≤ Z213 56 9 ∧ Z213 56 9 ≤ 100 := hG213.pr 56 9
                have b228 : 0 ≤ Z213 56 11 ∧ Z213 56 11 ≤ 4 := hG213.pr 56 11
                have b229 : 0 ≤ Z213 60 61 ∧ Z213 60 61 ≤ 900 := by have hq := GI_ex hG213 60 61; replace hq : f60 (61 % 962) (Z213 60 61) := hq; unfold f60 at hq; omega
                have b230 : (-2147483648) ≤ Z213 60 61 ∧ Z213 60 61 ≤ 2147483647 := hG213.pr 60 61
                have b231 : 0 ≤ Z213 60 1 ∧ Z213 60 1 ≤ 18 := by have hq := GI_ex hG213 60 1; replace hq : f60 (1 % 962) (Z213 60 1) := hq; unfold f60 at hq; omega
                have b232 : (-2147483648) ≤ Z213 60 1 ∧ Z213 60 1 ≤ 2147483647 := hG213.pr 60 1
                have b233 : 0 ≤ Z213 60 2 ∧ Z213 60 2 ≤ 18 := by have hq := GI_ex hG213 60 2; replace hq : f60 (2 % 962) (Z213 60 2) := hq; unfold f60 at hq; omega
                have b234 : (-2147483648) ≤ Z213 60 2 ∧ Z213 60 2 ≤ 2147483647 := hG213.pr 60 2
                refine Jcv0 hx102 (show mx_Sn _ _ 109 (mx_callv 180 1 12 112) from sn_182 109) a56 s56 hc213 rfl rfl rfl ?_
                refine mx_J.step (sn_182 112) (fun _ _ => rfl) ?_
                have b236 : 0 ≤ Z213 56 6 ∧ Z213 56 6 ≤ 900 := hG213.pr 56 6
                have b237 : 0 ≤ Z213 56 7 ∧ Z213 56 7 ≤ 900 := hG213.pr 56 7
                have eq238 : Z213 56 8 = x0 := ((hf213 56 8 rfl).trans ((hf102 56 8 rfl).trans ((hf72 56 8 rfl).trans ((up_nk hE71 rfl).trans ((hf45 56 8 rfl).trans ((hf28 56 8 rfl).trans ((hf18 56 8 rfl).trans ((hf12 56 8 rfl).trans ((hf11 56 8 rfl).trans ((up_ni hE9 (by decide)).trans ((up_ni hE8 (by decide)).trans ((up_ni hE7 (by decide)).trans (up_at hE6)))))))))))))
                have b239 : 0 ≤ Z213 56 9 ∧ Z213 56 9 ≤ 100 := hG213.pr 56 9
                have b240 : 0 ≤ Z213 56 11 ∧ Z213 56 11 ≤ 4 := hG213.pr 56 11
                have b241 : 0 ≤ Z213 60 61 ∧ Z213 60 61 ≤ 900 := by have hq := GI_ex hG213 60 61; replace hq : f60 (61 % 962) (Z213 60 61) := hq; unfold f60 at hq; omega
                have b242 : (-2147483648) ≤ Z213 60 61 ∧ Z213 60 61 ≤ 2147483647 := hG213.pr 60 61
                have b243 : 0 ≤ Z213 60 1 ∧ Z213 60 1 ≤ 18 := by have hq := GI_ex hG213 60 1; replace hq : f60 (1 % 962) (Z213 60 1) := hq; unfold f60 at hq; omega
                have b244 : (-2147483648) ≤ Z213 60 1 ∧ Z213 60 1 ≤ 2147483647 := hG213.pr 60 1
                have b245 : 0 ≤ Z213 60 2 ∧ Z213 60 2 ≤ 18 := by have hq := GI_ex hG213 60 2; replace hq : f60 (2 % 962) (Z213 60 2) := hq; unfold f60 at hq; omega
                have b246 : (-2147483648) ≤ Z213 60 2 ∧ Z213 60 2 ≤ 2147483647 := hG213.pr 60 2
                obtain ⟨Z235, h235, hc235, hx235, hG235, hf235, b235⟩ := ct_181_56 (d := d + 92) (l := l) (D := D) (b0 := b0) (ad := ad) (Hb := Hb) (tau := tau) hx213 hG213  (show (Z213 56 6 ≤ Z213 56 7 ∧ Z213 56 7 ≤ Z213 56 8 ∧ (Z213 56 9 = 24 ∨ Z213 56 6 < Z213 56 7)) by first | omega | (simp only [eq238]; omega))
                try rw [eq238] at b235
                have b247 : 0 ≤ Z235 56 6 ∧ Z235 56 6 ≤ 900 := hG235.pr 56 6
                have b248 : 0 ≤ Z235 56 7 ∧ Z235 56 7 ≤ 900 := hG235.pr 56 7
                have b249 : 0 ≤ Z235 56 9 ∧ Z235 56 9 ≤ 100 := hG235.pr 56 9
                have b250 : 0 ≤ Z235 56 11 ∧ Z235 56 11 ≤ 4 := hG235.pr 56 11
                have b251 : 0 ≤ Z235 60 61 ∧ Z235 60 61 ≤ 900 := by have hq := GI_ex hG235 60 61; replace hq : f60 (61 % 962) (Z235 60 61) := hq; unfold f60 at hq; omega
                have b252 : (-2147483648) ≤ Z235 60 61 ∧ Z235 60 61 ≤ 2147483647 := hG235.pr 60 61
                have b253 : 0 ≤ Z235 60 1 ∧ Z235 60 1 ≤ 18 := by have hq := GI_ex hG235 60 1; replace hq : f60 (1 % 962) (Z235 60 1) := hq; unfold f60 at hq; omega
                have b254 : (-2147483648) ≤ Z235 60 1 ∧ Z235 60 1 ≤ 2147483647 := hG235.pr 60 1
                have b255 : 0 ≤ Z235 60 2 ∧ Z235 60 2 ≤ 18 := by have hq := GI_ex hG235 60 2; replace hq : f60 (2 % 962) (Z235 60 2) := hq; unfold f60 at hq; omega
                have b256 : (-2147483648) ≤ Z235 60 2 ∧ Z235 60 2 ≤ 2147483647 := hG235.pr 60 2
                refine Jcv0 hx213 (show mx_Sn _ _ 113 (mx_callv 181 1 12 116) from sn_182 113) a56 s56 hc235 rfl rfl rfl ?_
                refine mx_J.step (sn_182 116) (fun _ _ => rfl) ?_
                have b257 : 0 ≤ Z235 56 6 ∧ Z235 56 6 ≤ 900 := hG235.pr 56 6
                have b258 : 0 ≤ Z235 56 7 ∧ Z235 56 7 ≤ 900 := hG235.pr 56 7
                have eq259 : Z235 56 8 = x0 := ((hf235 56 8 rfl).trans ((hf213 56 8 rfl).trans ((hf102 56 8 rfl).trans ((hf72 56 8 rfl).trans ((up_nk hE71 rfl).trans ((hf45 56 8 rfl).trans ((hf28 56 8 rfl).trans ((hf18 56 8 rfl).trans ((hf12 56 8 rfl).trans ((hf11 56 8 rfl).trans ((up_ni hE9 (by decide)).trans ((up_ni hE8 (by decide)).trans ((up_ni hE7 (by decide)).trans (up_at hE6))))))))))))))
                have b260 : 0 ≤ Z235 56 9 ∧ Z235 56 9 ≤ 100 := hG235.pr 56 9
                have b261 : 0 ≤ Z235 56 11 ∧ Z235 56 11 ≤ 4 := hG235.pr 56 11
                have b262 : 0 ≤ Z235 60 61 ∧ Z235 60 61 ≤ 900 := by have hq := GI_ex hG235 60 61; replace hq : f60 (61 % 962) (Z235 60 61) := hq; unfold f60 at hq; omega
                have b263 : (-2147483648) ≤ Z235 60 61 ∧ Z235 60 61 ≤ 2147483647 := hG235.pr 60 61
                have b264 : 0 ≤ Z235 60 1 ∧ Z235 60 1 ≤ 18 := by have hq := GI_ex hG235 60 1; replace hq : f60 (1 % 962) (Z235 60 1) := hq; unfold f60 at hq; omega
                have b265 : (-2147483648) ≤ Z235 60 1 ∧ Z235 60 1 ≤ 2147483647 := hG235.pr 60 1
                have b266 : 0 ≤ Z235 60 2 ∧ Z235 60 2 ≤ 18 := by have hq := GI_ex hG235 60 2; replace hq : f60 (2 % 962) (Z235 60 2) := hq; unfold f60 at hq; omega
                have b267 : (-2147483648) ≤ Z235 60 2 ∧ Z235 60 2 ≤ 2147483647 := hG235.pr 60 2
                have b268 : 0 ≤ Z235 56 6 ∧ Z235 56 6 ≤ 900 := hG235.pr 56 6
                have eq269 : Z235 56 8 = x0 := ((hf235 56 8 rfl).trans ((hf213 56 8 rfl).trans ((hf102 56 8 rfl).trans ((hf72 56 8 rfl).trans ((up_nk hE71 rfl).trans ((hf45 56 8 rfl).trans ((hf28 56 8 rfl).trans ((hf18 56 8 rfl).trans ((hf12 56 8 rfl).trans ((hf11 56 8 rfl).trans ((up_ni hE9 (by decide)).trans ((up_ni hE8 (by decide)).trans ((up_ni hE7 (by decide)).trans (up_at hE6))))))))))))))
                have b270 : 0 ≤ Z235 56 11 ∧ Z235 56 11 ≤ 4 := hG235.pr 56 11
                exact ih101 Z235 h235 (by omega) (by omega) hx235 hG235 (fr_tr (M := [(56, 6), (56, 7), (56, 9), (56, 10), (56, 11), (56, 12), (60, (-1))]) (fr_tr (M := [(56, 6), (56, 7), (56, 9), (56, 10), (56, 11), (56, 12), (60, (-1))]) (fr_tr (M := [(56, 6), (56, 7), (56, 9), (56, 10), (56, 11), (56, 12), (60, (-1))]) fr_rf (hf102) (M1 := []) rfl rfl) (hf213) rfl rfl) (hf235) rfl rfl)
        have b271 : 0 ≤ Z72 56 6 ∧ Z72 56 6 ≤ 900 := hG72.pr 56 6
        have b272 : 0 ≤ Z72 56 7 ∧ Z72 56 7 ≤ 900 := hG72.pr 56 7
        have eq273 : Z72 56 8 = x0 := ((hf72 56 8 rfl).trans ((up_nk hE71 rfl).trans ((hf45 56 8 rfl).trans ((hf28 56 8 rfl).trans ((hf18 56 8 rfl).trans ((hf12 56 8 rfl).trans ((hf11 56 8 rfl).trans ((up_ni hE9 (by decide)).trans ((up_ni hE8 (by decide)).trans ((up_ni hE7 (by decide)).trans (up_at hE6)))))))))))
        have b274 : 0 ≤ Z72 56 9 ∧ Z72 56 9 ≤ 100 := hG72.pr 56 9
        have b275 : 0 ≤ Z72 56 11 ∧ Z72 56 11 ≤ 4 := hG72.pr 56 11
        have b276 : 0 ≤ Z72 60 61 ∧ Z72 60 61 ≤ 900 := by have hq := GI_ex hG72 60 61; replace hq : f60 (61 % 962) (Z72 60 61) := hq; unfold f60 at hq; omega
        have b277 : (-2147483648) ≤ Z72 60 61 ∧ Z72 60 61 ≤ 2147483647 := hG72.pr 60 61
        have b278 : 0 ≤ Z72 60 1 ∧ Z72 60 1 ≤ 18 := by have hq := GI_ex hG72 60 1; replace hq : f60 (1 % 962) (Z72 60 1) := hq; unfold f60 at hq; omega
        have b279 : (-2147483648) ≤ Z72 60 1 ∧ Z72 60 1 ≤ 2147483647 := hG72.pr 60 1
        have b280 : 0 ≤ Z72 60 2 ∧ Z72 60 2 ≤ 18 := by have hq := GI_ex hG72 60 2; replace hq : f60 (2 % 962) (Z72 60 2) := hq; unfold f60 at hq; omega
        have b281 : (-2147483648) ≤ Z72 60 2 ∧ Z72 60 2 ≤ 2147483647 := hG72.pr 60 2
        have b282 : 0 ≤ Z72 56 6 ∧ Z72 56 6 ≤ 900 := hG72.pr 56 6
        have eq283 : Z72 56 8 = x0 := ((hf72 56 8 rfl).trans ((up_nk hE71 rfl).trans ((hf45 56 8 rfl).trans ((hf28 56 8 rfl).trans ((hf18 56 8 rfl).trans ((hf12 56 8 rfl).trans ((hf11 56 8 rfl).trans ((up_ni hE9 (by decide)).trans ((up_ni hE8 (by decide)).trans ((up_ni hE7 (by decide)).trans (up_at hE6)))))))))))
        have b284 : 0 ≤ Z72 56 11 ∧ Z72 56 11 ≤ 4 := hG72.pr 56 11
        exact c92 (Int.toNat (((((Z72 56 8 - Z72 56 6) * 5 + 4 - Z72 56 11).toNat : Nat) : Int)) + 1) Z72 h72 (by omega) (by omega) hx72 hG72 fr_rf
      have c69 : ∀  (Z286 : xZ) (h286 : mx_H), (Z286 56 6 ≤ Z286 56 7 ∧ Z286 56 7 ≤ Z286 56 8 ∧ (Z286 56 9 = 24 ∨ Z286 56 6 < Z286 56 7) ∧ Z286 60 61 ≤ Z286 56 6 ∧ Z286 60 2 ≤ Z286 60 1 ∧ (Z286 56 11 = 0 → WFF Z286 = 1)) → XH n s S Z286 h286 → GI n S Z286 → fr' [(56, 6), (56, 7), (56, 9), (56, 10)] Z18 Z286 → mx_J (tB l D b0 ad Hb tau) mt_182 (d + 100) 69 [some (.ref 56), some (xI x0), none] [] h286 Post := by
        intro Z286 h286 f285_0 hx286 hG286 hf286
        have b287 : 0 ≤ Z286 56 6 ∧ Z286 56 6 ≤ 900 := hG286.pr 56 6
        have b288 : 0 ≤ Z286 56 7 ∧ Z286 56 7 ≤ 900 := hG286.pr 56 7
        have eq289 : Z286 56 8 = x0 := ((hf286 56 8 rfl).trans ((hf18 56 8 rfl).trans ((hf12 56 8 rfl).trans ((hf11 56 8 rfl).trans ((up_ni hE9 (by decide)).trans ((up_ni hE8 (by decide)).trans ((up_ni hE7 (by decide)).trans (up_at hE6))))))))
        have b290 : 0 ≤ Z286 56 9 ∧ Z286 56 9 ≤ 100 := hG286.pr 56 9
        have eq291 : Z286 56 11 = 0 := ((hf286 56 11 rfl).trans ((hf18 56 11 rfl).trans ((hf12 56 11 rfl).trans ((hf11 56 11 rfl).trans (up_at hE9)))))
        have eq292 : Z286 60 61 = Z11 60 61 := ((hf286 60 61 rfl).trans ((hf18 60 61 rfl).trans (hf12 60 61 rfl)))
        have b293 : 0 ≤ Z11 60 61 ∧ Z11 60 61 ≤ 900 := by have hq := GI_ex hG11 60 61; replace hq : f60 (61 % 962) (Z11 60 61) := hq; unfold f60 at hq; omega
        have b294 : (-2147483648) ≤ Z11 60 61 ∧ Z11 60 61 ≤ 2147483647 := hG11.pr 60 61
        have eq295 : Z286 60 1 = Z11 60 1 := ((hf286 60 1 rfl).trans ((hf18 60 1 rfl).trans (hf12 60 1 rfl)))
        have b296 : 0 ≤ Z11 60 1 ∧ Z11 60 1 ≤ 18 := by have hq := GI_ex hG11 60 1; replace hq : f60 (1 % 962) (Z11 60 1) := hq; unfold f60 at hq; omega
        have b297 : (-2147483648) ≤ Z11 60 1 ∧ Z11 60 1 ≤ 2147483647 := hG11.pr 60 1
        have eq298 : Z286 60 2 = Z11 60 2 := ((hf286 60 2 rfl).trans ((hf18 60 2 rfl).trans (hf12 60 2 rfl)))
        have b299 : 0 ≤ Z11 60 2 ∧ Z11 60 2 ≤ 18 := by have hq := GI_ex hG11 60 2; replace hq : f60 (2 % 962) (Z11 60 2) := hq; unfold f60 at hq; omega
        have b300 : (-2147483648) ≤ Z11 60 2 ∧ Z11 60 2 ≤ 2147483647 := hG11.pr 60 2
        have eq301 : WFF Z286  = WFF Z11 := ((WFF_c (fun i => hf286 60 i rfl)).trans ((WFF_c (fun i => hf18 60 i rfl)).trans (WFF_c (fun i => hf12 60 i rfl))))
        refine mx_J.step (sn_182 69) (fun _ _ => rfl) ?_
        refine JcI (z := 2) (show mx_Sn _ _ 70 (mx_const (.int 2) 71) from sn_182 70) rfl ?_
        obtain ⟨Z302, h302, hc302, hx302, hG302, hf302, b302⟩ := ct_163_56 (d := d + 99) (l := l) (D := D) (b0 := b0) (ad := ad) (Hb := Hb) (tau := tau) hx286 hG286 (show 1 ≤ 2 ∧ 2 ≤ 4 by omega)
        have b303 : 0 ≤ Z302 56 11 ∧ Z302 56 11 ≤ 4 := hG302.pr 56 11
        refine Jcv0 hx286 (show mx_Sn _ _ 71 (mx_callv 163 2 12 74) from sn_182 71) a56 s56 hc302 rfl rfl rfl ?_
        have eq304 : Z302 56 6 = Z286 56 6 := (hf302 56 6 rfl)
        have b305 : 0 ≤ Z286 56 6 ∧ Z286 56 6 ≤ 900 := hG286.pr 56 6
        have eq306 : Z302 56 7 = Z286 56 7 := (hf302 56 7 rfl)
        have b307 : 0 ≤ Z286 56 7 ∧ Z286 56 7 ≤ 900 := hG286.pr 56 7
        have eq308 : Z302 56 8 = x0 := ((hf302 56 8 rfl).trans ((hf286 56 8 rfl).trans ((hf18 56 8 rfl).trans ((hf12 56 8 rfl).trans ((hf11 56 8 rfl).trans ((up_ni hE9 (by decide)).trans ((up_ni hE8 (by decide)).trans ((up_ni hE7 (by decide)).trans (up_at hE6)))))))))
        have eq309 : Z302 56 9 = Z286 56 9 := (hf302 56 9 rfl)
        have b310 : 0 ≤ Z286 56 9 ∧ Z286 56 9 ≤ 100 := hG286.pr 56 9
        have b311 : 0 ≤ Z302 56 11 ∧ Z302 56 11 ≤ 4 := hG302.pr 56 11
        have eq312 : Z302 60 61 = Z11 60 61 := ((hf302 60 61 rfl).trans ((hf286 60 61 rfl).trans ((hf18 60 61 rfl).trans (hf12 60 61 rfl))))
        have b313 : 0 ≤ Z11 60 61 ∧ Z11 60 61 ≤ 900 := by have hq := GI_ex hG11 60 61; replace hq : f60 (61 % 962) (Z11 60 61) := hq; unfold f60 at hq; omega
        have b314 : (-2147483648) ≤ Z11 60 61 ∧ Z11 60 61 ≤ 2147483647 := hG11.pr 60 61
        have eq315 : Z302 60 1 = Z11 60 1 := ((hf302 60 1 rfl).trans ((hf286 60 1 rfl).trans ((hf18 60 1 rfl).trans (hf12 60 1 rfl))))
        have b316 : 0 ≤ Z11 60 1 ∧ Z11 60 1 ≤ 18 := by have hq := GI_ex hG11 60 1; replace hq : f60 (1 % 962) (Z11 60 1) := hq; unfold f60 at hq; omega
        have b317 : (-2147483648) ≤ Z11 60 1 ∧ Z11 60 1 ≤ 2147483647 := hG11.pr 60 1
        have eq318 : Z302 60 2 = Z11 60 2 := ((hf302 60 2 rfl).trans ((hf286 60 2 rfl).trans ((hf18 60 2 rfl).trans (hf12 60 2 rfl))))
        have b319 : 0 ≤ Z11 60 2 ∧ Z11 60 2 ≤ 18 := by have hq := GI_ex hG11 60 2; replace hq : f60 (2 % 962) (Z11 60 2) := hq; unfold f60 at hq; omega
        have b320 : (-2147483648) ≤ Z11 60 2 ∧ Z11 60 2 ≤ 2147483647 := hG11.pr 60 2
        have eq321 : WFF Z302  = WFF Z11 := ((WFF_c (fun i => hf302 60 i rfl)).trans ((WFF_c (fun i => hf286 60 i rfl)).trans ((WFF_c (fun i => hf18 60 i rfl)).trans (WFF_c (fun i => hf12 60 i rfl)))))
        exact c74 Z302 h302 (by omega) hx302 hG302 (fr_tr (M := [(56, 6), (56, 7), (56, 9), (56, 10), (56, 11), (56, 12)]) (fr_tr (M := [(56, 6), (56, 7), (56, 9), (56, 10), (56, 11), (56, 12)]) fr_rf (hf286) (M1 := []) rfl rfl) (hf302) rfl rfl)
      refine Jif_eq (show mx_Sn _ _ 58 (mx_if_eq 69 61) from sn_182 58) (by omega) (fun q322 => ?_) (fun q322 => ?_)
      · skip
        have b323 : 0 ≤ Z18 56 6 ∧ Z18 56 6 ≤ 900 := hG18.pr 56 6
        have b324 : 0 ≤ Z18 56 7 ∧ Z18 56 7 ≤ 900 := hG18.pr 56 7
        have eq325 : Z18 56 8 = x0 := ((hf18 56 8 rfl).trans ((hf12 56 8 rfl).trans ((hf11 56 8 rfl).trans ((up_ni hE9 (by decide)).trans ((up_ni hE8 (by decide)).trans ((up_ni hE7 (by decide)).trans (up_at hE6)))))))
        have b326 : 0 ≤ Z18 56 9 ∧ Z18 56 9 ≤ 100 := hG18.pr 56 9
        have eq327 : Z18 56 11 = 0 := ((hf18 56 11 rfl).trans ((hf12 56 11 rfl).trans ((hf11 56 11 rfl).trans (up_at hE9))))
        have eq328 : Z18 60 61 = Z11 60 61 := ((hf18 60 61 rfl).trans (hf12 60 61 rfl))
        have b329 : 0 ≤ Z11 60 61 ∧ Z11 60 61 ≤ 900 := by have hq := GI_ex hG11 60 61; replace hq : f60 (61 % 962) (Z11 60 61) := hq; unfold f60 at hq; omega
        have b330 : (-2147483648) ≤ Z11 60 61 ∧ Z11 60 61 ≤ 2147483647 := hG11.pr 60 61
        have eq331 : Z18 60 1 = Z11 60 1 := ((hf18 60 1 rfl).trans (hf12 60 1 rfl))
        have b332 : 0 ≤ Z11 60 1 ∧ Z11 60 1 ≤ 18 := by have hq := GI_ex hG11 60 1; replace hq : f60 (1 % 962) (Z11 60 1) := hq; unfold f60 at hq; omega
        have b333 : (-2147483648) ≤ Z11 60 1 ∧ Z11 60 1 ≤ 2147483647 := hG11.pr 60 1
        have eq334 : Z18 60 2 = Z11 60 2 := ((hf18 60 2 rfl).trans (hf12 60 2 rfl))
        have b335 : 0 ≤ Z11 60 2 ∧ Z11 60 2 ≤ 18 := by have hq := GI_ex hG11 60 2; replace hq : f60 (2 % 962) (Z11 60 2) := hq; unfold f60 at hq; omega
        have b336 : (-2147483648) ≤ Z11 60 2 ∧ Z11 60 2 ≤ 2147483647 := hG11.pr 60 2
        have eq337 : WFF Z18  = WFF Z11 := ((WFF_c (fun i => hf18 60 i rfl)).trans (WFF_c (fun i => hf12 60 i rfl)))
        exact c69 Z18 h18 (by omega) hx18 hG18 fr_rf
      · skip
        refine mx_J.step (sn_182 61) (fun _ _ => rfl) ?_
        refine JcI (z := 1) (show mx_Sn _ _ 62 (mx_const (.int 1) 63) from sn_182 62) rfl ?_
        have b339 : 0 ≤ Z18 56 6 ∧ Z18 56 6 ≤ 900 := hG18.pr 56 6
        have b340 : 0 ≤ Z18 56 7 ∧ Z18 56 7 ≤ 900 := hG18.pr 56 7
        have eq341 : Z18 56 8 = x0 := ((hf18 56 8 rfl).trans ((hf12 56 8 rfl).trans ((hf11 56 8 rfl).trans ((up_ni hE9 (by decide)).trans ((up_ni hE8 (by decide)).trans ((up_ni hE7 (by decide)).trans (up_at hE6)))))))
        have b342 : 0 ≤ Z18 56 9 ∧ Z18 56 9 ≤ 100 := hG18.pr 56 9
        have eq343 : Z18 56 11 = 0 := ((hf18 56 11 rfl).trans ((hf12 56 11 rfl).trans ((hf11 56 11 rfl).trans (up_at hE9))))
        obtain ⟨z338, Z338, h338, hc338, hx338, hG338, hf338, b338⟩ := ct_165_56 (d := d + 93) (l := l) (D := D) (b0 := b0) (ad := ad) (Hb := Hb) (tau := tau) hx18 hG18 (show 0 ≤ 1 ∧ 1 ≤ 100 by omega) (show (Z18 56 6 ≤ Z18 56 7 ∧ Z18 56 7 ≤ Z18 56 8 ∧ (Z18 56 9 = 24 ∨ Z18 56 6 < Z18 56 7)) by first | omega | (simp only [eq341, eq343]; omega)) (show ¬ 1 = 24 by first | omega | (simp only [eq341, eq343]; omega))
        try rw [eq341] at b338
        try rw [eq343] at b338
        have b344 : 0 ≤ Z338 56 6 ∧ Z338 56 6 ≤ 900 := hG338.pr 56 6
        have b345 : 0 ≤ Z338 56 7 ∧ Z338 56 7 ≤ 900 := hG338.pr 56 7
        have b346 : 0 ≤ Z338 56 9 ∧ Z338 56 9 ≤ 100 := hG338.pr 56 9
        refine Jcv hx18 (show mx_Sn _ _ 63 (mx_callv 165 2 12 66) from sn_182 63) a56 s56 hc338 rfl rfl rfl ?_
        refine Jif_ne (show mx_Sn _ _ 66 (mx_if_ne 74 69) from sn_182 66) (by omega) (fun q347 => ?_) (fun q347 => ?_)
        · skip
          have b348 : 0 ≤ Z338 56 6 ∧ Z338 56 6 ≤ 900 := hG338.pr 56 6
          have b349 : 0 ≤ Z338 56 7 ∧ Z338 56 7 ≤ 900 := hG338.pr 56 7
          have eq350 : Z338 56 8 = x0 := ((hf338 56 8 rfl).trans ((hf18 56 8 rfl).trans ((hf12 56 8 rfl).trans ((hf11 56 8 rfl).trans ((up_ni hE9 (by decide)).trans ((up_ni hE8 (by decide)).trans ((up_ni hE7 (by decide)).trans (up_at hE6))))))))
          have b351 : 0 ≤ Z338 56 9 ∧ Z338 56 9 ≤ 100 := hG338.pr 56 9
          have eq352 : Z338 56 11 = 0 := ((hf338 56 11 rfl).trans ((hf18 56 11 rfl).trans ((hf12 56 11 rfl).trans ((hf11 56 11 rfl).trans (up_at hE9)))))
          have eq353 : Z338 60 61 = Z11 60 61 := ((hf338 60 61 rfl).trans ((hf18 60 61 rfl).trans (hf12 60 61 rfl)))
          have b354 : 0 ≤ Z11 60 61 ∧ Z11 60 61 ≤ 900 := by have hq := GI_ex hG11 60 61; replace hq : f60 (61 % 962) (Z11 60 61) := hq; unfold f60 at hq; omega
          have b355 : (-2147483648) ≤ Z11 60 61 ∧ Z11 60 61 ≤ 2147483647 := hG11.pr 60 61
          have eq356 : Z338 60 1 = Z11 60 1 := ((hf338 60 1 rfl).trans ((hf18 60 1 rfl).trans (hf12 60 1 rfl)))
          have b357 : 0 ≤ Z11 60 1 ∧ Z11 60 1 ≤ 18 := by have hq := GI_ex hG11 60 1; replace hq : f60 (1 % 962) (Z11 60 1) := hq; unfold f60 at hq; omega
          have b358 : (-2147483648) ≤ Z11 60 1 ∧ Z11 60 1 ≤ 2147483647 := hG11.pr 60 1
          have eq359 : Z338 60 2 = Z11 60 2 := ((hf338 60 2 rfl).trans ((hf18 60 2 rfl).trans (hf12 60 2 rfl)))
          have b360 : 0 ≤ Z11 60 2 ∧ Z11 60 2 ≤ 18 := by have hq := GI_ex hG11 60 2; replace hq : f60 (2 % 962) (Z11 60 2) := hq; unfold f60 at hq; omega
          have b361 : (-2147483648) ≤ Z11 60 2 ∧ Z11 60 2 ≤ 2147483647 := hG11.pr 60 2
          have eq362 : WFF Z338  = WFF Z11 := ((WFF_c (fun i => hf338 60 i rfl)).trans ((WFF_c (fun i => hf18 60 i rfl)).trans (WFF_c (fun i => hf12 60 i rfl))))
          exact c74 Z338 h338 (by omega) hx338 hG338 (fr_tr (M := [(56, 6), (56, 7), (56, 9), (56, 10), (56, 11), (56, 12)]) fr_rf (hf338) (M1 := []) rfl rfl)
        · skip
          have b363 : 0 ≤ Z338 56 6 ∧ Z338 56 6 ≤ 900 := hG338.pr 56 6
          have b364 : 0 ≤ Z338 56 7 ∧ Z338 56 7 ≤ 900 := hG338.pr 56 7
          have eq365 : Z338 56 8 = x0 := ((hf338 56 8 rfl).trans ((hf18 56 8 rfl).trans ((hf12 56 8 rfl).trans ((hf11 56 8 rfl).trans ((up_ni hE9 (by decide)).trans ((up_ni hE8 (by decide)).trans ((up_ni hE7 (by decide)).trans (up_at hE6))))))))
          have b366 : 0 ≤ Z338 56 9 ∧ Z338 56 9 ≤ 100 := hG338.pr 56 9
          have eq367 : Z338 56 11 = 0 := ((hf338 56 11 rfl).trans ((hf18 56 11 rfl).trans ((hf12 56 11 rfl).trans ((hf11 56 11 rfl).trans (up_at hE9)))))
          have eq368 : Z338 60 61 = Z11 60 61 := ((hf338 60 61 rfl).trans ((hf18 60 61 rfl).trans (hf12 60 61 rfl)))
          have b369 : 0 ≤ Z11 60 61 ∧ Z11 60 61 ≤ 900 := by have hq := GI_ex hG11 60 61; replace hq : f60 (61 % 962) (Z11 60 61) := hq; unfold f60 at hq; omega
          have b370 : (-2147483648) ≤ Z11 60 61 ∧ Z11 60 61 ≤ 2147483647 := hG11.pr 60 61
          have eq371 : Z338 60 1 = Z11 60 1 := ((hf338 60 1 rfl).trans ((hf18 60 1 rfl).trans (hf12 60 1 rfl)))
          have b372 : 0 ≤ Z11 60 1 ∧ Z11 60 1 ≤ 18 := by have hq := GI_ex hG11 60 1; replace hq : f60 (1 % 962) (Z11 60 1) := hq; unfold f60 at hq; omega
          have b373 : (-2147483648) ≤ Z11 60 1 ∧ Z11 60 1 ≤ 2147483647 := hG11.pr 60 1
          have eq374 : Z338 60 2 = Z11 60 2 := ((hf338 60 2 rfl).trans ((hf18 60 2 rfl).trans (hf12 60 2 rfl)))
          have b375 : 0 ≤ Z11 60 2 ∧ Z11 60 2 ≤ 18 := by have hq := GI_ex hG11 60 2; replace hq : f60 (2 % 962) (Z11 60 2) := hq; unfold f60 at hq; omega
          have b376 : (-2147483648) ≤ Z11 60 2 ∧ Z11 60 2 ≤ 2147483647 := hG11.pr 60 2
          have eq377 : WFF Z338  = WFF Z11 := ((WFF_c (fun i => hf338 60 i rfl)).trans ((WFF_c (fun i => hf18 60 i rfl)).trans (WFF_c (fun i => hf12 60 i rfl))))
          exact c69 Z338 h338 (by omega) hx338 hG338 (fr_tr (M := [(56, 6), (56, 7), (56, 9), (56, 10)]) fr_rf (hf338) (M1 := []) rfl rfl)
    · skip
      have wr : (x0 < 0 ∨ Z 56 5 < x0) := by omega
      have s5 : Z1 56 5 = Z 56 5 := up_ni hE1 (by decide)
      refine JcI (z := (-3)) (show mx_Sn _ _ 19 (mx_const (.int (-3)) 21) from sn_182 19) rfl ?_
      have eq378 : Z1 56 5 = Z 56 5 := (up_ni hE1 (by decide))
      have b379 : 0 ≤ Z 56 5 ∧ Z 56 5 ≤ 900 := hG.pr 56 5
      have eq380 : Z1 56 5 = Z 56 5 := (up_ni hE1 (by decide))
      have b381 : 0 ≤ Z 56 5 ∧ Z 56 5 ≤ 900 := hG.pr 56 5
      exact mx_J.ret (sn_182 21) (fun _ _ => rfl) (hP (-3) Z1 h1 hx1 hG1 (fr_tr (M := [(56, 0), (56, 5), (56, 6), (56, 7), (56, 8), (56, 9), (56, 10), (56, 11), (56, 12), (56, 13), (56, 14), (56, 18), (57, (-1)), (60, (-1)), (61, (-1)), (62, (-1)), (63, (-1))]) fr_rf (fr_up hE1) (M1 := []) rfl rfl) (and3 (by omega) (by first | exact ⟨fun _ => s5, fun h => absurd wr h⟩ | exact ⟨fun h => absurd h nw, fun _ => by omega⟩)))
theorem ct_182_56 {l : Launch} {D : va_G} {b0 : Nat} {ad : Nat → Nat} {Hb : Heap} {tau : Nat → Int64} {d n s : Nat} {S : Nat → xS} {Z : xZ} {h : mx_H} (hx : XH n s S Z h) (hG : GI n S Z)  {x0 : Int} (p0 : (-2147483648) ≤ x0 ∧ x0 ≤ 2147483647) : ∃ (z : Int) (Z' : xZ) (h' : mx_H), mx_Ca (tB l D b0 ad Hb tau) (d + 101) 182 [.ref 56, xI x0] h (some (xI z), h') ∧ XH n s S Z' h' ∧ GI n S Z' ∧ fr' [(56, 0), (56, 5), (56, 6), (56, 7), (56, 8), (56, 9), (56, 10), (56, 11), (56, 12), (56, 13), (56, 14), (56, 18), (57, (-1)), (60, (-1)), (61, (-1)), (62, (-1)), (63, (-1))] Z Z' ∧ ((-2147483648) ≤ z ∧ z ≤ 2147483647 ∧ (((x0 < 0 ∨ Z 56 5 < x0) → Z' 56 5 = Z 56 5) ∧ (¬ (x0 < 0 ∨ Z 56 5 < x0) → Z' 56 5 = 0))) := by
  obtain ⟨r, hca, z, Z', h', e, q⟩ := Jmt (B := tB l D b0 ad Hb tau) (M := mt_182) (mi := 182) (as := [.ref 56, xI x0]) (d := d + 100) (ls := [some (.ref 56), some (xI x0), none]) rfl rfl rfl rfl rfl rfl (cw_182_56 (l := l) (D := D) (b0 := b0) (ad := ad) (Hb := Hb) (tau := tau) (d := d) (Post := fun r => ∃ (z : Int) (Z' : xZ) (h' : mx_H), r = (some (xI z), h') ∧ XH n s S Z' h' ∧ GI n S Z' ∧ fr' [(56, 0), (56, 5), (56, 6), (56, 7), (56, 8), (56, 9), (56, 10), (56, 11), (56, 12), (56, 13), (56, 14), (56, 18), (57, (-1)), (60, (-1)), (61, (-1)), (62, (-1)), (63, (-1))] Z Z' ∧ ((-2147483648) ≤ z ∧ z ≤ 2147483647 ∧ (((x0 < 0 ∨ Z 56 5 < x0) → Z' 56 5 = Z 56 5) ∧ (¬ (x0 < 0 ∨ Z 56 5 < x0) → Z' 56 5 = 0)))) hx hG p0 (fun z Z' h' q1 q2 q3 q4 => ⟨z, Z', h', rfl, q1, q2, q3, q4⟩))
  subst e; exact ⟨z, Z', h', hca, q⟩
