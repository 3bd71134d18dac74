set_option maxHeartbeats 8000000 in
set_option maxRecDepth 100000 in
theorem cw_171_56_s {l : Launch} {D : va_G} {b0 : Nat} {ad : Nat → Nat} {Hb : Heap} {tau : Nat → Int64} {d n s : Nat} {S : Nat → xS} {Z : xZ} {h : mx_H} {Post : mx_R → Prop} {a0 : Int} {g0 : Int} {T : Int → Int} {N : Int} {sg : SS} (hx : XH n s S Z h) (hG : GI n S Z)  {x0 : Int} (p0 : 0 ≤ x0 ∧ x0 ≤ 6) (k0 : (Z 56 6 ≤ Z 56 7 ∧ Z 56 7 ≤ Z 56 8 ∧ (Z 56 9 = 24 ∨ Z 56 6 < Z 56 7))) (k1 : Z 60 61 ≤ Z 56 6) (k2 : a0 ≤ Z 60 61) (k3 : 0 ≤ a0) (k4 : 0 ≤ g0) (hr : RM g0 T N Z sg) {kk : Nat} (IH : RBnh l D b0 ad Hb tau kk x0) (hd : kk ≤ d) (hP : ∀ (Z' : xZ) (h' : mx_H), XH n s S Z' h' → GI n S Z' → fr' [(56, 6), (56, 7), (56, 9), (56, 10), (56, 11), (56, 12), (60, (-1))] Z Z' → RM g0 T N Z' (atX T N (lvI T N x0) sg) ∧ QR Z Z' a0 1 0 ∧ ((Z' 56 6 ≤ Z' 56 7 ∧ Z' 56 7 ≤ Z 56 8 ∧ (Z' 56 9 = 24 ∨ Z' 56 6 < Z' 56 7)) ∧ Z' 60 0 = Z 60 0 ∧ Z' 60 1 = Z 60 1 ∧ Z' 60 2 = Z 60 2 ∧ Z 56 6 ≤ Z' 56 6 ∧ Z 60 61 ≤ Z' 60 61 ∧ Z' 60 61 - Z 60 61 ≤ Z' 56 6 - Z 56 6) → Post (none, h')) : mx_J (tB l D b0 ad Hb tau) mt_171 (d + 8) 0 [some (.ref 56), some (xI x0)] [] h Post := by
    have a56 : 56 < n := lt83 (GI_n hG) rfl
    have s56 : S 56 = .inl (12, [0, 2, 2, 2, 2, 0, 0, 0, 0, 0, 0, 0, 0, 0, 0, 2, 2, 2, 0, 2, 2, 2, 0, 0, 2, 2, 2, 2, 2, 2, 0, 0, 2, 2, 2, 2, 2, 2, 2, 2, 2, 2]) := GI_s hG 56 rfl
    refine mx_J.step (sn_171 0) (fun _ _ => rfl) ?_
    refine JcI (z := 23) (show mx_Sn _ _ 1 (mx_const (.int 23) 3) from sn_171 1) rfl ?_
    have b2 : 0 ≤ Z 56 9 ∧ Z 56 9 ≤ 100 := hG.pr 56 9
    have b3 : 0 ≤ Z 56 11 ∧ Z 56 11 ≤ 4 := hG.pr 56 11
    obtain ⟨z1, hc1, b1⟩ := ct_164_56 (d := d + 7) (l := l) (D := D) (b0 := b0) (ad := ad) (Hb := Hb) (tau := tau) hx hG (show 0 ≤ 23 ∧ 23 ≤ 100 by omega)
    refine Jcv hx (show mx_Sn _ _ 3 (mx_callv 164 2 12 6) from sn_171 3) a56 s56 hc1 rfl rfl rfl ?_
    have c129 : ∀  (Z5 : xZ) (h5 : mx_H), (Z5 56 6 ≤ Z5 56 7 ∧ Z5 56 7 ≤ Z 56 8) → (Z5 56 9 = 24 ∨ Z5 56 6 < Z5 56 7) → (Z 56 6 ≤ Z5 56 6 ∧ Z 60 61 ≤ Z5 60 61 ∧ Z5 60 61 - Z 60 61 ≤ Z5 56 6 - Z 56 6) → (Z5 60 0 = Z 60 0 ∧ Z5 60 1 = Z 60 1 ∧ Z5 60 2 = Z 60 2) → QR Z Z5 a0 1 0 → RM g0 T N Z5 (atX T N (lvI T N x0) sg) → XH n s S Z5 h5 → GI n S Z5 → fr' [(56, 6), (56, 7), (56, 9), (56, 10), (56, 11), (56, 12), (60, (-1))] Z Z5 → mx_J (tB l D b0 ad Hb tau) mt_171 (d + 8) 129 [some (.ref 56), some (xI x0)] [] h5 Post := by
      intro Z5 h5 f4_0 f4_1 f4_2 f4_3 f4_4 f4_5 hx5 hG5 hf5
      have b6 : 0 ≤ Z5 56 6 ∧ Z5 56 6 ≤ 900 := hG5.pr 56 6
      have b7 : 0 ≤ Z5 56 7 ∧ Z5 56 7 ≤ 900 := hG5.pr 56 7
      have b8 : 0 ≤ Z5 56 9 ∧ Z5 56 9 ≤ 100 := hG5.pr 56 9
      have b9 : 0 ≤ Z5 60 61 ∧ Z5 60 61 ≤ 900 := by have hq := GI_ex hG5 60 61; replace hq : f60 (61 % 962) (Z5 60 61) := hq; unfold f60 at hq; omega
      have b10 : (-2147483648) ≤ Z5 60 61 ∧ Z5 60 61 ≤ 2147483647 := hG5.pr 60 61
      have b11 : (-2147483648) ≤ Z5 60 0 ∧ Z5 60 0 ≤ 2147483647 := hG5.pr 60 0
      have b12 : 0 ≤ Z5 60 1 ∧ Z5 60 1 ≤ 18 := by have hq := GI_ex hG5 60 1; replace hq : f60 (1 % 962) (Z5 60 1) := hq; unfold f60 at hq; omega
      have b13 : (-2147483648) ≤ Z5 60 1 ∧ Z5 60 1 ≤ 2147483647 := hG5.pr 60 1
      have b14 : 0 ≤ Z5 60 2 ∧ Z5 60 2 ≤ 18 := by have hq := GI_ex hG5 60 2; replace hq : f60 (2 % 962) (Z5 60 2) := hq; unfold f60 at hq; omega
      have b15 : (-2147483648) ≤ Z5 60 2 ∧ Z5 60 2 ≤ 2147483647 := hG5.pr 60 2
      have b16 : 0 ≤ Z5 56 11 ∧ Z5 56 11 ≤ 4 := hG5.pr 56 11
      have eq17 : Z5 56 8 = Z 56 8 := (hf5 56 8 rfl)
      have b18 : 0 ≤ Z 56 8 ∧ Z 56 8 ≤ 900 := hG.pr 56 8
      exact mx_J.ret (sn_171 129) (fun _ _ => rfl) (hP Z5 h5 hx5 hG5 (fr_tr (M := [(56, 6), (56, 7), (56, 9), (56, 10), (56, 11), (56, 12), (60, (-1))]) fr_rf (hf5) (M1 := []) rfl rfl) ⟨f4_5, (QR_le f4_4 (by decide)), by omega⟩)
    refine Jif_eq (show mx_Sn _ _ 6 (mx_if_eq 24 9) from sn_171 6) (by omega) (fun q19 => ?_) (fun q19 => ?_)
    · skip
      refine mx_J.step (sn_171 24) (fun _ _ => rfl) ?_
      refine JgetI (g := 11) (z := Z 56 11) hx (show mx_Sn _ _ 25 (mx_getf 12 11 28) from sn_171 25) a56 s56 rfl rfl rfl ?_
      have c66 : (¬ Z 56 11 = 0 ∨ (¬ Z 56 9 = 1 ∧ ¬ (9 ≤ Z 56 9 ∧ Z 56 9 ≤ 12))) → mx_J (tB l D b0 ad Hb tau) mt_171 (d + 8) 66 [some (.ref 56), some (xI x0)] [] h Post := by
        intro f21_0
        refine mx_J.step (sn_171 66) (fun _ _ => rfl) ?_
        refine JcI (z := 35) (show mx_Sn _ _ 67 (mx_const (.int 35) 69) from sn_171 67) rfl ?_
        obtain ⟨z22, hc22, b22⟩ := ct_164_56 (d := d + 7) (l := l) (D := D) (b0 := b0) (ad := ad) (Hb := Hb) (tau := tau) hx hG (show 0 ≤ 35 ∧ 35 ≤ 100 by omega)
        refine Jcv hx (show mx_Sn _ _ 69 (mx_callv 164 2 12 72) from sn_171 69) a56 s56 hc22 rfl rfl rfl ?_
        refine Jif_eq (show mx_Sn _ _ 72 (mx_if_eq 108 75) from sn_171 72) (by omega) (fun q23 => ?_) (fun q23 => ?_)
        · skip
          refine mx_J.step (sn_171 108) (fun _ _ => rfl) ?_
          refine JcI (z := 5) (show mx_Sn _ _ 109 (mx_const (.int 5) 110) from sn_171 109) rfl ?_
          obtain ⟨z24, hc24, b24⟩ := ct_164_56 (d := d + 7) (l := l) (D := D) (b0 := b0) (ad := ad) (Hb := Hb) (tau := tau) hx hG (show 0 ≤ 5 ∧ 5 ≤ 100 by omega)
          refine Jcv hx (show mx_Sn _ _ 110 (mx_callv 164 2 12 113) from sn_171 110) a56 s56 hc24 rfl rfl rfl ?_
          refine Jif_eq (show mx_Sn _ _ 113 (mx_if_eq 124 116) from sn_171 113) (by omega) (fun q25 => ?_) (fun q25 => ?_)
          · skip
            refine mx_J.step (sn_171 124) (fun _ _ => rfl) ?_
            refine JcI (z := 2) (show mx_Sn _ _ 125 (mx_const (.int 2) 126) from sn_171 125) rfl ?_
            obtain ⟨Z26, h26, hc26, hx26, hG26, hf26, b26⟩ := ct_163_56 (g0 := g0) (T := T) (N := N) (sg := sg) (d := d + 7) (l := l) (D := D) (b0 := b0) (ad := ad) (Hb := Hb) (tau := tau) hx hG (show 2 ≤ 2 ∧ 2 ≤ 4 by omega) hr
            obtain ⟨br26, b26⟩ := b26
            have b27 : 0 ≤ Z26 56 11 ∧ Z26 56 11 ≤ 4 := hG26.pr 56 11
            have r26 : ¬ Z26 56 11 = 0 := by omega
            refine Jcv0 hx (show mx_Sn _ _ 126 (mx_callv 163 2 12 129) from sn_171 126) a56 s56 hc26 rfl rfl rfl ?_
            have eq28 : Z26 56 6 = Z 56 6 := (hf26 56 6 rfl)
            have b29 : 0 ≤ Z 56 6 ∧ Z 56 6 ≤ 900 := hG.pr 56 6
            have eq30 : Z26 56 7 = Z 56 7 := (hf26 56 7 rfl)
            have b31 : 0 ≤ Z 56 7 ∧ Z 56 7 ≤ 900 := hG.pr 56 7
            have eq32 : Z26 56 6 = Z 56 6 := (hf26 56 6 rfl)
            have eq33 : Z26 56 7 = Z 56 7 := (hf26 56 7 rfl)
            have eq34 : Z26 56 9 = Z 56 9 := (hf26 56 9 rfl)
            have eq35 : Z26 56 6 = Z 56 6 := (hf26 56 6 rfl)
            have eq36 : Z26 60 61 = Z 60 61 := (hf26 60 61 rfl)
            have b37 : 0 ≤ Z 60 61 ∧ Z 60 61 ≤ 900 := by have hq := GI_ex hG 60 61; replace hq : f60 (61 % 962) (Z 60 61) := hq; unfold f60 at hq; omega
            have b38 : (-2147483648) ≤ Z 60 61 ∧ Z 60 61 ≤ 2147483647 := hG.pr 60 61
            have eq39 : Z26 60 0 = Z 60 0 := (hf26 60 0 rfl)
            have b40 : (-2147483648) ≤ Z 60 0 ∧ Z 60 0 ≤ 2147483647 := hG.pr 60 0
            have eq41 : Z26 60 1 = Z 60 1 := (hf26 60 1 rfl)
            have b42 : 0 ≤ Z 60 1 ∧ Z 60 1 ≤ 18 := by have hq := GI_ex hG 60 1; replace hq : f60 (1 % 962) (Z 60 1) := hq; unfold f60 at hq; omega
            have b43 : (-2147483648) ≤ Z 60 1 ∧ Z 60 1 ≤ 2147483647 := hG.pr 60 1
            have eq44 : Z26 60 2 = Z 60 2 := (hf26 60 2 rfl)
            have b45 : 0 ≤ Z 60 2 ∧ Z 60 2 ≤ 18 := by have hq := GI_ex hG 60 2; replace hq : f60 (2 % 962) (Z 60 2) := hq; unfold f60 at hq; omega
            have b46 : (-2147483648) ≤ Z 60 2 ∧ Z 60 2 ≤ 2147483647 := hG.pr 60 2
            exact c129 Z26 h26 (by omega) (by omega) (by omega) (by omega) (QR_f r26) (RM_e br26 (at_n (fun q => by have := (RM_is (k := 23) hr).mpr q; omega) (fun q => by have := (RM_is (k := 35) hr).mpr q; omega) (fun q => by have := (RM_is (k := 5) hr).mpr q; omega) (fun q => by have := (RM_is (k := 1) hr).mpr q; omega) (fun q => by have k := (RM_p hr).1.mpr q.1; have k2 := RM_k hr k; omega))) hx26 hG26 (fr_tr (M := [(56, 6), (56, 7), (56, 9), (56, 10), (56, 11), (56, 12), (60, (-1))]) fr_rf (hf26) (M1 := []) rfl rfl)
          · skip
            refine mx_J.step (sn_171 116) (fun _ _ => rfl) ?_
            refine mx_J.step (sn_171 117) (fun _ _ => rfl) ?_
            have b48 : 0 ≤ Z 56 6 ∧ Z 56 6 ≤ 900 := hG.pr 56 6
            have b49 : 0 ≤ Z 56 7 ∧ Z 56 7 ≤ 900 := hG.pr 56 7
            have b50 : 0 ≤ Z 56 8 ∧ Z 56 8 ≤ 900 := hG.pr 56 8
            have b51 : 0 ≤ Z 60 61 ∧ Z 60 61 ≤ 900 := by have hq := GI_ex hG 60 61; replace hq : f60 (61 % 962) (Z 60 61) := hq; unfold f60 at hq; omega
            have b52 : (-2147483648) ≤ Z 60 61 ∧ Z 60 61 ≤ 2147483647 := hG.pr 60 61
            have b53 : (-2147483648) ≤ Z 60 0 ∧ Z 60 0 ≤ 2147483647 := hG.pr 60 0
            have b54 : 0 ≤ Z 60 1 ∧ Z 60 1 ≤ 18 := by have hq := GI_ex hG 60 1; replace hq : f60 (1 % 962) (Z 60 1) := hq; unfold f60 at hq; omega
            have b55 : (-2147483648) ≤ Z 60 1 ∧ Z 60 1 ≤ 2147483647 := hG.pr 60 1
            have b56 : 0 ≤ Z 60 2 ∧ Z 60 2 ≤ 18 := by have hq := GI_ex hG 60 2; replace hq : f60 (2 % 962) (Z 60 2) := hq; unfold f60 at hq; omega
            have b57 : (-2147483648) ≤ Z 60 2 ∧ Z 60 2 ≤ 2147483647 := hG.pr 60 2
            obtain ⟨Z47, h47, hc47, hx47, hG47, hf47, b47⟩ := ct_172_56_s (a0 := a0) (g0 := g0) (T := T) (N := N) (sg := sg) (d := d + 0) (l := l) (D := D) (b0 := b0) (ad := ad) (Hb := Hb) (tau := tau) hx hG (show 0 ≤ x0 ∧ x0 ≤ 6 by omega) (show (Z 56 6 ≤ Z 56 7 ∧ Z 56 7 ≤ Z 56 8 ∧ (Z 56 9 = 24 ∨ Z 56 6 < Z 56 7)) by omega) (show Z 60 61 ≤ Z 56 6 by omega) (show a0 ≤ Z 60 61 by omega) (show 0 ≤ a0 by omega) (show 0 ≤ g0 by omega) (show ¬ Z 56 9 = 24 by omega) (show Z 56 11 = 0 by omega) hr IH (by omega)
            obtain ⟨br47, b47⟩ := b47
            obtain ⟨bq47, b47⟩ := b47
            have b58 : 0 ≤ Z47 56 6 ∧ Z47 56 6 ≤ 900 := hG47.pr 56 6
            have b59 : 0 ≤ Z47 56 7 ∧ Z47 56 7 ≤ 900 := hG47.pr 56 7
            have b60 : 0 ≤ Z47 56 9 ∧ Z47 56 9 ≤ 100 := hG47.pr 56 9
            have b61 : 0 ≤ Z47 56 11 ∧ Z47 56 11 ≤ 4 := hG47.pr 56 11
            have b62 : 0 ≤ Z47 60 61 ∧ Z47 60 61 ≤ 900 := by have hq := GI_ex hG47 60 61; replace hq : f60 (61 % 962) (Z47 60 61) := hq; unfold f60 at hq; omega
            have b63 : (-2147483648) ≤ Z47 60 61 ∧ Z47 60 61 ≤ 2147483647 := hG47.pr 60 61
            have b64 : (-2147483648) ≤ Z47 60 0 ∧ Z47 60 0 ≤ 2147483647 := hG47.pr 60 0
            have b65 : 0 ≤ Z47 60 1 ∧ Z47 60 1 ≤ 18 := by have hq := GI_ex hG47 60 1; replace hq : f60 (1 % 962) (Z47 60 1) := hq; unfold f60 at hq; omega
            have b66 : (-2147483648) ≤ Z47 60 1 ∧ Z47 60 1 ≤ 2147483647 := hG47.pr 60 1
            have b67 : 0 ≤ Z47 60 2 ∧ Z47 60 2 ≤ 18 := by have hq := GI_ex hG47 60 2; replace hq : f60 (2 % 962) (Z47 60 2) := hq; unfold f60 at hq; omega
            have b68 : (-2147483648) ≤ Z47 60 2 ∧ Z47 60 2 ≤ 2147483647 := hG47.pr 60 2
            have r47 := QR_tr (d := 1) (c := 0) (QR_rf (Z := Z) (a := a0)) bq47 (by decide) (by decide) (by decide)
            refine Jcv0 hx (show mx_Sn _ _ 118 (mx_callv 172 2 12 121) from sn_171 118) a56 s56 hc47 rfl rfl rfl ?_
            refine mx_J.step (sn_171 121) (fun _ _ => rfl) ?_
            exact c129 Z47 h47 (by omega) (by omega) (by omega) (by omega) (QR_le r47 (by decide)) (RM_e br47 (at_i ((RM_is (k := 5) hr).mp (by omega)))) hx47 hG47 (fr_tr (M := [(56, 6), (56, 7), (56, 9), (56, 10), (56, 11), (56, 12), (60, (-1))]) fr_rf (hf47) (M1 := []) rfl rfl)
        · skip
          refine mx_J.step (sn_171 75) (fun _ _ => rfl) ?_
          refine mx_J.step (sn_171 76) (fun _ _ => rfl) ?_
          have b70 : 0 ≤ Z 56 6 ∧ Z 56 6 ≤ 900 := hG.pr 56 6
          have b71 : 0 ≤ Z 56 7 ∧ Z 56 7 ≤ 900 := hG.pr 56 7
          have b72 : 0 ≤ Z 56 8 ∧ Z 56 8 ≤ 900 := hG.pr 56 8
          obtain ⟨z69, Z69, h69, hc69, hx69, hG69, hf69, b69⟩ := ct_170_56 (g0 := g0) (T := T) (N := N) (sg := sg) (d := d + 1) (l := l) (D := D) (b0 := b0) (ad := ad) (Hb := Hb) (tau := tau) hx hG (show 0 ≤ x0 ∧ x0 ≤ 6 by omega) (show (Z 56 6 ≤ Z 56 7 ∧ Z 56 7 ≤ Z 56 8 ∧ (Z 56 9 = 24 ∨ Z 56 6 < Z 56 7)) by omega) (show ¬ Z 56 9 = 24 by omega) hr
          obtain ⟨br69, b69⟩ := b69
          have b73 : 0 ≤ Z69 56 6 ∧ Z69 56 6 ≤ 900 := hG69.pr 56 6
          have b74 : 0 ≤ Z69 56 7 ∧ Z69 56 7 ≤ 900 := hG69.pr 56 7
          have b75 : 0 ≤ Z69 56 9 ∧ Z69 56 9 ≤ 100 := hG69.pr 56 9
          have b76 : 0 ≤ Z69 56 11 ∧ Z69 56 11 ≤ 4 := hG69.pr 56 11
          have r69 := QR_g (k := 1) (c2 := 1) (QR_rf (Z := Z) (a := a0)) (fun e => by omega) (fun i => hf69 60 i rfl) (fun e => by omega) (by decide)
          refine Jcv hx (show mx_Sn _ _ 77 (mx_callv 170 2 12 80) from sn_171 77) a56 s56 hc69 rfl rfl rfl ?_
          refine Jif_ne (show mx_Sn _ _ 80 (mx_if_ne 84 83) from sn_171 80) (by omega) (fun q77 => ?_) (fun q77 => ?_)
          · skip
            have hx5 : x0 ≤ 5 := by omega
            have rc78 : RM g0 T N Z69 (gAd T N sg) := RM_e br69 ((gEn_y (by omega)).symm)
            refine mx_J.step (sn_171 84) (fun _ _ => rfl) ?_
            refine mx_J.step (sn_171 85) (fun _ _ => rfl) ?_
            refine JcI (z := 1) (show mx_Sn _ _ 86 (mx_const (.int 1) 87) from sn_171 86) rfl ?_
            refine Jiadd (show mx_Sn _ _ 87 (mx_iadd 88) from sn_171 87) ?_
            have eq80 : Z69 56 8 = Z 56 8 := (hf69 56 8 rfl)
            have eq81 : Z69 60 61 = Z 60 61 := (hf69 60 61 rfl)
            have b82 : 0 ≤ Z 60 61 ∧ Z 60 61 ≤ 900 := by have hq := GI_ex hG 60 61; replace hq : f60 (61 % 962) (Z 60 61) := hq; unfold f60 at hq; omega
            have b83 : (-2147483648) ≤ Z 60 61 ∧ Z 60 61 ≤ 2147483647 := hG.pr 60 61
            have eq84 : Z69 60 0 = Z 60 0 := (hf69 60 0 rfl)
            have b85 : (-2147483648) ≤ Z 60 0 ∧ Z 60 0 ≤ 2147483647 := hG.pr 60 0
            have eq86 : Z69 60 1 = Z 60 1 := (hf69 60 1 rfl)
            have b87 : 0 ≤ Z 60 1 ∧ Z 60 1 ≤ 18 := by have hq := GI_ex hG 60 1; replace hq : f60 (1 % 962) (Z 60 1) := hq; unfold f60 at hq; omega
            have b88 : (-2147483648) ≤ Z 60 1 ∧ Z 60 1 ≤ 2147483647 := hG.pr 60 1
            have eq89 : Z69 60 2 = Z 60 2 := (hf69 60 2 rfl)
            have b90 : 0 ≤ Z 60 2 ∧ Z 60 2 ≤ 18 := by have hq := GI_ex hG 60 2; replace hq : f60 (2 % 962) (Z 60 2) := hq; unfold f60 at hq; omega
            have b91 : (-2147483648) ≤ Z 60 2 ∧ Z 60 2 ≤ 2147483647 := hG.pr 60 2
            obtain ⟨Z79, h79, hc79, hx79, hG79, hf79, b79⟩ := riR_174 IH (by omega) (hd := by omega) (a0 := a0) (g0 := g0) (T := T) (N := N) (sg := gAd T N sg) (d := d + 8) (l := l) (D := D) (b0 := b0) (ad := ad) (Hb := Hb) (tau := tau) hx69 hG69 (show 1 ≤ x0 + 1 ∧ x0 + 1 ≤ 6 by omega) (show (Z69 56 6 ≤ Z69 56 7 ∧ Z69 56 7 ≤ Z69 56 8 ∧ (Z69 56 9 = 24 ∨ Z69 56 6 < Z69 56 7)) by first | omega | (simp only [eq80, eq81, eq84, eq86, eq89]; omega)) (show Z69 60 61 ≤ Z69 56 6 by first | omega | (simp only [eq80, eq81, eq84, eq86, eq89]; omega)) (show a0 ≤ Z69 60 61 by first | omega | (simp only [eq80, eq81, eq84, eq86, eq89]; omega)) (show 0 ≤ a0 by first | omega | (simp only [eq80, eq81, eq84, eq86, eq89]; omega)) (show 0 ≤ g0 by first | omega | (simp only [eq80, eq81, eq84, eq86, eq89]; omega)) rc78
            try rw [eq80] at b79
            try rw [eq81] at b79
            try rw [eq84] at b79
            try rw [eq86] at b79
            try rw [eq89] at b79
            obtain ⟨br79, b79⟩ := b79
            obtain ⟨bq79, b79⟩ := b79
            have b92 : 0 ≤ Z79 56 6 ∧ Z79 56 6 ≤ 900 := hG79.pr 56 6
            have b93 : 0 ≤ Z79 56 7 ∧ Z79 56 7 ≤ 900 := hG79.pr 56 7
            have b94 : 0 ≤ Z79 56 9 ∧ Z79 56 9 ≤ 100 := hG79.pr 56 9
            have b95 : 0 ≤ Z79 56 11 ∧ Z79 56 11 ≤ 4 := hG79.pr 56 11
            have b96 : 0 ≤ Z79 60 61 ∧ Z79 60 61 ≤ 900 := by have hq := GI_ex hG79 60 61; replace hq : f60 (61 % 962) (Z79 60 61) := hq; unfold f60 at hq; omega
            have b97 : (-2147483648) ≤ Z79 60 61 ∧ Z79 60 61 ≤ 2147483647 := hG79.pr 60 61
            have b98 : (-2147483648) ≤ Z79 60 0 ∧ Z79 60 0 ≤ 2147483647 := hG79.pr 60 0
            have b99 : 0 ≤ Z79 60 1 ∧ Z79 60 1 ≤ 18 := by have hq := GI_ex hG79 60 1; replace hq : f60 (1 % 962) (Z79 60 1) := hq; unfold f60 at hq; omega
            have b100 : (-2147483648) ≤ Z79 60 1 ∧ Z79 60 1 ≤ 2147483647 := hG79.pr 60 1
            have b101 : 0 ≤ Z79 60 2 ∧ Z79 60 2 ≤ 18 := by have hq := GI_ex hG79 60 2; replace hq : f60 (2 % 962) (Z79 60 2) := hq; unfold f60 at hq; omega
            have b102 : (-2147483648) ≤ Z79 60 2 ∧ Z79 60 2 ≤ 2147483647 := hG79.pr 60 2
            have r79 := QR_tr (d := 1) (c := 1) r69 bq79 (by decide) (by decide) (by decide)
            refine Jcv0 hx69 (show mx_Sn _ _ 88 (mx_callv 174 2 12 91) from sn_171 88) a56 s56 hc79 rfl rfl rfl ?_
            have gt := RM_is (k := 36) br79
            refine mx_J.step (sn_171 91) (fun _ _ => rfl) ?_
            refine JcI (z := 36) (show mx_Sn _ _ 92 (mx_const (.int 36) 94) from sn_171 92) rfl ?_
            have eq104 : Z79 56 8 = Z 56 8 := ((hf79 56 8 rfl).trans (hf69 56 8 rfl))
            obtain ⟨z103, Z103, h103, hc103, hx103, hG103, hf103, b103⟩ := ct_165_56 (g0 := g0) (T := T) (N := N) (sg := smX T N (lvI T N (x0 + 1)) (gAd T N sg)) (d := d + 1) (l := l) (D := D) (b0 := b0) (ad := ad) (Hb := Hb) (tau := tau) hx79 hG79 (show 0 ≤ 36 ∧ 36 ≤ 100 by omega) (show (Z79 56 6 ≤ Z79 56 7 ∧ Z79 56 7 ≤ Z79 56 8 ∧ (Z79 56 9 = 24 ∨ Z79 56 6 < Z79 56 7)) by first | omega | (simp only [eq104]; omega)) (show ¬ 36 = 24 by first | omega | (simp only [eq104]; omega)) br79
            try rw [eq104] at b103
            obtain ⟨br103, b103⟩ := b103
            have b105 : 0 ≤ Z103 56 6 ∧ Z103 56 6 ≤ 900 := hG103.pr 56 6
            have b106 : 0 ≤ Z103 56 7 ∧ Z103 56 7 ≤ 900 := hG103.pr 56 7
            have b107 : 0 ≤ Z103 56 9 ∧ Z103 56 9 ≤ 100 := hG103.pr 56 9
            have r103 := QR_g (k := 0) (c2 := 1) r79 (fun e => (hf103 56 11 rfl).symm.trans e) (fun i => hf103 60 i rfl) (fun e => by omega) (by decide)
            have rk103 : z103 = 1 → QR Z Z103 a0 1 2 := fun ez => QR_g (k := 1) r79 (fun e => (hf103 56 11 rfl).symm.trans e) (fun i => hf103 60 i rfl) (fun e => by omega) (by decide)
            refine Jcv hx79 (show mx_Sn _ _ 94 (mx_callv 165 2 12 97) from sn_171 94) a56 s56 hc103 rfl rfl rfl ?_
            refine Jif_ne (show mx_Sn _ _ 97 (mx_if_ne 129 100) from sn_171 97) (by omega) (fun q108 => ?_) (fun q108 => ?_)
            · skip
              have eq109 : Z103 60 61 = Z79 60 61 := (hf103 60 61 rfl)
              have eq110 : Z103 60 0 = Z79 60 0 := (hf103 60 0 rfl)
              have eq111 : Z103 60 1 = Z79 60 1 := (hf103 60 1 rfl)
              have eq112 : Z103 60 2 = Z79 60 2 := (hf103 60 2 rfl)
              exact c129 Z103 h103 (by omega) (by omega) (by omega) (by omega) (QR_le (rk103 (by omega)) (by decide)) (RM_e br103 (((at_o ((RM_is (k := 35) hr).mp (by omega))).trans (in_y hx5)).trans (ee_y (gt.mp (by omega))))) hx103 hG103 (fr_tr (M := [(56, 6), (56, 7), (56, 9), (56, 10), (56, 11), (56, 12), (60, (-1))]) (fr_tr (M := [(56, 6), (56, 7), (56, 9), (56, 10), (56, 11), (56, 12), (60, (-1))]) (fr_tr (M := [(56, 6), (56, 7), (56, 9), (56, 10), (56, 11), (56, 12), (60, (-1))]) fr_rf (hf69) (M1 := []) rfl rfl) (hf79) rfl rfl) (hf103) rfl rfl)
            · skip
              refine mx_J.step (sn_171 100) (fun _ _ => rfl) ?_
              refine JcI (z := 2) (show mx_Sn _ _ 101 (mx_const (.int 2) 102) from sn_171 101) rfl ?_
              have eq114 : Z103 56 11 = Z79 56 11 := (hf103 56 11 rfl)
              obtain ⟨Z113, h113, hc113, hx113, hG113, hf113, b113⟩ := ct_163_56 (g0 := g0) (T := T) (N := N) (sg := gEt T N 36 (smX T N (lvI T N (x0 + 1)) (gAd T N sg))) (d := d + 7) (l := l) (D := D) (b0 := b0) (ad := ad) (Hb := Hb) (tau := tau) hx103 hG103 (show 2 ≤ 2 ∧ 2 ≤ 4 by omega) br103
              try rw [eq114] at b113
              obtain ⟨br113, b113⟩ := b113
              have b115 : 0 ≤ Z113 56 11 ∧ Z113 56 11 ≤ 4 := hG113.pr 56 11
              have r113 : ¬ Z113 56 11 = 0 := by omega
              refine Jcv0 hx103 (show mx_Sn _ _ 102 (mx_callv 163 2 12 105) from sn_171 102) a56 s56 hc113 rfl rfl rfl ?_
              refine mx_J.step (sn_171 105) (fun _ _ => rfl) ?_
              have eq116 : Z113 56 6 = Z103 56 6 := (hf113 56 6 rfl)
              have eq117 : Z113 56 7 = Z103 56 7 := (hf113 56 7 rfl)
              have eq118 : Z113 56 6 = Z103 56 6 := (hf113 56 6 rfl)
              have eq119 : Z113 56 7 = Z103 56 7 := (hf113 56 7 rfl)
              have eq120 : Z113 56 9 = Z103 56 9 := (hf113 56 9 rfl)
              have eq121 : Z113 56 6 = Z103 56 6 := (hf113 56 6 rfl)
              have eq122 : Z113 60 61 = Z79 60 61 := ((hf113 60 61 rfl).trans (hf103 60 61 rfl))
              have eq123 : Z113 60 0 = Z79 60 0 := ((hf113 60 0 rfl).trans (hf103 60 0 rfl))
              have eq124 : Z113 60 1 = Z79 60 1 := ((hf113 60 1 rfl).trans (hf103 60 1 rfl))
              have eq125 : Z113 60 2 = Z79 60 2 := ((hf113 60 2 rfl).trans (hf103 60 2 rfl))
              exact c129 Z113 h113 (by omega) (by omega) (by omega) (by omega) (QR_f r113) (RM_e br113 (((at_o ((RM_is (k := 35) hr).mp (by omega))).trans (in_y hx5)).trans (ee_n (fun q => by have := gt.mpr q; omega)))) hx113 hG113 (fr_tr (M := [(56, 6), (56, 7), (56, 9), (56, 10), (56, 11), (56, 12), (60, (-1))]) (fr_tr (M := [(56, 6), (56, 7), (56, 9), (56, 10), (56, 11), (56, 12), (60, (-1))]) (fr_tr (M := [(56, 6), (56, 7), (56, 9), (56, 10), (56, 11), (56, 12), (60, (-1))]) (fr_tr (M := [(56, 6), (56, 7), (56, 9), (56, 10), (56, 11), (56, 12), (60, (-1))]) fr_rf (hf69) (M1 := []) rfl rfl) (hf79) rfl rfl) (hf103) rfl rfl) (hf113) rfl rfl)
          · skip
            have eq126 : Z69 60 61 = Z 60 61 := (hf69 60 61 rfl)
            have b127 : 0 ≤ Z 60 61 ∧ Z 60 61 ≤ 900 := by have hq := GI_ex hG 60 61; replace hq : f60 (61 % 962) (Z 60 61) := hq; unfold f60 at hq; omega
            have b128 : (-2147483648) ≤ Z 60 61 ∧ Z 60 61 ≤ 2147483647 := hG.pr 60 61
            have eq129 : Z69 60 0 = Z 60 0 := (hf69 60 0 rfl)
            have b130 : (-2147483648) ≤ Z 60 0 ∧ Z 60 0 ≤ 2147483647 := hG.pr 60 0
            have eq131 : Z69 60 1 = Z 60 1 := (hf69 60 1 rfl)
            have b132 : 0 ≤ Z 60 1 ∧ Z 60 1 ≤ 18 := by have hq := GI_ex hG 60 1; replace hq : f60 (1 % 962) (Z 60 1) := hq; unfold f60 at hq; omega
            have b133 : (-2147483648) ≤ Z 60 1 ∧ Z 60 1 ≤ 2147483647 := hG.pr 60 1
            have eq134 : Z69 60 2 = Z 60 2 := (hf69 60 2 rfl)
            have b135 : 0 ≤ Z 60 2 ∧ Z 60 2 ≤ 18 := by have hq := GI_ex hG 60 2; replace hq : f60 (2 % 962) (Z 60 2) := hq; unfold f60 at hq; omega
            have b136 : (-2147483648) ≤ Z 60 2 ∧ Z 60 2 ≤ 2147483647 := hG.pr 60 2
            have eq137 : Z69 56 8 = Z 56 8 := (hf69 56 8 rfl)
            have eq138 : Z69 60 61 = Z 60 61 := (hf69 60 61 rfl)
            have eq139 : Z69 60 0 = Z 60 0 := (hf69 60 0 rfl)
            have eq140 : Z69 60 1 = Z 60 1 := (hf69 60 1 rfl)
            have eq141 : Z69 60 2 = Z 60 2 := (hf69 60 2 rfl)
            exact mx_J.ret (sn_171 83) (fun _ _ => rfl) (hP Z69 h69 hx69 hG69 (fr_tr (M := [(56, 6), (56, 7), (56, 9), (56, 10), (56, 11), (56, 12), (60, (-1))]) fr_rf (hf69) (M1 := []) rfl rfl) ⟨(RM_e br69 (((at_o ((RM_is (k := 35) hr).mp (by omega))).trans (in_n (by omega))).trans (gEn_n (by omega)).symm)), (QR_f (by omega)), by omega⟩)
      refine Jif_ne (show mx_Sn _ _ 28 (mx_if_ne 66 31) from sn_171 28) (by omega) (fun q142 => ?_) (fun q142 => ?_)
      · skip
        exact c66 (by omega)
      · skip
        refine mx_J.step (sn_171 31) (fun _ _ => rfl) ?_
        refine mx_J.step (sn_171 32) (fun _ _ => rfl) ?_
        refine JgetI (g := 9) (z := Z 56 9) hx (show mx_Sn _ _ 33 (mx_getf 12 9 36) from sn_171 33) a56 s56 rfl rfl rfl ?_
        obtain ⟨z144, hc144, b144⟩ := ct_168_56 (d := d + 7) (l := l) (D := D) (b0 := b0) (ad := ad) (Hb := Hb) (tau := tau) hx hG (show 0 ≤ Z 56 9 ∧ Z 56 9 ≤ 100 by omega)
        refine Jcv hx (show mx_Sn _ _ 36 (mx_callv 168 2 12 39) from sn_171 36) a56 s56 hc144 rfl rfl rfl ?_
        refine JcI (z := (-1)) (show mx_Sn _ _ 39 (mx_const (.int (-1)) 40) from sn_171 39) rfl ?_
        refine Jicmp_eq (show mx_Sn _ _ 40 (mx_icmp_eq 66 43) from sn_171 40) (by omega) (by omega) (fun q145 => ?_) (fun q145 => ?_)
        · skip
          exact c66 (by omega)
        · skip
          have kk := RM_k hr (by omega)
          refine mx_J.step (sn_171 43) (fun _ _ => rfl) ?_
          refine JcI (z := 1000) (show mx_Sn _ _ 44 (mx_const (.int 1000) 47) from sn_171 44) rfl ?_
          refine mx_J.step (sn_171 47) (fun _ _ => rfl) ?_
          refine mx_J.step (sn_171 48) (fun _ _ => rfl) ?_
          refine JgetI (g := 9) (z := Z 56 9) hx (show mx_Sn _ _ 49 (mx_getf 12 9 52) from sn_171 49) a56 s56 rfl rfl rfl ?_
          obtain ⟨z147, hc147, b147⟩ := ct_168_56 (d := d + 7) (l := l) (D := D) (b0 := b0) (ad := ad) (Hb := Hb) (tau := tau) hx hG (show 0 ≤ Z 56 9 ∧ Z 56 9 ≤ 100 by omega)
          refine Jcv hx (show mx_Sn _ _ 52 (mx_callv 168 2 12 55) from sn_171 52) a56 s56 hc147 rfl rfl rfl ?_
          refine Jiadd (show mx_Sn _ _ 55 (mx_iadd 56) from sn_171 55) ?_
          have b149 : 0 ≤ Z 56 8 ∧ Z 56 8 ≤ 900 := hG.pr 56 8
          have b150 : 0 ≤ Z 60 61 ∧ Z 60 61 ≤ 900 := by have hq := GI_ex hG 60 61; replace hq : f60 (61 % 962) (Z 60 61) := hq; unfold f60 at hq; omega
          have b151 : (-2147483648) ≤ Z 60 61 ∧ Z 60 61 ≤ 2147483647 := hG.pr 60 61
          have b152 : (-2147483648) ≤ Z 60 0 ∧ Z 60 0 ≤ 2147483647 := hG.pr 60 0
          have b153 : 0 ≤ Z 60 1 ∧ Z 60 1 ≤ 18 := by have hq := GI_ex hG 60 1; replace hq : f60 (1 % 962) (Z 60 1) := hq; unfold f60 at hq; omega
          have b154 : (-2147483648) ≤ Z 60 1 ∧ Z 60 1 ≤ 2147483647 := hG.pr 60 1
          have b155 : 0 ≤ Z 60 2 ∧ Z 60 2 ≤ 18 := by have hq := GI_ex hG 60 2; replace hq : f60 (2 % 962) (Z 60 2) := hq; unfold f60 at hq; omega
          have b156 : (-2147483648) ≤ Z 60 2 ∧ Z 60 2 ≤ 2147483647 := hG.pr 60 2
          have rp148 := QR_n (QR_rf (Z := Z) (a := a0))
          obtain ⟨Z148, h148, hc148, hx148, hG148, hf148, b148⟩ := ct_169_56_0 (a0 := a0) (g0 := g0) (T := T) (N := N) (sg := sg) (d := d + 7) (l := l) (D := D) (b0 := b0) (ad := ad) (Hb := Hb) (tau := tau) hx hG (show 0 ≤ 1000 + z147 ∧ 1000 + z147 ≤ 1004 by omega) (show (Z 56 11 = 0 → Z 60 61 ≤ 899) by omega) (show a0 ≤ Z 60 61 by omega) (show 0 ≤ a0 by omega) (show 0 ≤ g0 by omega) hr
          obtain ⟨br148, b148⟩ := b148
          obtain ⟨bq148, b148⟩ := b148
          have b157 : 0 ≤ Z148 60 61 ∧ Z148 60 61 ≤ 900 := by have hq := GI_ex hG148 60 61; replace hq : f60 (61 % 962) (Z148 60 61) := hq; unfold f60 at hq; omega
          have b158 : (-2147483648) ≤ Z148 60 61 ∧ Z148 60 61 ≤ 2147483647 := hG148.pr 60 61
          have b159 : (-2147483648) ≤ Z148 60 0 ∧ Z148 60 0 ≤ 2147483647 := hG148.pr 60 0
          have b160 : 0 ≤ Z148 60 1 ∧ Z148 60 1 ≤ 18 := by have hq := GI_ex hG148 60 1; replace hq : f60 (1 % 962) (Z148 60 1) := hq; unfold f60 at hq; omega
          have b161 : (-2147483648) ≤ Z148 60 1 ∧ Z148 60 1 ≤ 2147483647 := hG148.pr 60 1
          have b162 : 0 ≤ Z148 60 2 ∧ Z148 60 2 ≤ 18 := by have hq := GI_ex hG148 60 2; replace hq : f60 (2 % 962) (Z148 60 2) := hq; unfold f60 at hq; omega
          have b163 : (-2147483648) ≤ Z148 60 2 ∧ Z148 60 2 ≤ 2147483647 := hG148.pr 60 2
          have rn148 := QR_n (QR_rf (Z := Z) (a := a0))
          have r148 := QR_c (d2 := 1) (c2 := (-1)) (QR_rf (Z := Z) (a := a0)) bq148 (by omega) (hf148 56 11 rfl) (hf148 56 6 rfl) (by decide) (by decide) (by decide)
          refine Jcv0 hx (show mx_Sn _ _ 56 (mx_callv 169 2 12 59) from sn_171 56) a56 s56 hc148 rfl rfl rfl ?_
          refine mx_J.step (sn_171 59) (fun _ _ => rfl) ?_
          have eq165 : Z148 56 7 = Z 56 7 := (hf148 56 7 rfl)
          have b166 : 0 ≤ Z 56 7 ∧ Z 56 7 ≤ 900 := hG.pr 56 7
          have eq167 : Z148 56 8 = Z 56 8 := (hf148 56 8 rfl)
          have eq168 : Z148 56 11 = Z 56 11 := (hf148 56 11 rfl)
          obtain ⟨Z164, h164, hc164, hx164, hG164, hf164, b164⟩ := ct_162_56r (g0 := g0) (T := T) (N := N) (sg := gEm ((1000 + z147)) sg) (d := d + 2) (l := l) (D := D) (b0 := b0) (ad := ad) (Hb := Hb) (tau := tau) hx148 hG148  (show Z148 56 7 ≤ Z148 56 8 by first | omega | (simp only [eq165, eq167, eq168]; omega)) (show Z148 56 11 = 0 by first | omega | (simp only [eq165, eq167, eq168]; omega)) br148
          try rw [eq165] at b164
          try rw [eq167] at b164
          try rw [eq168] at b164
          obtain ⟨br164, b164⟩ := b164
          have b169 : 0 ≤ Z164 56 6 ∧ Z164 56 6 ≤ 900 := hG164.pr 56 6
          have b170 : 0 ≤ Z164 56 7 ∧ Z164 56 7 ≤ 900 := hG164.pr 56 7
          have b171 : 0 ≤ Z164 56 9 ∧ Z164 56 9 ≤ 100 := hG164.pr 56 9
          have eq172 : Z148 56 6 = Z 56 6 := (hf148 56 6 rfl)
          have b173 : 0 ≤ Z 56 6 ∧ Z 56 6 ≤ 900 := hG.pr 56 6
          have eq174 : Z148 56 11 = Z 56 11 := (hf148 56 11 rfl)
          have eq175 : Z148 56 9 = Z 56 9 := (hf148 56 9 rfl)
          have r164 := QR_g (k := 1) (c2 := 0) r148 (fun e => (hf164 56 11 rfl).symm.trans e) (fun i => hf164 60 i rfl) (fun e => by omega) (by decide)
          refine Jcv0 hx148 (show mx_Sn _ _ 60 (mx_callv 162 1 12 63) from sn_171 60) a56 s56 hc164 rfl rfl rfl ?_
          refine mx_J.step (sn_171 63) (fun _ _ => rfl) ?_
          have eq176 : Z164 60 61 = Z148 60 61 := (hf164 60 61 rfl)
          have eq177 : Z164 60 0 = Z148 60 0 := (hf164 60 0 rfl)
          have eq178 : Z164 60 1 = Z148 60 1 := (hf164 60 1 rfl)
          have eq179 : Z164 60 2 = Z148 60 2 := (hf164 60 2 rfl)
          exact c129 Z164 h164 (by omega) (by omega) (by omega) (by omega) (QR_le r164 (by decide)) (RM_e br164 (at_wm kk.1 (by omega))) hx164 hG164 (fr_tr (M := [(56, 6), (56, 7), (56, 9), (56, 10), (56, 11), (56, 12), (60, (-1))]) (fr_tr (M := [(56, 6), (56, 7), (56, 9), (56, 10), (56, 11), (56, 12), (60, (-1))]) fr_rf (hf148) (M1 := []) rfl rfl) (hf164) rfl rfl)
    · skip
      have v23 : Z 56 10 = tVl T N sg.1 := RM_v hr ((RM_is (k := 23) hr).mp (by omega))
      refine mx_J.step (sn_171 9) (fun _ _ => rfl) ?_
      refine mx_J.step (sn_171 10) (fun _ _ => rfl) ?_
      have b181 : 0 ≤ Z 56 10 ∧ Z 56 10 ≤ 999 := hG.pr 56 10
      refine JgetI (g := 10) (z := Z 56 10) hx (show mx_Sn _ _ 11 (mx_getf 12 10 14) from sn_171 11) a56 s56 rfl rfl rfl ?_
      have b183 : 0 ≤ Z 56 8 ∧ Z 56 8 ≤ 900 := hG.pr 56 8
      have b184 : 0 ≤ Z 60 61 ∧ Z 60 61 ≤ 900 := by have hq := GI_ex hG 60 61; replace hq : f60 (61 % 962) (Z 60 61) := hq; unfold f60 at hq; omega
      have b185 : (-2147483648) ≤ Z 60 61 ∧ Z 60 61 ≤ 2147483647 := hG.pr 60 61
      have b186 : (-2147483648) ≤ Z 60 0 ∧ Z 60 0 ≤ 2147483647 := hG.pr 60 0
      have b187 : 0 ≤ Z 60 1 ∧ Z 60 1 ≤ 18 := by have hq := GI_ex hG 60 1; replace hq : f60 (1 % 962) (Z 60 1) := hq; unfold f60 at hq; omega
      have b188 : (-2147483648) ≤ Z 60 1 ∧ Z 60 1 ≤ 2147483647 := hG.pr 60 1
      have b189 : 0 ≤ Z 60 2 ∧ Z 60 2 ≤ 18 := by have hq := GI_ex hG 60 2; replace hq : f60 (2 % 962) (Z 60 2) := hq; unfold f60 at hq; omega
      have b190 : (-2147483648) ≤ Z 60 2 ∧ Z 60 2 ≤ 2147483647 := hG.pr 60 2
      have rp182 := QR_n (QR_rf (Z := Z) (a := a0))
      obtain ⟨Z182, h182, hc182, hx182, hG182, hf182, b182⟩ := ct_169_56_0 (a0 := a0) (g0 := g0) (T := T) (N := N) (sg := sg) (d := d + 7) (l := l) (D := D) (b0 := b0) (ad := ad) (Hb := Hb) (tau := tau) hx hG (show 0 ≤ Z 56 10 ∧ Z 56 10 ≤ 1004 by omega) (show (Z 56 11 = 0 → Z 60 61 ≤ 899) by omega) (show a0 ≤ Z 60 61 by omega) (show 0 ≤ a0 by omega) (show 0 ≤ g0 by omega) hr
      obtain ⟨br182, b182⟩ := b182
      obtain ⟨bq182, b182⟩ := b182
      have b191 : 0 ≤ Z182 60 61 ∧ Z182 60 61 ≤ 900 := by have hq := GI_ex hG182 60 61; replace hq : f60 (61 % 962) (Z182 60 61) := hq; unfold f60 at hq; omega
      have b192 : (-2147483648) ≤ Z182 60 61 ∧ Z182 60 61 ≤ 2147483647 := hG182.pr 60 61
      have b193 : (-2147483648) ≤ Z182 60 0 ∧ Z182 60 0 ≤ 2147483647 := hG182.pr 60 0
      have b194 : 0 ≤ Z182 60 1 ∧ Z182 60 1 ≤ 18 := by have hq := GI_ex hG182 60 1; replace hq : f60 (1 % 962) (Z182 60 1) := hq; unfold f60 at hq; omega
      have b195 : (-2147483648) ≤ Z182 60 1 ∧ Z182 60 1 ≤ 2147483647 := hG182.pr 60 1
      have b196 : 0 ≤ Z182 60 2 ∧ Z182 60 2 ≤ 18 := by have hq := GI_ex hG182 60 2; replace hq : f60 (2 % 962) (Z182 60 2) := hq; unfold f60 at hq; omega
      have b197 : (-2147483648) ≤ Z182 60 2 ∧ Z182 60 2 ≤ 2147483647 := hG182.pr 60 2
      have rn182 := QR_n (QR_rf (Z := Z) (a := a0))
      have r182 := QR_c (d2 := 1) (c2 := (-1)) (QR_rf (Z := Z) (a := a0)) bq182 (by omega) (hf182 56 11 rfl) (hf182 56 6 rfl) (by decide) (by decide) (by decide)
      refine Jcv0 hx (show mx_Sn _ _ 14 (mx_callv 169 2 12 17) from sn_171 14) a56 s56 hc182 rfl rfl rfl ?_
      refine mx_J.step (sn_171 17) (fun _ _ => rfl) ?_
      have eq199 : Z182 56 7 = Z 56 7 := (hf182 56 7 rfl)
      have b200 : 0 ≤ Z 56 7 ∧ Z 56 7 ≤ 900 := hG.pr 56 7
      have eq201 : Z182 56 8 = Z 56 8 := (hf182 56 8 rfl)
      have eq202 : Z182 56 11 = Z 56 11 := (hf182 56 11 rfl)
      obtain ⟨Z198, h198, hc198, hx198, hG198, hf198, b198⟩ := ct_162_56r (g0 := g0) (T := T) (N := N) (sg := gEm ((Z 56 10)) sg) (d := d + 2) (l := l) (D := D) (b0 := b0) (ad := ad) (Hb := Hb) (tau := tau) hx182 hG182  (show Z182 56 7 ≤ Z182 56 8 by first | omega | (simp only [eq199, eq201, eq202]; omega)) (show Z182 56 11 = 0 by first | omega | (simp only [eq199, eq201, eq202]; omega)) br182
      try rw [eq199] at b198
      try rw [eq201] at b198
      try rw [eq202] at b198
      obtain ⟨br198, b198⟩ := b198
      have b203 : 0 ≤ Z198 56 6 ∧ Z198 56 6 ≤ 900 := hG198.pr 56 6
      have b204 : 0 ≤ Z198 56 7 ∧ Z198 56 7 ≤ 900 := hG198.pr 56 7
      have b205 : 0 ≤ Z198 56 9 ∧ Z198 56 9 ≤ 100 := hG198.pr 56 9
      have eq206 : Z182 56 6 = Z 56 6 := (hf182 56 6 rfl)
      have b207 : 0 ≤ Z 56 6 ∧ Z 56 6 ≤ 900 := hG.pr 56 6
      have eq208 : Z182 56 11 = Z 56 11 := (hf182 56 11 rfl)
      have eq209 : Z182 56 9 = Z 56 9 := (hf182 56 9 rfl)
      have r198 := QR_g (k := 1) (c2 := 0) r182 (fun e => (hf198 56 11 rfl).symm.trans e) (fun i => hf198 60 i rfl) (fun e => by omega) (by decide)
      refine Jcv0 hx182 (show mx_Sn _ _ 18 (mx_callv 162 1 12 21) from sn_171 18) a56 s56 hc198 rfl rfl rfl ?_
      refine mx_J.step (sn_171 21) (fun _ _ => rfl) ?_
      have eq210 : Z198 60 61 = Z182 60 61 := (hf198 60 61 rfl)
      have eq211 : Z198 60 0 = Z182 60 0 := (hf198 60 0 rfl)
      have eq212 : Z198 60 1 = Z182 60 1 := (hf198 60 1 rfl)
      have eq213 : Z198 60 2 = Z182 60 2 := (hf198 60 2 rfl)
      exact c129 Z198 h198 (by omega) (by omega) (by omega) (by omega) (QR_le r198 (by decide)) (RM_e br198 (at_dm ((RM_is (k := 23) hr).mp (by omega)) v23 (by omega))) hx198 hG198 (fr_tr (M := [(56, 6), (56, 7), (56, 9), (56, 10), (56, 11), (56, 12), (60, (-1))]) (fr_tr (M := [(56, 6), (56, 7), (56, 9), (56, 10), (56, 11), (56, 12), (60, (-1))]) fr_rf (hf182) (M1 := []) rfl rfl) (hf198) rfl rfl)
theorem ct_171_56_s {l : Launch} {D : va_G} {b0 : Nat} {ad : Nat → Nat} {Hb : Heap} {tau : Nat → Int64} {d n s : Nat} {S : Nat → xS} {Z : xZ} {h : mx_H} {a0 : Int} {g0 : Int} {T : Int → Int} {N : Int} {sg : SS} (hx : XH n s S Z h) (hG : GI n S Z)  {x0 : Int} (p0 : 0 ≤ x0 ∧ x0 ≤ 6) (k0 : (Z 56 6 ≤ Z 56 7 ∧ Z 56 7 ≤ Z 56 8 ∧ (Z 56 9 = 24 ∨ Z 56 6 < Z 56 7))) (k1 : Z 60 61 ≤ Z 56 6) (k2 : a0 ≤ Z 60 61) (k3 : 0 ≤ a0) (k4 : 0 ≤ g0) (hr : RM g0 T N Z sg) {kk : Nat} (IH : RBnh l D b0 ad Hb tau kk x0) (hd : kk ≤ d) : ∃ (Z' : xZ) (h' : mx_H), mx_Ca (tB l D b0 ad Hb tau) (d + 9) 171 [.ref 56, xI x0] h (none, h') ∧ XH n s S Z' h' ∧ GI n S Z' ∧ fr' [(56, 6), (56, 7), (56, 9), (56, 10), (56, 11), (56, 12), (60, (-1))] Z Z' ∧ (RM g0 T N Z' (atX T N (lvI T N x0) sg) ∧ QR Z Z' a0 1 0 ∧ ((Z' 56 6 ≤ Z' 56 7 ∧ Z' 56 7 ≤ Z 56 8 ∧ (Z' 56 9 = 24 ∨ Z' 56 6 < Z' 56 7)) ∧ Z' 60 0 = Z 60 0 ∧ Z' 60 1 = Z 60 1 ∧ Z' 60 2 = Z 60 2 ∧ Z 56 6 ≤ Z' 56 6 ∧ Z 60 61 ≤ Z' 60 61 ∧ Z' 60 61 - Z 60 61 ≤ Z' 56 6 - Z 56 6)) := by
  obtain ⟨r, hca, Z', h', e, q⟩ := Jmt (B := tB l D b0 ad Hb tau) (M := mt_171) (mi := 171) (as := [.ref 56, xI x0]) (d := d + 8) (ls := [some (.ref 56), some (xI x0)]) rfl rfl rfl rfl rfl rfl (cw_171_56_s (l := l) (D := D) (b0 := b0) (ad := ad) (Hb := Hb) (tau := tau) (d := d) (Post := fun r => ∃ (Z' : xZ) (h' : mx_H), r = (none, h') ∧ XH n s S Z' h' ∧ GI n S Z' ∧ fr' [(56, 6), (56, 7), (56, 9), (56, 10), (56, 11), (56, 12), (60, (-1))] Z Z' ∧ (RM g0 T N Z' (atX T N (lvI T N x0) sg) ∧ QR Z Z' a0 1 0 ∧ ((Z' 56 6 ≤ Z' 56 7 ∧ Z' 56 7 ≤ Z 56 8 ∧ (Z' 56 9 = 24 ∨ Z' 56 6 < Z' 56 7)) ∧ Z' 60 0 = Z 60 0 ∧ Z' 60 1 = Z 60 1 ∧ Z' 60 2 = Z 60 2 ∧ Z 56 6 ≤ Z' 56 6 ∧ Z 60 61 ≤ Z' 60 61 ∧ Z' 60 61 - Z 60 61 ≤ Z' 56 6 - Z 56 6))) hx hG p0 k0 k1 k2 k3 k4 hr IH hd (fun Z' h' q1 q2 q3 q4 => ⟨Z', h', rfl, q1, q2, q3, q4⟩))
  subst e; exact ⟨Z', h', hca, q⟩
set_option maxHeartbeats 8000000 in
set_option maxRecDepth 100000 in
theorem cw_173_56_s {l : Launch} {D : va_G} {b0 : Nat} {ad : Nat → Nat} {Hb : Heap} {tau : Nat → Int64} {d n s : Nat} {S : Nat → xS} {Z : xZ} {h : mx_H} {Post : mx_R → Prop} {a0 : Int} {g0 : Int} {T : Int → Int} {N : Int} {sg : SS} (hx : XH n s S Z h) (hG : GI n S Z)  {x0 : Int} (p0 : 0 ≤ x0 ∧ x0 ≤ 6) (k0 : (Z 56 6 ≤ Z 56 7 ∧ Z 56 7 ≤ Z 56 8 ∧ (Z 56 9 = 24 ∨ Z 56 6 < Z 56 7))) (k1 : Z 60 61 ≤ Z 56 6) (k2 : a0 ≤ Z 60 61) (k3 : 0 ≤ a0) (k4 : 0 ≤ g0) (hr : RM g0 T N Z sg) {kk : Nat} (IH : RBnh l D b0 ad Hb tau kk x0) (hd : kk ≤ d) (hP : ∀ (Z' : xZ) (h' : mx_H), XH n s S Z' h' → GI n S Z' → fr' [(56, 6), (56, 7), (56, 9), (56, 10), (56, 11), (56, 12), (60, (-1))] Z Z' → RM g0 T N Z' (tmX T N (lvI T N x0) sg) ∧ QR Z Z' a0 1 0 ∧ ((Z' 56 6 ≤ Z' 56 7 ∧ Z' 56 7 ≤ Z 56 8 ∧ (Z' 56 9 = 24 ∨ Z' 56 6 < Z' 56 7)) ∧ Z' 60 0 = Z 60 0 ∧ Z' 60 1 = Z 60 1 ∧ Z' 60 2 = Z 60 2 ∧ Z 56 6 ≤ Z' 56 6 ∧ Z 60 61 ≤ Z' 60 61 ∧ Z' 60 61 - Z 60 61 ≤ Z' 56 6 - Z 56 6) → Post (none, h')) : mx_J (tB l D b0 ad Hb tau) mt_173 (d + 9) 0 [some (.ref 56), some (xI x0)] [] h Post := by
    have a56 : 56 < n := lt83 (GI_n hG) rfl
    have s56 : S 56 = .inl (12, [0, 2, 2, 2, 2, 0, 0, 0, 0, 0, 0, 0, 0, 0, 0, 2, 2, 2, 0, 2, 2, 2, 0, 0, 2, 2, 2, 2, 2, 2, 0, 0, 2, 2, 2, 2, 2, 2, 2, 2, 2, 2]) := GI_s hG 56 rfl
    refine mx_J.step (sn_173 0) (fun _ _ => rfl) ?_
    refine mx_J.step (sn_173 1) (fun _ _ => rfl) ?_
    have b2 : 0 ≤ Z 56 6 ∧ Z 56 6 ≤ 900 := hG.pr 56 6
    have b3 : 0 ≤ Z 56 7 ∧ Z 56 7 ≤ 900 := hG.pr 56 7
    have b4 : 0 ≤ Z 56 8 ∧ Z 56 8 ≤ 900 := hG.pr 56 8
    have b5 : 0 ≤ Z 56 9 ∧ Z 56 9 ≤ 100 := hG.pr 56 9
    have b6 : 0 ≤ Z 56 11 ∧ Z 56 11 ≤ 4 := hG.pr 56 11
    have b7 : 0 ≤ Z 60 61 ∧ Z 60 61 ≤ 900 := by have hq := GI_ex hG 60 61; replace hq : f60 (61 % 962) (Z 60 61) := hq; unfold f60 at hq; omega
    have b8 : (-2147483648) ≤ Z 60 61 ∧ Z 60 61 ≤ 2147483647 := hG.pr 60 61
    have b9 : (-2147483648) ≤ Z 60 0 ∧ Z 60 0 ≤ 2147483647 := hG.pr 60 0
    have b10 : 0 ≤ Z 60 1 ∧ Z 60 1 ≤ 18 := by have hq := GI_ex hG 60 1; replace hq : f60 (1 % 962) (Z 60 1) := hq; unfold f60 at hq; omega
    have b11 : (-2147483648) ≤ Z 60 1 ∧ Z 60 1 ≤ 2147483647 := hG.pr 60 1
    have b12 : 0 ≤ Z 60 2 ∧ Z 60 2 ≤ 18 := by have hq := GI_ex hG 60 2; replace hq : f60 (2 % 962) (Z 60 2) := hq; unfold f60 at hq; omega
    have b13 : (-2147483648) ≤ Z 60 2 ∧ Z 60 2 ≤ 2147483647 := hG.pr 60 2
    obtain ⟨Z1, h1, hc1, hx1, hG1, hf1, b1⟩ := ct_171_56_s (a0 := a0) (g0 := g0) (T := T) (N := N) (sg := sg) (d := d + 0) (l := l) (D := D) (b0 := b0) (ad := ad) (Hb := Hb) (tau := tau) hx hG (show 0 ≤ x0 ∧ x0 ≤ 6 by omega) (show (Z 56 6 ≤ Z 56 7 ∧ Z 56 7 ≤ Z 56 8 ∧ (Z 56 9 = 24 ∨ Z 56 6 < Z 56 7)) by omega) (show Z 60 61 ≤ Z 56 6 by omega) (show a0 ≤ Z 60 61 by omega) (show 0 ≤ a0 by omega) (show 0 ≤ g0 by omega) hr IH (by omega)
    obtain ⟨br1, b1⟩ := b1
    obtain ⟨bq1, b1⟩ := b1
    have b14 : 0 ≤ Z1 56 6 ∧ Z1 56 6 ≤ 900 := hG1.pr 56 6
    have b15 : 0 ≤ Z1 56 7 ∧ Z1 56 7 ≤ 900 := hG1.pr 56 7
    have b16 : 0 ≤ Z1 56 9 ∧ Z1 56 9 ≤ 100 := hG1.pr 56 9
    have b17 : 0 ≤ Z1 56 11 ∧ Z1 56 11 ≤ 4 := hG1.pr 56 11
    have b18 : 0 ≤ Z1 60 61 ∧ Z1 60 61 ≤ 900 := by have hq := GI_ex hG1 60 61; replace hq : f60 (61 % 962) (Z1 60 61) := hq; unfold f60 at hq; omega
    have b19 : (-2147483648) ≤ Z1 60 61 ∧ Z1 60 61 ≤ 2147483647 := hG1.pr 60 61
    have b20 : (-2147483648) ≤ Z1 60 0 ∧ Z1 60 0 ≤ 2147483647 := hG1.pr 60 0
    have b21 : 0 ≤ Z1 60 1 ∧ Z1 60 1 ≤ 18 := by have hq := GI_ex hG1 60 1; replace hq : f60 (1 % 962) (Z1 60 1) := hq; unfold f60 at hq; omega
    have b22 : (-2147483648) ≤ Z1 60 1 ∧ Z1 60 1 ≤ 2147483647 := hG1.pr 60 1
    have b23 : 0 ≤ Z1 60 2 ∧ Z1 60 2 ≤ 18 := by have hq := GI_ex hG1 60 2; replace hq : f60 (2 % 962) (Z1 60 2) := hq; unfold f60 at hq; omega
    have b24 : (-2147483648) ≤ Z1 60 2 ∧ Z1 60 2 ≤ 2147483647 := hG1.pr 60 2
    have r1 := QR_tr (d := 1) (c := 0) (QR_rf (Z := Z) (a := a0)) bq1 (by decide) (by decide) (by decide)
    refine Jcv0 hx (show mx_Sn _ _ 2 (mx_callv 171 2 12 5) from sn_173 2) a56 s56 hc1 rfl rfl rfl ?_
    have c5 : ∀ (m25 : Nat) (sg25 : SS) (Z26 : xZ) (h26 : mx_H), (((Z 56 8 - Z26 56 6).toNat : Nat) : Int) < (m25 : Int) → RM g0 T N Z26 sg25 → (Z26 56 6 ≤ Z26 56 7 ∧ Z26 56 7 ≤ Z 56 8) → (Z26 56 9 = 24 ∨ Z26 56 6 < Z26 56 7) → (Z 56 6 ≤ Z26 56 6 ∧ Z 60 61 ≤ Z26 60 61 ∧ Z26 60 61 - Z 60 61 ≤ Z26 56 6 - Z 56 6) → (Z26 60 0 = Z 60 0 ∧ Z26 60 1 = Z 60 1 ∧ Z26 60 2 = Z 60 2) → QR Z Z26 a0 1 0 → tmL T N (lvI T N x0) sg25 = tmX T N (lvI T N x0) sg → XH n s S Z26 h26 → GI n S Z26 → fr' [(56, 6), (56, 7), (56, 9), (56, 10), (56, 11), (56, 12), (60, (-1))] Z1 Z26 → mx_J (tB l D b0 ad Hb tau) mt_173 (d + 9) 5 [some (.ref 56), some (xI x0)] [] h26 Post := by
      intro m25
      induction m25 with
      | zero => intro sg25 Z26 h26 q25 f25_0 f25_1 f25_2 f25_3 f25_4 f25_5 f25_6 hx26 hG26 hf26; exact absurd q25 (by omega)
      | succ m25 ih25 =>
        intro sg25 Z26 h26 q25 f25_0 f25_1 f25_2 f25_3 f25_4 f25_5 f25_6 hx26 hG26 hf26
        have b27 : 0 ≤ Z26 56 6 ∧ Z26 56 6 ≤ 900 := hG26.pr 56 6
        have b28 : 0 ≤ Z26 56 7 ∧ Z26 56 7 ≤ 900 := hG26.pr 56 7
        have b29 : 0 ≤ Z26 56 9 ∧ Z26 56 9 ≤ 100 := hG26.pr 56 9
        have b30 : 0 ≤ Z26 60 61 ∧ Z26 60 61 ≤ 900 := by have hq := GI_ex hG26 60 61; replace hq : f60 (61 % 962) (Z26 60 61) := hq; unfold f60 at hq; omega
        have b31 : (-2147483648) ≤ Z26 60 61 ∧ Z26 60 61 ≤ 2147483647 := hG26.pr 60 61
        have b32 : (-2147483648) ≤ Z26 60 0 ∧ Z26 60 0 ≤ 2147483647 := hG26.pr 60 0
        have b33 : 0 ≤ Z26 60 1 ∧ Z26 60 1 ≤ 18 := by have hq := GI_ex hG26 60 1; replace hq : f60 (1 % 962) (Z26 60 1) := hq; unfold f60 at hq; omega
        have b34 : (-2147483648) ≤ Z26 60 1 ∧ Z26 60 1 ≤ 2147483647 := hG26.pr 60 1
        have b35 : 0 ≤ Z26 60 2 ∧ Z26 60 2 ≤ 18 := by have hq := GI_ex hG26 60 2; replace hq : f60 (2 % 962) (Z26 60 2) := hq; unfold f60 at hq; omega
        have b36 : (-2147483648) ≤ Z26 60 2 ∧ Z26 60 2 ≤ 2147483647 := hG26.pr 60 2
        refine mx_J.step (sn_173 5) (fun _ _ => rfl) ?_
        refine JcI (z := 34) (show mx_Sn _ _ 6 (mx_const (.int 34) 8) from sn_173 6) rfl ?_
        have gt := RM_is (k := 34) f25_0
        have gn := RM_N f25_0
        have eq38 : Z26 56 8 = Z 56 8 := ((hf26 56 8 rfl).trans (hf1 56 8 rfl))
        have b39 : 0 ≤ Z26 56 11 ∧ Z26 56 11 ≤ 4 := hG26.pr 56 11
        obtain ⟨z37, Z37, h37, hc37, hx37, hG37, hf37, b37⟩ := ct_165_56 (g0 := g0) (T := T) (N := N) (sg := sg25) (d := d + 2) (l := l) (D := D) (b0 := b0) (ad := ad) (Hb := Hb) (tau := tau) hx26 hG26 (show 0 ≤ 34 ∧ 34 ≤ 100 by omega) (show (Z26 56 6 ≤ Z26 56 7 ∧ Z26 56 7 ≤ Z26 56 8 ∧ (Z26 56 9 = 24 ∨ Z26 56 6 < Z26 56 7)) by first | omega | (simp only [eq38]; omega)) (show ¬ 34 = 24 by first | omega | (simp only [eq38]; omega)) f25_0
        try rw [eq38] at b37
        obtain ⟨br37, b37⟩ := b37
        have b40 : 0 ≤ Z37 56 6 ∧ Z37 56 6 ≤ 900 := hG37.pr 56 6
        have b41 : 0 ≤ Z37 56 7 ∧ Z37 56 7 ≤ 900 := hG37.pr 56 7
        have b42 : 0 ≤ Z37 56 9 ∧ Z37 56 9 ≤ 100 := hG37.pr 56 9
        have r37 := QR_g (k := 0) (c2 := 0) f25_5 (fun e => (hf37 56 11 rfl).symm.trans e) (fun i => hf37 60 i rfl) (fun e => by omega) (by decide)
        have rk37 : z37 = 1 → QR Z Z37 a0 1 1 := fun ez => QR_g (k := 1) f25_5 (fun e => (hf37 56 11 rfl).symm.trans e) (fun i => hf37 60 i rfl) (fun e => by omega) (by decide)
        refine Jcv hx26 (show mx_Sn _ _ 8 (mx_callv 165 2 12 11) from sn_173 8) a56 s56 hc37 rfl rfl rfl ?_
        refine Jif_eq (show mx_Sn _ _ 11 (mx_if_eq 29 14) from sn_173 11) (by omega) (fun q43 => ?_) (fun q43 => ?_)
        · skip
          have eq44 : Z37 56 11 = Z26 56 11 := (hf37 56 11 rfl)
          have eq45 : Z37 60 61 = Z26 60 61 := (hf37 60 61 rfl)
          have eq46 : Z37 60 0 = Z26 60 0 := (hf37 60 0 rfl)
          have eq47 : Z37 60 1 = Z26 60 1 := (hf37 60 1 rfl)
          have eq48 : Z37 60 2 = Z26 60 2 := (hf37 60 2 rfl)
          have eq49 : Z37 56 8 = Z 56 8 := ((hf37 56 8 rfl).trans ((hf26 56 8 rfl).trans (hf1 56 8 rfl)))
          have eq50 : Z37 56 11 = Z26 56 11 := (hf37 56 11 rfl)
          have eq51 : Z37 60 61 = Z26 60 61 := (hf37 60 61 rfl)
          have eq52 : Z37 60 0 = Z26 60 0 := (hf37 60 0 rfl)
          have eq53 : Z37 60 1 = Z26 60 1 := (hf37 60 1 rfl)
          have eq54 : Z37 60 2 = Z26 60 2 := (hf37 60 2 rfl)
          exact mx_J.ret (sn_173 29) (fun _ _ => rfl) (hP Z37 h37 hx37 hG37 (fr_tr (M := [(56, 6), (56, 7), (56, 9), (56, 10), (56, 11), (56, 12), (60, (-1))]) (fr_tr (M := [(56, 6), (56, 7), (56, 9), (56, 10), (56, 11), (56, 12), (60, (-1))]) (fr_tr (M := [(56, 6), (56, 7), (56, 9), (56, 10), (56, 11), (56, 12), (60, (-1))]) fr_rf (hf1) (M1 := []) rfl rfl) (hf26) rfl rfl) (hf37) rfl rfl) ⟨(RM_e br37 (((by assumption : tmL T N (lvI T N x0) sg25 = tmX T N (lvI T N x0) sg).symm.trans (tmL_n (fun q => by have := gt.mpr q; omega))).trans (gEt_n (fun q => by have := gt.mpr q; omega)).symm)), (QR_le r37 (by decide)), by omega⟩)
        · skip
          have rc55 : RM g0 T N Z37 (gAd T N sg25) := RM_e br37 ((gEt_y (gt.mp (by omega))).symm)
          refine mx_J.step (sn_173 14) (fun _ _ => rfl) ?_
          refine mx_J.step (sn_173 15) (fun _ _ => rfl) ?_
          have eq57 : Z37 56 8 = Z 56 8 := ((hf37 56 8 rfl).trans ((hf26 56 8 rfl).trans (hf1 56 8 rfl)))
          have eq58 : Z37 56 11 = Z26 56 11 := (hf37 56 11 rfl)
          have eq59 : Z37 60 61 = Z26 60 61 := (hf37 60 61 rfl)
          have eq60 : Z37 60 0 = Z26 60 0 := (hf37 60 0 rfl)
          have eq61 : Z37 60 1 = Z26 60 1 := (hf37 60 1 rfl)
          have eq62 : Z37 60 2 = Z26 60 2 := (hf37 60 2 rfl)
          obtain ⟨Z56, h56, hc56, hx56, hG56, hf56, b56⟩ := ct_171_56_s (a0 := a0) (g0 := g0) (T := T) (N := N) (sg := gAd T N sg25) (d := d + 0) (l := l) (D := D) (b0 := b0) (ad := ad) (Hb := Hb) (tau := tau) hx37 hG37 (show 0 ≤ x0 ∧ x0 ≤ 6 by omega) (show (Z37 56 6 ≤ Z37 56 7 ∧ Z37 56 7 ≤ Z37 56 8 ∧ (Z37 56 9 = 24 ∨ Z37 56 6 < Z37 56 7)) by first | omega | (simp only [eq57, eq58, eq59, eq60, eq61, eq62]; omega)) (show Z37 60 61 ≤ Z37 56 6 by first | omega | (simp only [eq57, eq58, eq59, eq60, eq61, eq62]; omega)) (show a0 ≤ Z37 60 61 by first | omega | (simp only [eq57, eq58, eq59, eq60, eq61, eq62]; omega)) (show 0 ≤ a0 by first | omega | (simp only [eq57, eq58, eq59, eq60, eq61, eq62]; omega)) (show 0 ≤ g0 by first | omega | (simp only [eq57, eq58, eq59, eq60, eq61, eq62]; omega)) rc55 IH (by omega)
          try rw [eq57] at b56
          try rw [eq58] at b56
          try rw [eq59] at b56
          try rw [eq60] at b56
          try rw [eq61] at b56
          try rw [eq62] at b56
          obtain ⟨br56, b56⟩ := b56
          obtain ⟨bq56, b56⟩ := b56
          have b63 : 0 ≤ Z56 56 6 ∧ Z56 56 6 ≤ 900 := hG56.pr 56 6
          have b64 : 0 ≤ Z56 56 7 ∧ Z56 56 7 ≤ 900 := hG56.pr 56 7
          have b65 : 0 ≤ Z56 56 9 ∧ Z56 56 9 ≤ 100 := hG56.pr 56 9
          have b66 : 0 ≤ Z56 56 11 ∧ Z56 56 11 ≤ 4 := hG56.pr 56 11
          have b67 : 0 ≤ Z56 60 61 ∧ Z56 60 61 ≤ 900 := by have hq := GI_ex hG56 60 61; replace hq : f60 (61 % 962) (Z56 60 61) := hq; unfold f60 at hq; omega
          have b68 : (-2147483648) ≤ Z56 60 61 ∧ Z56 60 61 ≤ 2147483647 := hG56.pr 60 61
          have b69 : (-2147483648) ≤ Z56 60 0 ∧ Z56 60 0 ≤ 2147483647 := hG56.pr 60 0
          have b70 : 0 ≤ Z56 60 1 ∧ Z56 60 1 ≤ 18 := by have hq := GI_ex hG56 60 1; replace hq : f60 (1 % 962) (Z56 60 1) := hq; unfold f60 at hq; omega
          have b71 : (-2147483648) ≤ Z56 60 1 ∧ Z56 60 1 ≤ 2147483647 := hG56.pr 60 1
          have b72 : 0 ≤ Z56 60 2 ∧ Z56 60 2 ≤ 18 := by have hq := GI_ex hG56 60 2; replace hq : f60 (2 % 962) (Z56 60 2) := hq; unfold f60 at hq; omega
          have b73 : (-2147483648) ≤ Z56 60 2 ∧ Z56 60 2 ≤ 2147483647 := hG56.pr 60 2
          have r56 := QR_tr (d := 2) (c := 1) (rk37 (by omega)) bq56 (by decide) (by decide) (by decide)
          refine Jcv0 hx37 (show mx_Sn _ _ 16 (mx_callv 171 2 12 19) from sn_173 16) a56 s56 hc56 rfl rfl rfl ?_
          refine mx_J.step (sn_173 19) (fun _ _ => rfl) ?_
          refine JcI (z := 3002) (show mx_Sn _ _ 20 (mx_const (.int 3002) 23) from sn_173 20) rfl ?_
          have eq75 : Z56 56 8 = Z 56 8 := ((hf56 56 8 rfl).trans ((hf37 56 8 rfl).trans ((hf26 56 8 rfl).trans (hf1 56 8 rfl))))
          have rp74 := QR_n r56
          obtain ⟨Z74, h74, hc74, hx74, hG74, hf74, b74⟩ := ct_169_56_3002 (a0 := a0) (g0 := g0) (T := T) (N := N) (sg := atX T N (lvI T N x0) (gAd T N sg25)) (d := d + 8) (l := l) (D := D) (b0 := b0) (ad := ad) (Hb := Hb) (tau := tau) hx56 hG56  (show (Z56 56 11 = 0 → Z56 60 61 ≤ 899) by first | omega | (simp only [eq75]; omega)) (show a0 ≤ Z56 60 61 by first | omega | (simp only [eq75]; omega)) (show 0 ≤ a0 by first | omega | (simp only [eq75]; omega)) (show 0 ≤ g0 by first | omega | (simp only [eq75]; omega)) br56
          try rw [eq75] at b74
          obtain ⟨br74, b74⟩ := b74
          obtain ⟨bq74, b74⟩ := b74
          have b76 : 0 ≤ Z74 60 61 ∧ Z74 60 61 ≤ 900 := by have hq := GI_ex hG74 60 61; replace hq : f60 (61 % 962) (Z74 60 61) := hq; unfold f60 at hq; omega
          have b77 : (-2147483648) ≤ Z74 60 61 ∧ Z74 60 61 ≤ 2147483647 := hG74.pr 60 61
          have b78 : (-2147483648) ≤ Z74 60 0 ∧ Z74 60 0 ≤ 2147483647 := hG74.pr 60 0
          have b79 : 0 ≤ Z74 60 1 ∧ Z74 60 1 ≤ 18 := by have hq := GI_ex hG74 60 1; replace hq : f60 (1 % 962) (Z74 60 1) := hq; unfold f60 at hq; omega
          have b80 : (-2147483648) ≤ Z74 60 1 ∧ Z74 60 1 ≤ 2147483647 := hG74.pr 60 1
          have b81 : 0 ≤ Z74 60 2 ∧ Z74 60 2 ≤ 18 := by have hq := GI_ex hG74 60 2; replace hq : f60 (2 % 962) (Z74 60 2) := hq; unfold f60 at hq; omega
          have b82 : (-2147483648) ≤ Z74 60 2 ∧ Z74 60 2 ≤ 2147483647 := hG74.pr 60 2
          have rn74 := QR_n r56
          have r74 := QR_c (d2 := 1) (c2 := 0) r56 bq74 (by omega) (hf74 56 11 rfl) (hf74 56 6 rfl) (by decide) (by decide) (by decide)
          refine Jcv0 hx56 (show mx_Sn _ _ 23 (mx_callv 169 2 12 26) from sn_173 23) a56 s56 hc74 rfl rfl rfl ?_
          refine mx_J.step (sn_173 26) (fun _ _ => rfl) ?_
          have eq83 : Z74 56 6 = Z56 56 6 := (hf74 56 6 rfl)
          have eq84 : Z74 56 7 = Z56 56 7 := (hf74 56 7 rfl)
          have eq85 : Z74 56 6 = Z56 56 6 := (hf74 56 6 rfl)
          have eq86 : Z74 56 7 = Z56 56 7 := (hf74 56 7 rfl)
          have eq87 : Z74 56 9 = Z56 56 9 := (hf74 56 9 rfl)
          have eq88 : Z74 56 6 = Z56 56 6 := (hf74 56 6 rfl)
          have eq89 : Z74 56 6 = Z56 56 6 := (hf74 56 6 rfl)
          exact ih25 (gEm (1012) (atX T N (lvI T N x0) (gAd T N sg25))) Z74 h74 (by omega) br74 (by omega) (by omega) (by omega) (by omega) (QR_le r74 (by decide)) ((tmL_s (lvI_go _) gn (gt.mp (by omega))).symm.trans (by assumption)) hx74 hG74 (fr_tr (M := [(56, 6), (56, 7), (56, 9), (56, 10), (56, 11), (56, 12), (60, (-1))]) (fr_tr (M := [(56, 6), (56, 7), (56, 9), (56, 10), (56, 11), (56, 12), (60, (-1))]) (fr_tr (M := [(56, 6), (56, 7), (56, 9), (56, 10), (56, 11), (56, 12), (60, (-1))]) (fr_tr (M := [(56, 6), (56, 7), (56, 9), (56, 10), (56, 11), (56, 12), (60, (-1))]) fr_rf (hf26) (M1 := []) rfl rfl) (hf37) rfl rfl) (hf56) rfl rfl) (hf74) rfl rfl)
    exact c5 (Int.toNat ((((Z 56 8 - Z1 56 6).toNat : Nat) : Int)) + 1) (atX T N (lvI T N x0) sg) Z1 h1 (by omega) br1 (by omega) (by omega) (by omega) (by omega) (QR_le r1 (by decide)) (rfl) hx1 hG1 fr_rf
theorem ct_173_56_s {l : Launch} {D : va_G} {b0 : Nat} {ad : Nat → Nat} {Hb : Heap} {tau : Nat → Int64} {d n s : Nat} {S : Nat → xS} {Z : xZ} {h : mx_H} {a0 : Int} {g0 : Int} {T : Int → Int} {N : Int} {sg : SS} (hx : XH n s S Z h) (hG : GI n S Z)  {x0 : Int} (p0 : 0 ≤ x0 ∧ x0 ≤ 6) (k0 : (Z 56 6 ≤ Z 56 7 ∧ Z 56 7 ≤ Z 56 8 ∧ (Z 56 9 = 24 ∨ Z 56 6 < Z 56 7))) (k1 : Z 60 61 ≤ Z 56 6) (k2 : a0 ≤ Z 60 61) (k3 : 0 ≤ a0) (k4 : 0 ≤ g0) (hr : RM g0 T N Z sg) {kk : Nat} (IH : RBnh l D b0 ad Hb tau kk x0) (hd : kk ≤ d) : ∃ (Z' : xZ) (h' : mx_H), mx_Ca (tB l D b0 ad Hb tau) (d + 10) 173 [.ref 56, xI x0] h (none, h') ∧ XH n s S Z' h' ∧ GI n S Z' ∧ fr' [(56, 6), (56, 7), (56, 9), (56, 10), (56, 11), (56, 12), (60, (-1))] Z Z' ∧ (RM g0 T N Z' (tmX T N (lvI T N x0) sg) ∧ QR Z Z' a0 1 0 ∧ ((Z' 56 6 ≤ Z' 56 7 ∧ Z' 56 7 ≤ Z 56 8 ∧ (Z' 56 9 = 24 ∨ Z' 56 6 < Z' 56 7)) ∧ Z' 60 0 = Z 60 0 ∧ Z' 60 1 = Z 60 1 ∧ Z' 60 2 = Z 60 2 ∧ Z 56 6 ≤ Z' 56 6 ∧ Z 60 61 ≤ Z' 60 61 ∧ Z' 60 61 - Z 60 61 ≤ Z' 56 6 - Z 56 6)) := by
  obtain ⟨r, hca, Z', h', e, q⟩ := Jmt (B := tB l D b0 ad Hb tau) (M := mt_173) (mi := 173) (as := [.ref 56, xI x0]) (d := d + 9) (ls := [some (.ref 56), some (xI x0)]) rfl rfl rfl rfl rfl rfl (cw_173_56_s (l := l) (D := D) (b0 := b0) (ad := ad) (Hb := Hb) (tau := tau) (d := d) (Post := fun r => ∃ (Z' : xZ) (h' : mx_H), r = (none, h') ∧ XH n s S Z' h' ∧ GI n S Z' ∧ fr' [(56, 6), (56, 7), (56, 9), (56, 10), (56, 11), (56, 12), (60, (-1))] Z Z' ∧ (RM g0 T N Z' (tmX T N (lvI T N x0) sg) ∧ QR Z Z' a0 1 0 ∧ ((Z' 56 6 ≤ Z' 56 7 ∧ Z' 56 7 ≤ Z 56 8 ∧ (Z' 56 9 = 24 ∨ Z' 56 6 < Z' 56 7)) ∧ Z' 60 0 = Z 60 0 ∧ Z' 60 1 = Z 60 1 ∧ Z' 60 2 = Z 60 2 ∧ Z 56 6 ≤ Z' 56 6 ∧ Z 60 61 ≤ Z' 60 61 ∧ Z' 60 61 - Z 60 61 ≤ Z' 56 6 - Z 56 6))) hx hG p0 k0 k1 k2 k3 k4 hr IH hd (fun Z' h' q1 q2 q3 q4 => ⟨Z', h', rfl, q1, q2, q3, q4⟩))
  subst e; exact ⟨Z', h', hca, q⟩
set_option maxHeartbeats 8000000 in
set_option maxRecDepth 100000 in
theorem cw_174_56_s {l : Launch} {D : va_G} {b0 : Nat} {ad : Nat → Nat} {Hb : Heap} {tau : Nat → Int64} {d n s : Nat} {S : Nat → xS} {Z : xZ} {h : mx_H} {Post : mx_R → Prop} {a0 : Int} {g0 : Int} {T : Int → Int} {N : Int} {sg : SS} (hx : XH n s S Z h) (hG : GI n S Z)  {x0 : Int} (p0 : 0 ≤ x0 ∧ x0 ≤ 6) (k0 : (Z 56 6 ≤ Z 56 7 ∧ Z 56 7 ≤ Z 56 8 ∧ (Z 56 9 = 24 ∨ Z 56 6 < Z 56 7))) (k1 : Z 60 61 ≤ Z 56 6) (k2 : a0 ≤ Z 60 61) (k3 : 0 ≤ a0) (k4 : 0 ≤ g0) (hr : RM g0 T N Z sg) {kk : Nat} (IH : RBnh l D b0 ad Hb tau kk x0) (hd : kk ≤ d) (hP : ∀ (Z' : xZ) (h' : mx_H), XH n s S Z' h' → GI n S Z' → fr' [(56, 6), (56, 7), (56, 9), (56, 10), (56, 11), (56, 12), (60, (-1))] Z Z' → RM g0 T N Z' (smX T N (lvI T N x0) sg) ∧ QR Z Z' a0 1 0 ∧ ((Z' 56 6 ≤ Z' 56 7 ∧ Z' 56 7 ≤ Z 56 8 ∧ (Z' 56 9 = 24 ∨ Z' 56 6 < Z' 56 7)) ∧ Z' 60 0 = Z 60 0 ∧ Z' 60 1 = Z 60 1 ∧ Z' 60 2 = Z 60 2 ∧ Z 56 6 ≤ Z' 56 6 ∧ Z 60 61 ≤ Z' 60 61 ∧ Z' 60 61 - Z 60 61 ≤ Z' 56 6 - Z 56 6) → Post (none, h')) : mx_J (tB l D b0 ad Hb tau) mt_174 (d + 10) 0 [some (.ref 56), some (xI x0), none] [] h Post := by
    have a56 : 56 < n := lt83 (GI_n hG) rfl
    have s56 : S 56 = .inl (12, [0, 2, 2, 2, 2, 0, 0, 0, 0, 0, 0, 0, 0, 0, 0, 2, 2, 2, 0, 2, 2, 2, 0, 0, 2, 2, 2, 2, 2, 2, 0, 0, 2, 2, 2, 2, 2, 2, 2, 2, 2, 2]) := GI_s hG 56 rfl
    refine mx_J.step (sn_174 0) (fun _ _ => rfl) ?_
    refine mx_J.step (sn_174 1) (fun _ _ => rfl) ?_
    have b2 : 0 ≤ Z 56 6 ∧ Z 56 6 ≤ 900 := hG.pr 56 6
    have b3 : 0 ≤ Z 56 7 ∧ Z 56 7 ≤ 900 := hG.pr 56 7
    have b4 : 0 ≤ Z 56 8 ∧ Z 56 8 ≤ 900 := hG.pr 56 8
    have b5 : 0 ≤ Z 56 9 ∧ Z 56 9 ≤ 100 := hG.pr 56 9
    have b6 : 0 ≤ Z 56 11 ∧ Z 56 11 ≤ 4 := hG.pr 56 11
    have b7 : 0 ≤ Z 60 61 ∧ Z 60 61 ≤ 900 := by have hq := GI_ex hG 60 61; replace hq : f60 (61 % 962) (Z 60 61) := hq; unfold f60 at hq; omega
    have b8 : (-2147483648) ≤ Z 60 61 ∧ Z 60 61 ≤ 2147483647 := hG.pr 60 61
    have b9 : (-2147483648) ≤ Z 60 0 ∧ Z 60 0 ≤ 2147483647 := hG.pr 60 0
    have b10 : 0 ≤ Z 60 1 ∧ Z 60 1 ≤ 18 := by have hq := GI_ex hG 60 1; replace hq : f60 (1 % 962) (Z 60 1) := hq; unfold f60 at hq; omega
    have b11 : (-2147483648) ≤ Z 60 1 ∧ Z 60 1 ≤ 2147483647 := hG.pr 60 1
    have b12 : 0 ≤ Z 60 2 ∧ Z 60 2 ≤ 18 := by have hq := GI_ex hG 60 2; replace hq : f60 (2 % 962) (Z 60 2) := hq; unfold f60 at hq; omega
    have b13 : (-2147483648) ≤ Z 60 2 ∧ Z 60 2 ≤ 2147483647 := hG.pr 60 2
    obtain ⟨Z1, h1, hc1, hx1, hG1, hf1, b1⟩ := ct_173_56_s (a0 := a0) (g0 := g0) (T := T) (N := N) (sg := sg) (d := d + 0) (l := l) (D := D) (b0 := b0) (ad := ad) (Hb := Hb) (tau := tau) hx hG (show 0 ≤ x0 ∧ x0 ≤ 6 by omega) (show (Z 56 6 ≤ Z 56 7 ∧ Z 56 7 ≤ Z 56 8 ∧ (Z 56 9 = 24 ∨ Z 56 6 < Z 56 7)) by omega) (show Z 60 61 ≤ Z 56 6 by omega) (show a0 ≤ Z 60 61 by omega) (show 0 ≤ a0 by omega) (show 0 ≤ g0 by omega) hr IH (by omega)
    obtain ⟨br1, b1⟩ := b1
    obtain ⟨bq1, b1⟩ := b1
    have b14 : 0 ≤ Z1 56 6 ∧ Z1 56 6 ≤ 900 := hG1.pr 56 6
    have b15 : 0 ≤ Z1 56 7 ∧ Z1 56 7 ≤ 900 := hG1.pr 56 7
    have b16 : 0 ≤ Z1 56 9 ∧ Z1 56 9 ≤ 100 := hG1.pr 56 9
    have b17 : 0 ≤ Z1 56 11 ∧ Z1 56 11 ≤ 4 := hG1.pr 56 11
    have b18 : 0 ≤ Z1 60 61 ∧ Z1 60 61 ≤ 900 := by have hq := GI_ex hG1 60 61; replace hq : f60 (61 % 962) (Z1 60 61) := hq; unfold f60 at hq; omega
    have b19 : (-2147483648) ≤ Z1 60 61 ∧ Z1 60 61 ≤ 2147483647 := hG1.pr 60 61
    have b20 : (-2147483648) ≤ Z1 60 0 ∧ Z1 60 0 ≤ 2147483647 := hG1.pr 60 0
    have b21 : 0 ≤ Z1 60 1 ∧ Z1 60 1 ≤ 18 := by have hq := GI_ex hG1 60 1; replace hq : f60 (1 % 962) (Z1 60 1) := hq; unfold f60 at hq; omega
    have b22 : (-2147483648) ≤ Z1 60 1 ∧ Z1 60 1 ≤ 2147483647 := hG1.pr 60 1
    have b23 : 0 ≤ Z1 60 2 ∧ Z1 60 2 ≤ 18 := by have hq := GI_ex hG1 60 2; replace hq : f60 (2 % 962) (Z1 60 2) := hq; unfold f60 at hq; omega
    have b24 : (-2147483648) ≤ Z1 60 2 ∧ Z1 60 2 ≤ 2147483647 := hG1.pr 60 2
    have r1 := QR_tr (d := 1) (c := 0) (QR_rf (Z := Z) (a := a0)) bq1 (by decide) (by decide) (by decide)
    refine Jcv0 hx (show mx_Sn _ _ 2 (mx_callv 173 2 12 5) from sn_174 2) a56 s56 hc1 rfl rfl rfl ?_
    have c5 : ∀ (m25 : Nat) (u25_2 : Option Value) (sg25 : SS) (Z26 : xZ) (h26 : mx_H), (((Z 56 8 - Z26 56 6).toNat : Nat) : Int) < (m25 : Int) → RM g0 T N Z26 sg25 → (Z26 56 6 ≤ Z26 56 7 ∧ Z26 56 7 ≤ Z 56 8) → (Z26 56 9 = 24 ∨ Z26 56 6 < Z26 56 7) → (Z 56 6 ≤ Z26 56 6 ∧ Z 60 61 ≤ Z26 60 61 ∧ Z26 60 61 - Z 60 61 ≤ Z26 56 6 - Z 56 6) → (Z26 60 0 = Z 60 0 ∧ Z26 60 1 = Z 60 1 ∧ Z26 60 2 = Z 60 2) → QR Z Z26 a0 1 0 → smL T N (lvI T N x0) sg25 = smX T N (lvI T N x0) sg → XH n s S Z26 h26 → GI n S Z26 → fr' [(56, 6), (56, 7), (56, 9), (56, 10), (56, 11), (56, 12), (60, (-1))] Z1 Z26 → mx_J (tB l D b0 ad Hb tau) mt_174 (d + 10) 5 [some (.ref 56), some (xI x0), u25_2] [] h26 Post := by
      intro m25
      induction m25 with
      | zero => intro u25_2 sg25 Z26 h26 q25 f25_0 f25_1 f25_2 f25_3 f25_4 f25_5 f25_6 hx26 hG26 hf26; exact absurd q25 (by omega)
      | succ m25 ih25 =>
        intro u25_2 sg25 Z26 h26 q25 f25_0 f25_1 f25_2 f25_3 f25_4 f25_5 f25_6 hx26 hG26 hf26
        have b27 : 0 ≤ Z26 56 6 ∧ Z26 56 6 ≤ 900 := hG26.pr 56 6
        have b28 : 0 ≤ Z26 56 7 ∧ Z26 56 7 ≤ 900 := hG26.pr 56 7
        have b29 : 0 ≤ Z26 56 9 ∧ Z26 56 9 ≤ 100 := hG26.pr 56 9
        have b30 : 0 ≤ Z26 60 61 ∧ Z26 60 61 ≤ 900 := by have hq := GI_ex hG26 60 61; replace hq : f60 (61 % 962) (Z26 60 61) := hq; unfold f60 at hq; omega
        have b31 : (-2147483648) ≤ Z26 60 61 ∧ Z26 60 61 ≤ 2147483647 := hG26.pr 60 61
        have b32 : (-2147483648) ≤ Z26 60 0 ∧ Z26 60 0 ≤ 2147483647 := hG26.pr 60 0
        have b33 : 0 ≤ Z26 60 1 ∧ Z26 60 1 ≤ 18 := by have hq := GI_ex hG26 60 1; replace hq : f60 (1 % 962) (Z26 60 1) := hq; unfold f60 at hq; omega
        have b34 : (-2147483648) ≤ Z26 60 1 ∧ Z26 60 1 ≤ 2147483647 := hG26.pr 60 1
        have b35 : 0 ≤ Z26 60 2 ∧ Z26 60 2 ≤ 18 := by have hq := GI_ex hG26 60 2; replace hq : f60 (2 % 962) (Z26 60 2) := hq; unfold f60 at hq; omega
        have b36 : (-2147483648) ≤ Z26 60 2 ∧ Z26 60 2 ≤ 2147483647 := hG26.pr 60 2
        refine mx_J.step (sn_174 5) (fun _ _ => rfl) ?_
        refine JcI (z := 32) (show mx_Sn _ _ 6 (mx_const (.int 32) 8) from sn_174 6) rfl ?_
        have gn := RM_N f25_0
        have gt := RM_is (k := 32) f25_0
        have gt2 := RM_is (k := 33) f25_0
        have b38 : 0 ≤ Z26 56 11 ∧ Z26 56 11 ≤ 4 := hG26.pr 56 11
        obtain ⟨z37, hc37, b37⟩ := ct_164_56 (d := d + 9) (l := l) (D := D) (b0 := b0) (ad := ad) (Hb := Hb) (tau := tau) hx26 hG26 (show 0 ≤ 32 ∧ 32 ≤ 100 by omega)
        refine Jcv hx26 (show mx_Sn _ _ 8 (mx_callv 164 2 12 11) from sn_174 8) a56 s56 hc37 rfl rfl rfl ?_
        have c23 : (Z26 56 11 = 0 ∧ (Z26 56 9 = 32 ∨ Z26 56 9 = 33)) → mx_J (tB l D b0 ad Hb tau) mt_174 (d + 10) 23 [some (.ref 56), some (xI x0), u25_2] [] h26 Post := by
          intro f39_0
          have kk := RM_k f25_0 (by omega)
          refine mx_J.step (sn_174 23) (fun _ _ => rfl) ?_
          refine JgetI (g := 9) (z := Z26 56 9) hx26 (show mx_Sn _ _ 24 (mx_getf 12 9 27) from sn_174 24) a56 s56 rfl rfl rfl ?_
          refine JcI (z := 32) (show mx_Sn _ _ 27 (mx_const (.int 32) 29) from sn_174 27) rfl ?_
          have c41 : ∀ (k41_0 : Int), 3000 ≤ k41_0 ∧ k41_0 ≤ 3001 → k41_0 = 2968 + tKd T N (sg25).1 → mx_J (tB l D b0 ad Hb tau) mt_174 (d + 10) 41 [some (.ref 56), some (xI x0), u25_2] [xI k41_0] h26 Post := by
            intro k41_0 f41_0 f41_1
            refine mx_J.step (ls2 := [some (.ref 56), some (xI x0), some (xI k41_0)]) (sn_174 41) (fun _ _ => rfl) ?_
            refine mx_J.step (sn_174 42) (fun _ _ => rfl) ?_
            have eq43 : Z26 56 8 = Z 56 8 := ((hf26 56 8 rfl).trans (hf1 56 8 rfl))
            obtain ⟨Z42, h42, hc42, hx42, hG42, hf42, b42⟩ := ct_162_56r (g0 := g0) (T := T) (N := N) (sg := sg25) (d := d + 4) (l := l) (D := D) (b0 := b0) (ad := ad) (Hb := Hb) (tau := tau) hx26 hG26  (show Z26 56 7 ≤ Z26 56 8 by first | omega | (simp only [eq43]; omega)) (show Z26 56 11 = 0 by first | omega | (simp only [eq43]; omega)) f25_0
            try rw [eq43] at b42
            obtain ⟨br42, b42⟩ := b42
            have b44 : 0 ≤ Z42 56 6 ∧ Z42 56 6 ≤ 900 := hG42.pr 56 6
            have b45 : 0 ≤ Z42 56 7 ∧ Z42 56 7 ≤ 900 := hG42.pr 56 7
            have b46 : 0 ≤ Z42 56 9 ∧ Z42 56 9 ≤ 100 := hG42.pr 56 9
            have r42 := QR_g (k := 1) (c2 := 1) f25_5 (fun e => (hf42 56 11 rfl).symm.trans e) (fun i => hf42 60 i rfl) (fun e => by omega) (by decide)
            refine Jcv0 hx26 (show mx_Sn _ _ 43 (mx_callv 162 1 12 46) from sn_174 43) a56 s56 hc42 rfl rfl rfl ?_
            refine mx_J.step (sn_174 46) (fun _ _ => rfl) ?_
            refine mx_J.step (sn_174 47) (fun _ _ => rfl) ?_
            have eq48 : Z42 56 8 = Z 56 8 := ((hf42 56 8 rfl).trans ((hf26 56 8 rfl).trans (hf1 56 8 rfl)))
            have eq49 : Z42 56 11 = Z26 56 11 := (hf42 56 11 rfl)
            have eq50 : Z42 60 61 = Z26 60 61 := (hf42 60 61 rfl)
            have eq51 : Z42 60 0 = Z26 60 0 := (hf42 60 0 rfl)
            have eq52 : Z42 60 1 = Z26 60 1 := (hf42 60 1 rfl)
            have eq53 : Z42 60 2 = Z26 60 2 := (hf42 60 2 rfl)
            obtain ⟨Z47, h47, hc47, hx47, hG47, hf47, b47⟩ := ct_173_56_s (a0 := a0) (g0 := g0) (T := T) (N := N) (sg := gAd T N sg25) (d := d + 0) (l := l) (D := D) (b0 := b0) (ad := ad) (Hb := Hb) (tau := tau) hx42 hG42 (show 0 ≤ x0 ∧ x0 ≤ 6 by omega) (show (Z42 56 6 ≤ Z42 56 7 ∧ Z42 56 7 ≤ Z42 56 8 ∧ (Z42 56 9 = 24 ∨ Z42 56 6 < Z42 56 7)) by first | omega | (simp only [eq48, eq49, eq50, eq51, eq52, eq53]; omega)) (show Z42 60 61 ≤ Z42 56 6 by first | omega | (simp only [eq48, eq49, eq50, eq51, eq52, eq53]; omega)) (show a0 ≤ Z42 60 61 by first | omega | (simp only [eq48, eq49, eq50, eq51, eq52, eq53]; omega)) (show 0 ≤ a0 by first | omega | (simp only [eq48, eq49, eq50, eq51, eq52, eq53]; omega)) (show 0 ≤ g0 by first | omega | (simp only [eq48, eq49, eq50, eq51, eq52, eq53]; omega)) br42 IH (by omega)
            try rw [eq48] at b47
            try rw [eq49] at b47
            try rw [eq50] at b47
            try rw [eq51] at b47
            try rw [eq52] at b47
            try rw [eq53] at b47
            obtain ⟨br47, b47⟩ := b47
            obtain ⟨bq47, b47⟩ := b47
            have b54 : 0 ≤ Z47 56 6 ∧ Z47 56 6 ≤ 900 := hG47.pr 56 6
            have b55 : 0 ≤ Z47 56 7 ∧ Z47 56 7 ≤ 900 := hG47.pr 56 7
            have b56 : 0 ≤ Z47 56 9 ∧ Z47 56 9 ≤ 100 := hG47.pr 56 9
            have b57 : 0 ≤ Z47 56 11 ∧ Z47 56 11 ≤ 4 := hG47.pr 56 11
            have b58 : 0 ≤ Z47 60 61 ∧ Z47 60 61 ≤ 900 := by have hq := GI_ex hG47 60 61; replace hq : f60 (61 % 962) (Z47 60 61) := hq; unfold f60 at hq; omega
            have b59 : (-2147483648) ≤ Z47 60 61 ∧ Z47 60 61 ≤ 2147483647 := hG47.pr 60 61
            have b60 : (-2147483648) ≤ Z47 60 0 ∧ Z47 60 0 ≤ 2147483647 := hG47.pr 60 0
            have b61 : 0 ≤ Z47 60 1 ∧ Z47 60 1 ≤ 18 := by have hq := GI_ex hG47 60 1; replace hq : f60 (1 % 962) (Z47 60 1) := hq; unfold f60 at hq; omega
            have b62 : (-2147483648) ≤ Z47 60 1 ∧ Z47 60 1 ≤ 2147483647 := hG47.pr 60 1
            have b63 : 0 ≤ Z47 60 2 ∧ Z47 60 2 ≤ 18 := by have hq := GI_ex hG47 60 2; replace hq : f60 (2 % 962) (Z47 60 2) := hq; unfold f60 at hq; omega
            have b64 : (-2147483648) ≤ Z47 60 2 ∧ Z47 60 2 ≤ 2147483647 := hG47.pr 60 2
            have r47 := QR_tr (d := 2) (c := 1) r42 bq47 (by decide) (by decide) (by decide)
            refine Jcv0 hx42 (show mx_Sn _ _ 48 (mx_callv 173 2 12 51) from sn_174 48) a56 s56 hc47 rfl rfl rfl ?_
            refine mx_J.step (sn_174 51) (fun _ _ => rfl) ?_
            refine mx_J.step (sn_174 52) (fun _ _ => rfl) ?_
            have eq66 : Z47 56 8 = Z 56 8 := ((hf47 56 8 rfl).trans ((hf42 56 8 rfl).trans ((hf26 56 8 rfl).trans (hf1 56 8 rfl))))
            have rp65 := QR_n r47
            obtain ⟨Z65, h65, hc65, hx65, hG65, hf65, b65⟩ := ct_169_56_3000 (a0 := a0) (g0 := g0) (T := T) (N := N) (sg := tmX T N (lvI T N x0) (gAd T N sg25)) (d := d + 9) (l := l) (D := D) (b0 := b0) (ad := ad) (Hb := Hb) (tau := tau) hx47 hG47 (show 3000 ≤ k41_0 ∧ k41_0 ≤ 3005 by omega) (show (Z47 56 11 = 0 → Z47 60 61 ≤ 899) by first | omega | (simp only [eq66]; omega)) (show a0 ≤ Z47 60 61 by first | omega | (simp only [eq66]; omega)) (show 0 ≤ a0 by first | omega | (simp only [eq66]; omega)) (show 0 ≤ g0 by first | omega | (simp only [eq66]; omega)) br47
            try rw [eq66] at b65
            obtain ⟨br65, b65⟩ := b65
            obtain ⟨bq65, b65⟩ := b65
            have b67 : 0 ≤ Z65 60 61 ∧ Z65 60 61 ≤ 900 := by have hq := GI_ex hG65 60 61; replace hq : f60 (61 % 962) (Z65 60 61) := hq; unfold f60 at hq; omega
            have b68 : (-2147483648) ≤ Z65 60 61 ∧ Z65 60 61 ≤ 2147483647 := hG65.pr 60 61
            have b69 : (-2147483648) ≤ Z65 60 0 ∧ Z65 60 0 ≤ 2147483647 := hG65.pr 60 0
            have b70 : 0 ≤ Z65 60 1 ∧ Z65 60 1 ≤ 18 := by have hq := GI_ex hG65 60 1; replace hq : f60 (1 % 962) (Z65 60 1) := hq; unfold f60 at hq; omega
            have b71 : (-2147483648) ≤ Z65 60 1 ∧ Z65 60 1 ≤ 2147483647 := hG65.pr 60 1
            have b72 : 0 ≤ Z65 60 2 ∧ Z65 60 2 ≤ 18 := by have hq := GI_ex hG65 60 2; replace hq : f60 (2 % 962) (Z65 60 2) := hq; unfold f60 at hq; omega
            have b73 : (-2147483648) ≤ Z65 60 2 ∧ Z65 60 2 ≤ 2147483647 := hG65.pr 60 2
            have rn65 := QR_n r47
            have r65 := QR_c (d2 := 1) (c2 := 0) r47 bq65 (by omega) (hf65 56 11 rfl) (hf65 56 6 rfl) (by decide) (by decide) (by decide)
            refine Jcv0 hx47 (show mx_Sn _ _ 53 (mx_callv 169 2 12 56) from sn_174 53) a56 s56 hc65 rfl rfl rfl ?_
            refine mx_J.step (sn_174 56) (fun _ _ => rfl) ?_
            have eq74 : Z65 56 6 = Z47 56 6 := (hf65 56 6 rfl)
            have eq75 : Z65 56 7 = Z47 56 7 := (hf65 56 7 rfl)
            have eq76 : Z65 56 6 = Z47 56 6 := (hf65 56 6 rfl)
            have eq77 : Z65 56 7 = Z47 56 7 := (hf65 56 7 rfl)
            have eq78 : Z65 56 9 = Z47 56 9 := (hf65 56 9 rfl)
            have eq79 : Z65 56 6 = Z47 56 6 := (hf65 56 6 rfl)
            have eq80 : Z65 56 6 = Z47 56 6 := (hf65 56 6 rfl)
            exact ih25 (some (xI k41_0)) (gEm (k41_0 - 1990) (tmX T N (lvI T N x0) (gAd T N sg25))) Z65 h65 (by omega) br65 (by omega) (by omega) (by omega) (by omega) (QR_le r65 (by decide)) ((smL_s (lvI_go _) gn kk.1 (by omega) (by omega)).symm.trans (by assumption)) hx65 hG65 (fr_tr (M := [(56, 6), (56, 7), (56, 9), (56, 10), (56, 11), (56, 12), (60, (-1))]) (fr_tr (M := [(56, 6), (56, 7), (56, 9), (56, 10), (56, 11), (56, 12), (60, (-1))]) (fr_tr (M := [(56, 6), (56, 7), (56, 9), (56, 10), (56, 11), (56, 12), (60, (-1))]) (fr_tr (M := [(56, 6), (56, 7), (56, 9), (56, 10), (56, 11), (56, 12), (60, (-1))]) fr_rf (hf26) (M1 := []) rfl rfl) (hf42) rfl rfl) (hf47) rfl rfl) (hf65) rfl rfl)
          refine Jicmp_ne (show mx_Sn _ _ 29 (mx_icmp_ne 38 32) from sn_174 29) (by omega) (by omega) (fun q81 => ?_) (fun q81 => ?_)
          · skip
            refine JcI (z := 3001) (show mx_Sn _ _ 38 (mx_const (.int 3001) 41) from sn_174 38) rfl ?_
            exact c41 3001 (by omega) (by omega)
          · skip
            refine JcI (z := 3000) (show mx_Sn _ _ 32 (mx_const (.int 3000) 35) from sn_174 32) rfl ?_
            refine mx_J.step (sn_174 35) (fun _ _ => rfl) ?_
            exact c41 3000 (by omega) (by omega)
        refine Jif_ne (show mx_Sn _ _ 11 (mx_if_ne 23 14) from sn_174 11) (by omega) (fun q82 => ?_) (fun q82 => ?_)
        · skip
          exact c23 (by omega)
        · skip
          refine mx_J.step (sn_174 14) (fun _ _ => rfl) ?_
          refine JcI (z := 33) (show mx_Sn _ _ 15 (mx_const (.int 33) 17) from sn_174 15) rfl ?_
          obtain ⟨z83, hc83, b83⟩ := ct_164_56 (d := d + 9) (l := l) (D := D) (b0 := b0) (ad := ad) (Hb := Hb) (tau := tau) hx26 hG26 (show 0 ≤ 33 ∧ 33 ≤ 100 by omega)
          refine Jcv hx26 (show mx_Sn _ _ 17 (mx_callv 164 2 12 20) from sn_174 17) a56 s56 hc83 rfl rfl rfl ?_
          refine Jif_eq (show mx_Sn _ _ 20 (mx_if_eq 59 23) from sn_174 20) (by omega) (fun q84 => ?_) (fun q84 => ?_)
          · skip
            have eq85 : Z26 56 8 = Z 56 8 := ((hf26 56 8 rfl).trans (hf1 56 8 rfl))
            exact mx_J.ret (sn_174 59) (fun _ _ => rfl) (hP Z26 h26 hx26 hG26 (fr_tr (M := [(56, 6), (56, 7), (56, 9), (56, 10), (56, 11), (56, 12), (60, (-1))]) (fr_tr (M := [(56, 6), (56, 7), (56, 9), (56, 10), (56, 11), (56, 12), (60, (-1))]) fr_rf (hf1) (M1 := []) rfl rfl) (hf26) rfl rfl) ⟨(RM_e f25_0 ((by assumption : smL T N (lvI T N x0) sg25 = smX T N (lvI T N x0) sg).symm.trans (smL_n (fun q => by have := gt.mpr q; omega) (fun q => by have := gt2.mpr q; omega)))), (QR_le f25_5 (by decide)), by omega⟩)
          · skip
            exact c23 (by omega)
    exact c5 (Int.toNat ((((Z 56 8 - Z1 56 6).toNat : Nat) : Int)) + 1) none (tmX T N (lvI T N x0) sg) Z1 h1 (by omega) br1 (by omega) (by omega) (by omega) (by omega) (QR_le r1 (by decide)) (rfl) hx1 hG1 fr_rf
theorem ct_174_56_s {l : Launch} {D : va_G} {b0 : Nat} {ad : Nat → Nat} {Hb : Heap} {tau : Nat → Int64} {d n s : Nat} {S : Nat → xS} {Z : xZ} {h : mx_H} {a0 : Int} {g0 : Int} {T : Int → Int} {N : Int} {sg : SS} (hx : XH n s S Z h) (hG : GI n S Z)  {x0 : Int} (p0 : 0 ≤ x0 ∧ x0 ≤ 6) (k0 : (Z 56 6 ≤ Z 56 7 ∧ Z 56 7 ≤ Z 56 8 ∧ (Z 56 9 = 24 ∨ Z 56 6 < Z 56 7))) (k1 : Z 60 61 ≤ Z 56 6) (k2 : a0 ≤ Z 60 61) (k3 : 0 ≤ a0) (k4 : 0 ≤ g0) (hr : RM g0 T N Z sg) {kk : Nat} (IH : RBnh l D b0 ad Hb tau kk x0) (hd : kk ≤ d) : ∃ (Z' : xZ) (h' : mx_H), mx_Ca (tB l D b0 ad Hb tau) (d + 11) 174 [.ref 56, xI x0] h (none, h') ∧ XH n s S Z' h' ∧ GI n S Z' ∧ fr' [(56, 6), (56, 7), (56, 9), (56, 10), (56, 11), (56, 12), (60, (-1))] Z Z' ∧ (RM g0 T N Z' (smX T N (lvI T N x0) sg) ∧ QR Z Z' a0 1 0 ∧ ((Z' 56 6 ≤ Z' 56 7 ∧ Z' 56 7 ≤ Z 56 8 ∧ (Z' 56 9 = 24 ∨ Z' 56 6 < Z' 56 7)) ∧ Z' 60 0 = Z 60 0 ∧ Z' 60 1 = Z 60 1 ∧ Z' 60 2 = Z 60 2 ∧ Z 56 6 ≤ Z' 56 6 ∧ Z 60 61 ≤ Z' 60 61 ∧ Z' 60 61 - Z 60 61 ≤ Z' 56 6 - Z 56 6)) := by
  obtain ⟨r, hca, Z', h', e, q⟩ := Jmt (B := tB l D b0 ad Hb tau) (M := mt_174) (mi := 174) (as := [.ref 56, xI x0]) (d := d + 10) (ls := [some (.ref 56), some (xI x0), none]) rfl rfl rfl rfl rfl rfl (cw_174_56_s (l := l) (D := D) (b0 := b0) (ad := ad) (Hb := Hb) (tau := tau) (d := d) (Post := fun r => ∃ (Z' : xZ) (h' : mx_H), r = (none, h') ∧ XH n s S Z' h' ∧ GI n S Z' ∧ fr' [(56, 6), (56, 7), (56, 9), (56, 10), (56, 11), (56, 12), (60, (-1))] Z Z' ∧ (RM g0 T N Z' (smX T N (lvI T N x0) sg) ∧ QR Z Z' a0 1 0 ∧ ((Z' 56 6 ≤ Z' 56 7 ∧ Z' 56 7 ≤ Z 56 8 ∧ (Z' 56 9 = 24 ∨ Z' 56 6 < Z' 56 7)) ∧ Z' 60 0 = Z 60 0 ∧ Z' 60 1 = Z 60 1 ∧ Z' 60 2 = Z 60 2 ∧ Z 56 6 ≤ Z' 56 6 ∧ Z 60 61 ≤ Z' 60 61 ∧ Z' 60 61 - Z 60 61 ≤ Z' 56 6 - Z 56 6))) hx hG p0 k0 k1 k2 k3 k4 hr IH hd (fun Z' h' q1 q2 q3 q4 => ⟨Z', h', rfl, q1, q2, q3, q4⟩))
  subst e; exact ⟨Z', h', hca, q⟩
