set_option maxHeartbeats 8000000 in
set_option maxRecDepth 100000 in
theorem cw_175_56_s {l : Launch} {D : va_G} {b0 : Nat} {ad : Nat → Nat} {Hb : Heap} {tau : Nat → Int64} {d n s : Nat} {S : Nat → xS} {Z : xZ} {h : mx_H} {Post : mx_R → Prop} {a0 : Int} {g0 : Int} {T : Int → Int} {N : Int} {sg : SS} (hx : XH n s S Z h) (hG : GI n S Z)  {x0 : Int} (p0 : 0 ≤ x0 ∧ x0 ≤ 6) (k0 : (Z 56 6 ≤ Z 56 7 ∧ Z 56 7 ≤ Z 56 8 ∧ (Z 56 9 = 24 ∨ Z 56 6 < Z 56 7))) (k1 : Z 60 61 ≤ Z 56 6) (k2 : a0 ≤ Z 60 61) (k3 : 0 ≤ a0) (k4 : 0 ≤ g0) (hr : RM g0 T N Z sg) {kk : Nat} (IH : RBnh l D b0 ad Hb tau kk x0) (hd : kk ≤ d) (hP : ∀ (Z' : xZ) (h' : mx_H), XH n s S Z' h' → GI n S Z' → fr' [(56, 6), (56, 7), (56, 9), (56, 10), (56, 11), (56, 12), (60, (-1))] Z Z' → RM g0 T N Z' (unX T N (lvI T N x0) sg) ∧ QR Z Z' a0 1 0 ∧ ((Z' 56 6 ≤ Z' 56 7 ∧ Z' 56 7 ≤ Z 56 8 ∧ (Z' 56 9 = 24 ∨ Z' 56 6 < Z' 56 7)) ∧ Z' 60 0 = Z 60 0 ∧ Z' 60 1 = Z 60 1 ∧ Z' 60 2 = Z 60 2 ∧ Z 56 6 ≤ Z' 56 6 ∧ Z 60 61 ≤ Z' 60 61 ∧ Z' 60 61 - Z 60 61 ≤ Z' 56 6 - Z 56 6) → Post (none, h')) : mx_J (tB l D b0 ad Hb tau) mt_175 (d + 11) 0 [some (.ref 56), some (xI x0), none] [] h Post := by
    have a56 : 56 < n := lt83 (GI_n hG) rfl
    have s56 : S 56 = .inl (12, [0, 2, 2, 2, 2, 0, 0, 0, 0, 0, 0, 0, 0, 0, 0, 2, 2, 2, 0, 2, 2, 2, 0, 0, 2, 2, 2, 2, 2, 2, 0, 0, 2, 2, 2, 2, 2, 2, 2, 2, 2, 2]) := GI_s hG 56 rfl
    refine mx_J.step (sn_175 0) (fun _ _ => rfl) ?_
    refine JcI (z := 15) (show mx_Sn _ _ 1 (mx_const (.int 15) 3) from sn_175 1) rfl ?_
    have b2 : 0 ≤ Z 56 9 ∧ Z 56 9 ≤ 100 := hG.pr 56 9
    have b3 : 0 ≤ Z 56 11 ∧ Z 56 11 ≤ 4 := hG.pr 56 11
    obtain ⟨z1, hc1, b1⟩ := ct_164_56 (d := d + 10) (l := l) (D := D) (b0 := b0) (ad := ad) (Hb := Hb) (tau := tau) hx hG (show 0 ≤ 15 ∧ 15 ≤ 100 by omega)
    refine Jcv hx (show mx_Sn _ _ 3 (mx_callv 164 2 12 6) from sn_175 3) a56 s56 hc1 rfl rfl rfl ?_
    refine Jif_eq (show mx_Sn _ _ 6 (mx_if_eq 33 9) from sn_175 6) (by omega) (fun q4 => ?_) (fun q4 => ?_)
    · skip
      refine mx_J.step (sn_175 33) (fun _ _ => rfl) ?_
      refine JcI (z := 37) (show mx_Sn _ _ 34 (mx_const (.int 37) 36) from sn_175 34) rfl ?_
      obtain ⟨z5, hc5, b5⟩ := ct_164_56 (d := d + 10) (l := l) (D := D) (b0 := b0) (ad := ad) (Hb := Hb) (tau := tau) hx hG (show 0 ≤ 37 ∧ 37 ≤ 100 by omega)
      refine Jcv hx (show mx_Sn _ _ 36 (mx_callv 164 2 12 39) from sn_175 36) a56 s56 hc5 rfl rfl rfl ?_
      refine Jif_eq (show mx_Sn _ _ 39 (mx_if_eq 73 42) from sn_175 39) (by omega) (fun q6 => ?_) (fun q6 => ?_)
      · skip
        refine mx_J.step (sn_175 73) (fun _ _ => rfl) ?_
        refine mx_J.step (sn_175 74) (fun _ _ => rfl) ?_
        have b8 : 0 ≤ Z 56 6 ∧ Z 56 6 ≤ 900 := hG.pr 56 6
        have b9 : 0 ≤ Z 56 7 ∧ Z 56 7 ≤ 900 := hG.pr 56 7
        have b10 : 0 ≤ Z 56 8 ∧ Z 56 8 ≤ 900 := hG.pr 56 8
        have b11 : 0 ≤ Z 60 61 ∧ Z 60 61 ≤ 900 := by have hq := GI_ex hG 60 61; replace hq : f60 (61 % 962) (Z 60 61) := hq; unfold f60 at hq; omega
        have b12 : (-2147483648) ≤ Z 60 61 ∧ Z 60 61 ≤ 2147483647 := hG.pr 60 61
        have b13 : (-2147483648) ≤ Z 60 0 ∧ Z 60 0 ≤ 2147483647 := hG.pr 60 0
        have b14 : 0 ≤ Z 60 1 ∧ Z 60 1 ≤ 18 := by have hq := GI_ex hG 60 1; replace hq : f60 (1 % 962) (Z 60 1) := hq; unfold f60 at hq; omega
        have b15 : (-2147483648) ≤ Z 60 1 ∧ Z 60 1 ≤ 2147483647 := hG.pr 60 1
        have b16 : 0 ≤ Z 60 2 ∧ Z 60 2 ≤ 18 := by have hq := GI_ex hG 60 2; replace hq : f60 (2 % 962) (Z 60 2) := hq; unfold f60 at hq; omega
        have b17 : (-2147483648) ≤ Z 60 2 ∧ Z 60 2 ≤ 2147483647 := hG.pr 60 2
        obtain ⟨Z7, h7, hc7, hx7, hG7, hf7, b7⟩ := ct_174_56_s (a0 := a0) (g0 := g0) (T := T) (N := N) (sg := sg) (d := d + 0) (l := l) (D := D) (b0 := b0) (ad := ad) (Hb := Hb) (tau := tau) hx hG (show 0 ≤ x0 ∧ x0 ≤ 6 by omega) (show (Z 56 6 ≤ Z 56 7 ∧ Z 56 7 ≤ Z 56 8 ∧ (Z 56 9 = 24 ∨ Z 56 6 < Z 56 7)) by omega) (show Z 60 61 ≤ Z 56 6 by omega) (show a0 ≤ Z 60 61 by omega) (show 0 ≤ a0 by omega) (show 0 ≤ g0 by omega) hr IH (by omega)
        obtain ⟨br7, b7⟩ := b7
        obtain ⟨bq7, b7⟩ := b7
        have b18 : 0 ≤ Z7 56 6 ∧ Z7 56 6 ≤ 900 := hG7.pr 56 6
        have b19 : 0 ≤ Z7 56 7 ∧ Z7 56 7 ≤ 900 := hG7.pr 56 7
        have b20 : 0 ≤ Z7 56 9 ∧ Z7 56 9 ≤ 100 := hG7.pr 56 9
        have b21 : 0 ≤ Z7 56 11 ∧ Z7 56 11 ≤ 4 := hG7.pr 56 11
        have b22 : 0 ≤ Z7 60 61 ∧ Z7 60 61 ≤ 900 := by have hq := GI_ex hG7 60 61; replace hq : f60 (61 % 962) (Z7 60 61) := hq; unfold f60 at hq; omega
        have b23 : (-2147483648) ≤ Z7 60 61 ∧ Z7 60 61 ≤ 2147483647 := hG7.pr 60 61
        have b24 : (-2147483648) ≤ Z7 60 0 ∧ Z7 60 0 ≤ 2147483647 := hG7.pr 60 0
        have b25 : 0 ≤ Z7 60 1 ∧ Z7 60 1 ≤ 18 := by have hq := GI_ex hG7 60 1; replace hq : f60 (1 % 962) (Z7 60 1) := hq; unfold f60 at hq; omega
        have b26 : (-2147483648) ≤ Z7 60 1 ∧ Z7 60 1 ≤ 2147483647 := hG7.pr 60 1
        have b27 : 0 ≤ Z7 60 2 ∧ Z7 60 2 ≤ 18 := by have hq := GI_ex hG7 60 2; replace hq : f60 (2 % 962) (Z7 60 2) := hq; unfold f60 at hq; omega
        have b28 : (-2147483648) ≤ Z7 60 2 ∧ Z7 60 2 ≤ 2147483647 := hG7.pr 60 2
        have r7 := QR_tr (d := 1) (c := 0) (QR_rf (Z := Z) (a := a0)) bq7 (by decide) (by decide) (by decide)
        refine Jcv0 hx (show mx_Sn _ _ 75 (mx_callv 174 2 12 78) from sn_175 75) a56 s56 hc7 rfl rfl rfl ?_
        have kj := RM_p br7
        have nn15 : ¬ gIs T N 15 sg := (fun q => by have := (RM_is (k := 15) hr).mpr q; omega)
        have nn37 : ¬ gIs T N 37 sg := (fun q => by have := (RM_is (k := 37) hr).mpr q; omega)
        refine mx_J.step (sn_175 78) (fun _ _ => rfl) ?_
        refine JcI (z := 39) (show mx_Sn _ _ 79 (mx_const (.int 39) 81) from sn_175 79) rfl ?_
        obtain ⟨z29, hc29, b29⟩ := ct_164_56 (d := d + 10) (l := l) (D := D) (b0 := b0) (ad := ad) (Hb := Hb) (tau := tau) hx7 hG7 (show 0 ≤ 39 ∧ 39 ≤ 100 by omega)
        refine Jcv hx7 (show mx_Sn _ _ 81 (mx_callv 164 2 12 84) from sn_175 81) a56 s56 hc29 rfl rfl rfl ?_
        have c111 : ∀ (k30_0 : Int), 3003 ≤ k30_0 ∧ k30_0 ≤ 3005 → (0 ≤ (smX T N (lvI T N x0) sg).1 → 39 ≤ tKd T N (smX T N (lvI T N x0) sg).1 → tKd T N (smX T N (lvI T N x0) sg).1 ≤ 41 → k30_0 - 1990 = 974 + tKd T N (smX T N (lvI T N x0) sg).1) → mx_J (tB l D b0 ad Hb tau) mt_175 (d + 11) 111 [some (.ref 56), some (xI x0), none] [xI k30_0] h7 Post := by
          intro k30_0 f30_0 f30_1
          have hw : (0 ≤ (smX T N (lvI T N x0) sg).1 → 39 ≤ tKd T N (smX T N (lvI T N x0) sg).1 → tKd T N (smX T N (lvI T N x0) sg).1 ≤ 41 → k30_0 - 1990 = 974 + tKd T N (smX T N (lvI T N x0) sg).1) := (by assumption)
          have hs2 := kj.2.2.1
          refine mx_J.step (ls2 := [some (.ref 56), some (xI x0), some (xI k30_0)]) (sn_175 111) (fun _ _ => rfl) ?_
          refine mx_J.step (sn_175 112) (fun _ _ => rfl) ?_
          refine JcI (z := 39) (show mx_Sn _ _ 113 (mx_const (.int 39) 115) from sn_175 113) rfl ?_
          obtain ⟨z31, hc31, b31⟩ := ct_164_56 (d := d + 10) (l := l) (D := D) (b0 := b0) (ad := ad) (Hb := Hb) (tau := tau) hx7 hG7 (show 0 ≤ 39 ∧ 39 ≤ 100 by omega)
          refine Jcv hx7 (show mx_Sn _ _ 115 (mx_callv 164 2 12 118) from sn_175 115) a56 s56 hc31 rfl rfl rfl ?_
          have c151 : ∀  (Z33 : xZ) (h33 : mx_H), (Z33 56 6 ≤ Z33 56 7 ∧ Z33 56 7 ≤ Z 56 8) → (Z33 56 9 = 24 ∨ Z33 56 6 < Z33 56 7) → (Z 56 6 ≤ Z33 56 6 ∧ Z 60 61 ≤ Z33 60 61 ∧ Z33 60 61 - Z 60 61 ≤ Z33 56 6 - Z 56 6) → (Z33 60 0 = Z 60 0 ∧ Z33 60 1 = Z 60 1 ∧ Z33 60 2 = Z 60 2) → QR Z Z33 a0 1 1 → RM g0 T N Z33 (cjX T N (smX T N (lvI T N x0) sg)) → XH n s S Z33 h33 → GI n S Z33 → fr' [(56, 6), (56, 7), (56, 9), (56, 10), (56, 11), (56, 12)] Z7 Z33 → mx_J (tB l D b0 ad Hb tau) mt_175 (d + 11) 151 [some (.ref 56), some (xI x0), some (xI k30_0)] [] h33 Post := by
            intro Z33 h33 f32_0 f32_1 f32_2 f32_3 f32_4 f32_5 hx33 hG33 hf33
            have b34 : 0 ≤ Z33 56 6 ∧ Z33 56 6 ≤ 900 := hG33.pr 56 6
            have b35 : 0 ≤ Z33 56 7 ∧ Z33 56 7 ≤ 900 := hG33.pr 56 7
            have b36 : 0 ≤ Z33 56 9 ∧ Z33 56 9 ≤ 100 := hG33.pr 56 9
            have eq37 : Z33 60 61 = Z7 60 61 := (hf33 60 61 rfl)
            have eq38 : Z33 60 0 = Z7 60 0 := (hf33 60 0 rfl)
            have eq39 : Z33 60 1 = Z7 60 1 := (hf33 60 1 rfl)
            have eq40 : Z33 60 2 = Z7 60 2 := (hf33 60 2 rfl)
            refine mx_J.step (sn_175 151) (fun _ _ => rfl) ?_
            refine mx_J.step (sn_175 152) (fun _ _ => rfl) ?_
            have eq42 : Z33 56 8 = Z 56 8 := ((hf33 56 8 rfl).trans (hf7 56 8 rfl))
            have b43 : 0 ≤ Z33 56 11 ∧ Z33 56 11 ≤ 4 := hG33.pr 56 11
            have eq44 : Z33 60 61 = Z7 60 61 := (hf33 60 61 rfl)
            have eq45 : Z33 60 0 = Z7 60 0 := (hf33 60 0 rfl)
            have eq46 : Z33 60 1 = Z7 60 1 := (hf33 60 1 rfl)
            have eq47 : Z33 60 2 = Z7 60 2 := (hf33 60 2 rfl)
            obtain ⟨Z41, h41, hc41, hx41, hG41, hf41, b41⟩ := ct_174_56_s (a0 := a0) (g0 := g0) (T := T) (N := N) (sg := cjX T N (smX T N (lvI T N x0) sg)) (d := d + 0) (l := l) (D := D) (b0 := b0) (ad := ad) (Hb := Hb) (tau := tau) hx33 hG33 (show 0 ≤ x0 ∧ x0 ≤ 6 by omega) (show (Z33 56 6 ≤ Z33 56 7 ∧ Z33 56 7 ≤ Z33 56 8 ∧ (Z33 56 9 = 24 ∨ Z33 56 6 < Z33 56 7)) by first | omega | (simp only [eq42, eq44, eq45, eq46, eq47]; omega)) (show Z33 60 61 ≤ Z33 56 6 by first | omega | (simp only [eq42, eq44, eq45, eq46, eq47]; omega)) (show a0 ≤ Z33 60 61 by first | omega | (simp only [eq42, eq44, eq45, eq46, eq47]; omega)) (show 0 ≤ a0 by first | omega | (simp only [eq42, eq44, eq45, eq46, eq47]; omega)) (show 0 ≤ g0 by first | omega | (simp only [eq42, eq44, eq45, eq46, eq47]; omega)) f32_5 IH (by omega)
            try rw [eq42] at b41
            try rw [eq44] at b41
            try rw [eq45] at b41
            try rw [eq46] at b41
            try rw [eq47] at b41
            obtain ⟨br41, b41⟩ := b41
            obtain ⟨bq41, b41⟩ := b41
            have b48 : 0 ≤ Z41 56 6 ∧ Z41 56 6 ≤ 900 := hG41.pr 56 6
            have b49 : 0 ≤ Z41 56 7 ∧ Z41 56 7 ≤ 900 := hG41.pr 56 7
            have b50 : 0 ≤ Z41 56 9 ∧ Z41 56 9 ≤ 100 := hG41.pr 56 9
            have b51 : 0 ≤ Z41 56 11 ∧ Z41 56 11 ≤ 4 := hG41.pr 56 11
            have b52 : 0 ≤ Z41 60 61 ∧ Z41 60 61 ≤ 900 := by have hq := GI_ex hG41 60 61; replace hq : f60 (61 % 962) (Z41 60 61) := hq; unfold f60 at hq; omega
            have b53 : (-2147483648) ≤ Z41 60 61 ∧ Z41 60 61 ≤ 2147483647 := hG41.pr 60 61
            have b54 : (-2147483648) ≤ Z41 60 0 ∧ Z41 60 0 ≤ 2147483647 := hG41.pr 60 0
            have b55 : 0 ≤ Z41 60 1 ∧ Z41 60 1 ≤ 18 := by have hq := GI_ex hG41 60 1; replace hq : f60 (1 % 962) (Z41 60 1) := hq; unfold f60 at hq; omega
            have b56 : (-2147483648) ≤ Z41 60 1 ∧ Z41 60 1 ≤ 2147483647 := hG41.pr 60 1
            have b57 : 0 ≤ Z41 60 2 ∧ Z41 60 2 ≤ 18 := by have hq := GI_ex hG41 60 2; replace hq : f60 (2 % 962) (Z41 60 2) := hq; unfold f60 at hq; omega
            have b58 : (-2147483648) ≤ Z41 60 2 ∧ Z41 60 2 ≤ 2147483647 := hG41.pr 60 2
            have r41 := QR_tr (d := 2) (c := 1) f32_4 bq41 (by decide) (by decide) (by decide)
            refine Jcv0 hx33 (show mx_Sn _ _ 153 (mx_callv 174 2 12 156) from sn_175 153) a56 s56 hc41 rfl rfl rfl ?_
            refine mx_J.step (sn_175 156) (fun _ _ => rfl) ?_
            refine mx_J.step (sn_175 157) (fun _ _ => rfl) ?_
            have eq60 : Z41 56 8 = Z 56 8 := ((hf41 56 8 rfl).trans ((hf33 56 8 rfl).trans (hf7 56 8 rfl)))
            have rp59 := QR_n r41
            obtain ⟨Z59, h59, hc59, hx59, hG59, hf59, b59⟩ := ct_169_56_3000 (a0 := a0) (g0 := g0) (T := T) (N := N) (sg := smX T N (lvI T N x0) (cjX T N (smX T N (lvI T N x0) sg))) (d := d + 10) (l := l) (D := D) (b0 := b0) (ad := ad) (Hb := Hb) (tau := tau) hx41 hG41 (show 3000 ≤ k30_0 ∧ k30_0 ≤ 3005 by omega) (show (Z41 56 11 = 0 → Z41 60 61 ≤ 899) by first | omega | (simp only [eq60]; omega)) (show a0 ≤ Z41 60 61 by first | omega | (simp only [eq60]; omega)) (show 0 ≤ a0 by first | omega | (simp only [eq60]; omega)) (show 0 ≤ g0 by first | omega | (simp only [eq60]; omega)) br41
            try rw [eq60] at b59
            obtain ⟨br59, b59⟩ := b59
            obtain ⟨bq59, b59⟩ := b59
            have b61 : 0 ≤ Z59 60 61 ∧ Z59 60 61 ≤ 900 := by have hq := GI_ex hG59 60 61; replace hq : f60 (61 % 962) (Z59 60 61) := hq; unfold f60 at hq; omega
            have b62 : (-2147483648) ≤ Z59 60 61 ∧ Z59 60 61 ≤ 2147483647 := hG59.pr 60 61
            have b63 : (-2147483648) ≤ Z59 60 0 ∧ Z59 60 0 ≤ 2147483647 := hG59.pr 60 0
            have b64 : 0 ≤ Z59 60 1 ∧ Z59 60 1 ≤ 18 := by have hq := GI_ex hG59 60 1; replace hq : f60 (1 % 962) (Z59 60 1) := hq; unfold f60 at hq; omega
            have b65 : (-2147483648) ≤ Z59 60 1 ∧ Z59 60 1 ≤ 2147483647 := hG59.pr 60 1
            have b66 : 0 ≤ Z59 60 2 ∧ Z59 60 2 ≤ 18 := by have hq := GI_ex hG59 60 2; replace hq : f60 (2 % 962) (Z59 60 2) := hq; unfold f60 at hq; omega
            have b67 : (-2147483648) ≤ Z59 60 2 ∧ Z59 60 2 ≤ 2147483647 := hG59.pr 60 2
            have rn59 := QR_n r41
            have r59 := QR_c (d2 := 1) (c2 := 0) r41 bq59 (by omega) (hf59 56 11 rfl) (hf59 56 6 rfl) (by decide) (by decide) (by decide)
            refine Jcv0 hx41 (show mx_Sn _ _ 158 (mx_callv 169 2 12 161) from sn_175 158) a56 s56 hc59 rfl rfl rfl ?_
            have eq68 : Z59 56 6 = Z41 56 6 := (hf59 56 6 rfl)
            have eq69 : Z59 56 7 = Z41 56 7 := (hf59 56 7 rfl)
            have eq70 : Z59 56 9 = Z41 56 9 := (hf59 56 9 rfl)
            have eq71 : Z59 56 11 = Z41 56 11 := (hf59 56 11 rfl)
            have eq72 : Z59 56 6 = Z41 56 6 := (hf59 56 6 rfl)
            have eq73 : Z59 56 7 = Z41 56 7 := (hf59 56 7 rfl)
            have eq74 : Z59 56 8 = Z 56 8 := ((hf59 56 8 rfl).trans ((hf41 56 8 rfl).trans ((hf33 56 8 rfl).trans (hf7 56 8 rfl))))
            have eq75 : Z59 56 9 = Z41 56 9 := (hf59 56 9 rfl)
            have eq76 : Z59 56 11 = Z41 56 11 := (hf59 56 11 rfl)
            exact mx_J.ret (sn_175 161) (fun _ _ => rfl) (hP Z59 h59 hx59 hG59 (fr_tr (M := [(56, 6), (56, 7), (56, 9), (56, 10), (56, 11), (56, 12), (60, (-1))]) (fr_tr (M := [(56, 6), (56, 7), (56, 9), (56, 10), (56, 11), (56, 12), (60, (-1))]) (fr_tr (M := [(56, 6), (56, 7), (56, 9), (56, 10), (56, 11), (56, 12), (60, (-1))]) (fr_tr (M := [(56, 6), (56, 7), (56, 9), (56, 10), (56, 11), (56, 12), (60, (-1))]) fr_rf (hf7) (M1 := []) rfl rfl) (hf33) rfl rfl) (hf41) rfl rfl) (hf59) rfl rfl) ⟨(RM_e br59 ((un_c nn15 nn37).trans (cp_j (lvI_go _) hs2 hw))), (QR_le r59 (by decide)), by omega⟩)
          have c139 : (Z7 56 11 = 0 ∧ (Z7 56 9 = 39 ∨ Z7 56 9 = 40 ∨ Z7 56 9 = 41)) → mx_J (tB l D b0 ad Hb tau) mt_175 (d + 11) 139 [some (.ref 56), some (xI x0), some (xI k30_0)] [] h7 Post := by
            intro f77_0
            refine mx_J.step (sn_175 139) (fun _ _ => rfl) ?_
            have eq79 : Z7 56 8 = Z 56 8 := (hf7 56 8 rfl)
            obtain ⟨Z78, h78, hc78, hx78, hG78, hf78, b78⟩ := ct_162_56r (g0 := g0) (T := T) (N := N) (sg := smX T N (lvI T N x0) sg) (d := d + 5) (l := l) (D := D) (b0 := b0) (ad := ad) (Hb := Hb) (tau := tau) hx7 hG7  (show Z7 56 7 ≤ Z7 56 8 by first | omega | (simp only [eq79]; omega)) (show Z7 56 11 = 0 by first | omega | (simp only [eq79]; omega)) br7
            try rw [eq79] at b78
            obtain ⟨br78, b78⟩ := b78
            have b80 : 0 ≤ Z78 56 6 ∧ Z78 56 6 ≤ 900 := hG78.pr 56 6
            have b81 : 0 ≤ Z78 56 7 ∧ Z78 56 7 ≤ 900 := hG78.pr 56 7
            have b82 : 0 ≤ Z78 56 9 ∧ Z78 56 9 ≤ 100 := hG78.pr 56 9
            have r78 := QR_g (k := 1) (c2 := 1) r7 (fun e => (hf78 56 11 rfl).symm.trans e) (fun i => hf78 60 i rfl) (fun e => by omega) (by decide)
            refine Jcv0 hx7 (show mx_Sn _ _ 140 (mx_callv 162 1 12 143) from sn_175 140) a56 s56 hc78 rfl rfl rfl ?_
            refine mx_J.step (sn_175 143) (fun _ _ => rfl) ?_
            have eq83 : Z78 60 61 = Z7 60 61 := (hf78 60 61 rfl)
            have eq84 : Z78 60 0 = Z7 60 0 := (hf78 60 0 rfl)
            have eq85 : Z78 60 1 = Z7 60 1 := (hf78 60 1 rfl)
            have eq86 : Z78 60 2 = Z7 60 2 := (hf78 60 2 rfl)
            exact c151 Z78 h78 (by omega) (by omega) (by omega) (by omega) (QR_le r78 (by decide)) (RM_e br78 (cj_y (by have k1 := kj.1.mp (by omega); have k2 := kj.2.1 k1; omega))) hx78 hG78 (fr_tr (M := [(56, 6), (56, 7), (56, 9), (56, 10), (56, 11), (56, 12)]) fr_rf (hf78) (M1 := []) rfl rfl)
          refine Jif_ne (show mx_Sn _ _ 118 (mx_if_ne 139 121) from sn_175 118) (by omega) (fun q87 => ?_) (fun q87 => ?_)
          · skip
            exact c139 (by omega)
          · skip
            refine mx_J.step (sn_175 121) (fun _ _ => rfl) ?_
            refine JcI (z := 40) (show mx_Sn _ _ 122 (mx_const (.int 40) 124) from sn_175 122) rfl ?_
            obtain ⟨z88, hc88, b88⟩ := ct_164_56 (d := d + 10) (l := l) (D := D) (b0 := b0) (ad := ad) (Hb := Hb) (tau := tau) hx7 hG7 (show 0 ≤ 40 ∧ 40 ≤ 100 by omega)
            refine Jcv hx7 (show mx_Sn _ _ 124 (mx_callv 164 2 12 127) from sn_175 124) a56 s56 hc88 rfl rfl rfl ?_
            refine Jif_ne (show mx_Sn _ _ 127 (mx_if_ne 139 130) from sn_175 127) (by omega) (fun q89 => ?_) (fun q89 => ?_)
            · skip
              exact c139 (by omega)
            · skip
              refine mx_J.step (sn_175 130) (fun _ _ => rfl) ?_
              refine JcI (z := 41) (show mx_Sn _ _ 131 (mx_const (.int 41) 133) from sn_175 131) rfl ?_
              obtain ⟨z90, hc90, b90⟩ := ct_164_56 (d := d + 10) (l := l) (D := D) (b0 := b0) (ad := ad) (Hb := Hb) (tau := tau) hx7 hG7 (show 0 ≤ 41 ∧ 41 ≤ 100 by omega)
              refine Jcv hx7 (show mx_Sn _ _ 133 (mx_callv 164 2 12 136) from sn_175 133) a56 s56 hc90 rfl rfl rfl ?_
              refine Jif_eq (show mx_Sn _ _ 136 (mx_if_eq 146 139) from sn_175 136) (by omega) (fun q91 => ?_) (fun q91 => ?_)
              · skip
                refine mx_J.step (sn_175 146) (fun _ _ => rfl) ?_
                refine JcI (z := 2) (show mx_Sn _ _ 147 (mx_const (.int 2) 148) from sn_175 147) rfl ?_
                obtain ⟨Z92, h92, hc92, hx92, hG92, hf92, b92⟩ := ct_163_56 (g0 := g0) (T := T) (N := N) (sg := smX T N (lvI T N x0) sg) (d := d + 10) (l := l) (D := D) (b0 := b0) (ad := ad) (Hb := Hb) (tau := tau) hx7 hG7 (show 2 ≤ 2 ∧ 2 ≤ 4 by omega) br7
                obtain ⟨br92, b92⟩ := b92
                have b93 : 0 ≤ Z92 56 11 ∧ Z92 56 11 ≤ 4 := hG92.pr 56 11
                have r92 : ¬ Z92 56 11 = 0 := by omega
                refine Jcv0 hx7 (show mx_Sn _ _ 148 (mx_callv 163 2 12 151) from sn_175 148) a56 s56 hc92 rfl rfl rfl ?_
                have eq94 : Z92 56 6 = Z7 56 6 := (hf92 56 6 rfl)
                have eq95 : Z92 56 7 = Z7 56 7 := (hf92 56 7 rfl)
                have eq96 : Z92 56 6 = Z7 56 6 := (hf92 56 6 rfl)
                have eq97 : Z92 56 7 = Z7 56 7 := (hf92 56 7 rfl)
                have eq98 : Z92 56 9 = Z7 56 9 := (hf92 56 9 rfl)
                have eq99 : Z92 56 6 = Z7 56 6 := (hf92 56 6 rfl)
                have eq100 : Z92 60 61 = Z7 60 61 := (hf92 60 61 rfl)
                have eq101 : Z92 60 0 = Z7 60 0 := (hf92 60 0 rfl)
                have eq102 : Z92 60 1 = Z7 60 1 := (hf92 60 1 rfl)
                have eq103 : Z92 60 2 = Z7 60 2 := (hf92 60 2 rfl)
                exact c151 Z92 h92 (by omega) (by omega) (by omega) (by omega) (QR_f r92) (RM_e br92 (cj_n (fun q => by have k1 := kj.1.mpr q.1; have k2 := kj.2.1 q.1; omega))) hx92 hG92 (fr_tr (M := [(56, 6), (56, 7), (56, 9), (56, 10), (56, 11), (56, 12)]) fr_rf (hf92) (M1 := []) rfl rfl)
              · skip
                exact c139 (by omega)
        refine Jif_eq (show mx_Sn _ _ 84 (mx_if_eq 93 87) from sn_175 84) (by omega) (fun q104 => ?_) (fun q104 => ?_)
        · skip
          refine mx_J.step (sn_175 93) (fun _ _ => rfl) ?_
          refine JcI (z := 40) (show mx_Sn _ _ 94 (mx_const (.int 40) 96) from sn_175 94) rfl ?_
          obtain ⟨z105, hc105, b105⟩ := ct_164_56 (d := d + 10) (l := l) (D := D) (b0 := b0) (ad := ad) (Hb := Hb) (tau := tau) hx7 hG7 (show 0 ≤ 40 ∧ 40 ≤ 100 by omega)
          refine Jcv hx7 (show mx_Sn _ _ 96 (mx_callv 164 2 12 99) from sn_175 96) a56 s56 hc105 rfl rfl rfl ?_
          refine Jif_eq (show mx_Sn _ _ 99 (mx_if_eq 108 102) from sn_175 99) (by omega) (fun q106 => ?_) (fun q106 => ?_)
          · skip
            refine JcI (z := 3005) (show mx_Sn _ _ 108 (mx_const (.int 3005) 111) from sn_175 108) rfl ?_
            exact c111 3005 (by omega) (fun q1 q2 q3 => by have k1 := kj.1.mpr q1; have k2 := kj.2.1 q1; omega)
          · skip
            refine JcI (z := 3004) (show mx_Sn _ _ 102 (mx_const (.int 3004) 105) from sn_175 102) rfl ?_
            refine mx_J.step (sn_175 105) (fun _ _ => rfl) ?_
            exact c111 3004 (by omega) (fun q1 q2 q3 => by have k1 := kj.1.mpr q1; have k2 := kj.2.1 q1; omega)
        · skip
          refine JcI (z := 3003) (show mx_Sn _ _ 87 (mx_const (.int 3003) 90) from sn_175 87) rfl ?_
          refine mx_J.step (sn_175 90) (fun _ _ => rfl) ?_
          exact c111 3003 (by omega) (fun q1 q2 q3 => by have k1 := kj.1.mpr q1; have k2 := kj.2.1 q1; omega)
      · skip
        refine mx_J.step (sn_175 42) (fun _ _ => rfl) ?_
        refine mx_J.step (sn_175 43) (fun _ _ => rfl) ?_
        have b108 : 0 ≤ Z 56 6 ∧ Z 56 6 ≤ 900 := hG.pr 56 6
        have b109 : 0 ≤ Z 56 7 ∧ Z 56 7 ≤ 900 := hG.pr 56 7
        have b110 : 0 ≤ Z 56 8 ∧ Z 56 8 ≤ 900 := hG.pr 56 8
        obtain ⟨z107, Z107, h107, hc107, hx107, hG107, hf107, b107⟩ := ct_170_56 (g0 := g0) (T := T) (N := N) (sg := sg) (d := d + 4) (l := l) (D := D) (b0 := b0) (ad := ad) (Hb := Hb) (tau := tau) hx hG (show 0 ≤ x0 ∧ x0 ≤ 6 by omega) (show (Z 56 6 ≤ Z 56 7 ∧ Z 56 7 ≤ Z 56 8 ∧ (Z 56 9 = 24 ∨ Z 56 6 < Z 56 7)) by omega) (show ¬ Z 56 9 = 24 by omega) hr
        obtain ⟨br107, b107⟩ := b107
        have b111 : 0 ≤ Z107 56 6 ∧ Z107 56 6 ≤ 900 := hG107.pr 56 6
        have b112 : 0 ≤ Z107 56 7 ∧ Z107 56 7 ≤ 900 := hG107.pr 56 7
        have b113 : 0 ≤ Z107 56 9 ∧ Z107 56 9 ≤ 100 := hG107.pr 56 9
        have b114 : 0 ≤ Z107 56 11 ∧ Z107 56 11 ≤ 4 := hG107.pr 56 11
        have r107 := QR_g (k := 1) (c2 := 1) (QR_rf (Z := Z) (a := a0)) (fun e => by omega) (fun i => hf107 60 i rfl) (fun e => by omega) (by decide)
        refine Jcv hx (show mx_Sn _ _ 44 (mx_callv 170 2 12 47) from sn_175 44) a56 s56 hc107 rfl rfl rfl ?_
        refine Jif_ne (show mx_Sn _ _ 47 (mx_if_ne 51 50) from sn_175 47) (by omega) (fun q115 => ?_) (fun q115 => ?_)
        · skip
          have hx5 : x0 ≤ 5 := by omega
          have rc116 : RM g0 T N Z107 (gAd T N sg) := RM_e br107 ((gEn_y (by omega)).symm)
          refine mx_J.step (sn_175 51) (fun _ _ => rfl) ?_
          refine mx_J.step (sn_175 52) (fun _ _ => rfl) ?_
          refine JcI (z := 1) (show mx_Sn _ _ 53 (mx_const (.int 1) 54) from sn_175 53) rfl ?_
          refine Jiadd (show mx_Sn _ _ 54 (mx_iadd 55) from sn_175 54) ?_
          have eq118 : Z107 56 8 = Z 56 8 := (hf107 56 8 rfl)
          have eq119 : Z107 60 61 = Z 60 61 := (hf107 60 61 rfl)
          have b120 : 0 ≤ Z 60 61 ∧ Z 60 61 ≤ 900 := by have hq := GI_ex hG 60 61; replace hq : f60 (61 % 962) (Z 60 61) := hq; unfold f60 at hq; omega
          have b121 : (-2147483648) ≤ Z 60 61 ∧ Z 60 61 ≤ 2147483647 := hG.pr 60 61
          have eq122 : Z107 60 0 = Z 60 0 := (hf107 60 0 rfl)
          have b123 : (-2147483648) ≤ Z 60 0 ∧ Z 60 0 ≤ 2147483647 := hG.pr 60 0
          have eq124 : Z107 60 1 = Z 60 1 := (hf107 60 1 rfl)
          have b125 : 0 ≤ Z 60 1 ∧ Z 60 1 ≤ 18 := by have hq := GI_ex hG 60 1; replace hq : f60 (1 % 962) (Z 60 1) := hq; unfold f60 at hq; omega
          have b126 : (-2147483648) ≤ Z 60 1 ∧ Z 60 1 ≤ 2147483647 := hG.pr 60 1
          have eq127 : Z107 60 2 = Z 60 2 := (hf107 60 2 rfl)
          have b128 : 0 ≤ Z 60 2 ∧ Z 60 2 ≤ 18 := by have hq := GI_ex hG 60 2; replace hq : f60 (2 % 962) (Z 60 2) := hq; unfold f60 at hq; omega
          have b129 : (-2147483648) ≤ Z 60 2 ∧ Z 60 2 ≤ 2147483647 := hG.pr 60 2
          obtain ⟨Z117, h117, hc117, hx117, hG117, hf117, b117⟩ := riR_177 IH (by omega) (hd := by omega) (a0 := a0) (g0 := g0) (T := T) (N := N) (sg := gAd T N sg) (d := d + 11) (l := l) (D := D) (b0 := b0) (ad := ad) (Hb := Hb) (tau := tau) hx107 hG107 (show 1 ≤ x0 + 1 ∧ x0 + 1 ≤ 6 by omega) (show (Z107 56 6 ≤ Z107 56 7 ∧ Z107 56 7 ≤ Z107 56 8 ∧ (Z107 56 9 = 24 ∨ Z107 56 6 < Z107 56 7)) by first | omega | (simp only [eq118, eq119, eq122, eq124, eq127]; omega)) (show Z107 60 61 ≤ Z107 56 6 by first | omega | (simp only [eq118, eq119, eq122, eq124, eq127]; omega)) (show a0 ≤ Z107 60 61 by first | omega | (simp only [eq118, eq119, eq122, eq124, eq127]; omega)) (show 0 ≤ a0 by first | omega | (simp only [eq118, eq119, eq122, eq124, eq127]; omega)) (show 0 ≤ g0 by first | omega | (simp only [eq118, eq119, eq122, eq124, eq127]; omega)) rc116
          try rw [eq118] at b117
          try rw [eq119] at b117
          try rw [eq122] at b117
          try rw [eq124] at b117
          try rw [eq127] at b117
          obtain ⟨br117, b117⟩ := b117
          obtain ⟨bq117, b117⟩ := b117
          have b130 : 0 ≤ Z117 56 6 ∧ Z117 56 6 ≤ 900 := hG117.pr 56 6
          have b131 : 0 ≤ Z117 56 7 ∧ Z117 56 7 ≤ 900 := hG117.pr 56 7
          have b132 : 0 ≤ Z117 56 9 ∧ Z117 56 9 ≤ 100 := hG117.pr 56 9
          have b133 : 0 ≤ Z117 56 11 ∧ Z117 56 11 ≤ 4 := hG117.pr 56 11
          have b134 : 0 ≤ Z117 60 61 ∧ Z117 60 61 ≤ 900 := by have hq := GI_ex hG117 60 61; replace hq : f60 (61 % 962) (Z117 60 61) := hq; unfold f60 at hq; omega
          have b135 : (-2147483648) ≤ Z117 60 61 ∧ Z117 60 61 ≤ 2147483647 := hG117.pr 60 61
          have b136 : (-2147483648) ≤ Z117 60 0 ∧ Z117 60 0 ≤ 2147483647 := hG117.pr 60 0
          have b137 : 0 ≤ Z117 60 1 ∧ Z117 60 1 ≤ 18 := by have hq := GI_ex hG117 60 1; replace hq : f60 (1 % 962) (Z117 60 1) := hq; unfold f60 at hq; omega
          have b138 : (-2147483648) ≤ Z117 60 1 ∧ Z117 60 1 ≤ 2147483647 := hG117.pr 60 1
          have b139 : 0 ≤ Z117 60 2 ∧ Z117 60 2 ≤ 18 := by have hq := GI_ex hG117 60 2; replace hq : f60 (2 % 962) (Z117 60 2) := hq; unfold f60 at hq; omega
          have b140 : (-2147483648) ≤ Z117 60 2 ∧ Z117 60 2 ≤ 2147483647 := hG117.pr 60 2
          have r117 := QR_tr (d := 1) (c := 1) r107 bq117 (by decide) (by decide) (by decide)
          refine Jcv0 hx107 (show mx_Sn _ _ 55 (mx_callv 177 2 12 58) from sn_175 55) a56 s56 hc117 rfl rfl rfl ?_
          have gt := RM_is (k := 38) br117
          refine mx_J.step (sn_175 58) (fun _ _ => rfl) ?_
          refine JcI (z := 38) (show mx_Sn _ _ 59 (mx_const (.int 38) 61) from sn_175 59) rfl ?_
          have eq142 : Z117 56 8 = Z 56 8 := ((hf117 56 8 rfl).trans (hf107 56 8 rfl))
          obtain ⟨z141, Z141, h141, hc141, hx141, hG141, hf141, b141⟩ := ct_165_56 (g0 := g0) (T := T) (N := N) (sg := trX T N (lvI T N (x0 + 1)) (gAd T N sg)) (d := d + 4) (l := l) (D := D) (b0 := b0) (ad := ad) (Hb := Hb) (tau := tau) hx117 hG117 (show 0 ≤ 38 ∧ 38 ≤ 100 by omega) (show (Z117 56 6 ≤ Z117 56 7 ∧ Z117 56 7 ≤ Z117 56 8 ∧ (Z117 56 9 = 24 ∨ Z117 56 6 < Z117 56 7)) by first | omega | (simp only [eq142]; omega)) (show ¬ 38 = 24 by first | omega | (simp only [eq142]; omega)) br117
          try rw [eq142] at b141
          obtain ⟨br141, b141⟩ := b141
          have b143 : 0 ≤ Z141 56 6 ∧ Z141 56 6 ≤ 900 := hG141.pr 56 6
          have b144 : 0 ≤ Z141 56 7 ∧ Z141 56 7 ≤ 900 := hG141.pr 56 7
          have b145 : 0 ≤ Z141 56 9 ∧ Z141 56 9 ≤ 100 := hG141.pr 56 9
          have r141 := QR_g (k := 0) (c2 := 1) r117 (fun e => (hf141 56 11 rfl).symm.trans e) (fun i => hf141 60 i rfl) (fun e => by omega) (by decide)
          have rk141 : z141 = 1 → QR Z Z141 a0 1 2 := fun ez => QR_g (k := 1) r117 (fun e => (hf141 56 11 rfl).symm.trans e) (fun i => hf141 60 i rfl) (fun e => by omega) (by decide)
          refine Jcv hx117 (show mx_Sn _ _ 61 (mx_callv 165 2 12 64) from sn_175 61) a56 s56 hc141 rfl rfl rfl ?_
          have c72 : ∀  (Z147 : xZ) (h147 : mx_H), (Z147 56 6 ≤ Z147 56 7 ∧ Z147 56 7 ≤ Z 56 8) → (Z147 56 9 = 24 ∨ Z147 56 6 < Z147 56 7) → (Z 56 6 ≤ Z147 56 6 ∧ Z 60 61 ≤ Z147 60 61 ∧ Z147 60 61 - Z 60 61 ≤ Z147 56 6 - Z 56 6) → (Z147 60 0 = Z 60 0 ∧ Z147 60 1 = Z 60 1 ∧ Z147 60 2 = Z 60 2) → QR Z Z147 a0 1 0 → RM g0 T N Z147 (unX T N (lvI T N x0) sg) → XH n s S Z147 h147 → GI n S Z147 → fr' [(56, 11), (56, 12)] Z141 Z147 → mx_J (tB l D b0 ad Hb tau) mt_175 (d + 11) 72 [some (.ref 56), some (xI x0), none] [] h147 Post := by
            intro Z147 h147 f146_0 f146_1 f146_2 f146_3 f146_4 f146_5 hx147 hG147 hf147
            have eq148 : Z147 56 6 = Z141 56 6 := (hf147 56 6 rfl)
            have eq149 : Z147 56 7 = Z141 56 7 := (hf147 56 7 rfl)
            have eq150 : Z147 56 6 = Z141 56 6 := (hf147 56 6 rfl)
            have eq151 : Z147 56 7 = Z141 56 7 := (hf147 56 7 rfl)
            have eq152 : Z147 56 9 = Z141 56 9 := (hf147 56 9 rfl)
            have eq153 : Z147 56 6 = Z141 56 6 := (hf147 56 6 rfl)
            have eq154 : Z147 60 61 = Z117 60 61 := ((hf147 60 61 rfl).trans (hf141 60 61 rfl))
            have eq155 : Z147 60 0 = Z117 60 0 := ((hf147 60 0 rfl).trans (hf141 60 0 rfl))
            have eq156 : Z147 60 1 = Z117 60 1 := ((hf147 60 1 rfl).trans (hf141 60 1 rfl))
            have eq157 : Z147 60 2 = Z117 60 2 := ((hf147 60 2 rfl).trans (hf141 60 2 rfl))
            have eq158 : Z147 56 6 = Z141 56 6 := (hf147 56 6 rfl)
            have eq159 : Z147 56 7 = Z141 56 7 := (hf147 56 7 rfl)
            have eq160 : Z147 56 9 = Z141 56 9 := (hf147 56 9 rfl)
            have b161 : 0 ≤ Z147 56 11 ∧ Z147 56 11 ≤ 4 := hG147.pr 56 11
            have eq162 : Z147 60 61 = Z117 60 61 := ((hf147 60 61 rfl).trans (hf141 60 61 rfl))
            have eq163 : Z147 60 0 = Z117 60 0 := ((hf147 60 0 rfl).trans (hf141 60 0 rfl))
            have eq164 : Z147 60 1 = Z117 60 1 := ((hf147 60 1 rfl).trans (hf141 60 1 rfl))
            have eq165 : Z147 60 2 = Z117 60 2 := ((hf147 60 2 rfl).trans (hf141 60 2 rfl))
            have eq166 : Z147 56 6 = Z141 56 6 := (hf147 56 6 rfl)
            have eq167 : Z147 56 7 = Z141 56 7 := (hf147 56 7 rfl)
            have eq168 : Z147 56 8 = Z 56 8 := ((hf147 56 8 rfl).trans ((hf141 56 8 rfl).trans ((hf117 56 8 rfl).trans (hf107 56 8 rfl))))
            have eq169 : Z147 56 9 = Z141 56 9 := (hf147 56 9 rfl)
            have eq170 : Z147 60 61 = Z117 60 61 := ((hf147 60 61 rfl).trans (hf141 60 61 rfl))
            have eq171 : Z147 60 0 = Z117 60 0 := ((hf147 60 0 rfl).trans (hf141 60 0 rfl))
            have eq172 : Z147 60 1 = Z117 60 1 := ((hf147 60 1 rfl).trans (hf141 60 1 rfl))
            have eq173 : Z147 60 2 = Z117 60 2 := ((hf147 60 2 rfl).trans (hf141 60 2 rfl))
            exact mx_J.ret (sn_175 72) (fun _ _ => rfl) (hP Z147 h147 hx147 hG147 (fr_tr (M := [(56, 6), (56, 7), (56, 9), (56, 10), (56, 11), (56, 12), (60, (-1))]) (fr_tr (M := [(56, 6), (56, 7), (56, 9), (56, 10), (56, 11), (56, 12), (60, (-1))]) (fr_tr (M := [(56, 6), (56, 7), (56, 9), (56, 10), (56, 11), (56, 12), (60, (-1))]) (fr_tr (M := [(56, 6), (56, 7), (56, 9), (56, 10), (56, 11), (56, 12), (60, (-1))]) fr_rf (hf107) (M1 := []) rfl rfl) (hf117) rfl rfl) (hf141) rfl rfl) (hf147) rfl rfl) ⟨f146_5, (QR_le f146_4 (by decide)), by omega⟩)
          refine Jif_ne (show mx_Sn _ _ 64 (mx_if_ne 72 67) from sn_175 64) (by omega) (fun q174 => ?_) (fun q174 => ?_)
          · skip
            have eq175 : Z141 60 61 = Z117 60 61 := (hf141 60 61 rfl)
            have eq176 : Z141 60 0 = Z117 60 0 := (hf141 60 0 rfl)
            have eq177 : Z141 60 1 = Z117 60 1 := (hf141 60 1 rfl)
            have eq178 : Z141 60 2 = Z117 60 2 := (hf141 60 2 rfl)
            exact c72 Z141 h141 (by omega) (by omega) (by omega) (by omega) (QR_le (rk141 (by omega)) (by decide)) (RM_e br141 (((un_b ((RM_is (k := 37) hr).mp (by omega))).trans (in_y hx5)).trans (ee_y (gt.mp (by omega))))) hx141 hG141 fr_rf
          · skip
            refine mx_J.step (sn_175 67) (fun _ _ => rfl) ?_
            refine JcI (z := 2) (show mx_Sn _ _ 68 (mx_const (.int 2) 69) from sn_175 68) rfl ?_
            have eq180 : Z141 56 11 = Z117 56 11 := (hf141 56 11 rfl)
            obtain ⟨Z179, h179, hc179, hx179, hG179, hf179, b179⟩ := ct_163_56 (g0 := g0) (T := T) (N := N) (sg := gEt T N 38 (trX T N (lvI T N (x0 + 1)) (gAd T N sg))) (d := d + 10) (l := l) (D := D) (b0 := b0) (ad := ad) (Hb := Hb) (tau := tau) hx141 hG141 (show 2 ≤ 2 ∧ 2 ≤ 4 by omega) br141
            try rw [eq180] at b179
            obtain ⟨br179, b179⟩ := b179
            have b181 : 0 ≤ Z179 56 11 ∧ Z179 56 11 ≤ 4 := hG179.pr 56 11
            have r179 : ¬ Z179 56 11 = 0 := by omega
            refine Jcv0 hx141 (show mx_Sn _ _ 69 (mx_callv 163 2 12 72) from sn_175 69) a56 s56 hc179 rfl rfl rfl ?_
            have eq182 : Z179 56 6 = Z141 56 6 := (hf179 56 6 rfl)
            have eq183 : Z179 56 7 = Z141 56 7 := (hf179 56 7 rfl)
            have eq184 : Z179 56 6 = Z141 56 6 := (hf179 56 6 rfl)
            have eq185 : Z179 56 7 = Z141 56 7 := (hf179 56 7 rfl)
            have eq186 : Z179 56 9 = Z141 56 9 := (hf179 56 9 rfl)
            have eq187 : Z179 56 6 = Z141 56 6 := (hf179 56 6 rfl)
            have eq188 : Z179 60 61 = Z117 60 61 := ((hf179 60 61 rfl).trans (hf141 60 61 rfl))
            have eq189 : Z179 60 0 = Z117 60 0 := ((hf179 60 0 rfl).trans (hf141 60 0 rfl))
            have eq190 : Z179 60 1 = Z117 60 1 := ((hf179 60 1 rfl).trans (hf141 60 1 rfl))
            have eq191 : Z179 60 2 = Z117 60 2 := ((hf179 60 2 rfl).trans (hf141 60 2 rfl))
            exact c72 Z179 h179 (by omega) (by omega) (by omega) (by omega) (QR_f r179) (RM_e br179 (((un_b ((RM_is (k := 37) hr).mp (by omega))).trans (in_y hx5)).trans (ee_n (fun q => by have := gt.mpr q; omega)))) hx179 hG179 (fr_tr (M := [(56, 11), (56, 12)]) fr_rf (hf179) (M1 := []) rfl rfl)
        · skip
          have eq192 : Z107 60 61 = Z 60 61 := (hf107 60 61 rfl)
          have b193 : 0 ≤ Z 60 61 ∧ Z 60 61 ≤ 900 := by have hq := GI_ex hG 60 61; replace hq : f60 (61 % 962) (Z 60 61) := hq; unfold f60 at hq; omega
          have b194 : (-2147483648) ≤ Z 60 61 ∧ Z 60 61 ≤ 2147483647 := hG.pr 60 61
          have eq195 : Z107 60 0 = Z 60 0 := (hf107 60 0 rfl)
          have b196 : (-2147483648) ≤ Z 60 0 ∧ Z 60 0 ≤ 2147483647 := hG.pr 60 0
          have eq197 : Z107 60 1 = Z 60 1 := (hf107 60 1 rfl)
          have b198 : 0 ≤ Z 60 1 ∧ Z 60 1 ≤ 18 := by have hq := GI_ex hG 60 1; replace hq : f60 (1 % 962) (Z 60 1) := hq; unfold f60 at hq; omega
          have b199 : (-2147483648) ≤ Z 60 1 ∧ Z 60 1 ≤ 2147483647 := hG.pr 60 1
          have eq200 : Z107 60 2 = Z 60 2 := (hf107 60 2 rfl)
          have b201 : 0 ≤ Z 60 2 ∧ Z 60 2 ≤ 18 := by have hq := GI_ex hG 60 2; replace hq : f60 (2 % 962) (Z 60 2) := hq; unfold f60 at hq; omega
          have b202 : (-2147483648) ≤ Z 60 2 ∧ Z 60 2 ≤ 2147483647 := hG.pr 60 2
          have eq203 : Z107 56 8 = Z 56 8 := (hf107 56 8 rfl)
          have eq204 : Z107 60 61 = Z 60 61 := (hf107 60 61 rfl)
          have eq205 : Z107 60 0 = Z 60 0 := (hf107 60 0 rfl)
          have eq206 : Z107 60 1 = Z 60 1 := (hf107 60 1 rfl)
          have eq207 : Z107 60 2 = Z 60 2 := (hf107 60 2 rfl)
          exact mx_J.ret (sn_175 50) (fun _ _ => rfl) (hP Z107 h107 hx107 hG107 (fr_tr (M := [(56, 6), (56, 7), (56, 9), (56, 10), (56, 11), (56, 12), (60, (-1))]) fr_rf (hf107) (M1 := []) rfl rfl) ⟨(RM_e br107 (((un_b ((RM_is (k := 37) hr).mp (by omega))).trans (in_n (by omega))).trans (gEn_n (by omega)).symm)), (QR_f (by omega)), by omega⟩)
    · skip
      refine mx_J.step (sn_175 9) (fun _ _ => rfl) ?_
      refine mx_J.step (sn_175 10) (fun _ _ => rfl) ?_
      have b209 : 0 ≤ Z 56 6 ∧ Z 56 6 ≤ 900 := hG.pr 56 6
      have b210 : 0 ≤ Z 56 7 ∧ Z 56 7 ≤ 900 := hG.pr 56 7
      have b211 : 0 ≤ Z 56 8 ∧ Z 56 8 ≤ 900 := hG.pr 56 8
      obtain ⟨z208, Z208, h208, hc208, hx208, hG208, hf208, b208⟩ := ct_170_56 (g0 := g0) (T := T) (N := N) (sg := sg) (d := d + 4) (l := l) (D := D) (b0 := b0) (ad := ad) (Hb := Hb) (tau := tau) hx hG (show 0 ≤ x0 ∧ x0 ≤ 6 by omega) (show (Z 56 6 ≤ Z 56 7 ∧ Z 56 7 ≤ Z 56 8 ∧ (Z 56 9 = 24 ∨ Z 56 6 < Z 56 7)) by omega) (show ¬ Z 56 9 = 24 by omega) hr
      obtain ⟨br208, b208⟩ := b208
      have b212 : 0 ≤ Z208 56 6 ∧ Z208 56 6 ≤ 900 := hG208.pr 56 6
      have b213 : 0 ≤ Z208 56 7 ∧ Z208 56 7 ≤ 900 := hG208.pr 56 7
      have b214 : 0 ≤ Z208 56 9 ∧ Z208 56 9 ≤ 100 := hG208.pr 56 9
      have b215 : 0 ≤ Z208 56 11 ∧ Z208 56 11 ≤ 4 := hG208.pr 56 11
      have r208 := QR_g (k := 1) (c2 := 1) (QR_rf (Z := Z) (a := a0)) (fun e => by omega) (fun i => hf208 60 i rfl) (fun e => by omega) (by decide)
      refine Jcv hx (show mx_Sn _ _ 11 (mx_callv 170 2 12 14) from sn_175 11) a56 s56 hc208 rfl rfl rfl ?_
      refine Jif_ne (show mx_Sn _ _ 14 (mx_if_ne 18 17) from sn_175 14) (by omega) (fun q216 => ?_) (fun q216 => ?_)
      · skip
        have hx5 : x0 ≤ 5 := by omega
        have rc217 : RM g0 T N Z208 (gAd T N sg) := RM_e br208 ((gEn_y (by omega)).symm)
        refine mx_J.step (sn_175 18) (fun _ _ => rfl) ?_
        refine mx_J.step (sn_175 19) (fun _ _ => rfl) ?_
        refine JcI (z := 1) (show mx_Sn _ _ 20 (mx_const (.int 1) 21) from sn_175 20) rfl ?_
        refine Jiadd (show mx_Sn _ _ 21 (mx_iadd 22) from sn_175 21) ?_
        have eq219 : Z208 56 8 = Z 56 8 := (hf208 56 8 rfl)
        have eq220 : Z208 60 61 = Z 60 61 := (hf208 60 61 rfl)
        have b221 : 0 ≤ Z 60 61 ∧ Z 60 61 ≤ 900 := by have hq := GI_ex hG 60 61; replace hq : f60 (61 % 962) (Z 60 61) := hq; unfold f60 at hq; omega
        have b222 : (-2147483648) ≤ Z 60 61 ∧ Z 60 61 ≤ 2147483647 := hG.pr 60 61
        have eq223 : Z208 60 0 = Z 60 0 := (hf208 60 0 rfl)
        have b224 : (-2147483648) ≤ Z 60 0 ∧ Z 60 0 ≤ 2147483647 := hG.pr 60 0
        have eq225 : Z208 60 1 = Z 60 1 := (hf208 60 1 rfl)
        have b226 : 0 ≤ Z 60 1 ∧ Z 60 1 ≤ 18 := by have hq := GI_ex hG 60 1; replace hq : f60 (1 % 962) (Z 60 1) := hq; unfold f60 at hq; omega
        have b227 : (-2147483648) ≤ Z 60 1 ∧ Z 60 1 ≤ 2147483647 := hG.pr 60 1
        have eq228 : Z208 60 2 = Z 60 2 := (hf208 60 2 rfl)
        have b229 : 0 ≤ Z 60 2 ∧ Z 60 2 ≤ 18 := by have hq := GI_ex hG 60 2; replace hq : f60 (2 % 962) (Z 60 2) := hq; unfold f60 at hq; omega
        have b230 : (-2147483648) ≤ Z 60 2 ∧ Z 60 2 ≤ 2147483647 := hG.pr 60 2
        obtain ⟨Z218, h218, hc218, hx218, hG218, hf218, b218⟩ := riR_175 IH (by omega) (hd := by omega) (a0 := a0) (g0 := g0) (T := T) (N := N) (sg := gAd T N sg) (d := d + 11) (l := l) (D := D) (b0 := b0) (ad := ad) (Hb := Hb) (tau := tau) hx208 hG208 (show 1 ≤ x0 + 1 ∧ x0 + 1 ≤ 6 by omega) (show (Z208 56 6 ≤ Z208 56 7 ∧ Z208 56 7 ≤ Z208 56 8 ∧ (Z208 56 9 = 24 ∨ Z208 56 6 < Z208 56 7)) by first | omega | (simp only [eq219, eq220, eq223, eq225, eq228]; omega)) (show Z208 60 61 ≤ Z208 56 6 by first | omega | (simp only [eq219, eq220, eq223, eq225, eq228]; omega)) (show a0 ≤ Z208 60 61 by first | omega | (simp only [eq219, eq220, eq223, eq225, eq228]; omega)) (show 0 ≤ a0 by first | omega | (simp only [eq219, eq220, eq223, eq225, eq228]; omega)) (show 0 ≤ g0 by first | omega | (simp only [eq219, eq220, eq223, eq225, eq228]; omega)) rc217
        try rw [eq219] at b218
        try rw [eq220] at b218
        try rw [eq223] at b218
        try rw [eq225] at b218
        try rw [eq228] at b218
        obtain ⟨br218, b218⟩ := b218
        obtain ⟨bq218, b218⟩ := b218
        have b231 : 0 ≤ Z218 56 6 ∧ Z218 56 6 ≤ 900 := hG218.pr 56 6
        have b232 : 0 ≤ Z218 56 7 ∧ Z218 56 7 ≤ 900 := hG218.pr 56 7
        have b233 : 0 ≤ Z218 56 9 ∧ Z218 56 9 ≤ 100 := hG218.pr 56 9
        have b234 : 0 ≤ Z218 56 11 ∧ Z218 56 11 ≤ 4 := hG218.pr 56 11
        have b235 : 0 ≤ Z218 60 61 ∧ Z218 60 61 ≤ 900 := by have hq := GI_ex hG218 60 61; replace hq : f60 (61 % 962) (Z218 60 61) := hq; unfold f60 at hq; omega
        have b236 : (-2147483648) ≤ Z218 60 61 ∧ Z218 60 61 ≤ 2147483647 := hG218.pr 60 61
        have b237 : (-2147483648) ≤ Z218 60 0 ∧ Z218 60 0 ≤ 2147483647 := hG218.pr 60 0
        have b238 : 0 ≤ Z218 60 1 ∧ Z218 60 1 ≤ 18 := by have hq := GI_ex hG218 60 1; replace hq : f60 (1 % 962) (Z218 60 1) := hq; unfold f60 at hq; omega
        have b239 : (-2147483648) ≤ Z218 60 1 ∧ Z218 60 1 ≤ 2147483647 := hG218.pr 60 1
        have b240 : 0 ≤ Z218 60 2 ∧ Z218 60 2 ≤ 18 := by have hq := GI_ex hG218 60 2; replace hq : f60 (2 % 962) (Z218 60 2) := hq; unfold f60 at hq; omega
        have b241 : (-2147483648) ≤ Z218 60 2 ∧ Z218 60 2 ≤ 2147483647 := hG218.pr 60 2
        have r218 := QR_tr (d := 1) (c := 1) r208 bq218 (by decide) (by decide) (by decide)
        refine Jcv0 hx208 (show mx_Sn _ _ 22 (mx_callv 175 2 12 25) from sn_175 22) a56 s56 hc218 rfl rfl rfl ?_
        refine mx_J.step (sn_175 25) (fun _ _ => rfl) ?_
        refine JcI (z := 3006) (show mx_Sn _ _ 26 (mx_const (.int 3006) 29) from sn_175 26) rfl ?_
        have eq243 : Z218 56 8 = Z 56 8 := ((hf218 56 8 rfl).trans (hf208 56 8 rfl))
        have rp242 := QR_n r218
        obtain ⟨Z242, h242, hc242, hx242, hG242, hf242, b242⟩ := ct_169_56_3006 (a0 := a0) (g0 := g0) (T := T) (N := N) (sg := unX T N (lvI T N (x0 + 1)) (gAd T N sg)) (d := d + 10) (l := l) (D := D) (b0 := b0) (ad := ad) (Hb := Hb) (tau := tau) hx218 hG218  (show (Z218 56 11 = 0 → Z218 60 61 ≤ 899) by first | omega | (simp only [eq243]; omega)) (show a0 ≤ Z218 60 61 by first | omega | (simp only [eq243]; omega)) (show 0 ≤ a0 by first | omega | (simp only [eq243]; omega)) (show 0 ≤ g0 by first | omega | (simp only [eq243]; omega)) br218
        try rw [eq243] at b242
        obtain ⟨br242, b242⟩ := b242
        obtain ⟨bq242, b242⟩ := b242
        have b244 : 0 ≤ Z242 60 61 ∧ Z242 60 61 ≤ 900 := by have hq := GI_ex hG242 60 61; replace hq : f60 (61 % 962) (Z242 60 61) := hq; unfold f60 at hq; omega
        have b245 : (-2147483648) ≤ Z242 60 61 ∧ Z242 60 61 ≤ 2147483647 := hG242.pr 60 61
        have b246 : (-2147483648) ≤ Z242 60 0 ∧ Z242 60 0 ≤ 2147483647 := hG242.pr 60 0
        have b247 : 0 ≤ Z242 60 1 ∧ Z242 60 1 ≤ 18 := by have hq := GI_ex hG242 60 1; replace hq : f60 (1 % 962) (Z242 60 1) := hq; unfold f60 at hq; omega
        have b248 : (-2147483648) ≤ Z242 60 1 ∧ Z242 60 1 ≤ 2147483647 := hG242.pr 60 1
        have b249 : 0 ≤ Z242 60 2 ∧ Z242 60 2 ≤ 18 := by have hq := GI_ex hG242 60 2; replace hq : f60 (2 % 962) (Z242 60 2) := hq; unfold f60 at hq; omega
        have b250 : (-2147483648) ≤ Z242 60 2 ∧ Z242 60 2 ≤ 2147483647 := hG242.pr 60 2
        have rn242 := QR_n r218
        have r242 := QR_c (d2 := 1) (c2 := 0) r218 bq242 (by omega) (hf242 56 11 rfl) (hf242 56 6 rfl) (by decide) (by decide) (by decide)
        refine Jcv0 hx218 (show mx_Sn _ _ 29 (mx_callv 169 2 12 32) from sn_175 29) a56 s56 hc242 rfl rfl rfl ?_
        have eq251 : Z242 56 6 = Z218 56 6 := (hf242 56 6 rfl)
        have eq252 : Z242 56 7 = Z218 56 7 := (hf242 56 7 rfl)
        have eq253 : Z242 56 9 = Z218 56 9 := (hf242 56 9 rfl)
        have eq254 : Z242 56 11 = Z218 56 11 := (hf242 56 11 rfl)
        have eq255 : Z242 56 6 = Z218 56 6 := (hf242 56 6 rfl)
        have eq256 : Z242 56 7 = Z218 56 7 := (hf242 56 7 rfl)
        have eq257 : Z242 56 8 = Z 56 8 := ((hf242 56 8 rfl).trans ((hf218 56 8 rfl).trans (hf208 56 8 rfl)))
        have eq258 : Z242 56 9 = Z218 56 9 := (hf242 56 9 rfl)
        have eq259 : Z242 56 11 = Z218 56 11 := (hf242 56 11 rfl)
        exact mx_J.ret (sn_175 32) (fun _ _ => rfl) (hP Z242 h242 hx242 hG242 (fr_tr (M := [(56, 6), (56, 7), (56, 9), (56, 10), (56, 11), (56, 12), (60, (-1))]) (fr_tr (M := [(56, 6), (56, 7), (56, 9), (56, 10), (56, 11), (56, 12), (60, (-1))]) (fr_tr (M := [(56, 6), (56, 7), (56, 9), (56, 10), (56, 11), (56, 12), (60, (-1))]) fr_rf (hf208) (M1 := []) rfl rfl) (hf218) rfl rfl) (hf242) rfl rfl) ⟨(RM_e br242 ((un_t ((RM_is (k := 15) hr).mp (by omega))).trans (in_y hx5))), (QR_le r242 (by decide)), by omega⟩)
      · skip
        have eq260 : Z208 60 61 = Z 60 61 := (hf208 60 61 rfl)
        have b261 : 0 ≤ Z 60 61 ∧ Z 60 61 ≤ 900 := by have hq := GI_ex hG 60 61; replace hq : f60 (61 % 962) (Z 60 61) := hq; unfold f60 at hq; omega
        have b262 : (-2147483648) ≤ Z 60 61 ∧ Z 60 61 ≤ 2147483647 := hG.pr 60 61
        have eq263 : Z208 60 0 = Z 60 0 := (hf208 60 0 rfl)
        have b264 : (-2147483648) ≤ Z 60 0 ∧ Z 60 0 ≤ 2147483647 := hG.pr 60 0
        have eq265 : Z208 60 1 = Z 60 1 := (hf208 60 1 rfl)
        have b266 : 0 ≤ Z 60 1 ∧ Z 60 1 ≤ 18 := by have hq := GI_ex hG 60 1; replace hq : f60 (1 % 962) (Z 60 1) := hq; unfold f60 at hq; omega
        have b267 : (-2147483648) ≤ Z 60 1 ∧ Z 60 1 ≤ 2147483647 := hG.pr 60 1
        have eq268 : Z208 60 2 = Z 60 2 := (hf208 60 2 rfl)
        have b269 : 0 ≤ Z 60 2 ∧ Z 60 2 ≤ 18 := by have hq := GI_ex hG 60 2; replace hq : f60 (2 % 962) (Z 60 2) := hq; unfold f60 at hq; omega
        have b270 : (-2147483648) ≤ Z 60 2 ∧ Z 60 2 ≤ 2147483647 := hG.pr 60 2
        have eq271 : Z208 56 8 = Z 56 8 := (hf208 56 8 rfl)
        have eq272 : Z208 60 61 = Z 60 61 := (hf208 60 61 rfl)
        have eq273 : Z208 60 0 = Z 60 0 := (hf208 60 0 rfl)
        have eq274 : Z208 60 1 = Z 60 1 := (hf208 60 1 rfl)
        have eq275 : Z208 60 2 = Z 60 2 := (hf208 60 2 rfl)
        exact mx_J.ret (sn_175 17) (fun _ _ => rfl) (hP Z208 h208 hx208 hG208 (fr_tr (M := [(56, 6), (56, 7), (56, 9), (56, 10), (56, 11), (56, 12), (60, (-1))]) fr_rf (hf208) (M1 := []) rfl rfl) ⟨(RM_e br208 (((un_t ((RM_is (k := 15) hr).mp (by omega))).trans (in_n (by omega))).trans (gEn_n (by omega)).symm)), (QR_f (by omega)), by omega⟩)
theorem ct_175_56_s {l : Launch} {D : va_G} {b0 : Nat} {ad : Nat → Nat} {Hb : Heap} {tau : Nat → Int64} {d n s : Nat} {S : Nat → xS} {Z : xZ} {h : mx_H} {a0 : Int} {g0 : Int} {T : Int → Int} {N : Int} {sg : SS} (hx : XH n s S Z h) (hG : GI n S Z)  {x0 : Int} (p0 : 0 ≤ x0 ∧ x0 ≤ 6) (k0 : (Z 56 6 ≤ Z 56 7 ∧ Z 56 7 ≤ Z 56 8 ∧ (Z 56 9 = 24 ∨ Z 56 6 < Z 56 7))) (k1 : Z 60 61 ≤ Z 56 6) (k2 : a0 ≤ Z 60 61) (k3 : 0 ≤ a0) (k4 : 0 ≤ g0) (hr : RM g0 T N Z sg) {kk : Nat} (IH : RBnh l D b0 ad Hb tau kk x0) (hd : kk ≤ d) : ∃ (Z' : xZ) (h' : mx_H), mx_Ca (tB l D b0 ad Hb tau) (d + 12) 175 [.ref 56, xI x0] h (none, h') ∧ XH n s S Z' h' ∧ GI n S Z' ∧ fr' [(56, 6), (56, 7), (56, 9), (56, 10), (56, 11), (56, 12), (60, (-1))] Z Z' ∧ (RM g0 T N Z' (unX T N (lvI T N x0) sg) ∧ QR Z Z' a0 1 0 ∧ ((Z' 56 6 ≤ Z' 56 7 ∧ Z' 56 7 ≤ Z 56 8 ∧ (Z' 56 9 = 24 ∨ Z' 56 6 < Z' 56 7)) ∧ Z' 60 0 = Z 60 0 ∧ Z' 60 1 = Z 60 1 ∧ Z' 60 2 = Z 60 2 ∧ Z 56 6 ≤ Z' 56 6 ∧ Z 60 61 ≤ Z' 60 61 ∧ Z' 60 61 - Z 60 61 ≤ Z' 56 6 - Z 56 6)) := by
  obtain ⟨r, hca, Z', h', e, q⟩ := Jmt (B := tB l D b0 ad Hb tau) (M := mt_175) (mi := 175) (as := [.ref 56, xI x0]) (d := d + 11) (ls := [some (.ref 56), some (xI x0), none]) rfl rfl rfl rfl rfl rfl (cw_175_56_s (l := l) (D := D) (b0 := b0) (ad := ad) (Hb := Hb) (tau := tau) (d := d) (Post := fun r => ∃ (Z' : xZ) (h' : mx_H), r = (none, h') ∧ XH n s S Z' h' ∧ GI n S Z' ∧ fr' [(56, 6), (56, 7), (56, 9), (56, 10), (56, 11), (56, 12), (60, (-1))] Z Z' ∧ (RM g0 T N Z' (unX T N (lvI T N x0) sg) ∧ QR Z Z' a0 1 0 ∧ ((Z' 56 6 ≤ Z' 56 7 ∧ Z' 56 7 ≤ Z 56 8 ∧ (Z' 56 9 = 24 ∨ Z' 56 6 < Z' 56 7)) ∧ Z' 60 0 = Z 60 0 ∧ Z' 60 1 = Z 60 1 ∧ Z' 60 2 = Z 60 2 ∧ Z 56 6 ≤ Z' 56 6 ∧ Z 60 61 ≤ Z' 60 61 ∧ Z' 60 61 - Z 60 61 ≤ Z' 56 6 - Z 56 6))) hx hG p0 k0 k1 k2 k3 k4 hr IH hd (fun Z' h' q1 q2 q3 q4 => ⟨Z', h', rfl, q1, q2, q3, q4⟩))
  subst e; exact ⟨Z', h', hca, q⟩
set_option maxHeartbeats 8000000 in
set_option maxRecDepth 100000 in
theorem cw_176_56_s {l : Launch} {D : va_G} {b0 : Nat} {ad : Nat → Nat} {Hb : Heap} {tau : Nat → Int64} {d n s : Nat} {S : Nat → xS} {Z : xZ} {h : mx_H} {Post : mx_R → Prop} {a0 : Int} {g0 : Int} {T : Int → Int} {N : Int} {sg : SS} (hx : XH n s S Z h) (hG : GI n S Z)  {x0 : Int} (p0 : 0 ≤ x0 ∧ x0 ≤ 6) (k0 : (Z 56 6 ≤ Z 56 7 ∧ Z 56 7 ≤ Z 56 8 ∧ (Z 56 9 = 24 ∨ Z 56 6 < Z 56 7))) (k1 : Z 60 61 ≤ Z 56 6) (k2 : a0 ≤ Z 60 61) (k3 : 0 ≤ a0) (k4 : 0 ≤ g0) (hr : RM g0 T N Z sg) {kk : Nat} (IH : RBnh l D b0 ad Hb tau kk x0) (hd : kk ≤ d) (hP : ∀ (Z' : xZ) (h' : mx_H), XH n s S Z' h' → GI n S Z' → fr' [(56, 6), (56, 7), (56, 9), (56, 10), (56, 11), (56, 12), (60, (-1))] Z Z' → RM g0 T N Z' (boX T N (lvI T N x0) sg) ∧ QR Z Z' a0 1 0 ∧ ((Z' 56 6 ≤ Z' 56 7 ∧ Z' 56 7 ≤ Z 56 8 ∧ (Z' 56 9 = 24 ∨ Z' 56 6 < Z' 56 7)) ∧ Z' 60 0 = Z 60 0 ∧ Z' 60 1 = Z 60 1 ∧ Z' 60 2 = Z 60 2 ∧ Z 56 6 ≤ Z' 56 6 ∧ Z 60 61 ≤ Z' 60 61 ∧ Z' 60 61 - Z 60 61 ≤ Z' 56 6 - Z 56 6) → Post (none, h')) : mx_J (tB l D b0 ad Hb tau) mt_176 (d + 12) 0 [some (.ref 56), some (xI x0)] [] h Post := by
    have a56 : 56 < n := lt83 (GI_n hG) rfl
    have s56 : S 56 = .inl (12, [0, 2, 2, 2, 2, 0, 0, 0, 0, 0, 0, 0, 0, 0, 0, 2, 2, 2, 0, 2, 2, 2, 0, 0, 2, 2, 2, 2, 2, 2, 0, 0, 2, 2, 2, 2, 2, 2, 2, 2, 2, 2]) := GI_s hG 56 rfl
    refine mx_J.step (sn_176 0) (fun _ _ => rfl) ?_
    refine mx_J.step (sn_176 1) (fun _ _ => rfl) ?_
    have b2 : 0 ≤ Z 56 6 ∧ Z 56 6 ≤ 900 := hG.pr 56 6
    have b3 : 0 ≤ Z 56 7 ∧ Z 56 7 ≤ 900 := hG.pr 56 7
    have b4 : 0 ≤ Z 56 8 ∧ Z 56 8 ≤ 900 := hG.pr 56 8
    have b5 : 0 ≤ Z 56 9 ∧ Z 56 9 ≤ 100 := hG.pr 56 9
    have b6 : 0 ≤ Z 56 11 ∧ Z 56 11 ≤ 4 := hG.pr 56 11
    have b7 : 0 ≤ Z 60 61 ∧ Z 60 61 ≤ 900 := by have hq := GI_ex hG 60 61; replace hq : f60 (61 % 962) (Z 60 61) := hq; unfold f60 at hq; omega
    have b8 : (-2147483648) ≤ Z 60 61 ∧ Z 60 61 ≤ 2147483647 := hG.pr 60 61
    have b9 : (-2147483648) ≤ Z 60 0 ∧ Z 60 0 ≤ 2147483647 := hG.pr 60 0
    have b10 : 0 ≤ Z 60 1 ∧ Z 60 1 ≤ 18 := by have hq := GI_ex hG 60 1; replace hq : f60 (1 % 962) (Z 60 1) := hq; unfold f60 at hq; omega
    have b11 : (-2147483648) ≤ Z 60 1 ∧ Z 60 1 ≤ 2147483647 := hG.pr 60 1
    have b12 : 0 ≤ Z 60 2 ∧ Z 60 2 ≤ 18 := by have hq := GI_ex hG 60 2; replace hq : f60 (2 % 962) (Z 60 2) := hq; unfold f60 at hq; omega
    have b13 : (-2147483648) ≤ Z 60 2 ∧ Z 60 2 ≤ 2147483647 := hG.pr 60 2
    obtain ⟨Z1, h1, hc1, hx1, hG1, hf1, b1⟩ := ct_175_56_s (a0 := a0) (g0 := g0) (T := T) (N := N) (sg := sg) (d := d + 0) (l := l) (D := D) (b0 := b0) (ad := ad) (Hb := Hb) (tau := tau) hx hG (show 0 ≤ x0 ∧ x0 ≤ 6 by omega) (show (Z 56 6 ≤ Z 56 7 ∧ Z 56 7 ≤ Z 56 8 ∧ (Z 56 9 = 24 ∨ Z 56 6 < Z 56 7)) by omega) (show Z 60 61 ≤ Z 56 6 by omega) (show a0 ≤ Z 60 61 by omega) (show 0 ≤ a0 by omega) (show 0 ≤ g0 by omega) hr IH (by omega)
    obtain ⟨br1, b1⟩ := b1
    obtain ⟨bq1, b1⟩ := b1
    have b14 : 0 ≤ Z1 56 6 ∧ Z1 56 6 ≤ 900 := hG1.pr 56 6
    have b15 : 0 ≤ Z1 56 7 ∧ Z1 56 7 ≤ 900 := hG1.pr 56 7
    have b16 : 0 ≤ Z1 56 9 ∧ Z1 56 9 ≤ 100 := hG1.pr 56 9
    have b17 : 0 ≤ Z1 56 11 ∧ Z1 56 11 ≤ 4 := hG1.pr 56 11
    have b18 : 0 ≤ Z1 60 61 ∧ Z1 60 61 ≤ 900 := by have hq := GI_ex hG1 60 61; replace hq : f60 (61 % 962) (Z1 60 61) := hq; unfold f60 at hq; omega
    have b19 : (-2147483648) ≤ Z1 60 61 ∧ Z1 60 61 ≤ 2147483647 := hG1.pr 60 61
    have b20 : (-2147483648) ≤ Z1 60 0 ∧ Z1 60 0 ≤ 2147483647 := hG1.pr 60 0
    have b21 : 0 ≤ Z1 60 1 ∧ Z1 60 1 ≤ 18 := by have hq := GI_ex hG1 60 1; replace hq : f60 (1 % 962) (Z1 60 1) := hq; unfold f60 at hq; omega
    have b22 : (-2147483648) ≤ Z1 60 1 ∧ Z1 60 1 ≤ 2147483647 := hG1.pr 60 1
    have b23 : 0 ≤ Z1 60 2 ∧ Z1 60 2 ≤ 18 := by have hq := GI_ex hG1 60 2; replace hq : f60 (2 % 962) (Z1 60 2) := hq; unfold f60 at hq; omega
    have b24 : (-2147483648) ≤ Z1 60 2 ∧ Z1 60 2 ≤ 2147483647 := hG1.pr 60 2
    have r1 := QR_tr (d := 1) (c := 0) (QR_rf (Z := Z) (a := a0)) bq1 (by decide) (by decide) (by decide)
    refine Jcv0 hx (show mx_Sn _ _ 2 (mx_callv 175 2 12 5) from sn_176 2) a56 s56 hc1 rfl rfl rfl ?_
    have c5 : ∀ (m25 : Nat) (sg25 : SS) (Z26 : xZ) (h26 : mx_H), (((Z 56 8 - Z26 56 6).toNat : Nat) : Int) < (m25 : Int) → RM g0 T N Z26 sg25 → (Z26 56 6 ≤ Z26 56 7 ∧ Z26 56 7 ≤ Z 56 8) → (Z26 56 9 = 24 ∨ Z26 56 6 < Z26 56 7) → (Z 56 6 ≤ Z26 56 6 ∧ Z 60 61 ≤ Z26 60 61 ∧ Z26 60 61 - Z 60 61 ≤ Z26 56 6 - Z 56 6) → (Z26 60 0 = Z 60 0 ∧ Z26 60 1 = Z 60 1 ∧ Z26 60 2 = Z 60 2) → QR Z Z26 a0 1 0 → boL T N (lvI T N x0) sg25 = boX T N (lvI T N x0) sg → XH n s S Z26 h26 → GI n S Z26 → fr' [(56, 6), (56, 7), (56, 9), (56, 10), (56, 11), (56, 12), (60, (-1))] Z1 Z26 → mx_J (tB l D b0 ad Hb tau) mt_176 (d + 12) 5 [some (.ref 56), some (xI x0)] [] h26 Post := by
      intro m25
      induction m25 with
      | zero => intro sg25 Z26 h26 q25 f25_0 f25_1 f25_2 f25_3 f25_4 f25_5 f25_6 hx26 hG26 hf26; exact absurd q25 (by omega)
      | succ m25 ih25 =>
        intro sg25 Z26 h26 q25 f25_0 f25_1 f25_2 f25_3 f25_4 f25_5 f25_6 hx26 hG26 hf26
        have b27 : 0 ≤ Z26 56 6 ∧ Z26 56 6 ≤ 900 := hG26.pr 56 6
        have b28 : 0 ≤ Z26 56 7 ∧ Z26 56 7 ≤ 900 := hG26.pr 56 7
        have b29 : 0 ≤ Z26 56 9 ∧ Z26 56 9 ≤ 100 := hG26.pr 56 9
        have b30 : 0 ≤ Z26 60 61 ∧ Z26 60 61 ≤ 900 := by have hq := GI_ex hG26 60 61; replace hq : f60 (61 % 962) (Z26 60 61) := hq; unfold f60 at hq; omega
        have b31 : (-2147483648) ≤ Z26 60 61 ∧ Z26 60 61 ≤ 2147483647 := hG26.pr 60 61
        have b32 : (-2147483648) ≤ Z26 60 0 ∧ Z26 60 0 ≤ 2147483647 := hG26.pr 60 0
        have b33 : 0 ≤ Z26 60 1 ∧ Z26 60 1 ≤ 18 := by have hq := GI_ex hG26 60 1; replace hq : f60 (1 % 962) (Z26 60 1) := hq; unfold f60 at hq; omega
        have b34 : (-2147483648) ≤ Z26 60 1 ∧ Z26 60 1 ≤ 2147483647 := hG26.pr 60 1
        have b35 : 0 ≤ Z26 60 2 ∧ Z26 60 2 ≤ 18 := by have hq := GI_ex hG26 60 2; replace hq : f60 (2 % 962) (Z26 60 2) := hq; unfold f60 at hq; omega
        have b36 : (-2147483648) ≤ Z26 60 2 ∧ Z26 60 2 ≤ 2147483647 := hG26.pr 60 2
        refine mx_J.step (sn_176 5) (fun _ _ => rfl) ?_
        refine JcI (z := 13) (show mx_Sn _ _ 6 (mx_const (.int 13) 8) from sn_176 6) rfl ?_
        have gt := RM_is (k := 13) f25_0
        have gn := RM_N f25_0
        have eq38 : Z26 56 8 = Z 56 8 := ((hf26 56 8 rfl).trans (hf1 56 8 rfl))
        have b39 : 0 ≤ Z26 56 11 ∧ Z26 56 11 ≤ 4 := hG26.pr 56 11
        obtain ⟨z37, Z37, h37, hc37, hx37, hG37, hf37, b37⟩ := ct_165_56 (g0 := g0) (T := T) (N := N) (sg := sg25) (d := d + 5) (l := l) (D := D) (b0 := b0) (ad := ad) (Hb := Hb) (tau := tau) hx26 hG26 (show 0 ≤ 13 ∧ 13 ≤ 100 by omega) (show (Z26 56 6 ≤ Z26 56 7 ∧ Z26 56 7 ≤ Z26 56 8 ∧ (Z26 56 9 = 24 ∨ Z26 56 6 < Z26 56 7)) by first | omega | (simp only [eq38]; omega)) (show ¬ 13 = 24 by first | omega | (simp only [eq38]; omega)) f25_0
        try rw [eq38] at b37
        obtain ⟨br37, b37⟩ := b37
        have b40 : 0 ≤ Z37 56 6 ∧ Z37 56 6 ≤ 900 := hG37.pr 56 6
        have b41 : 0 ≤ Z37 56 7 ∧ Z37 56 7 ≤ 900 := hG37.pr 56 7
        have b42 : 0 ≤ Z37 56 9 ∧ Z37 56 9 ≤ 100 := hG37.pr 56 9
        have r37 := QR_g (k := 0) (c2 := 0) f25_5 (fun e => (hf37 56 11 rfl).symm.trans e) (fun i => hf37 60 i rfl) (fun e => by omega) (by decide)
        have rk37 : z37 = 1 → QR Z Z37 a0 1 1 := fun ez => QR_g (k := 1) f25_5 (fun e => (hf37 56 11 rfl).symm.trans e) (fun i => hf37 60 i rfl) (fun e => by omega) (by decide)
        refine Jcv hx26 (show mx_Sn _ _ 8 (mx_callv 165 2 12 11) from sn_176 8) a56 s56 hc37 rfl rfl rfl ?_
        refine Jif_eq (show mx_Sn _ _ 11 (mx_if_eq 29 14) from sn_176 11) (by omega) (fun q43 => ?_) (fun q43 => ?_)
        · skip
          have eq44 : Z37 56 11 = Z26 56 11 := (hf37 56 11 rfl)
          have eq45 : Z37 60 61 = Z26 60 61 := (hf37 60 61 rfl)
          have eq46 : Z37 60 0 = Z26 60 0 := (hf37 60 0 rfl)
          have eq47 : Z37 60 1 = Z26 60 1 := (hf37 60 1 rfl)
          have eq48 : Z37 60 2 = Z26 60 2 := (hf37 60 2 rfl)
          have eq49 : Z37 56 8 = Z 56 8 := ((hf37 56 8 rfl).trans ((hf26 56 8 rfl).trans (hf1 56 8 rfl)))
          have eq50 : Z37 56 11 = Z26 56 11 := (hf37 56 11 rfl)
          have eq51 : Z37 60 61 = Z26 60 61 := (hf37 60 61 rfl)
          have eq52 : Z37 60 0 = Z26 60 0 := (hf37 60 0 rfl)
          have eq53 : Z37 60 1 = Z26 60 1 := (hf37 60 1 rfl)
          have eq54 : Z37 60 2 = Z26 60 2 := (hf37 60 2 rfl)
          exact mx_J.ret (sn_176 29) (fun _ _ => rfl) (hP Z37 h37 hx37 hG37 (fr_tr (M := [(56, 6), (56, 7), (56, 9), (56, 10), (56, 11), (56, 12), (60, (-1))]) (fr_tr (M := [(56, 6), (56, 7), (56, 9), (56, 10), (56, 11), (56, 12), (60, (-1))]) (fr_tr (M := [(56, 6), (56, 7), (56, 9), (56, 10), (56, 11), (56, 12), (60, (-1))]) fr_rf (hf1) (M1 := []) rfl rfl) (hf26) rfl rfl) (hf37) rfl rfl) ⟨(RM_e br37 (((by assumption : boL T N (lvI T N x0) sg25 = boX T N (lvI T N x0) sg).symm.trans (boL_n (fun q => by have := gt.mpr q; omega))).trans (gEt_n (fun q => by have := gt.mpr q; omega)).symm)), (QR_le r37 (by decide)), by omega⟩)
        · skip
          have rc55 : RM g0 T N Z37 (gAd T N sg25) := RM_e br37 ((gEt_y (gt.mp (by omega))).symm)
          refine mx_J.step (sn_176 14) (fun _ _ => rfl) ?_
          refine mx_J.step (sn_176 15) (fun _ _ => rfl) ?_
          have eq57 : Z37 56 8 = Z 56 8 := ((hf37 56 8 rfl).trans ((hf26 56 8 rfl).trans (hf1 56 8 rfl)))
          have eq58 : Z37 56 11 = Z26 56 11 := (hf37 56 11 rfl)
          have eq59 : Z37 60 61 = Z26 60 61 := (hf37 60 61 rfl)
          have eq60 : Z37 60 0 = Z26 60 0 := (hf37 60 0 rfl)
          have eq61 : Z37 60 1 = Z26 60 1 := (hf37 60 1 rfl)
          have eq62 : Z37 60 2 = Z26 60 2 := (hf37 60 2 rfl)
          obtain ⟨Z56, h56, hc56, hx56, hG56, hf56, b56⟩ := ct_175_56_s (a0 := a0) (g0 := g0) (T := T) (N := N) (sg := gAd T N sg25) (d := d + 0) (l := l) (D := D) (b0 := b0) (ad := ad) (Hb := Hb) (tau := tau) hx37 hG37 (show 0 ≤ x0 ∧ x0 ≤ 6 by omega) (show (Z37 56 6 ≤ Z37 56 7 ∧ Z37 56 7 ≤ Z37 56 8 ∧ (Z37 56 9 = 24 ∨ Z37 56 6 < Z37 56 7)) by first | omega | (simp only [eq57, eq58, eq59, eq60, eq61, eq62]; omega)) (show Z37 60 61 ≤ Z37 56 6 by first | omega | (simp only [eq57, eq58, eq59, eq60, eq61, eq62]; omega)) (show a0 ≤ Z37 60 61 by first | omega | (simp only [eq57, eq58, eq59, eq60, eq61, eq62]; omega)) (show 0 ≤ a0 by first | omega | (simp only [eq57, eq58, eq59, eq60, eq61, eq62]; omega)) (show 0 ≤ g0 by first | omega | (simp only [eq57, eq58, eq59, eq60, eq61, eq62]; omega)) rc55 IH (by omega)
          try rw [eq57] at b56
          try rw [eq58] at b56
          try rw [eq59] at b56
          try rw [eq60] at b56
          try rw [eq61] at b56
          try rw [eq62] at b56
          obtain ⟨br56, b56⟩ := b56
          obtain ⟨bq56, b56⟩ := b56
          have b63 : 0 ≤ Z56 56 6 ∧ Z56 56 6 ≤ 900 := hG56.pr 56 6
          have b64 : 0 ≤ Z56 56 7 ∧ Z56 56 7 ≤ 900 := hG56.pr 56 7
          have b65 : 0 ≤ Z56 56 9 ∧ Z56 56 9 ≤ 100 := hG56.pr 56 9
          have b66 : 0 ≤ Z56 56 11 ∧ Z56 56 11 ≤ 4 := hG56.pr 56 11
          have b67 : 0 ≤ Z56 60 61 ∧ Z56 60 61 ≤ 900 := by have hq := GI_ex hG56 60 61; replace hq : f60 (61 % 962) (Z56 60 61) := hq; unfold f60 at hq; omega
          have b68 : (-2147483648) ≤ Z56 60 61 ∧ Z56 60 61 ≤ 2147483647 := hG56.pr 60 61
          have b69 : (-2147483648) ≤ Z56 60 0 ∧ Z56 60 0 ≤ 2147483647 := hG56.pr 60 0
          have b70 : 0 ≤ Z56 60 1 ∧ Z56 60 1 ≤ 18 := by have hq := GI_ex hG56 60 1; replace hq : f60 (1 % 962) (Z56 60 1) := hq; unfold f60 at hq; omega
          have b71 : (-2147483648) ≤ Z56 60 1 ∧ Z56 60 1 ≤ 2147483647 := hG56.pr 60 1
          have b72 : 0 ≤ Z56 60 2 ∧ Z56 60 2 ≤ 18 := by have hq := GI_ex hG56 60 2; replace hq : f60 (2 % 962) (Z56 60 2) := hq; unfold f60 at hq; omega
          have b73 : (-2147483648) ≤ Z56 60 2 ∧ Z56 60 2 ≤ 2147483647 := hG56.pr 60 2
          have r56 := QR_tr (d := 2) (c := 1) (rk37 (by omega)) bq56 (by decide) (by decide) (by decide)
          refine Jcv0 hx37 (show mx_Sn _ _ 16 (mx_callv 175 2 12 19) from sn_176 16) a56 s56 hc56 rfl rfl rfl ?_
          refine mx_J.step (sn_176 19) (fun _ _ => rfl) ?_
          refine JcI (z := 3007) (show mx_Sn _ _ 20 (mx_const (.int 3007) 23) from sn_176 20) rfl ?_
          have eq75 : Z56 56 8 = Z 56 8 := ((hf56 56 8 rfl).trans ((hf37 56 8 rfl).trans ((hf26 56 8 rfl).trans (hf1 56 8 rfl))))
          have rp74 := QR_n r56
          obtain ⟨Z74, h74, hc74, hx74, hG74, hf74, b74⟩ := ct_169_56_3007 (a0 := a0) (g0 := g0) (T := T) (N := N) (sg := unX T N (lvI T N x0) (gAd T N sg25)) (d := d + 11) (l := l) (D := D) (b0 := b0) (ad := ad) (Hb := Hb) (tau := tau) hx56 hG56  (show (Z56 56 11 = 0 → Z56 60 61 ≤ 899) by first | omega | (simp only [eq75]; omega)) (show a0 ≤ Z56 60 61 by first | omega | (simp only [eq75]; omega)) (show 0 ≤ a0 by first | omega | (simp only [eq75]; omega)) (show 0 ≤ g0 by first | omega | (simp only [eq75]; omega)) br56
          try rw [eq75] at b74
          obtain ⟨br74, b74⟩ := b74
          obtain ⟨bq74, b74⟩ := b74
          have b76 : 0 ≤ Z74 60 61 ∧ Z74 60 61 ≤ 900 := by have hq := GI_ex hG74 60 61; replace hq : f60 (61 % 962) (Z74 60 61) := hq; unfold f60 at hq; omega
          have b77 : (-2147483648) ≤ Z74 60 61 ∧ Z74 60 61 ≤ 2147483647 := hG74.pr 60 61
          have b78 : (-2147483648) ≤ Z74 60 0 ∧ Z74 60 0 ≤ 2147483647 := hG74.pr 60 0
          have b79 : 0 ≤ Z74 60 1 ∧ Z74 60 1 ≤ 18 := by have hq := GI_ex hG74 60 1; replace hq : f60 (1 % 962) (Z74 60 1) := hq; unfold f60 at hq; omega
          have b80 : (-2147483648) ≤ Z74 60 1 ∧ Z74 60 1 ≤ 2147483647 := hG74.pr 60 1
          have b81 : 0 ≤ Z74 60 2 ∧ Z74 60 2 ≤ 18 := by have hq := GI_ex hG74 60 2; replace hq : f60 (2 % 962) (Z74 60 2) := hq; unfold f60 at hq; omega
          have b82 : (-2147483648) ≤ Z74 60 2 ∧ Z74 60 2 ≤ 2147483647 := hG74.pr 60 2
          have rn74 := QR_n r56
          have r74 := QR_c (d2 := 1) (c2 := 0) r56 bq74 (by omega) (hf74 56 11 rfl) (hf74 56 6 rfl) (by decide) (by decide) (by decide)
          refine Jcv0 hx56 (show mx_Sn _ _ 23 (mx_callv 169 2 12 26) from sn_176 23) a56 s56 hc74 rfl rfl rfl ?_
          refine mx_J.step (sn_176 26) (fun _ _ => rfl) ?_
          have eq83 : Z74 56 6 = Z56 56 6 := (hf74 56 6 rfl)
          have eq84 : Z74 56 7 = Z56 56 7 := (hf74 56 7 rfl)
          have eq85 : Z74 56 6 = Z56 56 6 := (hf74 56 6 rfl)
          have eq86 : Z74 56 7 = Z56 56 7 := (hf74 56 7 rfl)
          have eq87 : Z74 56 9 = Z56 56 9 := (hf74 56 9 rfl)
          have eq88 : Z74 56 6 = Z56 56 6 := (hf74 56 6 rfl)
          have eq89 : Z74 56 6 = Z56 56 6 := (hf74 56 6 rfl)
          exact ih25 (gEm (1016) (unX T N (lvI T N x0) (gAd T N sg25))) Z74 h74 (by omega) br74 (by omega) (by omega) (by omega) (by omega) (QR_le r74 (by decide)) ((boL_s (lvI_go _) gn (gt.mp (by omega))).symm.trans (by assumption)) hx74 hG74 (fr_tr (M := [(56, 6), (56, 7), (56, 9), (56, 10), (56, 11), (56, 12), (60, (-1))]) (fr_tr (M := [(56, 6), (56, 7), (56, 9), (56, 10), (56, 11), (56, 12), (60, (-1))]) (fr_tr (M := [(56, 6), (56, 7), (56, 9), (56, 10), (56, 11), (56, 12), (60, (-1))]) (fr_tr (M := [(56, 6), (56, 7), (56, 9), (56, 10), (56, 11), (56, 12), (60, (-1))]) fr_rf (hf26) (M1 := []) rfl rfl) (hf37) rfl rfl) (hf56) rfl rfl) (hf74) rfl rfl)
    exact c5 (Int.toNat ((((Z 56 8 - Z1 56 6).toNat : Nat) : Int)) + 1) (unX T N (lvI T N x0) sg) Z1 h1 (by omega) br1 (by omega) (by omega) (by omega) (by omega) (QR_le r1 (by decide)) (rfl) hx1 hG1 fr_rf
theorem ct_176_56_s {l : Launch} {D : va_G} {b0 : Nat} {ad : Nat → Nat} {Hb : Heap} {tau : Nat → Int64} {d n s : Nat} {S : Nat → xS} {Z : xZ} {h : mx_H} {a0 : Int} {g0 : Int} {T : Int → Int} {N : Int} {sg : SS} (hx : XH n s S Z h) (hG : GI n S Z)  {x0 : Int} (p0 : 0 ≤ x0 ∧ x0 ≤ 6) (k0 : (Z 56 6 ≤ Z 56 7 ∧ Z 56 7 ≤ Z 56 8 ∧ (Z 56 9 = 24 ∨ Z 56 6 < Z 56 7))) (k1 : Z 60 61 ≤ Z 56 6) (k2 : a0 ≤ Z 60 61) (k3 : 0 ≤ a0) (k4 : 0 ≤ g0) (hr : RM g0 T N Z sg) {kk : Nat} (IH : RBnh l D b0 ad Hb tau kk x0) (hd : kk ≤ d) : ∃ (Z' : xZ) (h' : mx_H), mx_Ca (tB l D b0 ad Hb tau) (d + 13) 176 [.ref 56, xI x0] h (none, h') ∧ XH n s S Z' h' ∧ GI n S Z' ∧ fr' [(56, 6), (56, 7), (56, 9), (56, 10), (56, 11), (56, 12), (60, (-1))] Z Z' ∧ (RM g0 T N Z' (boX T N (lvI T N x0) sg) ∧ QR Z Z' a0 1 0 ∧ ((Z' 56 6 ≤ Z' 56 7 ∧ Z' 56 7 ≤ Z 56 8 ∧ (Z' 56 9 = 24 ∨ Z' 56 6 < Z' 56 7)) ∧ Z' 60 0 = Z 60 0 ∧ Z' 60 1 = Z 60 1 ∧ Z' 60 2 = Z 60 2 ∧ Z 56 6 ≤ Z' 56 6 ∧ Z 60 61 ≤ Z' 60 61 ∧ Z' 60 61 - Z 60 61 ≤ Z' 56 6 - Z 56 6)) := by
  obtain ⟨r, hca, Z', h', e, q⟩ := Jmt (B := tB l D b0 ad Hb tau) (M := mt_176) (mi := 176) (as := [.ref 56, xI x0]) (d := d + 12) (ls := [some (.ref 56), some (xI x0)]) rfl rfl rfl rfl rfl rfl (cw_176_56_s (l := l) (D := D) (b0 := b0) (ad := ad) (Hb := Hb) (tau := tau) (d := d) (Post := fun r => ∃ (Z' : xZ) (h' : mx_H), r = (none, h') ∧ XH n s S Z' h' ∧ GI n S Z' ∧ fr' [(56, 6), (56, 7), (56, 9), (56, 10), (56, 11), (56, 12), (60, (-1))] Z Z' ∧ (RM g0 T N Z' (boX T N (lvI T N x0) sg) ∧ QR Z Z' a0 1 0 ∧ ((Z' 56 6 ≤ Z' 56 7 ∧ Z' 56 7 ≤ Z 56 8 ∧ (Z' 56 9 = 24 ∨ Z' 56 6 < Z' 56 7)) ∧ Z' 60 0 = Z 60 0 ∧ Z' 60 1 = Z 60 1 ∧ Z' 60 2 = Z 60 2 ∧ Z 56 6 ≤ Z' 56 6 ∧ Z 60 61 ≤ Z' 60 61 ∧ Z' 60 61 - Z 60 61 ≤ Z' 56 6 - Z 56 6))) hx hG p0 k0 k1 k2 k3 k4 hr IH hd (fun Z' h' q1 q2 q3 q4 => ⟨Z', h', rfl, q1, q2, q3, q4⟩))
  subst e; exact ⟨Z', h', hca, q⟩
set_option maxHeartbeats 8000000 in
set_option maxRecDepth 100000 in
theorem cw_177_56_s {l : Launch} {D : va_G} {b0 : Nat} {ad : Nat → Nat} {Hb : Heap} {tau : Nat → Int64} {d n s : Nat} {S : Nat → xS} {Z : xZ} {h : mx_H} {Post : mx_R → Prop} {a0 : Int} {g0 : Int} {T : Int → Int} {N : Int} {sg : SS} (hx : XH n s S Z h) (hG : GI n S Z)  {x0 : Int} (p0 : 0 ≤ x0 ∧ x0 ≤ 6) (k0 : (Z 56 6 ≤ Z 56 7 ∧ Z 56 7 ≤ Z 56 8 ∧ (Z 56 9 = 24 ∨ Z 56 6 < Z 56 7))) (k1 : Z 60 61 ≤ Z 56 6) (k2 : a0 ≤ Z 60 61) (k3 : 0 ≤ a0) (k4 : 0 ≤ g0) (hr : RM g0 T N Z sg) {kk : Nat} (IH : RBnh l D b0 ad Hb tau kk x0) (hd : kk ≤ d) (hP : ∀ (Z' : xZ) (h' : mx_H), XH n s S Z' h' → GI n S Z' → fr' [(56, 6), (56, 7), (56, 9), (56, 10), (56, 11), (56, 12), (60, (-1))] Z Z' → RM g0 T N Z' (trX T N (lvI T N x0) sg) ∧ QR Z Z' a0 1 0 ∧ ((Z' 56 6 ≤ Z' 56 7 ∧ Z' 56 7 ≤ Z 56 8 ∧ (Z' 56 9 = 24 ∨ Z' 56 6 < Z' 56 7)) ∧ Z' 60 0 = Z 60 0 ∧ Z' 60 1 = Z 60 1 ∧ Z' 60 2 = Z 60 2 ∧ Z 56 6 ≤ Z' 56 6 ∧ Z 60 61 ≤ Z' 60 61 ∧ Z' 60 61 - Z 60 61 ≤ Z' 56 6 - Z 56 6) → Post (none, h')) : mx_J (tB l D b0 ad Hb tau) mt_177 (d + 13) 0 [some (.ref 56), some (xI x0)] [] h Post := by
    have a56 : 56 < n := lt83 (GI_n hG) rfl
    have s56 : S 56 = .inl (12, [0, 2, 2, 2, 2, 0, 0, 0, 0, 0, 0, 0, 0, 0, 0, 2, 2, 2, 0, 2, 2, 2, 0, 0, 2, 2, 2, 2, 2, 2, 0, 0, 2, 2, 2, 2, 2, 2, 2, 2, 2, 2]) := GI_s hG 56 rfl
    refine mx_J.step (sn_177 0) (fun _ _ => rfl) ?_
    refine mx_J.step (sn_177 1) (fun _ _ => rfl) ?_
    have b2 : 0 ≤ Z 56 6 ∧ Z 56 6 ≤ 900 := hG.pr 56 6
    have b3 : 0 ≤ Z 56 7 ∧ Z 56 7 ≤ 900 := hG.pr 56 7
    have b4 : 0 ≤ Z 56 8 ∧ Z 56 8 ≤ 900 := hG.pr 56 8
    have b5 : 0 ≤ Z 56 9 ∧ Z 56 9 ≤ 100 := hG.pr 56 9
    have b6 : 0 ≤ Z 56 11 ∧ Z 56 11 ≤ 4 := hG.pr 56 11
    have b7 : 0 ≤ Z 60 61 ∧ Z 60 61 ≤ 900 := by have hq := GI_ex hG 60 61; replace hq : f60 (61 % 962) (Z 60 61) := hq; unfold f60 at hq; omega
    have b8 : (-2147483648) ≤ Z 60 61 ∧ Z 60 61 ≤ 2147483647 := hG.pr 60 61
    have b9 : (-2147483648) ≤ Z 60 0 ∧ Z 60 0 ≤ 2147483647 := hG.pr 60 0
    have b10 : 0 ≤ Z 60 1 ∧ Z 60 1 ≤ 18 := by have hq := GI_ex hG 60 1; replace hq : f60 (1 % 962) (Z 60 1) := hq; unfold f60 at hq; omega
    have b11 : (-2147483648) ≤ Z 60 1 ∧ Z 60 1 ≤ 2147483647 := hG.pr 60 1
    have b12 : 0 ≤ Z 60 2 ∧ Z 60 2 ≤ 18 := by have hq := GI_ex hG 60 2; replace hq : f60 (2 % 962) (Z 60 2) := hq; unfold f60 at hq; omega
    have b13 : (-2147483648) ≤ Z 60 2 ∧ Z 60 2 ≤ 2147483647 := hG.pr 60 2
    obtain ⟨Z1, h1, hc1, hx1, hG1, hf1, b1⟩ := ct_176_56_s (a0 := a0) (g0 := g0) (T := T) (N := N) (sg := sg) (d := d + 0) (l := l) (D := D) (b0 := b0) (ad := ad) (Hb := Hb) (tau := tau) hx hG (show 0 ≤ x0 ∧ x0 ≤ 6 by omega) (show (Z 56 6 ≤ Z 56 7 ∧ Z 56 7 ≤ Z 56 8 ∧ (Z 56 9 = 24 ∨ Z 56 6 < Z 56 7)) by omega) (show Z 60 61 ≤ Z 56 6 by omega) (show a0 ≤ Z 60 61 by omega) (show 0 ≤ a0 by omega) (show 0 ≤ g0 by omega) hr IH (by omega)
    obtain ⟨br1, b1⟩ := b1
    obtain ⟨bq1, b1⟩ := b1
    have b14 : 0 ≤ Z1 56 6 ∧ Z1 56 6 ≤ 900 := hG1.pr 56 6
    have b15 : 0 ≤ Z1 56 7 ∧ Z1 56 7 ≤ 900 := hG1.pr 56 7
    have b16 : 0 ≤ Z1 56 9 ∧ Z1 56 9 ≤ 100 := hG1.pr 56 9
    have b17 : 0 ≤ Z1 56 11 ∧ Z1 56 11 ≤ 4 := hG1.pr 56 11
    have b18 : 0 ≤ Z1 60 61 ∧ Z1 60 61 ≤ 900 := by have hq := GI_ex hG1 60 61; replace hq : f60 (61 % 962) (Z1 60 61) := hq; unfold f60 at hq; omega
    have b19 : (-2147483648) ≤ Z1 60 61 ∧ Z1 60 61 ≤ 2147483647 := hG1.pr 60 61
    have b20 : (-2147483648) ≤ Z1 60 0 ∧ Z1 60 0 ≤ 2147483647 := hG1.pr 60 0
    have b21 : 0 ≤ Z1 60 1 ∧ Z1 60 1 ≤ 18 := by have hq := GI_ex hG1 60 1; replace hq : f60 (1 % 962) (Z1 60 1) := hq; unfold f60 at hq; omega
    have b22 : (-2147483648) ≤ Z1 60 1 ∧ Z1 60 1 ≤ 2147483647 := hG1.pr 60 1
    have b23 : 0 ≤ Z1 60 2 ∧ Z1 60 2 ≤ 18 := by have hq := GI_ex hG1 60 2; replace hq : f60 (2 % 962) (Z1 60 2) := hq; unfold f60 at hq; omega
    have b24 : (-2147483648) ≤ Z1 60 2 ∧ Z1 60 2 ≤ 2147483647 := hG1.pr 60 2
    have r1 := QR_tr (d := 1) (c := 0) (QR_rf (Z := Z) (a := a0)) bq1 (by decide) (by decide) (by decide)
    refine Jcv0 hx (show mx_Sn _ _ 2 (mx_callv 176 2 12 5) from sn_177 2) a56 s56 hc1 rfl rfl rfl ?_
    have c5 : ∀ (m25 : Nat) (sg25 : SS) (Z26 : xZ) (h26 : mx_H), (((Z 56 8 - Z26 56 6).toNat : Nat) : Int) < (m25 : Int) → RM g0 T N Z26 sg25 → (Z26 56 6 ≤ Z26 56 7 ∧ Z26 56 7 ≤ Z 56 8) → (Z26 56 9 = 24 ∨ Z26 56 6 < Z26 56 7) → (Z 56 6 ≤ Z26 56 6 ∧ Z 60 61 ≤ Z26 60 61 ∧ Z26 60 61 - Z 60 61 ≤ Z26 56 6 - Z 56 6) → (Z26 60 0 = Z 60 0 ∧ Z26 60 1 = Z 60 1 ∧ Z26 60 2 = Z 60 2) → QR Z Z26 a0 1 0 → trL T N (lvI T N x0) sg25 = trX T N (lvI T N x0) sg → XH n s S Z26 h26 → GI n S Z26 → fr' [(56, 6), (56, 7), (56, 9), (56, 10), (56, 11), (56, 12), (60, (-1))] Z1 Z26 → mx_J (tB l D b0 ad Hb tau) mt_177 (d + 13) 5 [some (.ref 56), some (xI x0)] [] h26 Post := by
      intro m25
      induction m25 with
      | zero => intro sg25 Z26 h26 q25 f25_0 f25_1 f25_2 f25_3 f25_4 f25_5 f25_6 hx26 hG26 hf26; exact absurd q25 (by omega)
      | succ m25 ih25 =>
        intro sg25 Z26 h26 q25 f25_0 f25_1 f25_2 f25_3 f25_4 f25_5 f25_6 hx26 hG26 hf26
        have b27 : 0 ≤ Z26 56 6 ∧ Z26 56 6 ≤ 900 := hG26.pr 56 6
        have b28 : 0 ≤ Z26 56 7 ∧ Z26 56 7 ≤ 900 := hG26.pr 56 7
        have b29 : 0 ≤ Z26 56 9 ∧ Z26 56 9 ≤ 100 := hG26.pr 56 9
        have b30 : 0 ≤ Z26 60 61 ∧ Z26 60 61 ≤ 900 := by have hq := GI_ex hG26 60 61; replace hq : f60 (61 % 962) (Z26 60 61) := hq; unfold f60 at hq; omega
        have b31 : (-2147483648) ≤ Z26 60 61 ∧ Z26 60 61 ≤ 2147483647 := hG26.pr 60 61
        have b32 : (-2147483648) ≤ Z26 60 0 ∧ Z26 60 0 ≤ 2147483647 := hG26.pr 60 0
        have b33 : 0 ≤ Z26 60 1 ∧ Z26 60 1 ≤ 18 := by have hq := GI_ex hG26 60 1; replace hq : f60 (1 % 962) (Z26 60 1) := hq; unfold f60 at hq; omega
        have b34 : (-2147483648) ≤ Z26 60 1 ∧ Z26 60 1 ≤ 2147483647 := hG26.pr 60 1
        have b35 : 0 ≤ Z26 60 2 ∧ Z26 60 2 ≤ 18 := by have hq := GI_ex hG26 60 2; replace hq : f60 (2 % 962) (Z26 60 2) := hq; unfold f60 at hq; omega
        have b36 : (-2147483648) ≤ Z26 60 2 ∧ Z26 60 2 ≤ 2147483647 := hG26.pr 60 2
        refine mx_J.step (sn_177 5) (fun _ _ => rfl) ?_
        refine JcI (z := 14) (show mx_Sn _ _ 6 (mx_const (.int 14) 8) from sn_177 6) rfl ?_
        have gt := RM_is (k := 14) f25_0
        have gn := RM_N f25_0
        have eq38 : Z26 56 8 = Z 56 8 := ((hf26 56 8 rfl).trans (hf1 56 8 rfl))
        have b39 : 0 ≤ Z26 56 11 ∧ Z26 56 11 ≤ 4 := hG26.pr 56 11
        obtain ⟨z37, Z37, h37, hc37, hx37, hG37, hf37, b37⟩ := ct_165_56 (g0 := g0) (T := T) (N := N) (sg := sg25) (d := d + 6) (l := l) (D := D) (b0 := b0) (ad := ad) (Hb := Hb) (tau := tau) hx26 hG26 (show 0 ≤ 14 ∧ 14 ≤ 100 by omega) (show (Z26 56 6 ≤ Z26 56 7 ∧ Z26 56 7 ≤ Z26 56 8 ∧ (Z26 56 9 = 24 ∨ Z26 56 6 < Z26 56 7)) by first | omega | (simp only [eq38]; omega)) (show ¬ 14 = 24 by first | omega | (simp only [eq38]; omega)) f25_0
        try rw [eq38] at b37
        obtain ⟨br37, b37⟩ := b37
        have b40 : 0 ≤ Z37 56 6 ∧ Z37 56 6 ≤ 900 := hG37.pr 56 6
        have b41 : 0 ≤ Z37 56 7 ∧ Z37 56 7 ≤ 900 := hG37.pr 56 7
        have b42 : 0 ≤ Z37 56 9 ∧ Z37 56 9 ≤ 100 := hG37.pr 56 9
        have r37 := QR_g (k := 0) (c2 := 0) f25_5 (fun e => (hf37 56 11 rfl).symm.trans e) (fun i => hf37 60 i rfl) (fun e => by omega) (by decide)
        have rk37 : z37 = 1 → QR Z Z37 a0 1 1 := fun ez => QR_g (k := 1) f25_5 (fun e => (hf37 56 11 rfl).symm.trans e) (fun i => hf37 60 i rfl) (fun e => by omega) (by decide)
        refine Jcv hx26 (show mx_Sn _ _ 8 (mx_callv 165 2 12 11) from sn_177 8) a56 s56 hc37 rfl rfl rfl ?_
        refine Jif_eq (show mx_Sn _ _ 11 (mx_if_eq 29 14) from sn_177 11) (by omega) (fun q43 => ?_) (fun q43 => ?_)
        · skip
          have eq44 : Z37 56 11 = Z26 56 11 := (hf37 56 11 rfl)
          have eq45 : Z37 60 61 = Z26 60 61 := (hf37 60 61 rfl)
          have eq46 : Z37 60 0 = Z26 60 0 := (hf37 60 0 rfl)
          have eq47 : Z37 60 1 = Z26 60 1 := (hf37 60 1 rfl)
          have eq48 : Z37 60 2 = Z26 60 2 := (hf37 60 2 rfl)
          have eq49 : Z37 56 8 = Z 56 8 := ((hf37 56 8 rfl).trans ((hf26 56 8 rfl).trans (hf1 56 8 rfl)))
          have eq50 : Z37 56 11 = Z26 56 11 := (hf37 56 11 rfl)
          have eq51 : Z37 60 61 = Z26 60 61 := (hf37 60 61 rfl)
          have eq52 : Z37 60 0 = Z26 60 0 := (hf37 60 0 rfl)
          have eq53 : Z37 60 1 = Z26 60 1 := (hf37 60 1 rfl)
          have eq54 : Z37 60 2 = Z26 60 2 := (hf37 60 2 rfl)
          exact mx_J.ret (sn_177 29) (fun _ _ => rfl) (hP Z37 h37 hx37 hG37 (fr_tr (M := [(56, 6), (56, 7), (56, 9), (56, 10), (56, 11), (56, 12), (60, (-1))]) (fr_tr (M := [(56, 6), (56, 7), (56, 9), (56, 10), (56, 11), (56, 12), (60, (-1))]) (fr_tr (M := [(56, 6), (56, 7), (56, 9), (56, 10), (56, 11), (56, 12), (60, (-1))]) fr_rf (hf1) (M1 := []) rfl rfl) (hf26) rfl rfl) (hf37) rfl rfl) ⟨(RM_e br37 (((by assumption : trL T N (lvI T N x0) sg25 = trX T N (lvI T N x0) sg).symm.trans (trL_n (fun q => by have := gt.mpr q; omega))).trans (gEt_n (fun q => by have := gt.mpr q; omega)).symm)), (QR_le r37 (by decide)), by omega⟩)
        · skip
          have rc55 : RM g0 T N Z37 (gAd T N sg25) := RM_e br37 ((gEt_y (gt.mp (by omega))).symm)
          refine mx_J.step (sn_177 14) (fun _ _ => rfl) ?_
          refine mx_J.step (sn_177 15) (fun _ _ => rfl) ?_
          have eq57 : Z37 56 8 = Z 56 8 := ((hf37 56 8 rfl).trans ((hf26 56 8 rfl).trans (hf1 56 8 rfl)))
          have eq58 : Z37 56 11 = Z26 56 11 := (hf37 56 11 rfl)
          have eq59 : Z37 60 61 = Z26 60 61 := (hf37 60 61 rfl)
          have eq60 : Z37 60 0 = Z26 60 0 := (hf37 60 0 rfl)
          have eq61 : Z37 60 1 = Z26 60 1 := (hf37 60 1 rfl)
          have eq62 : Z37 60 2 = Z26 60 2 := (hf37 60 2 rfl)
          obtain ⟨Z56, h56, hc56, hx56, hG56, hf56, b56⟩ := ct_176_56_s (a0 := a0) (g0 := g0) (T := T) (N := N) (sg := gAd T N sg25) (d := d + 0) (l := l) (D := D) (b0 := b0) (ad := ad) (Hb := Hb) (tau := tau) hx37 hG37 (show 0 ≤ x0 ∧ x0 ≤ 6 by omega) (show (Z37 56 6 ≤ Z37 56 7 ∧ Z37 56 7 ≤ Z37 56 8 ∧ (Z37 56 9 = 24 ∨ Z37 56 6 < Z37 56 7)) by first | omega | (simp only [eq57, eq58, eq59, eq60, eq61, eq62]; omega)) (show Z37 60 61 ≤ Z37 56 6 by first | omega | (simp only [eq57, eq58, eq59, eq60, eq61, eq62]; omega)) (show a0 ≤ Z37 60 61 by first | omega | (simp only [eq57, eq58, eq59, eq60, eq61, eq62]; omega)) (show 0 ≤ a0 by first | omega | (simp only [eq57, eq58, eq59, eq60, eq61, eq62]; omega)) (show 0 ≤ g0 by first | omega | (simp only [eq57, eq58, eq59, eq60, eq61, eq62]; omega)) rc55 IH (by omega)
          try rw [eq57] at b56
          try rw [eq58] at b56
          try rw [eq59] at b56
          try rw [eq60] at b56
          try rw [eq61] at b56
          try rw [eq62] at b56
          obtain ⟨br56, b56⟩ := b56
          obtain ⟨bq56, b56⟩ := b56
          have b63 : 0 ≤ Z56 56 6 ∧ Z56 56 6 ≤ 900 := hG56.pr 56 6
          have b64 : 0 ≤ Z56 56 7 ∧ Z56 56 7 ≤ 900 := hG56.pr 56 7
          have b65 : 0 ≤ Z56 56 9 ∧ Z56 56 9 ≤ 100 := hG56.pr 56 9
          have b66 : 0 ≤ Z56 56 11 ∧ Z56 56 11 ≤ 4 := hG56.pr 56 11
          have b67 : 0 ≤ Z56 60 61 ∧ Z56 60 61 ≤ 900 := by have hq := GI_ex hG56 60 61; replace hq : f60 (61 % 962) (Z56 60 61) := hq; unfold f60 at hq; omega
          have b68 : (-2147483648) ≤ Z56 60 61 ∧ Z56 60 61 ≤ 2147483647 := hG56.pr 60 61
          have b69 : (-2147483648) ≤ Z56 60 0 ∧ Z56 60 0 ≤ 2147483647 := hG56.pr 60 0
          have b70 : 0 ≤ Z56 60 1 ∧ Z56 60 1 ≤ 18 := by have hq := GI_ex hG56 60 1; replace hq : f60 (1 % 962) (Z56 60 1) := hq; unfold f60 at hq; omega
          have b71 : (-2147483648) ≤ Z56 60 1 ∧ Z56 60 1 ≤ 2147483647 := hG56.pr 60 1
          have b72 : 0 ≤ Z56 60 2 ∧ Z56 60 2 ≤ 18 := by have hq := GI_ex hG56 60 2; replace hq : f60 (2 % 962) (Z56 60 2) := hq; unfold f60 at hq; omega
          have b73 : (-2147483648) ≤ Z56 60 2 ∧ Z56 60 2 ≤ 2147483647 := hG56.pr 60 2
          have r56 := QR_tr (d := 2) (c := 1) (rk37 (by omega)) bq56 (by decide) (by decide) (by decide)
          refine Jcv0 hx37 (show mx_Sn _ _ 16 (mx_callv 176 2 12 19) from sn_177 16) a56 s56 hc56 rfl rfl rfl ?_
          refine mx_J.step (sn_177 19) (fun _ _ => rfl) ?_
          refine JcI (z := 3008) (show mx_Sn _ _ 20 (mx_const (.int 3008) 23) from sn_177 20) rfl ?_
          have eq75 : Z56 56 8 = Z 56 8 := ((hf56 56 8 rfl).trans ((hf37 56 8 rfl).trans ((hf26 56 8 rfl).trans (hf1 56 8 rfl))))
          have rp74 := QR_n r56
          obtain ⟨Z74, h74, hc74, hx74, hG74, hf74, b74⟩ := ct_169_56_3008 (a0 := a0) (g0 := g0) (T := T) (N := N) (sg := boX T N (lvI T N x0) (gAd T N sg25)) (d := d + 12) (l := l) (D := D) (b0 := b0) (ad := ad) (Hb := Hb) (tau := tau) hx56 hG56  (show (Z56 56 11 = 0 → Z56 60 61 ≤ 899) by first | omega | (simp only [eq75]; omega)) (show a0 ≤ Z56 60 61 by first | omega | (simp only [eq75]; omega)) (show 0 ≤ a0 by first | omega | (simp only [eq75]; omega)) (show 0 ≤ g0 by first | omega | (simp only [eq75]; omega)) br56
          try rw [eq75] at b74
          obtain ⟨br74, b74⟩ := b74
          obtain ⟨bq74, b74⟩ := b74
          have b76 : 0 ≤ Z74 60 61 ∧ Z74 60 61 ≤ 900 := by have hq := GI_ex hG74 60 61; replace hq : f60 (61 % 962) (Z74 60 61) := hq; unfold f60 at hq; omega
          have b77 : (-2147483648) ≤ Z74 60 61 ∧ Z74 60 61 ≤ 2147483647 := hG74.pr 60 61
          have b78 : (-2147483648) ≤ Z74 60 0 ∧ Z74 60 0 ≤ 2147483647 := hG74.pr 60 0
          have b79 : 0 ≤ Z74 60 1 ∧ Z74 60 1 ≤ 18 := by have hq := GI_ex hG74 60 1; replace hq : f60 (1 % 962) (Z74 60 1) := hq; unfold f60 at hq; omega
          have b80 : (-2147483648) ≤ Z74 60 1 ∧ Z74 60 1 ≤ 2147483647 := hG74.pr 60 1
          have b81 : 0 ≤ Z74 60 2 ∧ Z74 60 2 ≤ 18 := by have hq := GI_ex hG74 60 2; replace hq : f60 (2 % 962) (Z74 60 2) := hq; unfold f60 at hq; omega
          have b82 : (-2147483648) ≤ Z74 60 2 ∧ Z74 60 2 ≤ 2147483647 := hG74.pr 60 2
          have rn74 := QR_n r56
          have r74 := QR_c (d2 := 1) (c2 := 0) r56 bq74 (by omega) (hf74 56 11 rfl) (hf74 56 6 rfl) (by decide) (by decide) (by decide)
          refine Jcv0 hx56 (show mx_Sn _ _ 23 (mx_callv 169 2 12 26) from sn_177 23) a56 s56 hc74 rfl rfl rfl ?_
          refine mx_J.step (sn_177 26) (fun _ _ => rfl) ?_
          have eq83 : Z74 56 6 = Z56 56 6 := (hf74 56 6 rfl)
          have eq84 : Z74 56 7 = Z56 56 7 := (hf74 56 7 rfl)
          have eq85 : Z74 56 6 = Z56 56 6 := (hf74 56 6 rfl)
          have eq86 : Z74 56 7 = Z56 56 7 := (hf74 56 7 rfl)
          have eq87 : Z74 56 9 = Z56 56 9 := (hf74 56 9 rfl)
          have eq88 : Z74 56 6 = Z56 56 6 := (hf74 56 6 rfl)
          have eq89 : Z74 56 6 = Z56 56 6 := (hf74 56 6 rfl)
          exact ih25 (gEm (1017) (boX T N (lvI T N x0) (gAd T N sg25))) Z74 h74 (by omega) br74 (by omega) (by omega) (by omega) (by omega) (QR_le r74 (by decide)) ((trL_s (lvI_go _) gn (gt.mp (by omega))).symm.trans (by assumption)) hx74 hG74 (fr_tr (M := [(56, 6), (56, 7), (56, 9), (56, 10), (56, 11), (56, 12), (60, (-1))]) (fr_tr (M := [(56, 6), (56, 7), (56, 9), (56, 10), (56, 11), (56, 12), (60, (-1))]) (fr_tr (M := [(56, 6), (56, 7), (56, 9), (56, 10), (56, 11), (56, 12), (60, (-1))]) (fr_tr (M := [(56, 6), (56, 7), (56, 9), (56, 10), (56, 11), (56, 12), (60, (-1))]) fr_rf (hf26) (M1 := []) rfl rfl) (hf37) rfl rfl) (hf56) rfl rfl) (hf74) rfl rfl)
    exact c5 (Int.toNat ((((Z 56 8 - Z1 56 6).toNat : Nat) : Int)) + 1) (boX T N (lvI T N x0) sg) Z1 h1 (by omega) br1 (by omega) (by omega) (by omega) (by omega) (QR_le r1 (by decide)) (rfl) hx1 hG1 fr_rf
theorem ct_177_56_s {l : Launch} {D : va_G} {b0 : Nat} {ad : Nat → Nat} {Hb : Heap} {tau : Nat → Int64} {d n s : Nat} {S : Nat → xS} {Z : xZ} {h : mx_H} {a0 : Int} {g0 : Int} {T : Int → Int} {N : Int} {sg : SS} (hx : XH n s S Z h) (hG : GI n S Z)  {x0 : Int} (p0 : 0 ≤ x0 ∧ x0 ≤ 6) (k0 : (Z 56 6 ≤ Z 56 7 ∧ Z 56 7 ≤ Z 56 8 ∧ (Z 56 9 = 24 ∨ Z 56 6 < Z 56 7))) (k1 : Z 60 61 ≤ Z 56 6) (k2 : a0 ≤ Z 60 61) (k3 : 0 ≤ a0) (k4 : 0 ≤ g0) (hr : RM g0 T N Z sg) {kk : Nat} (IH : RBnh l D b0 ad Hb tau kk x0) (hd : kk ≤ d) : ∃ (Z' : xZ) (h' : mx_H), mx_Ca (tB l D b0 ad Hb tau) (d + 14) 177 [.ref 56, xI x0] h (none, h') ∧ XH n s S Z' h' ∧ GI n S Z' ∧ fr' [(56, 6), (56, 7), (56, 9), (56, 10), (56, 11), (56, 12), (60, (-1))] Z Z' ∧ (RM g0 T N Z' (trX T N (lvI T N x0) sg) ∧ QR Z Z' a0 1 0 ∧ ((Z' 56 6 ≤ Z' 56 7 ∧ Z' 56 7 ≤ Z 56 8 ∧ (Z' 56 9 = 24 ∨ Z' 56 6 < Z' 56 7)) ∧ Z' 60 0 = Z 60 0 ∧ Z' 60 1 = Z 60 1 ∧ Z' 60 2 = Z 60 2 ∧ Z 56 6 ≤ Z' 56 6 ∧ Z 60 61 ≤ Z' 60 61 ∧ Z' 60 61 - Z 60 61 ≤ Z' 56 6 - Z 56 6)) := by
  obtain ⟨r, hca, Z', h', e, q⟩ := Jmt (B := tB l D b0 ad Hb tau) (M := mt_177) (mi := 177) (as := [.ref 56, xI x0]) (d := d + 13) (ls := [some (.ref 56), some (xI x0)]) rfl rfl rfl rfl rfl rfl (cw_177_56_s (l := l) (D := D) (b0 := b0) (ad := ad) (Hb := Hb) (tau := tau) (d := d) (Post := fun r => ∃ (Z' : xZ) (h' : mx_H), r = (none, h') ∧ XH n s S Z' h' ∧ GI n S Z' ∧ fr' [(56, 6), (56, 7), (56, 9), (56, 10), (56, 11), (56, 12), (60, (-1))] Z Z' ∧ (RM g0 T N Z' (trX T N (lvI T N x0) sg) ∧ QR Z Z' a0 1 0 ∧ ((Z' 56 6 ≤ Z' 56 7 ∧ Z' 56 7 ≤ Z 56 8 ∧ (Z' 56 9 = 24 ∨ Z' 56 6 < Z' 56 7)) ∧ Z' 60 0 = Z 60 0 ∧ Z' 60 1 = Z 60 1 ∧ Z' 60 2 = Z 60 2 ∧ Z 56 6 ≤ Z' 56 6 ∧ Z 60 61 ≤ Z' 60 61 ∧ Z' 60 61 - Z 60 61 ≤ Z' 56 6 - Z 56 6))) hx hG p0 k0 k1 k2 k3 k4 hr IH hd (fun Z' h' q1 q2 q3 q4 => ⟨Z', h', rfl, q1, q2, q3, q4⟩))
  subst e; exact ⟨Z', h', hca, q⟩
theorem lev_n {l : Launch} {D : va_G} {b0 : Nat} {ad : Nat → Nat} {Hb : Heap} {tau : Nat → Int64} {x0 : Int} (p0 : 0 ≤ x0 ∧ x0 ≤ 6) {kk : Nat} (IH : RBnh l D b0 ad Hb tau kk x0) : RBn l D b0 ad Hb tau (kk + 14) x0 := by
  refine ⟨?_, ?_, ?_⟩
  · intro a0 g0 T N sg d n s S Z h hd hx hG k0 k1 k2 k3 k4 hr
    obtain ⟨e, rfl⟩ : ∃ e, d = e + 11 := ⟨d - 11, by omega⟩
    obtain ⟨Z', h', hca, q1, q2, q3, q4⟩ := ct_174_56_s (a0 := a0) (g0 := g0) (T := T) (N := N) (sg := sg) (d := e) (l := l) (D := D) (b0 := b0) (ad := ad) (Hb := Hb) (tau := tau) hx hG p0 k0 k1 k2 k3 k4 hr IH (by omega)
    exact ⟨Z', h', hca, q1, q2, fr_tr (M1 := []) fr_rf q3 rfl rfl, q4⟩
  · intro a0 g0 T N sg d n s S Z h hd hx hG k0 k1 k2 k3 k4 hr
    obtain ⟨e, rfl⟩ : ∃ e, d = e + 12 := ⟨d - 12, by omega⟩
    obtain ⟨Z', h', hca, q1, q2, q3, q4⟩ := ct_175_56_s (a0 := a0) (g0 := g0) (T := T) (N := N) (sg := sg) (d := e) (l := l) (D := D) (b0 := b0) (ad := ad) (Hb := Hb) (tau := tau) hx hG p0 k0 k1 k2 k3 k4 hr IH (by omega)
    exact ⟨Z', h', hca, q1, q2, fr_tr (M1 := []) fr_rf q3 rfl rfl, q4⟩
  · intro a0 g0 T N sg d n s S Z h hd hx hG k0 k1 k2 k3 k4 hr
    obtain ⟨e, rfl⟩ : ∃ e, d = e + 14 := ⟨d - 14, by omega⟩
    obtain ⟨Z', h', hca, q1, q2, q3, q4⟩ := ct_177_56_s (a0 := a0) (g0 := g0) (T := T) (N := N) (sg := sg) (d := e) (l := l) (D := D) (b0 := b0) (ad := ad) (Hb := Hb) (tau := tau) hx hG p0 k0 k1 k2 k3 k4 hr IH (by omega)
    exact ⟨Z', h', hca, q1, q2, fr_tr (M1 := []) fr_rf q3 rfl rfl, q4⟩
theorem all_n {l : Launch} {D : va_G} {b0 : Nat} {ad : Nat → Nat} {Hb : Heap} {tau : Nat → Int64} : ∀ (e : Nat) (x0 : Int), x0 = 6 - (e : Int) → 0 ≤ x0 → RBn l D b0 ad Hb tau (14 * (e + 1)) x0
  | 0, x0, h, h0 => (show RBn l D b0 ad Hb tau (0 + 14) x0 from lev_n (kk := 0) (by omega) (fun q => absurd q (by omega)))
  | e + 1, x0, h, h0 => (show RBn l D b0 ad Hb tau (14 * (e + 1) + 14) x0 from lev_n (kk := 14 * (e + 1)) (by omega) (fun _ => all_n e (x0 + 1) (by omega) (by omega)))
theorem ct_174_56_i0r {l : Launch} {D : va_G} {b0 : Nat} {ad : Nat → Nat} {Hb : Heap} {tau : Nat → Int64} {a0 : Int} {g0 : Int} {T : Int → Int} {N : Int} {sg : SS} {d n s : Nat} {S : Nat → xS} {Z : xZ} {h : mx_H} (hx : XH n s S Z h) (hG : GI n S Z) (k0 : (Z 56 6 ≤ Z 56 7 ∧ Z 56 7 ≤ Z 56 8 ∧ (Z 56 9 = 24 ∨ Z 56 6 < Z 56 7))) (k1 : Z 60 61 ≤ Z 56 6) (k2 : a0 ≤ Z 60 61) (k3 : 0 ≤ a0) (k4 : 0 ≤ g0) (hr : RM g0 T N Z (sg)) : ∃ (Z' : xZ) (h' : mx_H), mx_Ca (tB l D b0 ad Hb tau) (d + 98) 174 [.ref 56, xI 0] h (none, h') ∧ XH n s S Z' h' ∧ GI n S Z' ∧ fr' [(56, 6), (56, 7), (56, 9), (56, 10), (56, 11), (56, 12), (60, (-1))] Z Z' ∧ (RM g0 T N Z' (smX T N (lvI T N 0) sg) ∧ QR Z Z' a0 1 0 ∧ ((Z' 56 6 ≤ Z' 56 7 ∧ Z' 56 7 ≤ Z 56 8 ∧ (Z' 56 9 = 24 ∨ Z' 56 6 < Z' 56 7)) ∧ Z' 60 0 = Z 60 0 ∧ Z' 60 1 = Z 60 1 ∧ Z' 60 2 = Z 60 2 ∧ Z 56 6 ≤ Z' 56 6 ∧ Z 60 61 ≤ Z' 60 61 ∧ Z' 60 61 - Z 60 61 ≤ Z' 56 6 - Z 56 6)) := (all_n 6 0 (by decide) (by decide)).1 a0 g0 T N sg (d + 98) n s S Z h (by omega) hx hG k0 k1 k2 k3 k4 hr
theorem ct_177_56_i0r {l : Launch} {D : va_G} {b0 : Nat} {ad : Nat → Nat} {Hb : Heap} {tau : Nat → Int64} {a0 : Int} {g0 : Int} {T : Int → Int} {N : Int} {sg : SS} {d n s : Nat} {S : Nat → xS} {Z : xZ} {h : mx_H} (hx : XH n s S Z h) (hG : GI n S Z) (k0 : (Z 56 6 ≤ Z 56 7 ∧ Z 56 7 ≤ Z 56 8 ∧ (Z 56 9 = 24 ∨ Z 56 6 < Z 56 7))) (k1 : Z 60 61 ≤ Z 56 6) (k2 : a0 ≤ Z 60 61) (k3 : 0 ≤ a0) (k4 : 0 ≤ g0) (hr : RM g0 T N Z (sg)) : ∃ (Z' : xZ) (h' : mx_H), mx_Ca (tB l D b0 ad Hb tau) (d + 98) 177 [.ref 56, xI 0] h (none, h') ∧ XH n s S Z' h' ∧ GI n S Z' ∧ fr' [(56, 6), (56, 7), (56, 9), (56, 10), (56, 11), (56, 12), (60, (-1))] Z Z' ∧ (RM g0 T N Z' (trX T N (lvI T N 0) sg) ∧ QR Z Z' a0 1 0 ∧ ((Z' 56 6 ≤ Z' 56 7 ∧ Z' 56 7 ≤ Z 56 8 ∧ (Z' 56 9 = 24 ∨ Z' 56 6 < Z' 56 7)) ∧ Z' 60 0 = Z 60 0 ∧ Z' 60 1 = Z 60 1 ∧ Z' 60 2 = Z 60 2 ∧ Z 56 6 ≤ Z' 56 6 ∧ Z 60 61 ≤ Z' 60 61 ∧ Z' 60 61 - Z 60 61 ≤ Z' 56 6 - Z 56 6)) := (all_n 6 0 (by decide) (by decide)).2.2 a0 g0 T N sg (d + 98) n s S Z h (by omega) hx hG k0 k1 k2 k3 k4 hr
theorem ct_174_56_i0x {l : Launch} {D : va_G} {b0 : Nat} {ad : Nat → Nat} {Hb : Heap} {tau : Nat → Int64} {a0 : Int} {T : Int → Int} {N : Int} {sg : SS} {d n s : Nat} {S : Nat → xS} {Z : xZ} {h : mx_H} (hx : XH n s S Z h) (hG : GI n S Z) (k0 : (Z 56 6 ≤ Z 56 7 ∧ Z 56 7 ≤ Z 56 8 ∧ (Z 56 9 = 24 ∨ Z 56 6 < Z 56 7))) (k1 : Z 60 61 ≤ Z 56 6) (k2 : a0 ≤ Z 60 61) (k3 : 0 ≤ a0) (hr : RMx T N Z sg) : ∃ (Z' : xZ) (h' : mx_H), mx_Ca (tB l D b0 ad Hb tau) (d + 98) 174 [.ref 56, xI 0] h (none, h') ∧ XH n s S Z' h' ∧ GI n S Z' ∧ fr' [(56, 6), (56, 7), (56, 9), (56, 10), (56, 11), (56, 12), (60, (-1))] Z Z' ∧ (RMx T N Z' (smX T N (lvI T N 0) (gRs sg)) ∧ QR Z Z' a0 1 0 ∧ ((Z' 56 6 ≤ Z' 56 7 ∧ Z' 56 7 ≤ Z 56 8 ∧ (Z' 56 9 = 24 ∨ Z' 56 6 < Z' 56 7)) ∧ Z' 60 0 = Z 60 0 ∧ Z' 60 1 = Z 60 1 ∧ Z' 60 2 = Z 60 2 ∧ Z 56 6 ≤ Z' 56 6 ∧ Z 60 61 ≤ Z' 60 61 ∧ Z' 60 61 - Z 60 61 ≤ Z' 56 6 - Z 56 6)) := by
  have h0 : 0 ≤ Z 60 61 := by omega
  obtain ⟨Z', h', hca, q1, q2, q3, q5, q4⟩ := ct_174_56_i0r (a0 := a0) (g0 := Z 60 61) (T := T) (N := N) (sg := gRs sg) (d := d) (l := l) (D := D) (b0 := b0) (ad := ad) (Hb := Hb) (tau := tau) hx hG k0 k1 k2 k3 h0 (RMx_rs hr)
  exact ⟨Z', h', hca, q1, q2, q3, ⟨_, h0, q5⟩, q4⟩
theorem ct_177_56_i0x {l : Launch} {D : va_G} {b0 : Nat} {ad : Nat → Nat} {Hb : Heap} {tau : Nat → Int64} {a0 : Int} {T : Int → Int} {N : Int} {sg : SS} {d n s : Nat} {S : Nat → xS} {Z : xZ} {h : mx_H} (hx : XH n s S Z h) (hG : GI n S Z) (k0 : (Z 56 6 ≤ Z 56 7 ∧ Z 56 7 ≤ Z 56 8 ∧ (Z 56 9 = 24 ∨ Z 56 6 < Z 56 7))) (k1 : Z 60 61 ≤ Z 56 6) (k2 : a0 ≤ Z 60 61) (k3 : 0 ≤ a0) (hr : RMx T N Z sg) : ∃ (Z' : xZ) (h' : mx_H), mx_Ca (tB l D b0 ad Hb tau) (d + 98) 177 [.ref 56, xI 0] h (none, h') ∧ XH n s S Z' h' ∧ GI n S Z' ∧ fr' [(56, 6), (56, 7), (56, 9), (56, 10), (56, 11), (56, 12), (60, (-1))] Z Z' ∧ (RMx T N Z' (trX T N (lvI T N 0) (gRs sg)) ∧ QR Z Z' a0 1 0 ∧ ((Z' 56 6 ≤ Z' 56 7 ∧ Z' 56 7 ≤ Z 56 8 ∧ (Z' 56 9 = 24 ∨ Z' 56 6 < Z' 56 7)) ∧ Z' 60 0 = Z 60 0 ∧ Z' 60 1 = Z 60 1 ∧ Z' 60 2 = Z 60 2 ∧ Z 56 6 ≤ Z' 56 6 ∧ Z 60 61 ≤ Z' 60 61 ∧ Z' 60 61 - Z 60 61 ≤ Z' 56 6 - Z 56 6)) := by
  have h0 : 0 ≤ Z 60 61 := by omega
  obtain ⟨Z', h', hca, q1, q2, q3, q5, q4⟩ := ct_177_56_i0r (a0 := a0) (g0 := Z 60 61) (T := T) (N := N) (sg := gRs sg) (d := d) (l := l) (D := D) (b0 := b0) (ad := ad) (Hb := Hb) (tau := tau) hx hG k0 k1 k2 k3 h0 (RMx_rs hr)
  exact ⟨Z', h', hca, q1, q2, q3, ⟨_, h0, q5⟩, q4⟩
theorem ct_162_56rx {l : Launch} {D : va_G} {b0 : Nat} {ad : Nat → Nat} {Hb : Heap} {tau : Nat → Int64} {T : Int → Int} {N : Int} {sg : SS} {d n s : Nat} {S : Nat → xS} {Z : xZ} {h : mx_H} (hx : XH n s S Z h) (hG : GI n S Z)   (k0 : Z 56 7 ≤ Z 56 8) (k1 : Z 56 11 = 0) (hr : RMx T N Z sg) : ∃ (Z' : xZ) (h' : mx_H), mx_Ca (tB l D b0 ad Hb tau) (d + 6) 162 [.ref 56] h (none, h') ∧ XH n s S Z' h' ∧ GI n S Z' ∧ fr' [(56, 6), (56, 7), (56, 9), (56, 10)] Z Z' ∧ (RMx T N Z' (gAd T N sg) ∧ ((Z' 56 6 ≤ Z' 56 7 ∧ Z' 56 7 ≤ Z 56 8 ∧ (Z' 56 9 = 24 ∨ Z' 56 6 < Z' 56 7)) ∧ Z 56 7 ≤ Z' 56 6)) := by
  obtain ⟨g, hg, hr⟩ := hr
  obtain ⟨Z', h', hca, q1, q2, q3, q5, q4⟩ := ct_162_56r (g0 := g) (T := T) (N := N) (sg := sg) (d := d) (l := l) (D := D) (b0 := b0) (ad := ad) (Hb := Hb) (tau := tau) hx hG  k0 k1 hr
  exact ⟨Z', h', hca, q1, q2, q3, ⟨g, hg, q5⟩, q4⟩
set_option maxRecDepth 100000 in
theorem cw_156_60 {l : Launch} {D : va_G} {b0 : Nat} {ad : Nat → Nat} {Hb : Heap} {tau : Nat → Int64} {d n s : Nat} {S : Nat → xS} {Z : xZ} {h : mx_H} {Post : mx_R → Prop} (hx : XH n s S Z h) (hG : GI n S Z)   (hP : ∀ (Z' : xZ) (h' : mx_H), XH n s S Z' h' → GI n S Z' → fr' [(60, (-1))] Z Z' → (ai 60 Z' 962 0 0 = 1) → Post (none, h')) : mx_J (tB l D b0 ad Hb tau) mt_156 (d + 0) 0 [some (.ref 60), none] [] h Post := by
    have a60 : 60 < n := lt83 (GI_n hG) rfl
    have s60 : S 60 = .inr (.int, 962, 0) := GI_s hG 60 rfl
    refine JcI (z := 0) (show mx_Sn _ _ 0 (mx_const (.int 0) 1) from sn_156 0) rfl ?_
    refine mx_J.step (ls2 := [some (.ref 60), some (xI 0)]) (sn_156 1) (fun _ _ => rfl) ?_
    have c2 : ∀ (m1 : Nat) (w1_1 : Int) (Z2 : xZ) (h2 : mx_H), 962 - w1_1 < (m1 : Int) → 0 ≤ w1_1 ∧ w1_1 ≤ 962 → ai 60 Z2 w1_1 0 0 = 1 → XH n s S Z2 h2 → GI n S Z2 → fr' [(60, (-1))] Z Z2 → mx_J (tB l D b0 ad Hb tau) mt_156 (d + 0) 2 [some (.ref 60), some (xI w1_1)] [] h2 Post := by
      intro m1
      induction m1 with
      | zero => intro w1_1 Z2 h2 q1 f1_0 f1_1 hx2 hG2 hf2; exact absurd q1 (by omega)
      | succ m1 ih1 =>
        intro w1_1 Z2 h2 q1 f1_0 f1_1 hx2 hG2 hf2
        refine mx_J.step (sn_156 2) (fun _ _ => rfl) ?_
        refine JcI (z := 962) (show mx_Sn _ _ 3 (mx_const (.int 962) 6) from sn_156 3) rfl ?_
        refine Jicmp_ge (show mx_Sn _ _ 6 (mx_icmp_ge 19 9) from sn_156 6) (by omega) (by omega) (fun q3 => ?_) (fun q3 => ?_)
        · skip
          have af : ai 60 Z2 962 0 0 = 1 := ai_m (len := w1_1) (by assumption) (by omega) (by omega) (by omega)
          exact mx_J.ret (sn_156 19) (fun _ _ => rfl) (hP Z2 h2 hx2 hG2 (fr_tr (M := [(60, (-1))]) fr_rf (hf2) (M1 := []) rfl rfl) (by omega))
        · skip
          refine mx_J.step (sn_156 9) (fun _ _ => rfl) ?_
          refine mx_J.step (sn_156 10) (fun _ _ => rfl) ?_
          refine JcI (z := 0) (show mx_Sn _ _ 11 (mx_const (.int 0) 12) from sn_156 11) rfl ?_
          refine JiastI hx2 (show mx_Sn _ _ 12 (mx_iast 1 13) from sn_156 12) a60 s60 rfl (by omega) (fun Z4 h4 hx4 hE4 => ?_)
          have hG4 := GI_up hG2 hE4 (show (-2147483648) ≤ 0 ∧ 0 ≤ 2147483647 by omega) (show f60 ((w1_1) % 962) (0) by first | (rw [Int.emod_eq_of_lt (by omega) (by omega)]; unfold f60; omega) | assumption | (unfold f60; omega) | (unfold f60 at *; omega)) rfl
          have as1 : ai 60 Z4 (w1_1 + 1) 0 0 = 1 := ai_s (Z := Z2) (len := w1_1) (by assumption) hE4 rfl (by omega) rfl
          refine Jiinc (z := w1_1) (cz := 1) (ls2 := [some (.ref 60), some (xI (w1_1 + 1))]) (show mx_Sn _ _ 13 (mx_iinc 1 1 16) from sn_156 13) rfl rfl rfl rfl ?_
          refine mx_J.step (sn_156 16) (fun _ _ => rfl) ?_
          exact ih1 (w1_1 + 1) Z4 h4 (by omega) (by omega) (by first | exact ai_0 (by omega) | assumption) hx4 hG4 (fr_tr (M := [(60, (-1))]) (fr_tr (M := [(60, (-1))]) fr_rf (hf2) (M1 := []) rfl rfl) (fr_ua hE4) rfl rfl)
    exact c2 (Int.toNat (962 - 0) + 1) 0 Z h (by omega) (by omega) (by first | exact ai_0 (by omega) | assumption) hx hG fr_rf
theorem ct_156_60 {l : Launch} {D : va_G} {b0 : Nat} {ad : Nat → Nat} {Hb : Heap} {tau : Nat → Int64} {d n s : Nat} {S : Nat → xS} {Z : xZ} {h : mx_H} (hx : XH n s S Z h) (hG : GI n S Z)   : ∃ (Z' : xZ) (h' : mx_H), mx_Ca (tB l D b0 ad Hb tau) (d + 1) 156 [.ref 60] h (none, h') ∧ XH n s S Z' h' ∧ GI n S Z' ∧ fr' [(60, (-1))] Z Z' ∧ ((ai 60 Z' 962 0 0 = 1)) := by
  obtain ⟨r, hca, Z', h', e, q⟩ := Jmt (B := tB l D b0 ad Hb tau) (M := mt_156) (mi := 156) (as := [.ref 60]) (d := d + 0) (ls := [some (.ref 60), none]) rfl rfl rfl rfl rfl rfl (cw_156_60 (l := l) (D := D) (b0 := b0) (ad := ad) (Hb := Hb) (tau := tau) (d := d) (Post := fun r => ∃ (Z' : xZ) (h' : mx_H), r = (none, h') ∧ XH n s S Z' h' ∧ GI n S Z' ∧ fr' [(60, (-1))] Z Z' ∧ ((ai 60 Z' 962 0 0 = 1))) hx hG  (fun Z' h' q1 q2 q3 q4 => ⟨Z', h', rfl, q1, q2, q3, q4⟩))
  subst e; exact ⟨Z', h', hca, q⟩
