set_option maxHeartbeats 8000000 in
set_option maxRecDepth 100000 in
theorem cw_175_56_i4 {l : Launch} {D : va_G} {b0 : Nat} {ad : Nat → Nat} {Hb : Heap} {tau : Nat → Int64} {d n s : Nat} {S : Nat → xS} {Z : xZ} {h : mx_H} {Post : mx_R → Prop} {a0 : Int} (hx : XH n s S Z h) (hG : GI n S Z)   (k0 : (Z 56 6 ≤ Z 56 7 ∧ Z 56 7 ≤ Z 56 8 ∧ (Z 56 9 = 24 ∨ Z 56 6 < Z 56 7))) (k1 : Z 60 61 ≤ Z 56 6) (k2 : a0 ≤ Z 60 61) (k3 : 0 ≤ a0) (hP : ∀ (Z' : xZ) (h' : mx_H), XH n s S Z' h' → GI n S Z' → fr' [(56, 6), (56, 7), (56, 9), (56, 10), (56, 11), (56, 12), (60, (-1))] Z Z' → QR Z Z' a0 1 0 ∧ ((Z' 56 6 ≤ Z' 56 7 ∧ Z' 56 7 ≤ Z 56 8 ∧ (Z' 56 9 = 24 ∨ Z' 56 6 < Z' 56 7)) ∧ Z' 60 1 = Z 60 1 ∧ Z' 60 2 = Z 60 2 ∧ Z 56 6 ≤ Z' 56 6 ∧ Z 60 61 ≤ Z' 60 61 ∧ Z' 60 61 - Z 60 61 ≤ Z' 56 6 - Z 56 6) → Post (none, h')) : mx_J (tB l D b0 ad Hb tau) mt_175 (d + 25) 0 [some (.ref 56), some (xI 4), none] [] h Post := by
    have a56 : 56 < n := lt83 (GI_n hG) rfl
    have s56 : S 56 = .inl (12, [0, 2, 2, 2, 2, 0, 0, 0, 0, 0, 0, 0, 0, 0, 0, 2, 2, 2, 0, 2, 2, 2, 0, 0, 2, 2, 2, 2, 2, 2, 0, 0, 2, 2, 2, 2, 2, 2, 2, 2, 2, 2]) := GI_s hG 56 rfl
    refine mx_J.step (sn_175 0) (fun _ _ => rfl) ?_
    refine JcI (z := 15) (show mx_Sn _ _ 1 (mx_const (.int 15) 3) from sn_175 1) rfl ?_
    have b2 : 0 ≤ Z 56 9 ∧ Z 56 9 ≤ 100 := hG.pr 56 9
    have b3 : 0 ≤ Z 56 11 ∧ Z 56 11 ≤ 4 := hG.pr 56 11
    obtain ⟨z1, hc1, b1⟩ := ct_164_56 (d := d + 24) (l := l) (D := D) (b0 := b0) (ad := ad) (Hb := Hb) (tau := tau) hx hG (show 0 ≤ 15 ∧ 15 ≤ 100 by omega)
    refine Jcv hx (show mx_Sn _ _ 3 (mx_callv 164 2 12 6) from sn_175 3) a56 s56 hc1 rfl rfl rfl ?_
    refine Jif_eq (show mx_Sn _ _ 6 (mx_if_eq 33 9) from sn_175 6) (by omega) (fun q4 => ?_) (fun q4 => ?_)
    · skip
      refine mx_J.step (sn_175 33) (fun _ _ => rfl) ?_
      refine JcI (z := 37) (show mx_Sn _ _ 34 (mx_const (.int 37) 36) from sn_175 34) rfl ?_
      have b6 : 0 ≤ Z 56 9 ∧ Z 56 9 ≤ 100 := hG.pr 56 9
      have b7 : 0 ≤ Z 56 11 ∧ Z 56 11 ≤ 4 := hG.pr 56 11
      obtain ⟨z5, hc5, b5⟩ := ct_164_56 (d := d + 24) (l := l) (D := D) (b0 := b0) (ad := ad) (Hb := Hb) (tau := tau) hx hG (show 0 ≤ 37 ∧ 37 ≤ 100 by omega)
      refine Jcv hx (show mx_Sn _ _ 36 (mx_callv 164 2 12 39) from sn_175 36) a56 s56 hc5 rfl rfl rfl ?_
      refine Jif_eq (show mx_Sn _ _ 39 (mx_if_eq 73 42) from sn_175 39) (by omega) (fun q8 => ?_) (fun q8 => ?_)
      · skip
        refine mx_J.step (sn_175 73) (fun _ _ => rfl) ?_
        refine mx_J.step (sn_175 74) (fun _ _ => rfl) ?_
        have b10 : 0 ≤ Z 56 6 ∧ Z 56 6 ≤ 900 := hG.pr 56 6
        have b11 : 0 ≤ Z 56 7 ∧ Z 56 7 ≤ 900 := hG.pr 56 7
        have b12 : 0 ≤ Z 56 8 ∧ Z 56 8 ≤ 900 := hG.pr 56 8
        have b13 : 0 ≤ Z 56 9 ∧ Z 56 9 ≤ 100 := hG.pr 56 9
        have b14 : 0 ≤ Z 56 11 ∧ Z 56 11 ≤ 4 := hG.pr 56 11
        have b15 : 0 ≤ Z 60 61 ∧ Z 60 61 ≤ 900 := by have hq := GI_ex hG 60 61; replace hq : f60 (61 % 962) (Z 60 61) := hq; unfold f60 at hq; omega
        have b16 : (-2147483648) ≤ Z 60 61 ∧ Z 60 61 ≤ 2147483647 := hG.pr 60 61
        have b17 : 0 ≤ Z 60 1 ∧ Z 60 1 ≤ 18 := by have hq := GI_ex hG 60 1; replace hq : f60 (1 % 962) (Z 60 1) := hq; unfold f60 at hq; omega
        have b18 : (-2147483648) ≤ Z 60 1 ∧ Z 60 1 ≤ 2147483647 := hG.pr 60 1
        have b19 : 0 ≤ Z 60 2 ∧ Z 60 2 ≤ 18 := by have hq := GI_ex hG 60 2; replace hq : f60 (2 % 962) (Z 60 2) := hq; unfold f60 at hq; omega
        have b20 : (-2147483648) ≤ Z 60 2 ∧ Z 60 2 ≤ 2147483647 := hG.pr 60 2
        obtain ⟨Z9, h9, hc9, hx9, hG9, hf9, b9⟩ := ct_174_56_i4 (a0 := a0) (d := d + 0) (l := l) (D := D) (b0 := b0) (ad := ad) (Hb := Hb) (tau := tau) hx hG  (show (Z 56 6 ≤ Z 56 7 ∧ Z 56 7 ≤ Z 56 8 ∧ (Z 56 9 = 24 ∨ Z 56 6 < Z 56 7)) by omega) (show Z 60 61 ≤ Z 56 6 by omega) (show a0 ≤ Z 60 61 by omega) (show 0 ≤ a0 by omega)
        obtain ⟨bq9, b9⟩ := b9
        have b21 : 0 ≤ Z9 56 6 ∧ Z9 56 6 ≤ 900 := hG9.pr 56 6
        have b22 : 0 ≤ Z9 56 7 ∧ Z9 56 7 ≤ 900 := hG9.pr 56 7
        have b23 : 0 ≤ Z9 56 9 ∧ Z9 56 9 ≤ 100 := hG9.pr 56 9
        have b24 : 0 ≤ Z9 56 11 ∧ Z9 56 11 ≤ 4 := hG9.pr 56 11
        have b25 : 0 ≤ Z9 60 61 ∧ Z9 60 61 ≤ 900 := by have hq := GI_ex hG9 60 61; replace hq : f60 (61 % 962) (Z9 60 61) := hq; unfold f60 at hq; omega
        have b26 : (-2147483648) ≤ Z9 60 61 ∧ Z9 60 61 ≤ 2147483647 := hG9.pr 60 61
        have b27 : 0 ≤ Z9 60 1 ∧ Z9 60 1 ≤ 18 := by have hq := GI_ex hG9 60 1; replace hq : f60 (1 % 962) (Z9 60 1) := hq; unfold f60 at hq; omega
        have b28 : (-2147483648) ≤ Z9 60 1 ∧ Z9 60 1 ≤ 2147483647 := hG9.pr 60 1
        have b29 : 0 ≤ Z9 60 2 ∧ Z9 60 2 ≤ 18 := by have hq := GI_ex hG9 60 2; replace hq : f60 (2 % 962) (Z9 60 2) := hq; unfold f60 at hq; omega
        have b30 : (-2147483648) ≤ Z9 60 2 ∧ Z9 60 2 ≤ 2147483647 := hG9.pr 60 2
        have r9 := QR_tr (d := 1) (c := 0) (QR_rf (Z := Z) (a := a0)) bq9 (by decide) (by decide) (by decide)
        refine Jcv0 hx (show mx_Sn _ _ 75 (mx_callv 174 2 12 78) from sn_175 75) a56 s56 hc9 rfl rfl rfl ?_
        refine mx_J.step (sn_175 78) (fun _ _ => rfl) ?_
        refine JcI (z := 39) (show mx_Sn _ _ 79 (mx_const (.int 39) 81) from sn_175 79) rfl ?_
        have b32 : 0 ≤ Z9 56 9 ∧ Z9 56 9 ≤ 100 := hG9.pr 56 9
        have b33 : 0 ≤ Z9 56 11 ∧ Z9 56 11 ≤ 4 := hG9.pr 56 11
        obtain ⟨z31, hc31, b31⟩ := ct_164_56 (d := d + 24) (l := l) (D := D) (b0 := b0) (ad := ad) (Hb := Hb) (tau := tau) hx9 hG9 (show 0 ≤ 39 ∧ 39 ≤ 100 by omega)
        refine Jcv hx9 (show mx_Sn _ _ 81 (mx_callv 164 2 12 84) from sn_175 81) a56 s56 hc31 rfl rfl rfl ?_
        have c111 : ∀ (k34_0 : Int), 3003 ≤ k34_0 ∧ k34_0 ≤ 3005 → mx_J (tB l D b0 ad Hb tau) mt_175 (d + 25) 111 [some (.ref 56), some (xI 4), none] [xI k34_0] h9 Post := by
          intro k34_0 f34_0
          refine mx_J.step (ls2 := [some (.ref 56), some (xI 4), some (xI k34_0)]) (sn_175 111) (fun _ _ => rfl) ?_
          refine mx_J.step (sn_175 112) (fun _ _ => rfl) ?_
          refine JcI (z := 39) (show mx_Sn _ _ 113 (mx_const (.int 39) 115) from sn_175 113) rfl ?_
          have b36 : 0 ≤ Z9 56 9 ∧ Z9 56 9 ≤ 100 := hG9.pr 56 9
          have b37 : 0 ≤ Z9 56 11 ∧ Z9 56 11 ≤ 4 := hG9.pr 56 11
          obtain ⟨z35, hc35, b35⟩ := ct_164_56 (d := d + 24) (l := l) (D := D) (b0 := b0) (ad := ad) (Hb := Hb) (tau := tau) hx9 hG9 (show 0 ≤ 39 ∧ 39 ≤ 100 by omega)
          refine Jcv hx9 (show mx_Sn _ _ 115 (mx_callv 164 2 12 118) from sn_175 115) a56 s56 hc35 rfl rfl rfl ?_
          have c151 : ∀  (Z39 : xZ) (h39 : mx_H), (Z39 56 6 ≤ Z39 56 7 ∧ Z39 56 7 ≤ Z 56 8) → (Z39 56 9 = 24 ∨ Z39 56 6 < Z39 56 7) → (Z 56 6 ≤ Z39 56 6 ∧ Z 60 61 ≤ Z39 60 61 ∧ Z39 60 61 - Z 60 61 ≤ Z39 56 6 - Z 56 6) → (Z39 60 1 = Z 60 1 ∧ Z39 60 2 = Z 60 2) → QR Z Z39 a0 1 1 → XH n s S Z39 h39 → GI n S Z39 → fr' [(56, 6), (56, 7), (56, 9), (56, 10), (56, 11), (56, 12)] Z9 Z39 → mx_J (tB l D b0 ad Hb tau) mt_175 (d + 25) 151 [some (.ref 56), some (xI 4), some (xI k34_0)] [] h39 Post := by
            intro Z39 h39 f38_0 f38_1 f38_2 f38_3 f38_4 hx39 hG39 hf39
            have b40 : 0 ≤ Z39 56 6 ∧ Z39 56 6 ≤ 900 := hG39.pr 56 6
            have b41 : 0 ≤ Z39 56 7 ∧ Z39 56 7 ≤ 900 := hG39.pr 56 7
            have b42 : 0 ≤ Z39 56 6 ∧ Z39 56 6 ≤ 900 := hG39.pr 56 6
            have b43 : 0 ≤ Z39 56 7 ∧ Z39 56 7 ≤ 900 := hG39.pr 56 7
            have b44 : 0 ≤ Z39 56 9 ∧ Z39 56 9 ≤ 100 := hG39.pr 56 9
            have b45 : 0 ≤ Z39 56 6 ∧ Z39 56 6 ≤ 900 := hG39.pr 56 6
            have eq46 : Z39 60 61 = Z9 60 61 := (hf39 60 61 rfl)
            have b47 : 0 ≤ Z9 60 61 ∧ Z9 60 61 ≤ 900 := by have hq := GI_ex hG9 60 61; replace hq : f60 (61 % 962) (Z9 60 61) := hq; unfold f60 at hq; omega
            have b48 : (-2147483648) ≤ Z9 60 61 ∧ Z9 60 61 ≤ 2147483647 := hG9.pr 60 61
            have eq49 : Z39 60 1 = Z9 60 1 := (hf39 60 1 rfl)
            have b50 : 0 ≤ Z9 60 1 ∧ Z9 60 1 ≤ 18 := by have hq := GI_ex hG9 60 1; replace hq : f60 (1 % 962) (Z9 60 1) := hq; unfold f60 at hq; omega
            have b51 : (-2147483648) ≤ Z9 60 1 ∧ Z9 60 1 ≤ 2147483647 := hG9.pr 60 1
            have eq52 : Z39 60 2 = Z9 60 2 := (hf39 60 2 rfl)
            have b53 : 0 ≤ Z9 60 2 ∧ Z9 60 2 ≤ 18 := by have hq := GI_ex hG9 60 2; replace hq : f60 (2 % 962) (Z9 60 2) := hq; unfold f60 at hq; omega
            have b54 : (-2147483648) ≤ Z9 60 2 ∧ Z9 60 2 ≤ 2147483647 := hG9.pr 60 2
            refine mx_J.step (sn_175 151) (fun _ _ => rfl) ?_
            refine mx_J.step (sn_175 152) (fun _ _ => rfl) ?_
            have b56 : 0 ≤ Z39 56 6 ∧ Z39 56 6 ≤ 900 := hG39.pr 56 6
            have b57 : 0 ≤ Z39 56 7 ∧ Z39 56 7 ≤ 900 := hG39.pr 56 7
            have eq58 : Z39 56 8 = Z 56 8 := ((hf39 56 8 rfl).trans (hf9 56 8 rfl))
            have b59 : 0 ≤ Z 56 8 ∧ Z 56 8 ≤ 900 := hG.pr 56 8
            have b60 : 0 ≤ Z39 56 9 ∧ Z39 56 9 ≤ 100 := hG39.pr 56 9
            have b61 : 0 ≤ Z39 56 11 ∧ Z39 56 11 ≤ 4 := hG39.pr 56 11
            have eq62 : Z39 60 61 = Z9 60 61 := (hf39 60 61 rfl)
            have b63 : 0 ≤ Z9 60 61 ∧ Z9 60 61 ≤ 900 := by have hq := GI_ex hG9 60 61; replace hq : f60 (61 % 962) (Z9 60 61) := hq; unfold f60 at hq; omega
            have b64 : (-2147483648) ≤ Z9 60 61 ∧ Z9 60 61 ≤ 2147483647 := hG9.pr 60 61
            have eq65 : Z39 60 1 = Z9 60 1 := (hf39 60 1 rfl)
            have b66 : 0 ≤ Z9 60 1 ∧ Z9 60 1 ≤ 18 := by have hq := GI_ex hG9 60 1; replace hq : f60 (1 % 962) (Z9 60 1) := hq; unfold f60 at hq; omega
            have b67 : (-2147483648) ≤ Z9 60 1 ∧ Z9 60 1 ≤ 2147483647 := hG9.pr 60 1
            have eq68 : Z39 60 2 = Z9 60 2 := (hf39 60 2 rfl)
            have b69 : 0 ≤ Z9 60 2 ∧ Z9 60 2 ≤ 18 := by have hq := GI_ex hG9 60 2; replace hq : f60 (2 % 962) (Z9 60 2) := hq; unfold f60 at hq; omega
            have b70 : (-2147483648) ≤ Z9 60 2 ∧ Z9 60 2 ≤ 2147483647 := hG9.pr 60 2
            obtain ⟨Z55, h55, hc55, hx55, hG55, hf55, b55⟩ := ct_174_56_i4 (a0 := a0) (d := d + 0) (l := l) (D := D) (b0 := b0) (ad := ad) (Hb := Hb) (tau := tau) hx39 hG39  (show (Z39 56 6 ≤ Z39 56 7 ∧ Z39 56 7 ≤ Z39 56 8 ∧ (Z39 56 9 = 24 ∨ Z39 56 6 < Z39 56 7)) by first | omega | (simp only [eq58, eq62, eq65, eq68]; omega)) (show Z39 60 61 ≤ Z39 56 6 by first | omega | (simp only [eq58, eq62, eq65, eq68]; omega)) (show a0 ≤ Z39 60 61 by first | omega | (simp only [eq58, eq62, eq65, eq68]; omega)) (show 0 ≤ a0 by first | omega | (simp only [eq58, eq62, eq65, eq68]; omega))
            try rw [eq58] at b55
            try rw [eq62] at b55
            try rw [eq65] at b55
            try rw [eq68] at b55
            obtain ⟨bq55, b55⟩ := b55
            have b71 : 0 ≤ Z55 56 6 ∧ Z55 56 6 ≤ 900 := hG55.pr 56 6
            have b72 : 0 ≤ Z55 56 7 ∧ Z55 56 7 ≤ 900 := hG55.pr 56 7
            have b73 : 0 ≤ Z55 56 9 ∧ Z55 56 9 ≤ 100 := hG55.pr 56 9
            have b74 : 0 ≤ Z55 56 11 ∧ Z55 56 11 ≤ 4 := hG55.pr 56 11
            have b75 : 0 ≤ Z55 60 61 ∧ Z55 60 61 ≤ 900 := by have hq := GI_ex hG55 60 61; replace hq : f60 (61 % 962) (Z55 60 61) := hq; unfold f60 at hq; omega
            have b76 : (-2147483648) ≤ Z55 60 61 ∧ Z55 60 61 ≤ 2147483647 := hG55.pr 60 61
            have b77 : 0 ≤ Z55 60 1 ∧ Z55 60 1 ≤ 18 := by have hq := GI_ex hG55 60 1; replace hq : f60 (1 % 962) (Z55 60 1) := hq; unfold f60 at hq; omega
            have b78 : (-2147483648) ≤ Z55 60 1 ∧ Z55 60 1 ≤ 2147483647 := hG55.pr 60 1
            have b79 : 0 ≤ Z55 60 2 ∧ Z55 60 2 ≤ 18 := by have hq := GI_ex hG55 60 2; replace hq : f60 (2 % 962) (Z55 60 2) := hq; unfold f60 at hq; omega
            have b80 : (-2147483648) ≤ Z55 60 2 ∧ Z55 60 2 ≤ 2147483647 := hG55.pr 60 2
            have r55 := QR_tr (d := 2) (c := 1) f38_4 bq55 (by decide) (by decide) (by decide)
            refine Jcv0 hx39 (show mx_Sn _ _ 153 (mx_callv 174 2 12 156) from sn_175 153) a56 s56 hc55 rfl rfl rfl ?_
            refine mx_J.step (sn_175 156) (fun _ _ => rfl) ?_
            refine mx_J.step (sn_175 157) (fun _ _ => rfl) ?_
            have eq82 : Z55 56 8 = Z 56 8 := ((hf55 56 8 rfl).trans ((hf39 56 8 rfl).trans (hf9 56 8 rfl)))
            have b83 : 0 ≤ Z 56 8 ∧ Z 56 8 ≤ 900 := hG.pr 56 8
            have b84 : 0 ≤ Z55 56 11 ∧ Z55 56 11 ≤ 4 := hG55.pr 56 11
            have b85 : 0 ≤ Z55 60 61 ∧ Z55 60 61 ≤ 900 := by have hq := GI_ex hG55 60 61; replace hq : f60 (61 % 962) (Z55 60 61) := hq; unfold f60 at hq; omega
            have b86 : (-2147483648) ≤ Z55 60 61 ∧ Z55 60 61 ≤ 2147483647 := hG55.pr 60 61
            have b87 : 0 ≤ Z55 60 1 ∧ Z55 60 1 ≤ 18 := by have hq := GI_ex hG55 60 1; replace hq : f60 (1 % 962) (Z55 60 1) := hq; unfold f60 at hq; omega
            have b88 : (-2147483648) ≤ Z55 60 1 ∧ Z55 60 1 ≤ 2147483647 := hG55.pr 60 1
            have b89 : 0 ≤ Z55 60 2 ∧ Z55 60 2 ≤ 18 := by have hq := GI_ex hG55 60 2; replace hq : f60 (2 % 962) (Z55 60 2) := hq; unfold f60 at hq; omega
            have b90 : (-2147483648) ≤ Z55 60 2 ∧ Z55 60 2 ≤ 2147483647 := hG55.pr 60 2
            have rp81 := QR_n r55
            obtain ⟨Z81, h81, hc81, hx81, hG81, hf81, b81⟩ := ct_169_56_3000 (a0 := a0) (d := d + 24) (l := l) (D := D) (b0 := b0) (ad := ad) (Hb := Hb) (tau := tau) hx55 hG55 (show 3000 ≤ k34_0 ∧ k34_0 ≤ 3005 by omega) (show (Z55 56 11 = 0 → Z55 60 61 ≤ 899) by first | omega | (simp only [eq82]; omega)) (show a0 ≤ Z55 60 61 by first | omega | (simp only [eq82]; omega)) (show 0 ≤ a0 by first | omega | (simp only [eq82]; omega))
            try rw [eq82] at b81
            obtain ⟨bq81, b81⟩ := b81
            have b91 : 0 ≤ Z81 60 61 ∧ Z81 60 61 ≤ 900 := by have hq := GI_ex hG81 60 61; replace hq : f60 (61 % 962) (Z81 60 61) := hq; unfold f60 at hq; omega
            have b92 : (-2147483648) ≤ Z81 60 61 ∧ Z81 60 61 ≤ 2147483647 := hG81.pr 60 61
            have b93 : 0 ≤ Z81 60 1 ∧ Z81 60 1 ≤ 18 := by have hq := GI_ex hG81 60 1; replace hq : f60 (1 % 962) (Z81 60 1) := hq; unfold f60 at hq; omega
            have b94 : (-2147483648) ≤ Z81 60 1 ∧ Z81 60 1 ≤ 2147483647 := hG81.pr 60 1
            have b95 : 0 ≤ Z81 60 2 ∧ Z81 60 2 ≤ 18 := by have hq := GI_ex hG81 60 2; replace hq : f60 (2 % 962) (Z81 60 2) := hq; unfold f60 at hq; omega
            have b96 : (-2147483648) ≤ Z81 60 2 ∧ Z81 60 2 ≤ 2147483647 := hG81.pr 60 2
            have rn81 := QR_n r55
            have r81 := QR_c (d2 := 1) (c2 := 0) r55 bq81 (by omega) (hf81 56 11 rfl) (hf81 56 6 rfl) (by decide) (by decide) (by decide)
            refine Jcv0 hx55 (show mx_Sn _ _ 158 (mx_callv 169 2 12 161) from sn_175 158) a56 s56 hc81 rfl rfl rfl ?_
            have eq97 : Z81 56 6 = Z55 56 6 := (hf81 56 6 rfl)
            have b98 : 0 ≤ Z55 56 6 ∧ Z55 56 6 ≤ 900 := hG55.pr 56 6
            have eq99 : Z81 56 7 = Z55 56 7 := (hf81 56 7 rfl)
            have b100 : 0 ≤ Z55 56 7 ∧ Z55 56 7 ≤ 900 := hG55.pr 56 7
            have eq101 : Z81 56 9 = Z55 56 9 := (hf81 56 9 rfl)
            have b102 : 0 ≤ Z55 56 9 ∧ Z55 56 9 ≤ 100 := hG55.pr 56 9
            have eq103 : Z81 56 11 = Z55 56 11 := (hf81 56 11 rfl)
            have b104 : 0 ≤ Z55 56 11 ∧ Z55 56 11 ≤ 4 := hG55.pr 56 11
            have b105 : 0 ≤ Z81 60 61 ∧ Z81 60 61 ≤ 900 := by have hq := GI_ex hG81 60 61; replace hq : f60 (61 % 962) (Z81 60 61) := hq; unfold f60 at hq; omega
            have b106 : (-2147483648) ≤ Z81 60 61 ∧ Z81 60 61 ≤ 2147483647 := hG81.pr 60 61
            have b107 : 0 ≤ Z81 60 1 ∧ Z81 60 1 ≤ 18 := by have hq := GI_ex hG81 60 1; replace hq : f60 (1 % 962) (Z81 60 1) := hq; unfold f60 at hq; omega
            have b108 : (-2147483648) ≤ Z81 60 1 ∧ Z81 60 1 ≤ 2147483647 := hG81.pr 60 1
            have b109 : 0 ≤ Z81 60 2 ∧ Z81 60 2 ≤ 18 := by have hq := GI_ex hG81 60 2; replace hq : f60 (2 % 962) (Z81 60 2) := hq; unfold f60 at hq; omega
            have b110 : (-2147483648) ≤ Z81 60 2 ∧ Z81 60 2 ≤ 2147483647 := hG81.pr 60 2
            have eq111 : Z81 56 6 = Z55 56 6 := (hf81 56 6 rfl)
            have b112 : 0 ≤ Z55 56 6 ∧ Z55 56 6 ≤ 900 := hG55.pr 56 6
            have eq113 : Z81 56 7 = Z55 56 7 := (hf81 56 7 rfl)
            have b114 : 0 ≤ Z55 56 7 ∧ Z55 56 7 ≤ 900 := hG55.pr 56 7
            have eq115 : Z81 56 8 = Z 56 8 := ((hf81 56 8 rfl).trans ((hf55 56 8 rfl).trans ((hf39 56 8 rfl).trans (hf9 56 8 rfl))))
            have b116 : 0 ≤ Z 56 8 ∧ Z 56 8 ≤ 900 := hG.pr 56 8
            have eq117 : Z81 56 9 = Z55 56 9 := (hf81 56 9 rfl)
            have b118 : 0 ≤ Z55 56 9 ∧ Z55 56 9 ≤ 100 := hG55.pr 56 9
            have eq119 : Z81 56 11 = Z55 56 11 := (hf81 56 11 rfl)
            have b120 : 0 ≤ Z55 56 11 ∧ Z55 56 11 ≤ 4 := hG55.pr 56 11
            have b121 : 0 ≤ Z81 60 61 ∧ Z81 60 61 ≤ 900 := by have hq := GI_ex hG81 60 61; replace hq : f60 (61 % 962) (Z81 60 61) := hq; unfold f60 at hq; omega
            have b122 : (-2147483648) ≤ Z81 60 61 ∧ Z81 60 61 ≤ 2147483647 := hG81.pr 60 61
            have b123 : 0 ≤ Z81 60 1 ∧ Z81 60 1 ≤ 18 := by have hq := GI_ex hG81 60 1; replace hq : f60 (1 % 962) (Z81 60 1) := hq; unfold f60 at hq; omega
            have b124 : (-2147483648) ≤ Z81 60 1 ∧ Z81 60 1 ≤ 2147483647 := hG81.pr 60 1
            have b125 : 0 ≤ Z81 60 2 ∧ Z81 60 2 ≤ 18 := by have hq := GI_ex hG81 60 2; replace hq : f60 (2 % 962) (Z81 60 2) := hq; unfold f60 at hq; omega
            have b126 : (-2147483648) ≤ Z81 60 2 ∧ Z81 60 2 ≤ 2147483647 := hG81.pr 60 2
            exact mx_J.ret (sn_175 161) (fun _ _ => rfl) (hP Z81 h81 hx81 hG81 (fr_tr (M := [(56, 6), (56, 7), (56, 9), (56, 10), (56, 11), (56, 12), (60, (-1))]) (fr_tr (M := [(56, 6), (56, 7), (56, 9), (56, 10), (56, 11), (56, 12), (60, (-1))]) (fr_tr (M := [(56, 6), (56, 7), (56, 9), (56, 10), (56, 11), (56, 12), (60, (-1))]) (fr_tr (M := [(56, 6), (56, 7), (56, 9), (56, 10), (56, 11), (56, 12), (60, (-1))]) fr_rf (hf9) (M1 := []) rfl rfl) (hf39) rfl rfl) (hf55) rfl rfl) (hf81) rfl rfl) ⟨(QR_le r81 (by decide)), by omega⟩)
          have c139 : (Z9 56 11 = 0 ∧ (Z9 56 9 = 39 ∨ Z9 56 9 = 40 ∨ Z9 56 9 = 41)) → mx_J (tB l D b0 ad Hb tau) mt_175 (d + 25) 139 [some (.ref 56), some (xI 4), some (xI k34_0)] [] h9 Post := by
            intro f127_0
            refine mx_J.step (sn_175 139) (fun _ _ => rfl) ?_
            have b129 : 0 ≤ Z9 56 7 ∧ Z9 56 7 ≤ 900 := hG9.pr 56 7
            have eq130 : Z9 56 8 = Z 56 8 := (hf9 56 8 rfl)
            have b131 : 0 ≤ Z 56 8 ∧ Z 56 8 ≤ 900 := hG.pr 56 8
            obtain ⟨Z128, h128, hc128, hx128, hG128, hf128, b128⟩ := ct_162_56 (d := d + 19) (l := l) (D := D) (b0 := b0) (ad := ad) (Hb := Hb) (tau := tau) hx9 hG9  (show Z9 56 7 ≤ Z9 56 8 by first | omega | (simp only [eq130]; omega))
            try rw [eq130] at b128
            have b132 : 0 ≤ Z128 56 6 ∧ Z128 56 6 ≤ 900 := hG128.pr 56 6
            have b133 : 0 ≤ Z128 56 7 ∧ Z128 56 7 ≤ 900 := hG128.pr 56 7
            have b134 : 0 ≤ Z128 56 9 ∧ Z128 56 9 ≤ 100 := hG128.pr 56 9
            have b135 : 0 ≤ Z9 56 6 ∧ Z9 56 6 ≤ 900 := hG9.pr 56 6
            have b136 : 0 ≤ Z9 56 11 ∧ Z9 56 11 ≤ 4 := hG9.pr 56 11
            have b137 : 0 ≤ Z9 56 9 ∧ Z9 56 9 ≤ 100 := hG9.pr 56 9
            have r128 := QR_g (k := 1) (c2 := 1) r9 (fun e => (hf128 56 11 rfl).symm.trans e) (fun i => hf128 60 i rfl) (fun e => by omega) (by decide)
            refine Jcv0 hx9 (show mx_Sn _ _ 140 (mx_callv 162 1 12 143) from sn_175 140) a56 s56 hc128 rfl rfl rfl ?_
            refine mx_J.step (sn_175 143) (fun _ _ => rfl) ?_
            have b138 : 0 ≤ Z128 56 6 ∧ Z128 56 6 ≤ 900 := hG128.pr 56 6
            have b139 : 0 ≤ Z128 56 7 ∧ Z128 56 7 ≤ 900 := hG128.pr 56 7
            have b140 : 0 ≤ Z128 56 6 ∧ Z128 56 6 ≤ 900 := hG128.pr 56 6
            have b141 : 0 ≤ Z128 56 7 ∧ Z128 56 7 ≤ 900 := hG128.pr 56 7
            have b142 : 0 ≤ Z128 56 9 ∧ Z128 56 9 ≤ 100 := hG128.pr 56 9
            have b143 : 0 ≤ Z128 56 6 ∧ Z128 56 6 ≤ 900 := hG128.pr 56 6
            have eq144 : Z128 60 61 = Z9 60 61 := (hf128 60 61 rfl)
            have b145 : 0 ≤ Z9 60 61 ∧ Z9 60 61 ≤ 900 := by have hq := GI_ex hG9 60 61; replace hq : f60 (61 % 962) (Z9 60 61) := hq; unfold f60 at hq; omega
            have b146 : (-2147483648) ≤ Z9 60 61 ∧ Z9 60 61 ≤ 2147483647 := hG9.pr 60 61
            have eq147 : Z128 60 1 = Z9 60 1 := (hf128 60 1 rfl)
            have b148 : 0 ≤ Z9 60 1 ∧ Z9 60 1 ≤ 18 := by have hq := GI_ex hG9 60 1; replace hq : f60 (1 % 962) (Z9 60 1) := hq; unfold f60 at hq; omega
            have b149 : (-2147483648) ≤ Z9 60 1 ∧ Z9 60 1 ≤ 2147483647 := hG9.pr 60 1
            have eq150 : Z128 60 2 = Z9 60 2 := (hf128 60 2 rfl)
            have b151 : 0 ≤ Z9 60 2 ∧ Z9 60 2 ≤ 18 := by have hq := GI_ex hG9 60 2; replace hq : f60 (2 % 962) (Z9 60 2) := hq; unfold f60 at hq; omega
            have b152 : (-2147483648) ≤ Z9 60 2 ∧ Z9 60 2 ≤ 2147483647 := hG9.pr 60 2
            exact c151 Z128 h128 (by omega) (by omega) (by omega) (by omega) (QR_le r128 (by decide)) hx128 hG128 (fr_tr (M := [(56, 6), (56, 7), (56, 9), (56, 10), (56, 11), (56, 12)]) fr_rf (hf128) (M1 := []) rfl rfl)
          refine Jif_ne (show mx_Sn _ _ 118 (mx_if_ne 139 121) from sn_175 118) (by omega) (fun q153 => ?_) (fun q153 => ?_)
          · skip
            exact c139 (by omega)
          · skip
            refine mx_J.step (sn_175 121) (fun _ _ => rfl) ?_
            refine JcI (z := 40) (show mx_Sn _ _ 122 (mx_const (.int 40) 124) from sn_175 122) rfl ?_
            have b155 : 0 ≤ Z9 56 9 ∧ Z9 56 9 ≤ 100 := hG9.pr 56 9
            have b156 : 0 ≤ Z9 56 11 ∧ Z9 56 11 ≤ 4 := hG9.pr 56 11
            obtain ⟨z154, hc154, b154⟩ := ct_164_56 (d := d + 24) (l := l) (D := D) (b0 := b0) (ad := ad) (Hb := Hb) (tau := tau) hx9 hG9 (show 0 ≤ 40 ∧ 40 ≤ 100 by omega)
            refine Jcv hx9 (show mx_Sn _ _ 124 (mx_callv 164 2 12 127) from sn_175 124) a56 s56 hc154 rfl rfl rfl ?_
            refine Jif_ne (show mx_Sn _ _ 127 (mx_if_ne 139 130) from sn_175 127) (by omega) (fun q157 => ?_) (fun q157 => ?_)
            · skip
              exact c139 (by omega)
            · skip
              refine mx_J.step (sn_175 130) (fun _ _ => rfl) ?_
              refine JcI (z := 41) (show mx_Sn _ _ 131 (mx_const (.int 41) 133) from sn_175 131) rfl ?_
              have b159 : 0 ≤ Z9 56 9 ∧ Z9 56 9 ≤ 100 := hG9.pr 56 9
              have b160 : 0 ≤ Z9 56 11 ∧ Z9 56 11 ≤ 4 := hG9.pr 56 11
              obtain ⟨z158, hc158, b158⟩ := ct_164_56 (d := d + 24) (l := l) (D := D) (b0 := b0) (ad := ad) (Hb := Hb) (tau := tau) hx9 hG9 (show 0 ≤ 41 ∧ 41 ≤ 100 by omega)
              refine Jcv hx9 (show mx_Sn _ _ 133 (mx_callv 164 2 12 136) from sn_175 133) a56 s56 hc158 rfl rfl rfl ?_
              refine Jif_eq (show mx_Sn _ _ 136 (mx_if_eq 146 139) from sn_175 136) (by omega) (fun q161 => ?_) (fun q161 => ?_)
              · skip
                refine mx_J.step (sn_175 146) (fun _ _ => rfl) ?_
                refine JcI (z := 2) (show mx_Sn _ _ 147 (mx_const (.int 2) 148) from sn_175 147) rfl ?_
                obtain ⟨Z162, h162, hc162, hx162, hG162, hf162, b162⟩ := ct_163_56 (d := d + 24) (l := l) (D := D) (b0 := b0) (ad := ad) (Hb := Hb) (tau := tau) hx9 hG9 (show 1 ≤ 2 ∧ 2 ≤ 4 by omega)
                have b163 : 0 ≤ Z162 56 11 ∧ Z162 56 11 ≤ 4 := hG162.pr 56 11
                have r162 : ¬ Z162 56 11 = 0 := by omega
                refine Jcv0 hx9 (show mx_Sn _ _ 148 (mx_callv 163 2 12 151) from sn_175 148) a56 s56 hc162 rfl rfl rfl ?_
                have eq164 : Z162 56 6 = Z9 56 6 := (hf162 56 6 rfl)
                have b165 : 0 ≤ Z9 56 6 ∧ Z9 56 6 ≤ 900 := hG9.pr 56 6
                have eq166 : Z162 56 7 = Z9 56 7 := (hf162 56 7 rfl)
                have b167 : 0 ≤ Z9 56 7 ∧ Z9 56 7 ≤ 900 := hG9.pr 56 7
                have eq168 : Z162 56 6 = Z9 56 6 := (hf162 56 6 rfl)
                have b169 : 0 ≤ Z9 56 6 ∧ Z9 56 6 ≤ 900 := hG9.pr 56 6
                have eq170 : Z162 56 7 = Z9 56 7 := (hf162 56 7 rfl)
                have b171 : 0 ≤ Z9 56 7 ∧ Z9 56 7 ≤ 900 := hG9.pr 56 7
                have eq172 : Z162 56 9 = Z9 56 9 := (hf162 56 9 rfl)
                have b173 : 0 ≤ Z9 56 9 ∧ Z9 56 9 ≤ 100 := hG9.pr 56 9
                have eq174 : Z162 56 6 = Z9 56 6 := (hf162 56 6 rfl)
                have b175 : 0 ≤ Z9 56 6 ∧ Z9 56 6 ≤ 900 := hG9.pr 56 6
                have eq176 : Z162 60 61 = Z9 60 61 := (hf162 60 61 rfl)
                have b177 : 0 ≤ Z9 60 61 ∧ Z9 60 61 ≤ 900 := by have hq := GI_ex hG9 60 61; replace hq : f60 (61 % 962) (Z9 60 61) := hq; unfold f60 at hq; omega
                have b178 : (-2147483648) ≤ Z9 60 61 ∧ Z9 60 61 ≤ 2147483647 := hG9.pr 60 61
                have eq179 : Z162 60 1 = Z9 60 1 := (hf162 60 1 rfl)
                have b180 : 0 ≤ Z9 60 1 ∧ Z9 60 1 ≤ 18 := by have hq := GI_ex hG9 60 1; replace hq : f60 (1 % 962) (Z9 60 1) := hq; unfold f60 at hq; omega
                have b181 : (-2147483648) ≤ Z9 60 1 ∧ Z9 60 1 ≤ 2147483647 := hG9.pr 60 1
                have eq182 : Z162 60 2 = Z9 60 2 := (hf162 60 2 rfl)
                have b183 : 0 ≤ Z9 60 2 ∧ Z9 60 2 ≤ 18 := by have hq := GI_ex hG9 60 2; replace hq : f60 (2 % 962) (Z9 60 2) := hq; unfold f60 at hq; omega
                have b184 : (-2147483648) ≤ Z9 60 2 ∧ Z9 60 2 ≤ 2147483647 := hG9.pr 60 2
                exact c151 Z162 h162 (by omega) (by omega) (by omega) (by omega) (QR_f r162) hx162 hG162 (fr_tr (M := [(56, 6), (56, 7), (56, 9), (56, 10), (56, 11), (56, 12)]) fr_rf (hf162) (M1 := []) rfl rfl)
              · skip
                exact c139 (by omega)
        refine Jif_eq (show mx_Sn _ _ 84 (mx_if_eq 93 87) from sn_175 84) (by omega) (fun q185 => ?_) (fun q185 => ?_)
        · skip
          refine mx_J.step (sn_175 93) (fun _ _ => rfl) ?_
          refine JcI (z := 40) (show mx_Sn _ _ 94 (mx_const (.int 40) 96) from sn_175 94) rfl ?_
          have b187 : 0 ≤ Z9 56 9 ∧ Z9 56 9 ≤ 100 := hG9.pr 56 9
          have b188 : 0 ≤ Z9 56 11 ∧ Z9 56 11 ≤ 4 := hG9.pr 56 11
          obtain ⟨z186, hc186, b186⟩ := ct_164_56 (d := d + 24) (l := l) (D := D) (b0 := b0) (ad := ad) (Hb := Hb) (tau := tau) hx9 hG9 (show 0 ≤ 40 ∧ 40 ≤ 100 by omega)
          refine Jcv hx9 (show mx_Sn _ _ 96 (mx_callv 164 2 12 99) from sn_175 96) a56 s56 hc186 rfl rfl rfl ?_
          refine Jif_eq (show mx_Sn _ _ 99 (mx_if_eq 108 102) from sn_175 99) (by omega) (fun q189 => ?_) (fun q189 => ?_)
          · skip
            refine JcI (z := 3005) (show mx_Sn _ _ 108 (mx_const (.int 3005) 111) from sn_175 108) rfl ?_
            exact c111 3005 (by omega)
          · skip
            refine JcI (z := 3004) (show mx_Sn _ _ 102 (mx_const (.int 3004) 105) from sn_175 102) rfl ?_
            refine mx_J.step (sn_175 105) (fun _ _ => rfl) ?_
            exact c111 3004 (by omega)
        · skip
          refine JcI (z := 3003) (show mx_Sn _ _ 87 (mx_const (.int 3003) 90) from sn_175 87) rfl ?_
          refine mx_J.step (sn_175 90) (fun _ _ => rfl) ?_
          exact c111 3003 (by omega)
      · skip
        refine mx_J.step (sn_175 42) (fun _ _ => rfl) ?_
        refine mx_J.step (sn_175 43) (fun _ _ => rfl) ?_
        have b191 : 0 ≤ Z 56 6 ∧ Z 56 6 ≤ 900 := hG.pr 56 6
        have b192 : 0 ≤ Z 56 7 ∧ Z 56 7 ≤ 900 := hG.pr 56 7
        have b193 : 0 ≤ Z 56 8 ∧ Z 56 8 ≤ 900 := hG.pr 56 8
        have b194 : 0 ≤ Z 56 9 ∧ Z 56 9 ≤ 100 := hG.pr 56 9
        have b195 : 0 ≤ Z 56 11 ∧ Z 56 11 ≤ 4 := hG.pr 56 11
        obtain ⟨z190, Z190, h190, hc190, hx190, hG190, hf190, b190⟩ := ct_170_56 (d := d + 18) (l := l) (D := D) (b0 := b0) (ad := ad) (Hb := Hb) (tau := tau) hx hG (show 0 ≤ 4 ∧ 4 ≤ 5 by omega) (show (Z 56 6 ≤ Z 56 7 ∧ Z 56 7 ≤ Z 56 8 ∧ (Z 56 9 = 24 ∨ Z 56 6 < Z 56 7)) by omega) (show ¬ Z 56 9 = 24 by omega)
        have b196 : 0 ≤ Z190 56 6 ∧ Z190 56 6 ≤ 900 := hG190.pr 56 6
        have b197 : 0 ≤ Z190 56 7 ∧ Z190 56 7 ≤ 900 := hG190.pr 56 7
        have b198 : 0 ≤ Z190 56 9 ∧ Z190 56 9 ≤ 100 := hG190.pr 56 9
        have eq199 : Z190 56 11 = Z 56 11 := (hf190 56 11 rfl)
        have b200 : 0 ≤ Z 56 11 ∧ Z 56 11 ≤ 4 := hG.pr 56 11
        have b201 : 0 ≤ Z 56 6 ∧ Z 56 6 ≤ 900 := hG.pr 56 6
        have b202 : 0 ≤ Z 56 11 ∧ Z 56 11 ≤ 4 := hG.pr 56 11
        have b203 : 0 ≤ Z 56 9 ∧ Z 56 9 ≤ 100 := hG.pr 56 9
        have r190 := QR_g (k := 1) (c2 := 1) (QR_rf (Z := Z) (a := a0)) (fun e => (hf190 56 11 rfl).symm.trans e) (fun i => hf190 60 i rfl) (fun e => by omega) (by decide)
        refine Jcv hx (show mx_Sn _ _ 44 (mx_callv 170 2 12 47) from sn_175 44) a56 s56 hc190 rfl rfl rfl ?_
        refine Jif_ne (show mx_Sn _ _ 47 (mx_if_ne 51 50) from sn_175 47) (by omega) (fun q204 => ?_) (fun q204 => ?_)
        · skip
          refine mx_J.step (sn_175 51) (fun _ _ => rfl) ?_
          refine mx_J.step (sn_175 52) (fun _ _ => rfl) ?_
          refine JcI (z := 1) (show mx_Sn _ _ 53 (mx_const (.int 1) 54) from sn_175 53) rfl ?_
          refine JiaddE (r := 5) (show mx_Sn _ _ 54 (mx_iadd 55) from sn_175 54) (by decide) ?_
          have b206 : 0 ≤ Z190 56 6 ∧ Z190 56 6 ≤ 900 := hG190.pr 56 6
          have b207 : 0 ≤ Z190 56 7 ∧ Z190 56 7 ≤ 900 := hG190.pr 56 7
          have eq208 : Z190 56 8 = Z 56 8 := (hf190 56 8 rfl)
          have b209 : 0 ≤ Z 56 8 ∧ Z 56 8 ≤ 900 := hG.pr 56 8
          have b210 : 0 ≤ Z190 56 9 ∧ Z190 56 9 ≤ 100 := hG190.pr 56 9
          have eq211 : Z190 56 11 = Z 56 11 := (hf190 56 11 rfl)
          have b212 : 0 ≤ Z 56 11 ∧ Z 56 11 ≤ 4 := hG.pr 56 11
          have eq213 : Z190 60 61 = Z 60 61 := (hf190 60 61 rfl)
          have b214 : 0 ≤ Z 60 61 ∧ Z 60 61 ≤ 900 := by have hq := GI_ex hG 60 61; replace hq : f60 (61 % 962) (Z 60 61) := hq; unfold f60 at hq; omega
          have b215 : (-2147483648) ≤ Z 60 61 ∧ Z 60 61 ≤ 2147483647 := hG.pr 60 61
          have eq216 : Z190 60 1 = Z 60 1 := (hf190 60 1 rfl)
          have b217 : 0 ≤ Z 60 1 ∧ Z 60 1 ≤ 18 := by have hq := GI_ex hG 60 1; replace hq : f60 (1 % 962) (Z 60 1) := hq; unfold f60 at hq; omega
          have b218 : (-2147483648) ≤ Z 60 1 ∧ Z 60 1 ≤ 2147483647 := hG.pr 60 1
          have eq219 : Z190 60 2 = Z 60 2 := (hf190 60 2 rfl)
          have b220 : 0 ≤ Z 60 2 ∧ Z 60 2 ≤ 18 := by have hq := GI_ex hG 60 2; replace hq : f60 (2 % 962) (Z 60 2) := hq; unfold f60 at hq; omega
          have b221 : (-2147483648) ≤ Z 60 2 ∧ Z 60 2 ≤ 2147483647 := hG.pr 60 2
          obtain ⟨Z205, h205, hc205, hx205, hG205, hf205, b205⟩ := ct_177_56_i5 (a0 := a0) (d := d + 4) (l := l) (D := D) (b0 := b0) (ad := ad) (Hb := Hb) (tau := tau) hx190 hG190  (show (Z190 56 6 ≤ Z190 56 7 ∧ Z190 56 7 ≤ Z190 56 8 ∧ (Z190 56 9 = 24 ∨ Z190 56 6 < Z190 56 7)) by first | omega | (simp only [eq208, eq211, eq213, eq216, eq219]; omega)) (show Z190 60 61 ≤ Z190 56 6 by first | omega | (simp only [eq208, eq211, eq213, eq216, eq219]; omega)) (show a0 ≤ Z190 60 61 by first | omega | (simp only [eq208, eq211, eq213, eq216, eq219]; omega)) (show 0 ≤ a0 by first | omega | (simp only [eq208, eq211, eq213, eq216, eq219]; omega))
          try rw [eq208] at b205
          try rw [eq211] at b205
          try rw [eq213] at b205
          try rw [eq216] at b205
          try rw [eq219] at b205
          obtain ⟨bq205, b205⟩ := b205
          have b222 : 0 ≤ Z205 56 6 ∧ Z205 56 6 ≤ 900 := hG205.pr 56 6
          have b223 : 0 ≤ Z205 56 7 ∧ Z205 56 7 ≤ 900 := hG205.pr 56 7
          have b224 : 0 ≤ Z205 56 9 ∧ Z205 56 9 ≤ 100 := hG205.pr 56 9
          have b225 : 0 ≤ Z205 56 11 ∧ Z205 56 11 ≤ 4 := hG205.pr 56 11
          have b226 : 0 ≤ Z205 60 61 ∧ Z205 60 61 ≤ 900 := by have hq := GI_ex hG205 60 61; replace hq : f60 (61 % 962) (Z205 60 61) := hq; unfold f60 at hq; omega
          have b227 : (-2147483648) ≤ Z205 60 61 ∧ Z205 60 61 ≤ 2147483647 := hG205.pr 60 61
          have b228 : 0 ≤ Z205 60 1 ∧ Z205 60 1 ≤ 18 := by have hq := GI_ex hG205 60 1; replace hq : f60 (1 % 962) (Z205 60 1) := hq; unfold f60 at hq; omega
          have b229 : (-2147483648) ≤ Z205 60 1 ∧ Z205 60 1 ≤ 2147483647 := hG205.pr 60 1
          have b230 : 0 ≤ Z205 60 2 ∧ Z205 60 2 ≤ 18 := by have hq := GI_ex hG205 60 2; replace hq : f60 (2 % 962) (Z205 60 2) := hq; unfold f60 at hq; omega
          have b231 : (-2147483648) ≤ Z205 60 2 ∧ Z205 60 2 ≤ 2147483647 := hG205.pr 60 2
          have r205 := QR_tr (d := 1) (c := 1) r190 bq205 (by decide) (by decide) (by decide)
          refine Jcv0 hx190 (show mx_Sn _ _ 55 (mx_callv 177 2 12 58) from sn_175 55) a56 s56 hc205 rfl rfl rfl ?_
          refine mx_J.step (sn_175 58) (fun _ _ => rfl) ?_
          refine JcI (z := 38) (show mx_Sn _ _ 59 (mx_const (.int 38) 61) from sn_175 59) rfl ?_
          have b233 : 0 ≤ Z205 56 6 ∧ Z205 56 6 ≤ 900 := hG205.pr 56 6
          have b234 : 0 ≤ Z205 56 7 ∧ Z205 56 7 ≤ 900 := hG205.pr 56 7
          have eq235 : Z205 56 8 = Z 56 8 := ((hf205 56 8 rfl).trans (hf190 56 8 rfl))
          have b236 : 0 ≤ Z 56 8 ∧ Z 56 8 ≤ 900 := hG.pr 56 8
          have b237 : 0 ≤ Z205 56 9 ∧ Z205 56 9 ≤ 100 := hG205.pr 56 9
          have b238 : 0 ≤ Z205 56 11 ∧ Z205 56 11 ≤ 4 := hG205.pr 56 11
          obtain ⟨z232, Z232, h232, hc232, hx232, hG232, hf232, b232⟩ := ct_165_56 (d := d + 18) (l := l) (D := D) (b0 := b0) (ad := ad) (Hb := Hb) (tau := tau) hx205 hG205 (show 0 ≤ 38 ∧ 38 ≤ 100 by omega) (show (Z205 56 6 ≤ Z205 56 7 ∧ Z205 56 7 ≤ Z205 56 8 ∧ (Z205 56 9 = 24 ∨ Z205 56 6 < Z205 56 7)) by first | omega | (simp only [eq235]; omega)) (show ¬ 38 = 24 by first | omega | (simp only [eq235]; omega))
          try rw [eq235] at b232
          have b239 : 0 ≤ Z232 56 6 ∧ Z232 56 6 ≤ 900 := hG232.pr 56 6
          have b240 : 0 ≤ Z232 56 7 ∧ Z232 56 7 ≤ 900 := hG232.pr 56 7
          have b241 : 0 ≤ Z232 56 9 ∧ Z232 56 9 ≤ 100 := hG232.pr 56 9
          have b242 : 0 ≤ Z205 56 6 ∧ Z205 56 6 ≤ 900 := hG205.pr 56 6
          have b243 : 0 ≤ Z205 56 11 ∧ Z205 56 11 ≤ 4 := hG205.pr 56 11
          have b244 : 0 ≤ Z205 56 9 ∧ Z205 56 9 ≤ 100 := hG205.pr 56 9
          have r232 := QR_g (k := 0) (c2 := 1) r205 (fun e => (hf232 56 11 rfl).symm.trans e) (fun i => hf232 60 i rfl) (fun e => by omega) (by decide)
          have rk232 : z232 = 1 → QR Z Z232 a0 1 2 := fun ez => QR_g (k := 1) r205 (fun e => (hf232 56 11 rfl).symm.trans e) (fun i => hf232 60 i rfl) (fun e => by omega) (by decide)
          refine Jcv hx205 (show mx_Sn _ _ 61 (mx_callv 165 2 12 64) from sn_175 61) a56 s56 hc232 rfl rfl rfl ?_
          have c72 : ∀  (Z246 : xZ) (h246 : mx_H), (Z246 56 6 ≤ Z246 56 7 ∧ Z246 56 7 ≤ Z 56 8) → (Z246 56 9 = 24 ∨ Z246 56 6 < Z246 56 7) → (Z 56 6 ≤ Z246 56 6 ∧ Z 60 61 ≤ Z246 60 61 ∧ Z246 60 61 - Z 60 61 ≤ Z246 56 6 - Z 56 6) → (Z246 60 1 = Z 60 1 ∧ Z246 60 2 = Z 60 2) → QR Z Z246 a0 1 0 → XH n s S Z246 h246 → GI n S Z246 → fr' [(56, 11), (56, 12)] Z232 Z246 → mx_J (tB l D b0 ad Hb tau) mt_175 (d + 25) 72 [some (.ref 56), some (xI 4), none] [] h246 Post := by
            intro Z246 h246 f245_0 f245_1 f245_2 f245_3 f245_4 hx246 hG246 hf246
            have eq247 : Z246 56 6 = Z232 56 6 := (hf246 56 6 rfl)
            have b248 : 0 ≤ Z232 56 6 ∧ Z232 56 6 ≤ 900 := hG232.pr 56 6
            have eq249 : Z246 56 7 = Z232 56 7 := (hf246 56 7 rfl)
            have b250 : 0 ≤ Z232 56 7 ∧ Z232 56 7 ≤ 900 := hG232.pr 56 7
            have eq251 : Z246 56 6 = Z232 56 6 := (hf246 56 6 rfl)
            have b252 : 0 ≤ Z232 56 6 ∧ Z232 56 6 ≤ 900 := hG232.pr 56 6
            have eq253 : Z246 56 7 = Z232 56 7 := (hf246 56 7 rfl)
            have b254 : 0 ≤ Z232 56 7 ∧ Z232 56 7 ≤ 900 := hG232.pr 56 7
            have eq255 : Z246 56 9 = Z232 56 9 := (hf246 56 9 rfl)
            have b256 : 0 ≤ Z232 56 9 ∧ Z232 56 9 ≤ 100 := hG232.pr 56 9
            have eq257 : Z246 56 6 = Z232 56 6 := (hf246 56 6 rfl)
            have b258 : 0 ≤ Z232 56 6 ∧ Z232 56 6 ≤ 900 := hG232.pr 56 6
            have eq259 : Z246 60 61 = Z205 60 61 := ((hf246 60 61 rfl).trans (hf232 60 61 rfl))
            have b260 : 0 ≤ Z205 60 61 ∧ Z205 60 61 ≤ 900 := by have hq := GI_ex hG205 60 61; replace hq : f60 (61 % 962) (Z205 60 61) := hq; unfold f60 at hq; omega
            have b261 : (-2147483648) ≤ Z205 60 61 ∧ Z205 60 61 ≤ 2147483647 := hG205.pr 60 61
            have eq262 : Z246 60 1 = Z205 60 1 := ((hf246 60 1 rfl).trans (hf232 60 1 rfl))
            have b263 : 0 ≤ Z205 60 1 ∧ Z205 60 1 ≤ 18 := by have hq := GI_ex hG205 60 1; replace hq : f60 (1 % 962) (Z205 60 1) := hq; unfold f60 at hq; omega
            have b264 : (-2147483648) ≤ Z205 60 1 ∧ Z205 60 1 ≤ 2147483647 := hG205.pr 60 1
            have eq265 : Z246 60 2 = Z205 60 2 := ((hf246 60 2 rfl).trans (hf232 60 2 rfl))
            have b266 : 0 ≤ Z205 60 2 ∧ Z205 60 2 ≤ 18 := by have hq := GI_ex hG205 60 2; replace hq : f60 (2 % 962) (Z205 60 2) := hq; unfold f60 at hq; omega
            have b267 : (-2147483648) ≤ Z205 60 2 ∧ Z205 60 2 ≤ 2147483647 := hG205.pr 60 2
            have eq268 : Z246 56 6 = Z232 56 6 := (hf246 56 6 rfl)
            have b269 : 0 ≤ Z232 56 6 ∧ Z232 56 6 ≤ 900 := hG232.pr 56 6
            have eq270 : Z246 56 7 = Z232 56 7 := (hf246 56 7 rfl)
            have b271 : 0 ≤ Z232 56 7 ∧ Z232 56 7 ≤ 900 := hG232.pr 56 7
            have eq272 : Z246 56 9 = Z232 56 9 := (hf246 56 9 rfl)
            have b273 : 0 ≤ Z232 56 9 ∧ Z232 56 9 ≤ 100 := hG232.pr 56 9
            have b274 : 0 ≤ Z246 56 11 ∧ Z246 56 11 ≤ 4 := hG246.pr 56 11
            have eq275 : Z246 60 61 = Z205 60 61 := ((hf246 60 61 rfl).trans (hf232 60 61 rfl))
            have b276 : 0 ≤ Z205 60 61 ∧ Z205 60 61 ≤ 900 := by have hq := GI_ex hG205 60 61; replace hq : f60 (61 % 962) (Z205 60 61) := hq; unfold f60 at hq; omega
            have b277 : (-2147483648) ≤ Z205 60 61 ∧ Z205 60 61 ≤ 2147483647 := hG205.pr 60 61
            have eq278 : Z246 60 1 = Z205 60 1 := ((hf246 60 1 rfl).trans (hf232 60 1 rfl))
            have b279 : 0 ≤ Z205 60 1 ∧ Z205 60 1 ≤ 18 := by have hq := GI_ex hG205 60 1; replace hq : f60 (1 % 962) (Z205 60 1) := hq; unfold f60 at hq; omega
            have b280 : (-2147483648) ≤ Z205 60 1 ∧ Z205 60 1 ≤ 2147483647 := hG205.pr 60 1
            have eq281 : Z246 60 2 = Z205 60 2 := ((hf246 60 2 rfl).trans (hf232 60 2 rfl))
            have b282 : 0 ≤ Z205 60 2 ∧ Z205 60 2 ≤ 18 := by have hq := GI_ex hG205 60 2; replace hq : f60 (2 % 962) (Z205 60 2) := hq; unfold f60 at hq; omega
            have b283 : (-2147483648) ≤ Z205 60 2 ∧ Z205 60 2 ≤ 2147483647 := hG205.pr 60 2
            have eq284 : Z246 56 6 = Z232 56 6 := (hf246 56 6 rfl)
            have b285 : 0 ≤ Z232 56 6 ∧ Z232 56 6 ≤ 900 := hG232.pr 56 6
            have eq286 : Z246 56 7 = Z232 56 7 := (hf246 56 7 rfl)
            have b287 : 0 ≤ Z232 56 7 ∧ Z232 56 7 ≤ 900 := hG232.pr 56 7
            have eq288 : Z246 56 8 = Z 56 8 := ((hf246 56 8 rfl).trans ((hf232 56 8 rfl).trans ((hf205 56 8 rfl).trans (hf190 56 8 rfl))))
            have b289 : 0 ≤ Z 56 8 ∧ Z 56 8 ≤ 900 := hG.pr 56 8
            have eq290 : Z246 56 9 = Z232 56 9 := (hf246 56 9 rfl)
            have b291 : 0 ≤ Z232 56 9 ∧ Z232 56 9 ≤ 100 := hG232.pr 56 9
            have b292 : 0 ≤ Z246 56 11 ∧ Z246 56 11 ≤ 4 := hG246.pr 56 11
            have eq293 : Z246 60 61 = Z205 60 61 := ((hf246 60 61 rfl).trans (hf232 60 61 rfl))
            have b294 : 0 ≤ Z205 60 61 ∧ Z205 60 61 ≤ 900 := by have hq := GI_ex hG205 60 61; replace hq : f60 (61 % 962) (Z205 60 61) := hq; unfold f60 at hq; omega
            have b295 : (-2147483648) ≤ Z205 60 61 ∧ Z205 60 61 ≤ 2147483647 := hG205.pr 60 61
            have eq296 : Z246 60 1 = Z205 60 1 := ((hf246 60 1 rfl).trans (hf232 60 1 rfl))
            have b297 : 0 ≤ Z205 60 1 ∧ Z205 60 1 ≤ 18 := by have hq := GI_ex hG205 60 1; replace hq : f60 (1 % 962) (Z205 60 1) := hq; unfold f60 at hq; omega
            have b298 : (-2147483648) ≤ Z205 60 1 ∧ Z205 60 1 ≤ 2147483647 := hG205.pr 60 1
            have eq299 : Z246 60 2 = Z205 60 2 := ((hf246 60 2 rfl).trans (hf232 60 2 rfl))
            have b300 : 0 ≤ Z205 60 2 ∧ Z205 60 2 ≤ 18 := by have hq := GI_ex hG205 60 2; replace hq : f60 (2 % 962) (Z205 60 2) := hq; unfold f60 at hq; omega
            have b301 : (-2147483648) ≤ Z205 60 2 ∧ Z205 60 2 ≤ 2147483647 := hG205.pr 60 2
            exact mx_J.ret (sn_175 72) (fun _ _ => rfl) (hP Z246 h246 hx246 hG246 (fr_tr (M := [(56, 6), (56, 7), (56, 9), (56, 10), (56, 11), (56, 12), (60, (-1))]) (fr_tr (M := [(56, 6), (56, 7), (56, 9), (56, 10), (56, 11), (56, 12), (60, (-1))]) (fr_tr (M := [(56, 6), (56, 7), (56, 9), (56, 10), (56, 11), (56, 12), (60, (-1))]) (fr_tr (M := [(56, 6), (56, 7), (56, 9), (56, 10), (56, 11), (56, 12), (60, (-1))]) fr_rf (hf190) (M1 := []) rfl rfl) (hf205) rfl rfl) (hf232) rfl rfl) (hf246) rfl rfl) ⟨(QR_le f245_4 (by decide)), by omega⟩)
          refine Jif_ne (show mx_Sn _ _ 64 (mx_if_ne 72 67) from sn_175 64) (by omega) (fun q302 => ?_) (fun q302 => ?_)
          · skip
            have b303 : 0 ≤ Z232 56 6 ∧ Z232 56 6 ≤ 900 := hG232.pr 56 6
            have b304 : 0 ≤ Z232 56 7 ∧ Z232 56 7 ≤ 900 := hG232.pr 56 7
            have b305 : 0 ≤ Z232 56 6 ∧ Z232 56 6 ≤ 900 := hG232.pr 56 6
            have b306 : 0 ≤ Z232 56 7 ∧ Z232 56 7 ≤ 900 := hG232.pr 56 7
            have b307 : 0 ≤ Z232 56 9 ∧ Z232 56 9 ≤ 100 := hG232.pr 56 9
            have b308 : 0 ≤ Z232 56 6 ∧ Z232 56 6 ≤ 900 := hG232.pr 56 6
            have eq309 : Z232 60 61 = Z205 60 61 := (hf232 60 61 rfl)
            have b310 : 0 ≤ Z205 60 61 ∧ Z205 60 61 ≤ 900 := by have hq := GI_ex hG205 60 61; replace hq : f60 (61 % 962) (Z205 60 61) := hq; unfold f60 at hq; omega
            have b311 : (-2147483648) ≤ Z205 60 61 ∧ Z205 60 61 ≤ 2147483647 := hG205.pr 60 61
            have eq312 : Z232 60 1 = Z205 60 1 := (hf232 60 1 rfl)
            have b313 : 0 ≤ Z205 60 1 ∧ Z205 60 1 ≤ 18 := by have hq := GI_ex hG205 60 1; replace hq : f60 (1 % 962) (Z205 60 1) := hq; unfold f60 at hq; omega
            have b314 : (-2147483648) ≤ Z205 60 1 ∧ Z205 60 1 ≤ 2147483647 := hG205.pr 60 1
            have eq315 : Z232 60 2 = Z205 60 2 := (hf232 60 2 rfl)
            have b316 : 0 ≤ Z205 60 2 ∧ Z205 60 2 ≤ 18 := by have hq := GI_ex hG205 60 2; replace hq : f60 (2 % 962) (Z205 60 2) := hq; unfold f60 at hq; omega
            have b317 : (-2147483648) ≤ Z205 60 2 ∧ Z205 60 2 ≤ 2147483647 := hG205.pr 60 2
            exact c72 Z232 h232 (by omega) (by omega) (by omega) (by omega) (QR_le (rk232 (by omega)) (by decide)) hx232 hG232 fr_rf
          · skip
            refine mx_J.step (sn_175 67) (fun _ _ => rfl) ?_
            refine JcI (z := 2) (show mx_Sn _ _ 68 (mx_const (.int 2) 69) from sn_175 68) rfl ?_
            obtain ⟨Z318, h318, hc318, hx318, hG318, hf318, b318⟩ := ct_163_56 (d := d + 24) (l := l) (D := D) (b0 := b0) (ad := ad) (Hb := Hb) (tau := tau) hx232 hG232 (show 1 ≤ 2 ∧ 2 ≤ 4 by omega)
            have b319 : 0 ≤ Z318 56 11 ∧ Z318 56 11 ≤ 4 := hG318.pr 56 11
            have r318 : ¬ Z318 56 11 = 0 := by omega
            refine Jcv0 hx232 (show mx_Sn _ _ 69 (mx_callv 163 2 12 72) from sn_175 69) a56 s56 hc318 rfl rfl rfl ?_
            have eq320 : Z318 56 6 = Z232 56 6 := (hf318 56 6 rfl)
            have b321 : 0 ≤ Z232 56 6 ∧ Z232 56 6 ≤ 900 := hG232.pr 56 6
            have eq322 : Z318 56 7 = Z232 56 7 := (hf318 56 7 rfl)
            have b323 : 0 ≤ Z232 56 7 ∧ Z232 56 7 ≤ 900 := hG232.pr 56 7
            have eq324 : Z318 56 6 = Z232 56 6 := (hf318 56 6 rfl)
            have b325 : 0 ≤ Z232 56 6 ∧ Z232 56 6 ≤ 900 := hG232.pr 56 6
            have eq326 : Z318 56 7 = Z232 56 7 := (hf318 56 7 rfl)
            have b327 : 0 ≤ Z232 56 7 ∧ Z232 56 7 ≤ 900 := hG232.pr 56 7
            have eq328 : Z318 56 9 = Z232 56 9 := (hf318 56 9 rfl)
            have b329 : 0 ≤ Z232 56 9 ∧ Z232 56 9 ≤ 100 := hG232.pr 56 9
            have eq330 : Z318 56 6 = Z232 56 6 := (hf318 56 6 rfl)
            have b331 : 0 ≤ Z232 56 6 ∧ Z232 56 6 ≤ 900 := hG232.pr 56 6
            have eq332 : Z318 60 61 = Z205 60 61 := ((hf318 60 61 rfl).trans (hf232 60 61 rfl))
            have b333 : 0 ≤ Z205 60 61 ∧ Z205 60 61 ≤ 900 := by have hq := GI_ex hG205 60 61; replace hq : f60 (61 % 962) (Z205 60 61) := hq; unfold f60 at hq; omega
            have b334 : (-2147483648) ≤ Z205 60 61 ∧ Z205 60 61 ≤ 2147483647 := hG205.pr 60 61
            have eq335 : Z318 60 1 = Z205 60 1 := ((hf318 60 1 rfl).trans (hf232 60 1 rfl))
            have b336 : 0 ≤ Z205 60 1 ∧ Z205 60 1 ≤ 18 := by have hq := GI_ex hG205 60 1; replace hq : f60 (1 % 962) (Z205 60 1) := hq; unfold f60 at hq; omega
            have b337 : (-2147483648) ≤ Z205 60 1 ∧ Z205 60 1 ≤ 2147483647 := hG205.pr 60 1
            have eq338 : Z318 60 2 = Z205 60 2 := ((hf318 60 2 rfl).trans (hf232 60 2 rfl))
            have b339 : 0 ≤ Z205 60 2 ∧ Z205 60 2 ≤ 18 := by have hq := GI_ex hG205 60 2; replace hq : f60 (2 % 962) (Z205 60 2) := hq; unfold f60 at hq; omega
            have b340 : (-2147483648) ≤ Z205 60 2 ∧ Z205 60 2 ≤ 2147483647 := hG205.pr 60 2
            exact c72 Z318 h318 (by omega) (by omega) (by omega) (by omega) (QR_f r318) hx318 hG318 (fr_tr (M := [(56, 11), (56, 12)]) fr_rf (hf318) (M1 := []) rfl rfl)
        · skip
          have b341 : 0 ≤ Z190 56 6 ∧ Z190 56 6 ≤ 900 := hG190.pr 56 6
          have b342 : 0 ≤ Z190 56 7 ∧ Z190 56 7 ≤ 900 := hG190.pr 56 7
          have b343 : 0 ≤ Z190 56 9 ∧ Z190 56 9 ≤ 100 := hG190.pr 56 9
          have eq344 : Z190 56 11 = Z 56 11 := (hf190 56 11 rfl)
          have b345 : 0 ≤ Z 56 11 ∧ Z 56 11 ≤ 4 := hG.pr 56 11
          have eq346 : Z190 60 61 = Z 60 61 := (hf190 60 61 rfl)
          have b347 : 0 ≤ Z 60 61 ∧ Z 60 61 ≤ 900 := by have hq := GI_ex hG 60 61; replace hq : f60 (61 % 962) (Z 60 61) := hq; unfold f60 at hq; omega
          have b348 : (-2147483648) ≤ Z 60 61 ∧ Z 60 61 ≤ 2147483647 := hG.pr 60 61
          have eq349 : Z190 60 1 = Z 60 1 := (hf190 60 1 rfl)
          have b350 : 0 ≤ Z 60 1 ∧ Z 60 1 ≤ 18 := by have hq := GI_ex hG 60 1; replace hq : f60 (1 % 962) (Z 60 1) := hq; unfold f60 at hq; omega
          have b351 : (-2147483648) ≤ Z 60 1 ∧ Z 60 1 ≤ 2147483647 := hG.pr 60 1
          have eq352 : Z190 60 2 = Z 60 2 := (hf190 60 2 rfl)
          have b353 : 0 ≤ Z 60 2 ∧ Z 60 2 ≤ 18 := by have hq := GI_ex hG 60 2; replace hq : f60 (2 % 962) (Z 60 2) := hq; unfold f60 at hq; omega
          have b354 : (-2147483648) ≤ Z 60 2 ∧ Z 60 2 ≤ 2147483647 := hG.pr 60 2
          have b355 : 0 ≤ Z190 56 6 ∧ Z190 56 6 ≤ 900 := hG190.pr 56 6
          have b356 : 0 ≤ Z190 56 7 ∧ Z190 56 7 ≤ 900 := hG190.pr 56 7
          have eq357 : Z190 56 8 = Z 56 8 := (hf190 56 8 rfl)
          have b358 : 0 ≤ Z 56 8 ∧ Z 56 8 ≤ 900 := hG.pr 56 8
          have b359 : 0 ≤ Z190 56 9 ∧ Z190 56 9 ≤ 100 := hG190.pr 56 9
          have eq360 : Z190 56 11 = Z 56 11 := (hf190 56 11 rfl)
          have b361 : 0 ≤ Z 56 11 ∧ Z 56 11 ≤ 4 := hG.pr 56 11
          have eq362 : Z190 60 61 = Z 60 61 := (hf190 60 61 rfl)
          have b363 : 0 ≤ Z 60 61 ∧ Z 60 61 ≤ 900 := by have hq := GI_ex hG 60 61; replace hq : f60 (61 % 962) (Z 60 61) := hq; unfold f60 at hq; omega
          have b364 : (-2147483648) ≤ Z 60 61 ∧ Z 60 61 ≤ 2147483647 := hG.pr 60 61
          have eq365 : Z190 60 1 = Z 60 1 := (hf190 60 1 rfl)
          have b366 : 0 ≤ Z 60 1 ∧ Z 60 1 ≤ 18 := by have hq := GI_ex hG 60 1; replace hq : f60 (1 % 962) (Z 60 1) := hq; unfold f60 at hq; omega
          have b367 : (-2147483648) ≤ Z 60 1 ∧ Z 60 1 ≤ 2147483647 := hG.pr 60 1
          have eq368 : Z190 60 2 = Z 60 2 := (hf190 60 2 rfl)
          have b369 : 0 ≤ Z 60 2 ∧ Z 60 2 ≤ 18 := by have hq := GI_ex hG 60 2; replace hq : f60 (2 % 962) (Z 60 2) := hq; unfold f60 at hq; omega
          have b370 : (-2147483648) ≤ Z 60 2 ∧ Z 60 2 ≤ 2147483647 := hG.pr 60 2
          exact mx_J.ret (sn_175 50) (fun _ _ => rfl) (hP Z190 h190 hx190 hG190 (fr_tr (M := [(56, 6), (56, 7), (56, 9), (56, 10), (56, 11), (56, 12), (60, (-1))]) fr_rf (hf190) (M1 := []) rfl rfl) ⟨(QR_f (by omega)), by omega⟩)
    · skip
      refine mx_J.step (sn_175 9) (fun _ _ => rfl) ?_
      refine mx_J.step (sn_175 10) (fun _ _ => rfl) ?_
      have b372 : 0 ≤ Z 56 6 ∧ Z 56 6 ≤ 900 := hG.pr 56 6
      have b373 : 0 ≤ Z 56 7 ∧ Z 56 7 ≤ 900 := hG.pr 56 7
      have b374 : 0 ≤ Z 56 8 ∧ Z 56 8 ≤ 900 := hG.pr 56 8
      have b375 : 0 ≤ Z 56 9 ∧ Z 56 9 ≤ 100 := hG.pr 56 9
      have b376 : 0 ≤ Z 56 11 ∧ Z 56 11 ≤ 4 := hG.pr 56 11
      obtain ⟨z371, Z371, h371, hc371, hx371, hG371, hf371, b371⟩ := ct_170_56 (d := d + 18) (l := l) (D := D) (b0 := b0) (ad := ad) (Hb := Hb) (tau := tau) hx hG (show 0 ≤ 4 ∧ 4 ≤ 5 by omega) (show (Z 56 6 ≤ Z 56 7 ∧ Z 56 7 ≤ Z 56 8 ∧ (Z 56 9 = 24 ∨ Z 56 6 < Z 56 7)) by omega) (show ¬ Z 56 9 = 24 by omega)
      have b377 : 0 ≤ Z371 56 6 ∧ Z371 56 6 ≤ 900 := hG371.pr 56 6
      have b378 : 0 ≤ Z371 56 7 ∧ Z371 56 7 ≤ 900 := hG371.pr 56 7
      have b379 : 0 ≤ Z371 56 9 ∧ Z371 56 9 ≤ 100 := hG371.pr 56 9
      have eq380 : Z371 56 11 = Z 56 11 := (hf371 56 11 rfl)
      have b381 : 0 ≤ Z 56 11 ∧ Z 56 11 ≤ 4 := hG.pr 56 11
      have b382 : 0 ≤ Z 56 6 ∧ Z 56 6 ≤ 900 := hG.pr 56 6
      have b383 : 0 ≤ Z 56 11 ∧ Z 56 11 ≤ 4 := hG.pr 56 11
      have b384 : 0 ≤ Z 56 9 ∧ Z 56 9 ≤ 100 := hG.pr 56 9
      have r371 := QR_g (k := 1) (c2 := 1) (QR_rf (Z := Z) (a := a0)) (fun e => (hf371 56 11 rfl).symm.trans e) (fun i => hf371 60 i rfl) (fun e => by omega) (by decide)
      refine Jcv hx (show mx_Sn _ _ 11 (mx_callv 170 2 12 14) from sn_175 11) a56 s56 hc371 rfl rfl rfl ?_
      refine Jif_ne (show mx_Sn _ _ 14 (mx_if_ne 18 17) from sn_175 14) (by omega) (fun q385 => ?_) (fun q385 => ?_)
      · skip
        refine mx_J.step (sn_175 18) (fun _ _ => rfl) ?_
        refine mx_J.step (sn_175 19) (fun _ _ => rfl) ?_
        refine JcI (z := 1) (show mx_Sn _ _ 20 (mx_const (.int 1) 21) from sn_175 20) rfl ?_
        refine JiaddE (r := 5) (show mx_Sn _ _ 21 (mx_iadd 22) from sn_175 21) (by decide) ?_
        have b387 : 0 ≤ Z371 56 6 ∧ Z371 56 6 ≤ 900 := hG371.pr 56 6
        have b388 : 0 ≤ Z371 56 7 ∧ Z371 56 7 ≤ 900 := hG371.pr 56 7
        have eq389 : Z371 56 8 = Z 56 8 := (hf371 56 8 rfl)
        have b390 : 0 ≤ Z 56 8 ∧ Z 56 8 ≤ 900 := hG.pr 56 8
        have b391 : 0 ≤ Z371 56 9 ∧ Z371 56 9 ≤ 100 := hG371.pr 56 9
        have eq392 : Z371 56 11 = Z 56 11 := (hf371 56 11 rfl)
        have b393 : 0 ≤ Z 56 11 ∧ Z 56 11 ≤ 4 := hG.pr 56 11
        have eq394 : Z371 60 61 = Z 60 61 := (hf371 60 61 rfl)
        have b395 : 0 ≤ Z 60 61 ∧ Z 60 61 ≤ 900 := by have hq := GI_ex hG 60 61; replace hq : f60 (61 % 962) (Z 60 61) := hq; unfold f60 at hq; omega
        have b396 : (-2147483648) ≤ Z 60 61 ∧ Z 60 61 ≤ 2147483647 := hG.pr 60 61
        have eq397 : Z371 60 1 = Z 60 1 := (hf371 60 1 rfl)
        have b398 : 0 ≤ Z 60 1 ∧ Z 60 1 ≤ 18 := by have hq := GI_ex hG 60 1; replace hq : f60 (1 % 962) (Z 60 1) := hq; unfold f60 at hq; omega
        have b399 : (-2147483648) ≤ Z 60 1 ∧ Z 60 1 ≤ 2147483647 := hG.pr 60 1
        have eq400 : Z371 60 2 = Z 60 2 := (hf371 60 2 rfl)
        have b401 : 0 ≤ Z 60 2 ∧ Z 60 2 ≤ 18 := by have hq := GI_ex hG 60 2; replace hq : f60 (2 % 962) (Z 60 2) := hq; unfold f60 at hq; omega
        have b402 : (-2147483648) ≤ Z 60 2 ∧ Z 60 2 ≤ 2147483647 := hG.pr 60 2
        obtain ⟨Z386, h386, hc386, hx386, hG386, hf386, b386⟩ := ct_175_56_i5 (a0 := a0) (d := d + 6) (l := l) (D := D) (b0 := b0) (ad := ad) (Hb := Hb) (tau := tau) hx371 hG371  (show (Z371 56 6 ≤ Z371 56 7 ∧ Z371 56 7 ≤ Z371 56 8 ∧ (Z371 56 9 = 24 ∨ Z371 56 6 < Z371 56 7)) by first | omega | (simp only [eq389, eq392, eq394, eq397, eq400]; omega)) (show Z371 60 61 ≤ Z371 56 6 by first | omega | (simp only [eq389, eq392, eq394, eq397, eq400]; omega)) (show a0 ≤ Z371 60 61 by first | omega | (simp only [eq389, eq392, eq394, eq397, eq400]; omega)) (show 0 ≤ a0 by first | omega | (simp only [eq389, eq392, eq394, eq397, eq400]; omega))
        try rw [eq389] at b386
        try rw [eq392] at b386
        try rw [eq394] at b386
        try rw [eq397] at b386
        try rw [eq400] at b386
        obtain ⟨bq386, b386⟩ := b386
        have b403 : 0 ≤ Z386 56 6 ∧ Z386 56 6 ≤ 900 := hG386.pr 56 6
        have b404 : 0 ≤ Z386 56 7 ∧ Z386 56 7 ≤ 900 := hG386.pr 56 7
        have b405 : 0 ≤ Z386 56 9 ∧ Z386 56 9 ≤ 100 := hG386.pr 56 9
        have b406 : 0 ≤ Z386 56 11 ∧ Z386 56 11 ≤ 4 := hG386.pr 56 11
        have b407 : 0 ≤ Z386 60 61 ∧ Z386 60 61 ≤ 900 := by have hq := GI_ex hG386 60 61; replace hq : f60 (61 % 962) (Z386 60 61) := hq; unfold f60 at hq; omega
        have b408 : (-2147483648) ≤ Z386 60 61 ∧ Z386 60 61 ≤ 2147483647 := hG386.pr 60 61
        have b409 : 0 ≤ Z386 60 1 ∧ Z386 60 1 ≤ 18 := by have hq := GI_ex hG386 60 1; replace hq : f60 (1 % 962) (Z386 60 1) := hq; unfold f60 at hq; omega
        have b410 : (-2147483648) ≤ Z386 60 1 ∧ Z386 60 1 ≤ 2147483647 := hG386.pr 60 1
        have b411 : 0 ≤ Z386 60 2 ∧ Z386 60 2 ≤ 18 := by have hq := GI_ex hG386 60 2; replace hq : f60 (2 % 962) (Z386 60 2) := hq; unfold f60 at hq; omega
        have b412 : (-2147483648) ≤ Z386 60 2 ∧ Z386 60 2 ≤ 2147483647 := hG386.pr 60 2
        have r386 := QR_tr (d := 1) (c := 1) r371 bq386 (by decide) (by decide) (by decide)
        refine Jcv0 hx371 (show mx_Sn _ _ 22 (mx_callv 175 2 12 25) from sn_175 22) a56 s56 hc386 rfl rfl rfl ?_
        refine mx_J.step (sn_175 25) (fun _ _ => rfl) ?_
        refine JcI (z := 3006) (show mx_Sn _ _ 26 (mx_const (.int 3006) 29) from sn_175 26) rfl ?_
        have eq414 : Z386 56 8 = Z 56 8 := ((hf386 56 8 rfl).trans (hf371 56 8 rfl))
        have b415 : 0 ≤ Z 56 8 ∧ Z 56 8 ≤ 900 := hG.pr 56 8
        have b416 : 0 ≤ Z386 56 11 ∧ Z386 56 11 ≤ 4 := hG386.pr 56 11
        have b417 : 0 ≤ Z386 60 61 ∧ Z386 60 61 ≤ 900 := by have hq := GI_ex hG386 60 61; replace hq : f60 (61 % 962) (Z386 60 61) := hq; unfold f60 at hq; omega
        have b418 : (-2147483648) ≤ Z386 60 61 ∧ Z386 60 61 ≤ 2147483647 := hG386.pr 60 61
        have b419 : 0 ≤ Z386 60 1 ∧ Z386 60 1 ≤ 18 := by have hq := GI_ex hG386 60 1; replace hq : f60 (1 % 962) (Z386 60 1) := hq; unfold f60 at hq; omega
        have b420 : (-2147483648) ≤ Z386 60 1 ∧ Z386 60 1 ≤ 2147483647 := hG386.pr 60 1
        have b421 : 0 ≤ Z386 60 2 ∧ Z386 60 2 ≤ 18 := by have hq := GI_ex hG386 60 2; replace hq : f60 (2 % 962) (Z386 60 2) := hq; unfold f60 at hq; omega
        have b422 : (-2147483648) ≤ Z386 60 2 ∧ Z386 60 2 ≤ 2147483647 := hG386.pr 60 2
        have rp413 := QR_n r386
        obtain ⟨Z413, h413, hc413, hx413, hG413, hf413, b413⟩ := ct_169_56_3006 (a0 := a0) (d := d + 24) (l := l) (D := D) (b0 := b0) (ad := ad) (Hb := Hb) (tau := tau) hx386 hG386  (show (Z386 56 11 = 0 → Z386 60 61 ≤ 899) by first | omega | (simp only [eq414]; omega)) (show a0 ≤ Z386 60 61 by first | omega | (simp only [eq414]; omega)) (show 0 ≤ a0 by first | omega | (simp only [eq414]; omega))
        try rw [eq414] at b413
        obtain ⟨bq413, b413⟩ := b413
        have b423 : 0 ≤ Z413 60 61 ∧ Z413 60 61 ≤ 900 := by have hq := GI_ex hG413 60 61; replace hq : f60 (61 % 962) (Z413 60 61) := hq; unfold f60 at hq; omega
        have b424 : (-2147483648) ≤ Z413 60 61 ∧ Z413 60 61 ≤ 2147483647 := hG413.pr 60 61
        have b425 : 0 ≤ Z413 60 1 ∧ Z413 60 1 ≤ 18 := by have hq := GI_ex hG413 60 1; replace hq : f60 (1 % 962) (Z413 60 1) := hq; unfold f60 at hq; omega
        have b426 : (-2147483648) ≤ Z413 60 1 ∧ Z413 60 1 ≤ 2147483647 := hG413.pr 60 1
        have b427 : 0 ≤ Z413 60 2 ∧ Z413 60 2 ≤ 18 := by have hq := GI_ex hG413 60 2; replace hq : f60 (2 % 962) (Z413 60 2) := hq; unfold f60 at hq; omega
        have b428 : (-2147483648) ≤ Z413 60 2 ∧ Z413 60 2 ≤ 2147483647 := hG413.pr 60 2
        have rn413 := QR_n r386
        have r413 := QR_c (d2 := 1) (c2 := 0) r386 bq413 (by omega) (hf413 56 11 rfl) (hf413 56 6 rfl) (by decide) (by decide) (by decide)
        refine Jcv0 hx386 (show mx_Sn _ _ 29 (mx_callv 169 2 12 32) from sn_175 29) a56 s56 hc413 rfl rfl rfl ?_
        have eq429 : Z413 56 6 = Z386 56 6 := (hf413 56 6 rfl)
        have b430 : 0 ≤ Z386 56 6 ∧ Z386 56 6 ≤ 900 := hG386.pr 56 6
        have eq431 : Z413 56 7 = Z386 56 7 := (hf413 56 7 rfl)
        have b432 : 0 ≤ Z386 56 7 ∧ Z386 56 7 ≤ 900 := hG386.pr 56 7
        have eq433 : Z413 56 9 = Z386 56 9 := (hf413 56 9 rfl)
        have b434 : 0 ≤ Z386 56 9 ∧ Z386 56 9 ≤ 100 := hG386.pr 56 9
        have eq435 : Z413 56 11 = Z386 56 11 := (hf413 56 11 rfl)
        have b436 : 0 ≤ Z386 56 11 ∧ Z386 56 11 ≤ 4 := hG386.pr 56 11
        have b437 : 0 ≤ Z413 60 61 ∧ Z413 60 61 ≤ 900 := by have hq := GI_ex hG413 60 61; replace hq : f60 (61 % 962) (Z413 60 61) := hq; unfold f60 at hq; omega
        have b438 : (-2147483648) ≤ Z413 60 61 ∧ Z413 60 61 ≤ 2147483647 := hG413.pr 60 61
        have b439 : 0 ≤ Z413 60 1 ∧ Z413 60 1 ≤ 18 := by have hq := GI_ex hG413 60 1; replace hq : f60 (1 % 962) (Z413 60 1) := hq; unfold f60 at hq; omega
        have b440 : (-2147483648) ≤ Z413 60 1 ∧ Z413 60 1 ≤ 2147483647 := hG413.pr 60 1
        have b441 : 0 ≤ Z413 60 2 ∧ Z413 60 2 ≤ 18 := by have hq := GI_ex hG413 60 2; replace hq : f60 (2 % 962) (Z413 60 2) := hq; unfold f60 at hq; omega
        have b442 : (-2147483648) ≤ Z413 60 2 ∧ Z413 60 2 ≤ 2147483647 := hG413.pr 60 2
        have eq443 : Z413 56 6 = Z386 56 6 := (hf413 56 6 rfl)
        have b444 : 0 ≤ Z386 56 6 ∧ Z386 56 6 ≤ 900 := hG386.pr 56 6
        have eq445 : Z413 56 7 = Z386 56 7 := (hf413 56 7 rfl)
        have b446 : 0 ≤ Z386 56 7 ∧ Z386 56 7 ≤ 900 := hG386.pr 56 7
        have eq447 : Z413 56 8 = Z 56 8 := ((hf413 56 8 rfl).trans ((hf386 56 8 rfl).trans (hf371 56 8 rfl)))
        have b448 : 0 ≤ Z 56 8 ∧ Z 56 8 ≤ 900 := hG.pr 56 8
        have eq449 : Z413 56 9 = Z386 56 9 := (hf413 56 9 rfl)
        have b450 : 0 ≤ Z386 56 9 ∧ Z386 56 9 ≤ 100 := hG386.pr 56 9
        have eq451 : Z413 56 11 = Z386 56 11 := (hf413 56 11 rfl)
        have b452 : 0 ≤ Z386 56 11 ∧ Z386 56 11 ≤ 4 := hG386.pr 56 11
        have b453 : 0 ≤ Z413 60 61 ∧ Z413 60 61 ≤ 900 := by have hq := GI_ex hG413 60 61; replace hq : f60 (61 % 962) (Z413 60 61) := hq; unfold f60 at hq; omega
        have b454 : (-2147483648) ≤ Z413 60 61 ∧ Z413 60 61 ≤ 2147483647 := hG413.pr 60 61
        have b455 : 0 ≤ Z413 60 1 ∧ Z413 60 1 ≤ 18 := by have hq := GI_ex hG413 60 1; replace hq : f60 (1 % 962) (Z413 60 1) := hq; unfold f60 at hq; omega
        have b456 : (-2147483648) ≤ Z413 60 1 ∧ Z413 60 1 ≤ 2147483647 := hG413.pr 60 1
        have b457 : 0 ≤ Z413 60 2 ∧ Z413 60 2 ≤ 18 := by have hq := GI_ex hG413 60 2; replace hq : f60 (2 % 962) (Z413 60 2) := hq; unfold f60 at hq; omega
        have b458 : (-2147483648) ≤ Z413 60 2 ∧ Z413 60 2 ≤ 2147483647 := hG413.pr 60 2
        exact mx_J.ret (sn_175 32) (fun _ _ => rfl) (hP Z413 h413 hx413 hG413 (fr_tr (M := [(56, 6), (56, 7), (56, 9), (56, 10), (56, 11), (56, 12), (60, (-1))]) (fr_tr (M := [(56, 6), (56, 7), (56, 9), (56, 10), (56, 11), (56, 12), (60, (-1))]) (fr_tr (M := [(56, 6), (56, 7), (56, 9), (56, 10), (56, 11), (56, 12), (60, (-1))]) fr_rf (hf371) (M1 := []) rfl rfl) (hf386) rfl rfl) (hf413) rfl rfl) ⟨(QR_le r413 (by decide)), by omega⟩)
      · skip
        have b459 : 0 ≤ Z371 56 6 ∧ Z371 56 6 ≤ 900 := hG371.pr 56 6
        have b460 : 0 ≤ Z371 56 7 ∧ Z371 56 7 ≤ 900 := hG371.pr 56 7
        have b461 : 0 ≤ Z371 56 9 ∧ Z371 56 9 ≤ 100 := hG371.pr 56 9
        have eq462 : Z371 56 11 = Z 56 11 := (hf371 56 11 rfl)
        have b463 : 0 ≤ Z 56 11 ∧ Z 56 11 ≤ 4 := hG.pr 56 11
        have eq464 : Z371 60 61 = Z 60 61 := (hf371 60 61 rfl)
        have b465 : 0 ≤ Z 60 61 ∧ Z 60 61 ≤ 900 := by have hq := GI_ex hG 60 61; replace hq : f60 (61 % 962) (Z 60 61) := hq; unfold f60 at hq; omega
        have b466 : (-2147483648) ≤ Z 60 61 ∧ Z 60 61 ≤ 2147483647 := hG.pr 60 61
        have eq467 : Z371 60 1 = Z 60 1 := (hf371 60 1 rfl)
        have b468 : 0 ≤ Z 60 1 ∧ Z 60 1 ≤ 18 := by have hq := GI_ex hG 60 1; replace hq : f60 (1 % 962) (Z 60 1) := hq; unfold f60 at hq; omega
        have b469 : (-2147483648) ≤ Z 60 1 ∧ Z 60 1 ≤ 2147483647 := hG.pr 60 1
        have eq470 : Z371 60 2 = Z 60 2 := (hf371 60 2 rfl)
        have b471 : 0 ≤ Z 60 2 ∧ Z 60 2 ≤ 18 := by have hq := GI_ex hG 60 2; replace hq : f60 (2 % 962) (Z 60 2) := hq; unfold f60 at hq; omega
        have b472 : (-2147483648) ≤ Z 60 2 ∧ Z 60 2 ≤ 2147483647 := hG.pr 60 2
        have b473 : 0 ≤ Z371 56 6 ∧ Z371 56 6 ≤ 900 := hG371.pr 56 6
        have b474 : 0 ≤ Z371 56 7 ∧ Z371 56 7 ≤ 900 := hG371.pr 56 7
        have eq475 : Z371 56 8 = Z 56 8 := (hf371 56 8 rfl)
        have b476 : 0 ≤ Z 56 8 ∧ Z 56 8 ≤ 900 := hG.pr 56 8
        have b477 : 0 ≤ Z371 56 9 ∧ Z371 56 9 ≤ 100 := hG371.pr 56 9
        have eq478 : Z371 56 11 = Z 56 11 := (hf371 56 11 rfl)
        have b479 : 0 ≤ Z 56 11 ∧ Z 56 11 ≤ 4 := hG.pr 56 11
        have eq480 : Z371 60 61 = Z 60 61 := (hf371 60 61 rfl)
        have b481 : 0 ≤ Z 60 61 ∧ Z 60 61 ≤ 900 := by have hq := GI_ex hG 60 61; replace hq : f60 (61 % 962) (Z 60 61) := hq; unfold f60 at hq; omega
        have b482 : (-2147483648) ≤ Z 60 61 ∧ Z 60 61 ≤ 2147483647 := hG.pr 60 61
        have eq483 : Z371 60 1 = Z 60 1 := (hf371 60 1 rfl)
        have b484 : 0 ≤ Z 60 1 ∧ Z 60 1 ≤ 18 := by have hq := GI_ex hG 60 1; replace hq : f60 (1 % 962) (Z 60 1) := hq; unfold f60 at hq; omega
        have b485 : (-2147483648) ≤ Z 60 1 ∧ Z 60 1 ≤ 2147483647 := hG.pr 60 1
        have eq486 : Z371 60 2 = Z 60 2 := (hf371 60 2 rfl)
        have b487 : 0 ≤ Z 60 2 ∧ Z 60 2 ≤ 18 := by have hq := GI_ex hG 60 2; replace hq : f60 (2 % 962) (Z 60 2) := hq; unfold f60 at hq; omega
        have b488 : (-2147483648) ≤ Z 60 2 ∧ Z 60 2 ≤ 2147483647 := hG.pr 60 2
        exact mx_J.ret (sn_175 17) (fun _ _ => rfl) (hP Z371 h371 hx371 hG371 (fr_tr (M := [(56, 6), (56, 7), (56, 9), (56, 10), (56, 11), (56, 12), (60, (-1))]) fr_rf (hf371) (M1 := []) rfl rfl) ⟨(QR_f (by omega)), by omega⟩)
theorem ct_175_56_i4 {l : Launch} {D : va_G} {b0 : Nat} {ad : Nat → Nat} {Hb : Heap} {tau : Nat → Int64} {d n s : Nat} {S : Nat → xS} {Z : xZ} {h : mx_H} {a0 : Int} (hx : XH n s S Z h) (hG : GI n S Z)   (k0 : (Z 56 6 ≤ Z 56 7 ∧ Z 56 7 ≤ Z 56 8 ∧ (Z 56 9 = 24 ∨ Z 56 6 < Z 56 7))) (k1 : Z 60 61 ≤ Z 56 6) (k2 : a0 ≤ Z 60 61) (k3 : 0 ≤ a0) : ∃ (Z' : xZ) (h' : mx_H), mx_Ca (tB l D b0 ad Hb tau) (d + 26) 175 [.ref 56, xI 4] h (none, h') ∧ XH n s S Z' h' ∧ GI n S Z' ∧ fr' [(56, 6), (56, 7), (56, 9), (56, 10), (56, 11), (56, 12), (60, (-1))] Z Z' ∧ (QR Z Z' a0 1 0 ∧ ((Z' 56 6 ≤ Z' 56 7 ∧ Z' 56 7 ≤ Z 56 8 ∧ (Z' 56 9 = 24 ∨ Z' 56 6 < Z' 56 7)) ∧ Z' 60 1 = Z 60 1 ∧ Z' 60 2 = Z 60 2 ∧ Z 56 6 ≤ Z' 56 6 ∧ Z 60 61 ≤ Z' 60 61 ∧ Z' 60 61 - Z 60 61 ≤ Z' 56 6 - Z 56 6)) := by
  obtain ⟨r, hca, Z', h', e, q⟩ := Jmt (B := tB l D b0 ad Hb tau) (M := mt_175) (mi := 175) (as := [.ref 56, xI 4]) (d := d + 25) (ls := [some (.ref 56), some (xI 4), none]) rfl rfl rfl rfl rfl rfl (cw_175_56_i4 (l := l) (D := D) (b0 := b0) (ad := ad) (Hb := Hb) (tau := tau) (d := d) (Post := fun r => ∃ (Z' : xZ) (h' : mx_H), r = (none, h') ∧ XH n s S Z' h' ∧ GI n S Z' ∧ fr' [(56, 6), (56, 7), (56, 9), (56, 10), (56, 11), (56, 12), (60, (-1))] Z Z' ∧ (QR Z Z' a0 1 0 ∧ ((Z' 56 6 ≤ Z' 56 7 ∧ Z' 56 7 ≤ Z 56 8 ∧ (Z' 56 9 = 24 ∨ Z' 56 6 < Z' 56 7)) ∧ Z' 60 1 = Z 60 1 ∧ Z' 60 2 = Z 60 2 ∧ Z 56 6 ≤ Z' 56 6 ∧ Z 60 61 ≤ Z' 60 61 ∧ Z' 60 61 - Z 60 61 ≤ Z' 56 6 - Z 56 6))) hx hG k0 k1 k2 k3 (fun Z' h' q1 q2 q3 q4 => ⟨Z', h', rfl, q1, q2, q3, q4⟩))
  subst e; exact ⟨Z', h', hca, q⟩
set_option maxHeartbeats 8000000 in
set_option maxRecDepth 100000 in
theorem cw_176_56_i4 {l : Launch} {D : va_G} {b0 : Nat} {ad : Nat → Nat} {Hb : Heap} {tau : Nat → Int64} {d n s : Nat} {S : Nat → xS} {Z : xZ} {h : mx_H} {Post : mx_R → Prop} {a0 : Int} (hx : XH n s S Z h) (hG : GI n S Z)   (k0 : (Z 56 6 ≤ Z 56 7 ∧ Z 56 7 ≤ Z 56 8 ∧ (Z 56 9 = 24 ∨ Z 56 6 < Z 56 7))) (k1 : Z 60 61 ≤ Z 56 6) (k2 : a0 ≤ Z 60 61) (k3 : 0 ≤ a0) (hP : ∀ (Z' : xZ) (h' : mx_H), XH n s S Z' h' → GI n S Z' → fr' [(56, 6), (56, 7), (56, 9), (56, 10), (56, 11), (56, 12), (60, (-1))] Z Z' → QR Z Z' a0 1 0 ∧ ((Z' 56 6 ≤ Z' 56 7 ∧ Z' 56 7 ≤ Z 56 8 ∧ (Z' 56 9 = 24 ∨ Z' 56 6 < Z' 56 7)) ∧ Z' 60 1 = Z 60 1 ∧ Z' 60 2 = Z 60 2 ∧ Z 56 6 ≤ Z' 56 6 ∧ Z 60 61 ≤ Z' 60 61 ∧ Z' 60 61 - Z 60 61 ≤ Z' 56 6 - Z 56 6) → Post (none, h')) : mx_J (tB l D b0 ad Hb tau) mt_176 (d + 26) 0 [some (.ref 56), some (xI 4)] [] h Post := by
    have a56 : 56 < n := lt83 (GI_n hG) rfl
    have s56 : S 56 = .inl (12, [0, 2, 2, 2, 2, 0, 0, 0, 0, 0, 0, 0, 0, 0, 0, 2, 2, 2, 0, 2, 2, 2, 0, 0, 2, 2, 2, 2, 2, 2, 0, 0, 2, 2, 2, 2, 2, 2, 2, 2, 2, 2]) := GI_s hG 56 rfl
    refine mx_J.step (sn_176 0) (fun _ _ => rfl) ?_
    refine mx_J.step (sn_176 1) (fun _ _ => rfl) ?_
    have b2 : 0 ≤ Z 56 6 ∧ Z 56 6 ≤ 900 := hG.pr 56 6
    have b3 : 0 ≤ Z 56 7 ∧ Z 56 7 ≤ 900 := hG.pr 56 7
    have b4 : 0 ≤ Z 56 8 ∧ Z 56 8 ≤ 900 := hG.pr 56 8
    have b5 : 0 ≤ Z 56 9 ∧ Z 56 9 ≤ 100 := hG.pr 56 9
    have b6 : 0 ≤ Z 56 11 ∧ Z 56 11 ≤ 4 := hG.pr 56 11
    have b7 : 0 ≤ Z 60 61 ∧ Z 60 61 ≤ 900 := by have hq := GI_ex hG 60 61; replace hq : f60 (61 % 962) (Z 60 61) := hq; unfold f60 at hq; omega
    have b8 : (-2147483648) ≤ Z 60 61 ∧ Z 60 61 ≤ 2147483647 := hG.pr 60 61
    have b9 : 0 ≤ Z 60 1 ∧ Z 60 1 ≤ 18 := by have hq := GI_ex hG 60 1; replace hq : f60 (1 % 962) (Z 60 1) := hq; unfold f60 at hq; omega
    have b10 : (-2147483648) ≤ Z 60 1 ∧ Z 60 1 ≤ 2147483647 := hG.pr 60 1
    have b11 : 0 ≤ Z 60 2 ∧ Z 60 2 ≤ 18 := by have hq := GI_ex hG 60 2; replace hq : f60 (2 % 962) (Z 60 2) := hq; unfold f60 at hq; omega
    have b12 : (-2147483648) ≤ Z 60 2 ∧ Z 60 2 ≤ 2147483647 := hG.pr 60 2
    obtain ⟨Z1, h1, hc1, hx1, hG1, hf1, b1⟩ := ct_175_56_i4 (a0 := a0) (d := d + 0) (l := l) (D := D) (b0 := b0) (ad := ad) (Hb := Hb) (tau := tau) hx hG  (show (Z 56 6 ≤ Z 56 7 ∧ Z 56 7 ≤ Z 56 8 ∧ (Z 56 9 = 24 ∨ Z 56 6 < Z 56 7)) by omega) (show Z 60 61 ≤ Z 56 6 by omega) (show a0 ≤ Z 60 61 by omega) (show 0 ≤ a0 by omega)
    obtain ⟨bq1, b1⟩ := b1
    have b13 : 0 ≤ Z1 56 6 ∧ Z1 56 6 ≤ 900 := hG1.pr 56 6
    have b14 : 0 ≤ Z1 56 7 ∧ Z1 56 7 ≤ 900 := hG1.pr 56 7
    have b15 : 0 ≤ Z1 56 9 ∧ Z1 56 9 ≤ 100 := hG1.pr 56 9
    have b16 : 0 ≤ Z1 56 11 ∧ Z1 56 11 ≤ 4 := hG1.pr 56 11
    have b17 : 0 ≤ Z1 60 61 ∧ Z1 60 61 ≤ 900 := by have hq := GI_ex hG1 60 61; replace hq : f60 (61 % 962) (Z1 60 61) := hq; unfold f60 at hq; omega
    have b18 : (-2147483648) ≤ Z1 60 61 ∧ Z1 60 61 ≤ 2147483647 := hG1.pr 60 61
    have b19 : 0 ≤ Z1 60 1 ∧ Z1 60 1 ≤ 18 := by have hq := GI_ex hG1 60 1; replace hq : f60 (1 % 962) (Z1 60 1) := hq; unfold f60 at hq; omega
    have b20 : (-2147483648) ≤ Z1 60 1 ∧ Z1 60 1 ≤ 2147483647 := hG1.pr 60 1
    have b21 : 0 ≤ Z1 60 2 ∧ Z1 60 2 ≤ 18 := by have hq := GI_ex hG1 60 2; replace hq : f60 (2 % 962) (Z1 60 2) := hq; unfold f60 at hq; omega
    have b22 : (-2147483648) ≤ Z1 60 2 ∧ Z1 60 2 ≤ 2147483647 := hG1.pr 60 2
    have r1 := QR_tr (d := 1) (c := 0) (QR_rf (Z := Z) (a := a0)) bq1 (by decide) (by decide) (by decide)
    refine Jcv0 hx (show mx_Sn _ _ 2 (mx_callv 175 2 12 5) from sn_176 2) a56 s56 hc1 rfl rfl rfl ?_
    have c5 : ∀ (m23 : Nat)  (Z24 : xZ) (h24 : mx_H), (((Z 56 8 - Z24 56 6).toNat : Nat) : Int) < (m23 : Int) → (Z24 56 6 ≤ Z24 56 7 ∧ Z24 56 7 ≤ Z 56 8) → (Z24 56 9 = 24 ∨ Z24 56 6 < Z24 56 7) → (Z 56 6 ≤ Z24 56 6 ∧ Z 60 61 ≤ Z24 60 61 ∧ Z24 60 61 - Z 60 61 ≤ Z24 56 6 - Z 56 6) → (Z24 60 1 = Z 60 1 ∧ Z24 60 2 = Z 60 2) → QR Z Z24 a0 1 0 → XH n s S Z24 h24 → GI n S Z24 → fr' [(56, 6), (56, 7), (56, 9), (56, 10), (56, 11), (56, 12), (60, (-1))] Z1 Z24 → mx_J (tB l D b0 ad Hb tau) mt_176 (d + 26) 5 [some (.ref 56), some (xI 4)] [] h24 Post := by
      intro m23
      induction m23 with
      | zero => intro Z24 h24 q23 f23_0 f23_1 f23_2 f23_3 f23_4 hx24 hG24 hf24; exact absurd q23 (by omega)
      | succ m23 ih23 =>
        intro Z24 h24 q23 f23_0 f23_1 f23_2 f23_3 f23_4 hx24 hG24 hf24
        have b25 : 0 ≤ Z24 56 6 ∧ Z24 56 6 ≤ 900 := hG24.pr 56 6
        have b26 : 0 ≤ Z24 56 7 ∧ Z24 56 7 ≤ 900 := hG24.pr 56 7
        have b27 : 0 ≤ Z24 56 6 ∧ Z24 56 6 ≤ 900 := hG24.pr 56 6
        have b28 : 0 ≤ Z24 56 7 ∧ Z24 56 7 ≤ 900 := hG24.pr 56 7
        have b29 : 0 ≤ Z24 56 9 ∧ Z24 56 9 ≤ 100 := hG24.pr 56 9
        have b30 : 0 ≤ Z24 56 6 ∧ Z24 56 6 ≤ 900 := hG24.pr 56 6
        have b31 : 0 ≤ Z24 60 61 ∧ Z24 60 61 ≤ 900 := by have hq := GI_ex hG24 60 61; replace hq : f60 (61 % 962) (Z24 60 61) := hq; unfold f60 at hq; omega
        have b32 : (-2147483648) ≤ Z24 60 61 ∧ Z24 60 61 ≤ 2147483647 := hG24.pr 60 61
        have b33 : 0 ≤ Z24 60 1 ∧ Z24 60 1 ≤ 18 := by have hq := GI_ex hG24 60 1; replace hq : f60 (1 % 962) (Z24 60 1) := hq; unfold f60 at hq; omega
        have b34 : (-2147483648) ≤ Z24 60 1 ∧ Z24 60 1 ≤ 2147483647 := hG24.pr 60 1
        have b35 : 0 ≤ Z24 60 2 ∧ Z24 60 2 ≤ 18 := by have hq := GI_ex hG24 60 2; replace hq : f60 (2 % 962) (Z24 60 2) := hq; unfold f60 at hq; omega
        have b36 : (-2147483648) ≤ Z24 60 2 ∧ Z24 60 2 ≤ 2147483647 := hG24.pr 60 2
        have b37 : 0 ≤ Z24 56 6 ∧ Z24 56 6 ≤ 900 := hG24.pr 56 6
        refine mx_J.step (sn_176 5) (fun _ _ => rfl) ?_
        refine JcI (z := 13) (show mx_Sn _ _ 6 (mx_const (.int 13) 8) from sn_176 6) rfl ?_
        have b39 : 0 ≤ Z24 56 6 ∧ Z24 56 6 ≤ 900 := hG24.pr 56 6
        have b40 : 0 ≤ Z24 56 7 ∧ Z24 56 7 ≤ 900 := hG24.pr 56 7
        have eq41 : Z24 56 8 = Z 56 8 := ((hf24 56 8 rfl).trans (hf1 56 8 rfl))
        have b42 : 0 ≤ Z 56 8 ∧ Z 56 8 ≤ 900 := hG.pr 56 8
        have b43 : 0 ≤ Z24 56 9 ∧ Z24 56 9 ≤ 100 := hG24.pr 56 9
        have b44 : 0 ≤ Z24 56 11 ∧ Z24 56 11 ≤ 4 := hG24.pr 56 11
        obtain ⟨z38, Z38, h38, hc38, hx38, hG38, hf38, b38⟩ := ct_165_56 (d := d + 19) (l := l) (D := D) (b0 := b0) (ad := ad) (Hb := Hb) (tau := tau) hx24 hG24 (show 0 ≤ 13 ∧ 13 ≤ 100 by omega) (show (Z24 56 6 ≤ Z24 56 7 ∧ Z24 56 7 ≤ Z24 56 8 ∧ (Z24 56 9 = 24 ∨ Z24 56 6 < Z24 56 7)) by first | omega | (simp only [eq41]; omega)) (show ¬ 13 = 24 by first | omega | (simp only [eq41]; omega))
        try rw [eq41] at b38
        have b45 : 0 ≤ Z38 56 6 ∧ Z38 56 6 ≤ 900 := hG38.pr 56 6
        have b46 : 0 ≤ Z38 56 7 ∧ Z38 56 7 ≤ 900 := hG38.pr 56 7
        have b47 : 0 ≤ Z38 56 9 ∧ Z38 56 9 ≤ 100 := hG38.pr 56 9
        have b48 : 0 ≤ Z24 56 6 ∧ Z24 56 6 ≤ 900 := hG24.pr 56 6
        have b49 : 0 ≤ Z24 56 11 ∧ Z24 56 11 ≤ 4 := hG24.pr 56 11
        have b50 : 0 ≤ Z24 56 9 ∧ Z24 56 9 ≤ 100 := hG24.pr 56 9
        have r38 := QR_g (k := 0) (c2 := 0) f23_4 (fun e => (hf38 56 11 rfl).symm.trans e) (fun i => hf38 60 i rfl) (fun e => by omega) (by decide)
        have rk38 : z38 = 1 → QR Z Z38 a0 1 1 := fun ez => QR_g (k := 1) f23_4 (fun e => (hf38 56 11 rfl).symm.trans e) (fun i => hf38 60 i rfl) (fun e => by omega) (by decide)
        refine Jcv hx24 (show mx_Sn _ _ 8 (mx_callv 165 2 12 11) from sn_176 8) a56 s56 hc38 rfl rfl rfl ?_
        refine Jif_eq (show mx_Sn _ _ 11 (mx_if_eq 29 14) from sn_176 11) (by omega) (fun q51 => ?_) (fun q51 => ?_)
        · skip
          have b52 : 0 ≤ Z38 56 6 ∧ Z38 56 6 ≤ 900 := hG38.pr 56 6
          have b53 : 0 ≤ Z38 56 7 ∧ Z38 56 7 ≤ 900 := hG38.pr 56 7
          have b54 : 0 ≤ Z38 56 9 ∧ Z38 56 9 ≤ 100 := hG38.pr 56 9
          have eq55 : Z38 56 11 = Z24 56 11 := (hf38 56 11 rfl)
          have b56 : 0 ≤ Z24 56 11 ∧ Z24 56 11 ≤ 4 := hG24.pr 56 11
          have eq57 : Z38 60 61 = Z24 60 61 := (hf38 60 61 rfl)
          have b58 : 0 ≤ Z24 60 61 ∧ Z24 60 61 ≤ 900 := by have hq := GI_ex hG24 60 61; replace hq : f60 (61 % 962) (Z24 60 61) := hq; unfold f60 at hq; omega
          have b59 : (-2147483648) ≤ Z24 60 61 ∧ Z24 60 61 ≤ 2147483647 := hG24.pr 60 61
          have eq60 : Z38 60 1 = Z24 60 1 := (hf38 60 1 rfl)
          have b61 : 0 ≤ Z24 60 1 ∧ Z24 60 1 ≤ 18 := by have hq := GI_ex hG24 60 1; replace hq : f60 (1 % 962) (Z24 60 1) := hq; unfold f60 at hq; omega
          have b62 : (-2147483648) ≤ Z24 60 1 ∧ Z24 60 1 ≤ 2147483647 := hG24.pr 60 1
          have eq63 : Z38 60 2 = Z24 60 2 := (hf38 60 2 rfl)
          have b64 : 0 ≤ Z24 60 2 ∧ Z24 60 2 ≤ 18 := by have hq := GI_ex hG24 60 2; replace hq : f60 (2 % 962) (Z24 60 2) := hq; unfold f60 at hq; omega
          have b65 : (-2147483648) ≤ Z24 60 2 ∧ Z24 60 2 ≤ 2147483647 := hG24.pr 60 2
          have b66 : 0 ≤ Z38 56 6 ∧ Z38 56 6 ≤ 900 := hG38.pr 56 6
          have b67 : 0 ≤ Z38 56 7 ∧ Z38 56 7 ≤ 900 := hG38.pr 56 7
          have eq68 : Z38 56 8 = Z 56 8 := ((hf38 56 8 rfl).trans ((hf24 56 8 rfl).trans (hf1 56 8 rfl)))
          have b69 : 0 ≤ Z 56 8 ∧ Z 56 8 ≤ 900 := hG.pr 56 8
          have b70 : 0 ≤ Z38 56 9 ∧ Z38 56 9 ≤ 100 := hG38.pr 56 9
          have eq71 : Z38 56 11 = Z24 56 11 := (hf38 56 11 rfl)
          have b72 : 0 ≤ Z24 56 11 ∧ Z24 56 11 ≤ 4 := hG24.pr 56 11
          have eq73 : Z38 60 61 = Z24 60 61 := (hf38 60 61 rfl)
          have b74 : 0 ≤ Z24 60 61 ∧ Z24 60 61 ≤ 900 := by have hq := GI_ex hG24 60 61; replace hq : f60 (61 % 962) (Z24 60 61) := hq; unfold f60 at hq; omega
          have b75 : (-2147483648) ≤ Z24 60 61 ∧ Z24 60 61 ≤ 2147483647 := hG24.pr 60 61
          have eq76 : Z38 60 1 = Z24 60 1 := (hf38 60 1 rfl)
          have b77 : 0 ≤ Z24 60 1 ∧ Z24 60 1 ≤ 18 := by have hq := GI_ex hG24 60 1; replace hq : f60 (1 % 962) (Z24 60 1) := hq; unfold f60 at hq; omega
          have b78 : (-2147483648) ≤ Z24 60 1 ∧ Z24 60 1 ≤ 2147483647 := hG24.pr 60 1
          have eq79 : Z38 60 2 = Z24 60 2 := (hf38 60 2 rfl)
          have b80 : 0 ≤ Z24 60 2 ∧ Z24 60 2 ≤ 18 := by have hq := GI_ex hG24 60 2; replace hq : f60 (2 % 962) (Z24 60 2) := hq; unfold f60 at hq; omega
          have b81 : (-2147483648) ≤ Z24 60 2 ∧ Z24 60 2 ≤ 2147483647 := hG24.pr 60 2
          exact mx_J.ret (sn_176 29) (fun _ _ => rfl) (hP Z38 h38 hx38 hG38 (fr_tr (M := [(56, 6), (56, 7), (56, 9), (56, 10), (56, 11), (56, 12), (60, (-1))]) (fr_tr (M := [(56, 6), (56, 7), (56, 9), (56, 10), (56, 11), (56, 12), (60, (-1))]) (fr_tr (M := [(56, 6), (56, 7), (56, 9), (56, 10), (56, 11), (56, 12), (60, (-1))]) fr_rf (hf1) (M1 := []) rfl rfl) (hf24) rfl rfl) (hf38) rfl rfl) ⟨(QR_le r38 (by decide)), by omega⟩)
        · skip
          refine mx_J.step (sn_176 14) (fun _ _ => rfl) ?_
          refine mx_J.step (sn_176 15) (fun _ _ => rfl) ?_
          have b83 : 0 ≤ Z38 56 6 ∧ Z38 56 6 ≤ 900 := hG38.pr 56 6
          have b84 : 0 ≤ Z38 56 7 ∧ Z38 56 7 ≤ 900 := hG38.pr 56 7
          have eq85 : Z38 56 8 = Z 56 8 := ((hf38 56 8 rfl).trans ((hf24 56 8 rfl).trans (hf1 56 8 rfl)))
          have b86 : 0 ≤ Z 56 8 ∧ Z 56 8 ≤ 900 := hG.pr 56 8
          have b87 : 0 ≤ Z38 56 9 ∧ Z38 56 9 ≤ 100 := hG38.pr 56 9
          have eq88 : Z38 56 11 = Z24 56 11 := (hf38 56 11 rfl)
          have b89 : 0 ≤ Z24 56 11 ∧ Z24 56 11 ≤ 4 := hG24.pr 56 11
          have eq90 : Z38 60 61 = Z24 60 61 := (hf38 60 61 rfl)
          have b91 : 0 ≤ Z24 60 61 ∧ Z24 60 61 ≤ 900 := by have hq := GI_ex hG24 60 61; replace hq : f60 (61 % 962) (Z24 60 61) := hq; unfold f60 at hq; omega
          have b92 : (-2147483648) ≤ Z24 60 61 ∧ Z24 60 61 ≤ 2147483647 := hG24.pr 60 61
          have eq93 : Z38 60 1 = Z24 60 1 := (hf38 60 1 rfl)
          have b94 : 0 ≤ Z24 60 1 ∧ Z24 60 1 ≤ 18 := by have hq := GI_ex hG24 60 1; replace hq : f60 (1 % 962) (Z24 60 1) := hq; unfold f60 at hq; omega
          have b95 : (-2147483648) ≤ Z24 60 1 ∧ Z24 60 1 ≤ 2147483647 := hG24.pr 60 1
          have eq96 : Z38 60 2 = Z24 60 2 := (hf38 60 2 rfl)
          have b97 : 0 ≤ Z24 60 2 ∧ Z24 60 2 ≤ 18 := by have hq := GI_ex hG24 60 2; replace hq : f60 (2 % 962) (Z24 60 2) := hq; unfold f60 at hq; omega
          have b98 : (-2147483648) ≤ Z24 60 2 ∧ Z24 60 2 ≤ 2147483647 := hG24.pr 60 2
          obtain ⟨Z82, h82, hc82, hx82, hG82, hf82, b82⟩ := ct_175_56_i4 (a0 := a0) (d := d + 0) (l := l) (D := D) (b0 := b0) (ad := ad) (Hb := Hb) (tau := tau) hx38 hG38  (show (Z38 56 6 ≤ Z38 56 7 ∧ Z38 56 7 ≤ Z38 56 8 ∧ (Z38 56 9 = 24 ∨ Z38 56 6 < Z38 56 7)) by first | omega | (simp only [eq85, eq88, eq90, eq93, eq96]; omega)) (show Z38 60 61 ≤ Z38 56 6 by first | omega | (simp only [eq85, eq88, eq90, eq93, eq96]; omega)) (show a0 ≤ Z38 60 61 by first | omega | (simp only [eq85, eq88, eq90, eq93, eq96]; omega)) (show 0 ≤ a0 by first | omega | (simp only [eq85, eq88, eq90, eq93, eq96]; omega))
          try rw [eq85] at b82
          try rw [eq88] at b82
          try rw [eq90] at b82
          try rw [eq93] at b82
          try rw [eq96] at b82
          obtain ⟨bq82, b82⟩ := b82
          have b99 : 0 ≤ Z82 56 6 ∧ Z82 56 6 ≤ 900 := hG82.pr 56 6
          have b100 : 0 ≤ Z82 56 7 ∧ Z82 56 7 ≤ 900 := hG82.pr 56 7
          have b101 : 0 ≤ Z82 56 9 ∧ Z82 56 9 ≤ 100 := hG82.pr 56 9
          have b102 : 0 ≤ Z82 56 11 ∧ Z82 56 11 ≤ 4 := hG82.pr 56 11
          have b103 : 0 ≤ Z82 60 61 ∧ Z82 60 61 ≤ 900 := by have hq := GI_ex hG82 60 61; replace hq : f60 (61 % 962) (Z82 60 61) := hq; unfold f60 at hq; omega
          have b104 : (-2147483648) ≤ Z82 60 61 ∧ Z82 60 61 ≤ 2147483647 := hG82.pr 60 61
          have b105 : 0 ≤ Z82 60 1 ∧ Z82 60 1 ≤ 18 := by have hq := GI_ex hG82 60 1; replace hq : f60 (1 % 962) (Z82 60 1) := hq; unfold f60 at hq; omega
          have b106 : (-2147483648) ≤ Z82 60 1 ∧ Z82 60 1 ≤ 2147483647 := hG82.pr 60 1
          have b107 : 0 ≤ Z82 60 2 ∧ Z82 60 2 ≤ 18 := by have hq := GI_ex hG82 60 2; replace hq : f60 (2 % 962) (Z82 60 2) := hq; unfold f60 at hq; omega
          have b108 : (-2147483648) ≤ Z82 60 2 ∧ Z82 60 2 ≤ 2147483647 := hG82.pr 60 2
          have r82 := QR_tr (d := 2) (c := 1) (rk38 (by omega)) bq82 (by decide) (by decide) (by decide)
          refine Jcv0 hx38 (show mx_Sn _ _ 16 (mx_callv 175 2 12 19) from sn_176 16) a56 s56 hc82 rfl rfl rfl ?_
          refine mx_J.step (sn_176 19) (fun _ _ => rfl) ?_
          refine JcI (z := 3007) (show mx_Sn _ _ 20 (mx_const (.int 3007) 23) from sn_176 20) rfl ?_
          have eq110 : Z82 56 8 = Z 56 8 := ((hf82 56 8 rfl).trans ((hf38 56 8 rfl).trans ((hf24 56 8 rfl).trans (hf1 56 8 rfl))))
          have b111 : 0 ≤ Z 56 8 ∧ Z 56 8 ≤ 900 := hG.pr 56 8
          have b112 : 0 ≤ Z82 56 11 ∧ Z82 56 11 ≤ 4 := hG82.pr 56 11
          have b113 : 0 ≤ Z82 60 61 ∧ Z82 60 61 ≤ 900 := by have hq := GI_ex hG82 60 61; replace hq : f60 (61 % 962) (Z82 60 61) := hq; unfold f60 at hq; omega
          have b114 : (-2147483648) ≤ Z82 60 61 ∧ Z82 60 61 ≤ 2147483647 := hG82.pr 60 61
          have b115 : 0 ≤ Z82 60 1 ∧ Z82 60 1 ≤ 18 := by have hq := GI_ex hG82 60 1; replace hq : f60 (1 % 962) (Z82 60 1) := hq; unfold f60 at hq; omega
          have b116 : (-2147483648) ≤ Z82 60 1 ∧ Z82 60 1 ≤ 2147483647 := hG82.pr 60 1
          have b117 : 0 ≤ Z82 60 2 ∧ Z82 60 2 ≤ 18 := by have hq := GI_ex hG82 60 2; replace hq : f60 (2 % 962) (Z82 60 2) := hq; unfold f60 at hq; omega
          have b118 : (-2147483648) ≤ Z82 60 2 ∧ Z82 60 2 ≤ 2147483647 := hG82.pr 60 2
          have rp109 := QR_n r82
          obtain ⟨Z109, h109, hc109, hx109, hG109, hf109, b109⟩ := ct_169_56_3007 (a0 := a0) (d := d + 25) (l := l) (D := D) (b0 := b0) (ad := ad) (Hb := Hb) (tau := tau) hx82 hG82 (show 3007 ≤ 3007 ∧ 3007 ≤ 3008 by omega) (show (Z82 56 11 = 0 → Z82 60 61 ≤ 899) by first | omega | (simp only [eq110]; omega)) (show a0 ≤ Z82 60 61 by first | omega | (simp only [eq110]; omega)) (show 0 ≤ a0 by first | omega | (simp only [eq110]; omega))
          try rw [eq110] at b109
          obtain ⟨bq109, b109⟩ := b109
          have b119 : 0 ≤ Z109 60 61 ∧ Z109 60 61 ≤ 900 := by have hq := GI_ex hG109 60 61; replace hq : f60 (61 % 962) (Z109 60 61) := hq; unfold f60 at hq; omega
          have b120 : (-2147483648) ≤ Z109 60 61 ∧ Z109 60 61 ≤ 2147483647 := hG109.pr 60 61
          have b121 : 0 ≤ Z109 60 1 ∧ Z109 60 1 ≤ 18 := by have hq := GI_ex hG109 60 1; replace hq : f60 (1 % 962) (Z109 60 1) := hq; unfold f60 at hq; omega
          have b122 : (-2147483648) ≤ Z109 60 1 ∧ Z109 60 1 ≤ 2147483647 := hG109.pr 60 1
          have b123 : 0 ≤ Z109 60 2 ∧ Z109 60 2 ≤ 18 := by have hq := GI_ex hG109 60 2; replace hq : f60 (2 % 962) (Z109 60 2) := hq; unfold f60 at hq; omega
          have b124 : (-2147483648) ≤ Z109 60 2 ∧ Z109 60 2 ≤ 2147483647 := hG109.pr 60 2
          have rn109 := QR_n r82
          have r109 := QR_c (d2 := 1) (c2 := 0) r82 bq109 (by omega) (hf109 56 11 rfl) (hf109 56 6 rfl) (by decide) (by decide) (by decide)
          refine Jcv0 hx82 (show mx_Sn _ _ 23 (mx_callv 169 2 12 26) from sn_176 23) a56 s56 hc109 rfl rfl rfl ?_
          refine mx_J.step (sn_176 26) (fun _ _ => rfl) ?_
          have eq125 : Z109 56 6 = Z82 56 6 := (hf109 56 6 rfl)
          have b126 : 0 ≤ Z82 56 6 ∧ Z82 56 6 ≤ 900 := hG82.pr 56 6
          have eq127 : Z109 56 7 = Z82 56 7 := (hf109 56 7 rfl)
          have b128 : 0 ≤ Z82 56 7 ∧ Z82 56 7 ≤ 900 := hG82.pr 56 7
          have eq129 : Z109 56 6 = Z82 56 6 := (hf109 56 6 rfl)
          have b130 : 0 ≤ Z82 56 6 ∧ Z82 56 6 ≤ 900 := hG82.pr 56 6
          have eq131 : Z109 56 7 = Z82 56 7 := (hf109 56 7 rfl)
          have b132 : 0 ≤ Z82 56 7 ∧ Z82 56 7 ≤ 900 := hG82.pr 56 7
          have eq133 : Z109 56 9 = Z82 56 9 := (hf109 56 9 rfl)
          have b134 : 0 ≤ Z82 56 9 ∧ Z82 56 9 ≤ 100 := hG82.pr 56 9
          have eq135 : Z109 56 6 = Z82 56 6 := (hf109 56 6 rfl)
          have b136 : 0 ≤ Z82 56 6 ∧ Z82 56 6 ≤ 900 := hG82.pr 56 6
          have b137 : 0 ≤ Z109 60 61 ∧ Z109 60 61 ≤ 900 := by have hq := GI_ex hG109 60 61; replace hq : f60 (61 % 962) (Z109 60 61) := hq; unfold f60 at hq; omega
          have b138 : (-2147483648) ≤ Z109 60 61 ∧ Z109 60 61 ≤ 2147483647 := hG109.pr 60 61
          have b139 : 0 ≤ Z109 60 1 ∧ Z109 60 1 ≤ 18 := by have hq := GI_ex hG109 60 1; replace hq : f60 (1 % 962) (Z109 60 1) := hq; unfold f60 at hq; omega
          have b140 : (-2147483648) ≤ Z109 60 1 ∧ Z109 60 1 ≤ 2147483647 := hG109.pr 60 1
          have b141 : 0 ≤ Z109 60 2 ∧ Z109 60 2 ≤ 18 := by have hq := GI_ex hG109 60 2; replace hq : f60 (2 % 962) (Z109 60 2) := hq; unfold f60 at hq; omega
          have b142 : (-2147483648) ≤ Z109 60 2 ∧ Z109 60 2 ≤ 2147483647 := hG109.pr 60 2
          have eq143 : Z109 56 6 = Z82 56 6 := (hf109 56 6 rfl)
          have b144 : 0 ≤ Z82 56 6 ∧ Z82 56 6 ≤ 900 := hG82.pr 56 6
          exact ih23 Z109 h109 (by omega) (by omega) (by omega) (by omega) (by omega) (QR_le r109 (by decide)) hx109 hG109 (fr_tr (M := [(56, 6), (56, 7), (56, 9), (56, 10), (56, 11), (56, 12), (60, (-1))]) (fr_tr (M := [(56, 6), (56, 7), (56, 9), (56, 10), (56, 11), (56, 12), (60, (-1))]) (fr_tr (M := [(56, 6), (56, 7), (56, 9), (56, 10), (56, 11), (56, 12), (60, (-1))]) (fr_tr (M := [(56, 6), (56, 7), (56, 9), (56, 10), (56, 11), (56, 12), (60, (-1))]) fr_rf (hf24) (M1 := []) rfl rfl) (hf38) rfl rfl) (hf82) rfl rfl) (hf109) rfl rfl)
    have b145 : 0 ≤ Z1 56 6 ∧ Z1 56 6 ≤ 900 := hG1.pr 56 6
    have b146 : 0 ≤ Z1 56 7 ∧ Z1 56 7 ≤ 900 := hG1.pr 56 7
    have b147 : 0 ≤ Z1 56 6 ∧ Z1 56 6 ≤ 900 := hG1.pr 56 6
    have b148 : 0 ≤ Z1 56 7 ∧ Z1 56 7 ≤ 900 := hG1.pr 56 7
    have b149 : 0 ≤ Z1 56 9 ∧ Z1 56 9 ≤ 100 := hG1.pr 56 9
    have b150 : 0 ≤ Z1 56 6 ∧ Z1 56 6 ≤ 900 := hG1.pr 56 6
    have b151 : 0 ≤ Z1 60 61 ∧ Z1 60 61 ≤ 900 := by have hq := GI_ex hG1 60 61; replace hq : f60 (61 % 962) (Z1 60 61) := hq; unfold f60 at hq; omega
    have b152 : (-2147483648) ≤ Z1 60 61 ∧ Z1 60 61 ≤ 2147483647 := hG1.pr 60 61
    have b153 : 0 ≤ Z1 60 1 ∧ Z1 60 1 ≤ 18 := by have hq := GI_ex hG1 60 1; replace hq : f60 (1 % 962) (Z1 60 1) := hq; unfold f60 at hq; omega
    have b154 : (-2147483648) ≤ Z1 60 1 ∧ Z1 60 1 ≤ 2147483647 := hG1.pr 60 1
    have b155 : 0 ≤ Z1 60 2 ∧ Z1 60 2 ≤ 18 := by have hq := GI_ex hG1 60 2; replace hq : f60 (2 % 962) (Z1 60 2) := hq; unfold f60 at hq; omega
    have b156 : (-2147483648) ≤ Z1 60 2 ∧ Z1 60 2 ≤ 2147483647 := hG1.pr 60 2
    have b157 : 0 ≤ Z1 56 6 ∧ Z1 56 6 ≤ 900 := hG1.pr 56 6
    exact c5 (Int.toNat ((((Z 56 8 - Z1 56 6).toNat : Nat) : Int)) + 1) Z1 h1 (by omega) (by omega) (by omega) (by omega) (by omega) (QR_le r1 (by decide)) hx1 hG1 fr_rf
theorem ct_176_56_i4 {l : Launch} {D : va_G} {b0 : Nat} {ad : Nat → Nat} {Hb : Heap} {tau : Nat → Int64} {d n s : Nat} {S : Nat → xS} {Z : xZ} {h : mx_H} {a0 : Int} (hx : XH n s S Z h) (hG : GI n S Z)   (k0 : (Z 56 6 ≤ Z 56 7 ∧ Z 56 7 ≤ Z 56 8 ∧ (Z 56 9 = 24 ∨ Z 56 6 < Z 56 7))) (k1 : Z 60 61 ≤ Z 56 6) (k2 : a0 ≤ Z 60 61) (k3 : 0 ≤ a0) : ∃ (Z' : xZ) (h' : mx_H), mx_Ca (tB l D b0 ad Hb tau) (d + 27) 176 [.ref 56, xI 4] h (none, h') ∧ XH n s S Z' h' ∧ GI n S Z' ∧ fr' [(56, 6), (56, 7), (56, 9), (56, 10), (56, 11), (56, 12), (60, (-1))] Z Z' ∧ (QR Z Z' a0 1 0 ∧ ((Z' 56 6 ≤ Z' 56 7 ∧ Z' 56 7 ≤ Z 56 8 ∧ (Z' 56 9 = 24 ∨ Z' 56 6 < Z' 56 7)) ∧ Z' 60 1 = Z 60 1 ∧ Z' 60 2 = Z 60 2 ∧ Z 56 6 ≤ Z' 56 6 ∧ Z 60 61 ≤ Z' 60 61 ∧ Z' 60 61 - Z 60 61 ≤ Z' 56 6 - Z 56 6)) := by
  obtain ⟨r, hca, Z', h', e, q⟩ := Jmt (B := tB l D b0 ad Hb tau) (M := mt_176) (mi := 176) (as := [.ref 56, xI 4]) (d := d + 26) (ls := [some (.ref 56), some (xI 4)]) rfl rfl rfl rfl rfl rfl (cw_176_56_i4 (l := l) (D := D) (b0 := b0) (ad := ad) (Hb := Hb) (tau := tau) (d := d) (Post := fun r => ∃ (Z' : xZ) (h' : mx_H), r = (none, h') ∧ XH n s S Z' h' ∧ GI n S Z' ∧ fr' [(56, 6), (56, 7), (56, 9), (56, 10), (56, 11), (56, 12), (60, (-1))] Z Z' ∧ (QR Z Z' a0 1 0 ∧ ((Z' 56 6 ≤ Z' 56 7 ∧ Z' 56 7 ≤ Z 56 8 ∧ (Z' 56 9 = 24 ∨ Z' 56 6 < Z' 56 7)) ∧ Z' 60 1 = Z 60 1 ∧ Z' 60 2 = Z 60 2 ∧ Z 56 6 ≤ Z' 56 6 ∧ Z 60 61 ≤ Z' 60 61 ∧ Z' 60 61 - Z 60 61 ≤ Z' 56 6 - Z 56 6))) hx hG k0 k1 k2 k3 (fun Z' h' q1 q2 q3 q4 => ⟨Z', h', rfl, q1, q2, q3, q4⟩))
  subst e; exact ⟨Z', h', hca, q⟩
set_option maxHeartbeats 8000000 in
set_option maxRecDepth 100000 in
theorem cw_177_56_i4 {l : Launch} {D : va_G} {b0 : Nat} {ad : Nat → Nat} {Hb : Heap} {tau : Nat → Int64} {d n s : Nat} {S : Nat → xS} {Z : xZ} {h : mx_H} {Post : mx_R → Prop} {a0 : Int} (hx : XH n s S Z h) (hG : GI n S Z)   (k0 : (Z 56 6 ≤ Z 56 7 ∧ Z 56 7 ≤ Z 56 8 ∧ (Z 56 9 = 24 ∨ Z 56 6 < Z 56 7))) (k1 : Z 60 61 ≤ Z 56 6) (k2 : a0 ≤ Z 60 61) (k3 : 0 ≤ a0) (hP : ∀ (Z' : xZ) (h' : mx_H), XH n s S Z' h' → GI n S Z' → fr' [(56, 6), (56, 7), (56, 9), (56, 10), (56, 11), (56, 12), (60, (-1))] Z Z' → QR Z Z' a0 1 0 ∧ ((Z' 56 6 ≤ Z' 56 7 ∧ Z' 56 7 ≤ Z 56 8 ∧ (Z' 56 9 = 24 ∨ Z' 56 6 < Z' 56 7)) ∧ Z' 60 1 = Z 60 1 ∧ Z' 60 2 = Z 60 2 ∧ Z 56 6 ≤ Z' 56 6 ∧ Z 60 61 ≤ Z' 60 61 ∧ Z' 60 61 - Z 60 61 ≤ Z' 56 6 - Z 56 6) → Post (none, h')) : mx_J (tB l D b0 ad Hb tau) mt_177 (d + 27) 0 [some (.ref 56), some (xI 4)] [] h Post := by
    have a56 : 56 < n := lt83 (GI_n hG) rfl
    have s56 : S 56 = .inl (12, [0, 2, 2, 2, 2, 0, 0, 0, 0, 0, 0, 0, 0, 0, 0, 2, 2, 2, 0, 2, 2, 2, 0, 0, 2, 2, 2, 2, 2, 2, 0, 0, 2, 2, 2, 2, 2, 2, 2, 2, 2, 2]) := GI_s hG 56 rfl
    refine mx_J.step (sn_177 0) (fun _ _ => rfl) ?_
    refine mx_J.step (sn_177 1) (fun _ _ => rfl) ?_
    have b2 : 0 ≤ Z 56 6 ∧ Z 56 6 ≤ 900 := hG.pr 56 6
    have b3 : 0 ≤ Z 56 7 ∧ Z 56 7 ≤ 900 := hG.pr 56 7
    have b4 : 0 ≤ Z 56 8 ∧ Z 56 8 ≤ 900 := hG.pr 56 8
    have b5 : 0 ≤ Z 56 9 ∧ Z 56 9 ≤ 100 := hG.pr 56 9
    have b6 : 0 ≤ Z 56 11 ∧ Z 56 11 ≤ 4 := hG.pr 56 11
    have b7 : 0 ≤ Z 60 61 ∧ Z 60 61 ≤ 900 := by have hq := GI_ex hG 60 61; replace hq : f60 (61 % 962) (Z 60 61) := hq; unfold f60 at hq; omega
    have b8 : (-2147483648) ≤ Z 60 61 ∧ Z 60 61 ≤ 2147483647 := hG.pr 60 61
    have b9 : 0 ≤ Z 60 1 ∧ Z 60 1 ≤ 18 := by have hq := GI_ex hG 60 1; replace hq : f60 (1 % 962) (Z 60 1) := hq; unfold f60 at hq; omega
    have b10 : (-2147483648) ≤ Z 60 1 ∧ Z 60 1 ≤ 2147483647 := hG.pr 60 1
    have b11 : 0 ≤ Z 60 2 ∧ Z 60 2 ≤ 18 := by have hq := GI_ex hG 60 2; replace hq : f60 (2 % 962) (Z 60 2) := hq; unfold f60 at hq; omega
    have b12 : (-2147483648) ≤ Z 60 2 ∧ Z 60 2 ≤ 2147483647 := hG.pr 60 2
    obtain ⟨Z1, h1, hc1, hx1, hG1, hf1, b1⟩ := ct_176_56_i4 (a0 := a0) (d := d + 0) (l := l) (D := D) (b0 := b0) (ad := ad) (Hb := Hb) (tau := tau) hx hG  (show (Z 56 6 ≤ Z 56 7 ∧ Z 56 7 ≤ Z 56 8 ∧ (Z 56 9 = 24 ∨ Z 56 6 < Z 56 7)) by omega) (show Z 60 61 ≤ Z 56 6 by omega) (show a0 ≤ Z 60 61 by omega) (show 0 ≤ a0 by omega)
    obtain ⟨bq1, b1⟩ := b1
    have b13 : 0 ≤ Z1 56 6 ∧ Z1 56 6 ≤ 900 := hG1.pr 56 6
    have b14 : 0 ≤ Z1 56 7 ∧ Z1 56 7 ≤ 900 := hG1.pr 56 7
    have b15 : 0 ≤ Z1 56 9 ∧ Z1 56 9 ≤ 100 := hG1.pr 56 9
    have b16 : 0 ≤ Z1 56 11 ∧ Z1 56 11 ≤ 4 := hG1.pr 56 11
    have b17 : 0 ≤ Z1 60 61 ∧ Z1 60 61 ≤ 900 := by have hq := GI_ex hG1 60 61; replace hq : f60 (61 % 962) (Z1 60 61) := hq; unfold f60 at hq; omega
    have b18 : (-2147483648) ≤ Z1 60 61 ∧ Z1 60 61 ≤ 2147483647 := hG1.pr 60 61
    have b19 : 0 ≤ Z1 60 1 ∧ Z1 60 1 ≤ 18 := by have hq := GI_ex hG1 60 1; replace hq : f60 (1 % 962) (Z1 60 1) := hq; unfold f60 at hq; omega
    have b20 : (-2147483648) ≤ Z1 60 1 ∧ Z1 60 1 ≤ 2147483647 := hG1.pr 60 1
    have b21 : 0 ≤ Z1 60 2 ∧ Z1 60 2 ≤ 18 := by have hq := GI_ex hG1 60 2; replace hq : f60 (2 % 962) (Z1 60 2) := hq; unfold f60 at hq; omega
    have b22 : (-2147483648) ≤ Z1 60 2 ∧ Z1 60 2 ≤ 2147483647 := hG1.pr 60 2
    have r1 := QR_tr (d := 1) (c := 0) (QR_rf (Z := Z) (a := a0)) bq1 (by decide) (by decide) (by decide)
    refine Jcv0 hx (show mx_Sn _ _ 2 (mx_callv 176 2 12 5) from sn_177 2) a56 s56 hc1 rfl rfl rfl ?_
    have c5 : ∀ (m23 : Nat)  (Z24 : xZ) (h24 : mx_H), (((Z 56 8 - Z24 56 6).toNat : Nat) : Int) < (m23 : Int) → (Z24 56 6 ≤ Z24 56 7 ∧ Z24 56 7 ≤ Z 56 8) → (Z24 56 9 = 24 ∨ Z24 56 6 < Z24 56 7) → (Z 56 6 ≤ Z24 56 6 ∧ Z 60 61 ≤ Z24 60 61 ∧ Z24 60 61 - Z 60 61 ≤ Z24 56 6 - Z 56 6) → (Z24 60 1 = Z 60 1 ∧ Z24 60 2 = Z 60 2) → QR Z Z24 a0 1 0 → XH n s S Z24 h24 → GI n S Z24 → fr' [(56, 6), (56, 7), (56, 9), (56, 10), (56, 11), (56, 12), (60, (-1))] Z1 Z24 → mx_J (tB l D b0 ad Hb tau) mt_177 (d + 27) 5 [some (.ref 56), some (xI 4)] [] h24 Post := by
      intro m23
      induction m23 with
      | zero => intro Z24 h24 q23 f23_0 f23_1 f23_2 f23_3 f23_4 hx24 hG24 hf24; exact absurd q23 (by omega)
      | succ m23 ih23 =>
        intro Z24 h24 q23 f23_0 f23_1 f23_2 f23_3 f23_4 hx24 hG24 hf24
        have b25 : 0 ≤ Z24 56 6 ∧ Z24 56 6 ≤ 900 := hG24.pr 56 6
        have b26 : 0 ≤ Z24 56 7 ∧ Z24 56 7 ≤ 900 := hG24.pr 56 7
        have b27 : 0 ≤ Z24 56 6 ∧ Z24 56 6 ≤ 900 := hG24.pr 56 6
        have b28 : 0 ≤ Z24 56 7 ∧ Z24 56 7 ≤ 900 := hG24.pr 56 7
        have b29 : 0 ≤ Z24 56 9 ∧ Z24 56 9 ≤ 100 := hG24.pr 56 9
        have b30 : 0 ≤ Z24 56 6 ∧ Z24 56 6 ≤ 900 := hG24.pr 56 6
        have b31 : 0 ≤ Z24 60 61 ∧ Z24 60 61 ≤ 900 := by have hq := GI_ex hG24 60 61; replace hq : f60 (61 % 962) (Z24 60 61) := hq; unfold f60 at hq; omega
        have b32 : (-2147483648) ≤ Z24 60 61 ∧ Z24 60 61 ≤ 2147483647 := hG24.pr 60 61
        have b33 : 0 ≤ Z24 60 1 ∧ Z24 60 1 ≤ 18 := by have hq := GI_ex hG24 60 1; replace hq : f60 (1 % 962) (Z24 60 1) := hq; unfold f60 at hq; omega
        have b34 : (-2147483648) ≤ Z24 60 1 ∧ Z24 60 1 ≤ 2147483647 := hG24.pr 60 1
        have b35 : 0 ≤ Z24 60 2 ∧ Z24 60 2 ≤ 18 := by have hq := GI_ex hG24 60 2; replace hq : f60 (2 % 962) (Z24 60 2) := hq; unfold f60 at hq; omega
        have b36 : (-2147483648) ≤ Z24 60 2 ∧ Z24 60 2 ≤ 2147483647 := hG24.pr 60 2
        have b37 : 0 ≤ Z24 56 6 ∧ Z24 56 6 ≤ 900 := hG24.pr 56 6
        refine mx_J.step (sn_177 5) (fun _ _ => rfl) ?_
        refine JcI (z := 14) (show mx_Sn _ _ 6 (mx_const (.int 14) 8) from sn_177 6) rfl ?_
        have b39 : 0 ≤ Z24 56 6 ∧ Z24 56 6 ≤ 900 := hG24.pr 56 6
        have b40 : 0 ≤ Z24 56 7 ∧ Z24 56 7 ≤ 900 := hG24.pr 56 7
        have eq41 : Z24 56 8 = Z 56 8 := ((hf24 56 8 rfl).trans (hf1 56 8 rfl))
        have b42 : 0 ≤ Z 56 8 ∧ Z 56 8 ≤ 900 := hG.pr 56 8
        have b43 : 0 ≤ Z24 56 9 ∧ Z24 56 9 ≤ 100 := hG24.pr 56 9
        have b44 : 0 ≤ Z24 56 11 ∧ Z24 56 11 ≤ 4 := hG24.pr 56 11
        obtain ⟨z38, Z38, h38, hc38, hx38, hG38, hf38, b38⟩ := ct_165_56 (d := d + 20) (l := l) (D := D) (b0 := b0) (ad := ad) (Hb := Hb) (tau := tau) hx24 hG24 (show 0 ≤ 14 ∧ 14 ≤ 100 by omega) (show (Z24 56 6 ≤ Z24 56 7 ∧ Z24 56 7 ≤ Z24 56 8 ∧ (Z24 56 9 = 24 ∨ Z24 56 6 < Z24 56 7)) by first | omega | (simp only [eq41]; omega)) (show ¬ 14 = 24 by first | omega | (simp only [eq41]; omega))
        try rw [eq41] at b38
        have b45 : 0 ≤ Z38 56 6 ∧ Z38 56 6 ≤ 900 := hG38.pr 56 6
        have b46 : 0 ≤ Z38 56 7 ∧ Z38 56 7 ≤ 900 := hG38.pr 56 7
        have b47 : 0 ≤ Z38 56 9 ∧ Z38 56 9 ≤ 100 := hG38.pr 56 9
        have b48 : 0 ≤ Z24 56 6 ∧ Z24 56 6 ≤ 900 := hG24.pr 56 6
        have b49 : 0 ≤ Z24 56 11 ∧ Z24 56 11 ≤ 4 := hG24.pr 56 11
        have b50 : 0 ≤ Z24 56 9 ∧ Z24 56 9 ≤ 100 := hG24.pr 56 9
        have r38 := QR_g (k := 0) (c2 := 0) f23_4 (fun e => (hf38 56 11 rfl).symm.trans e) (fun i => hf38 60 i rfl) (fun e => by omega) (by decide)
        have rk38 : z38 = 1 → QR Z Z38 a0 1 1 := fun ez => QR_g (k := 1) f23_4 (fun e => (hf38 56 11 rfl).symm.trans e) (fun i => hf38 60 i rfl) (fun e => by omega) (by decide)
        refine Jcv hx24 (show mx_Sn _ _ 8 (mx_callv 165 2 12 11) from sn_177 8) a56 s56 hc38 rfl rfl rfl ?_
        refine Jif_eq (show mx_Sn _ _ 11 (mx_if_eq 29 14) from sn_177 11) (by omega) (fun q51 => ?_) (fun q51 => ?_)
        · skip
          have b52 : 0 ≤ Z38 56 6 ∧ Z38 56 6 ≤ 900 := hG38.pr 56 6
          have b53 : 0 ≤ Z38 56 7 ∧ Z38 56 7 ≤ 900 := hG38.pr 56 7
          have b54 : 0 ≤ Z38 56 9 ∧ Z38 56 9 ≤ 100 := hG38.pr 56 9
          have eq55 : Z38 56 11 = Z24 56 11 := (hf38 56 11 rfl)
          have b56 : 0 ≤ Z24 56 11 ∧ Z24 56 11 ≤ 4 := hG24.pr 56 11
          have eq57 : Z38 60 61 = Z24 60 61 := (hf38 60 61 rfl)
          have b58 : 0 ≤ Z24 60 61 ∧ Z24 60 61 ≤ 900 := by have hq := GI_ex hG24 60 61; replace hq : f60 (61 % 962) (Z24 60 61) := hq; unfold f60 at hq; omega
          have b59 : (-2147483648) ≤ Z24 60 61 ∧ Z24 60 61 ≤ 2147483647 := hG24.pr 60 61
          have eq60 : Z38 60 1 = Z24 60 1 := (hf38 60 1 rfl)
          have b61 : 0 ≤ Z24 60 1 ∧ Z24 60 1 ≤ 18 := by have hq := GI_ex hG24 60 1; replace hq : f60 (1 % 962) (Z24 60 1) := hq; unfold f60 at hq; omega
          have b62 : (-2147483648) ≤ Z24 60 1 ∧ Z24 60 1 ≤ 2147483647 := hG24.pr 60 1
          have eq63 : Z38 60 2 = Z24 60 2 := (hf38 60 2 rfl)
          have b64 : 0 ≤ Z24 60 2 ∧ Z24 60 2 ≤ 18 := by have hq := GI_ex hG24 60 2; replace hq : f60 (2 % 962) (Z24 60 2) := hq; unfold f60 at hq; omega
          have b65 : (-2147483648) ≤ Z24 60 2 ∧ Z24 60 2 ≤ 2147483647 := hG24.pr 60 2
          have b66 : 0 ≤ Z38 56 6 ∧ Z38 56 6 ≤ 900 := hG38.pr 56 6
          have b67 : 0 ≤ Z38 56 7 ∧ Z38 56 7 ≤ 900 := hG38.pr 56 7
          have eq68 : Z38 56 8 = Z 56 8 := ((hf38 56 8 rfl).trans ((hf24 56 8 rfl).trans (hf1 56 8 rfl)))
          have b69 : 0 ≤ Z 56 8 ∧ Z 56 8 ≤ 900 := hG.pr 56 8
          have b70 : 0 ≤ Z38 56 9 ∧ Z38 56 9 ≤ 100 := hG38.pr 56 9
          have eq71 : Z38 56 11 = Z24 56 11 := (hf38 56 11 rfl)
          have b72 : 0 ≤ Z24 56 11 ∧ Z24 56 11 ≤ 4 := hG24.pr 56 11
          have eq73 : Z38 60 61 = Z24 60 61 := (hf38 60 61 rfl)
          have b74 : 0 ≤ Z24 60 61 ∧ Z24 60 61 ≤ 900 := by have hq := GI_ex hG24 60 61; replace hq : f60 (61 % 962) (Z24 60 61) := hq; unfold f60 at hq; omega
          have b75 : (-2147483648) ≤ Z24 60 61 ∧ Z24 60 61 ≤ 2147483647 := hG24.pr 60 61
          have eq76 : Z38 60 1 = Z24 60 1 := (hf38 60 1 rfl)
          have b77 : 0 ≤ Z24 60 1 ∧ Z24 60 1 ≤ 18 := by have hq := GI_ex hG24 60 1; replace hq : f60 (1 % 962) (Z24 60 1) := hq; unfold f60 at hq; omega
          have b78 : (-2147483648) ≤ Z24 60 1 ∧ Z24 60 1 ≤ 2147483647 := hG24.pr 60 1
          have eq79 : Z38 60 2 = Z24 60 2 := (hf38 60 2 rfl)
          have b80 : 0 ≤ Z24 60 2 ∧ Z24 60 2 ≤ 18 := by have hq := GI_ex hG24 60 2; replace hq : f60 (2 % 962) (Z24 60 2) := hq; unfold f60 at hq; omega
          have b81 : (-2147483648) ≤ Z24 60 2 ∧ Z24 60 2 ≤ 2147483647 := hG24.pr 60 2
          exact mx_J.ret (sn_177 29) (fun _ _ => rfl) (hP Z38 h38 hx38 hG38 (fr_tr (M := [(56, 6), (56, 7), (56, 9), (56, 10), (56, 11), (56, 12), (60, (-1))]) (fr_tr (M := [(56, 6), (56, 7), (56, 9), (56, 10), (56, 11), (56, 12), (60, (-1))]) (fr_tr (M := [(56, 6), (56, 7), (56, 9), (56, 10), (56, 11), (56, 12), (60, (-1))]) fr_rf (hf1) (M1 := []) rfl rfl) (hf24) rfl rfl) (hf38) rfl rfl) ⟨(QR_le r38 (by decide)), by omega⟩)
        · skip
          refine mx_J.step (sn_177 14) (fun _ _ => rfl) ?_
          refine mx_J.step (sn_177 15) (fun _ _ => rfl) ?_
          have b83 : 0 ≤ Z38 56 6 ∧ Z38 56 6 ≤ 900 := hG38.pr 56 6
          have b84 : 0 ≤ Z38 56 7 ∧ Z38 56 7 ≤ 900 := hG38.pr 56 7
          have eq85 : Z38 56 8 = Z 56 8 := ((hf38 56 8 rfl).trans ((hf24 56 8 rfl).trans (hf1 56 8 rfl)))
          have b86 : 0 ≤ Z 56 8 ∧ Z 56 8 ≤ 900 := hG.pr 56 8
          have b87 : 0 ≤ Z38 56 9 ∧ Z38 56 9 ≤ 100 := hG38.pr 56 9
          have eq88 : Z38 56 11 = Z24 56 11 := (hf38 56 11 rfl)
          have b89 : 0 ≤ Z24 56 11 ∧ Z24 56 11 ≤ 4 := hG24.pr 56 11
          have eq90 : Z38 60 61 = Z24 60 61 := (hf38 60 61 rfl)
          have b91 : 0 ≤ Z24 60 61 ∧ Z24 60 61 ≤ 900 := by have hq := GI_ex hG24 60 61; replace hq : f60 (61 % 962) (Z24 60 61) := hq; unfold f60 at hq; omega
          have b92 : (-2147483648) ≤ Z24 60 61 ∧ Z24 60 61 ≤ 2147483647 := hG24.pr 60 61
          have eq93 : Z38 60 1 = Z24 60 1 := (hf38 60 1 rfl)
          have b94 : 0 ≤ Z24 60 1 ∧ Z24 60 1 ≤ 18 := by have hq := GI_ex hG24 60 1; replace hq : f60 (1 % 962) (Z24 60 1) := hq; unfold f60 at hq; omega
          have b95 : (-2147483648) ≤ Z24 60 1 ∧ Z24 60 1 ≤ 2147483647 := hG24.pr 60 1
          have eq96 : Z38 60 2 = Z24 60 2 := (hf38 60 2 rfl)
          have b97 : 0 ≤ Z24 60 2 ∧ Z24 60 2 ≤ 18 := by have hq := GI_ex hG24 60 2; replace hq : f60 (2 % 962) (Z24 60 2) := hq; unfold f60 at hq; omega
          have b98 : (-2147483648) ≤ Z24 60 2 ∧ Z24 60 2 ≤ 2147483647 := hG24.pr 60 2
          obtain ⟨Z82, h82, hc82, hx82, hG82, hf82, b82⟩ := ct_176_56_i4 (a0 := a0) (d := d + 0) (l := l) (D := D) (b0 := b0) (ad := ad) (Hb := Hb) (tau := tau) hx38 hG38  (show (Z38 56 6 ≤ Z38 56 7 ∧ Z38 56 7 ≤ Z38 56 8 ∧ (Z38 56 9 = 24 ∨ Z38 56 6 < Z38 56 7)) by first | omega | (simp only [eq85, eq88, eq90, eq93, eq96]; omega)) (show Z38 60 61 ≤ Z38 56 6 by first | omega | (simp only [eq85, eq88, eq90, eq93, eq96]; omega)) (show a0 ≤ Z38 60 61 by first | omega | (simp only [eq85, eq88, eq90, eq93, eq96]; omega)) (show 0 ≤ a0 by first | omega | (simp only [eq85, eq88, eq90, eq93, eq96]; omega))
          try rw [eq85] at b82
          try rw [eq88] at b82
          try rw [eq90] at b82
          try rw [eq93] at b82
          try rw [eq96] at b82
          obtain ⟨bq82, b82⟩ := b82
          have b99 : 0 ≤ Z82 56 6 ∧ Z82 56 6 ≤ 900 := hG82.pr 56 6
          have b100 : 0 ≤ Z82 56 7 ∧ Z82 56 7 ≤ 900 := hG82.pr 56 7
          have b101 : 0 ≤ Z82 56 9 ∧ Z82 56 9 ≤ 100 := hG82.pr 56 9
          have b102 : 0 ≤ Z82 56 11 ∧ Z82 56 11 ≤ 4 := hG82.pr 56 11
          have b103 : 0 ≤ Z82 60 61 ∧ Z82 60 61 ≤ 900 := by have hq := GI_ex hG82 60 61; replace hq : f60 (61 % 962) (Z82 60 61) := hq; unfold f60 at hq; omega
          have b104 : (-2147483648) ≤ Z82 60 61 ∧ Z82 60 61 ≤ 2147483647 := hG82.pr 60 61
          have b105 : 0 ≤ Z82 60 1 ∧ Z82 60 1 ≤ 18 := by have hq := GI_ex hG82 60 1; replace hq : f60 (1 % 962) (Z82 60 1) := hq; unfold f60 at hq; omega
          have b106 : (-2147483648) ≤ Z82 60 1 ∧ Z82 60 1 ≤ 2147483647 := hG82.pr 60 1
          have b107 : 0 ≤ Z82 60 2 ∧ Z82 60 2 ≤ 18 := by have hq := GI_ex hG82 60 2; replace hq : f60 (2 % 962) (Z82 60 2) := hq; unfold f60 at hq; omega
          have b108 : (-2147483648) ≤ Z82 60 2 ∧ Z82 60 2 ≤ 2147483647 := hG82.pr 60 2
          have r82 := QR_tr (d := 2) (c := 1) (rk38 (by omega)) bq82 (by decide) (by decide) (by decide)
          refine Jcv0 hx38 (show mx_Sn _ _ 16 (mx_callv 176 2 12 19) from sn_177 16) a56 s56 hc82 rfl rfl rfl ?_
          refine mx_J.step (sn_177 19) (fun _ _ => rfl) ?_
          refine JcI (z := 3008) (show mx_Sn _ _ 20 (mx_const (.int 3008) 23) from sn_177 20) rfl ?_
          have eq110 : Z82 56 8 = Z 56 8 := ((hf82 56 8 rfl).trans ((hf38 56 8 rfl).trans ((hf24 56 8 rfl).trans (hf1 56 8 rfl))))
          have b111 : 0 ≤ Z 56 8 ∧ Z 56 8 ≤ 900 := hG.pr 56 8
          have b112 : 0 ≤ Z82 56 11 ∧ Z82 56 11 ≤ 4 := hG82.pr 56 11
          have b113 : 0 ≤ Z82 60 61 ∧ Z82 60 61 ≤ 900 := by have hq := GI_ex hG82 60 61; replace hq : f60 (61 % 962) (Z82 60 61) := hq; unfold f60 at hq; omega
          have b114 : (-2147483648) ≤ Z82 60 61 ∧ Z82 60 61 ≤ 2147483647 := hG82.pr 60 61
          have b115 : 0 ≤ Z82 60 1 ∧ Z82 60 1 ≤ 18 := by have hq := GI_ex hG82 60 1; replace hq : f60 (1 % 962) (Z82 60 1) := hq; unfold f60 at hq; omega
          have b116 : (-2147483648) ≤ Z82 60 1 ∧ Z82 60 1 ≤ 2147483647 := hG82.pr 60 1
          have b117 : 0 ≤ Z82 60 2 ∧ Z82 60 2 ≤ 18 := by have hq := GI_ex hG82 60 2; replace hq : f60 (2 % 962) (Z82 60 2) := hq; unfold f60 at hq; omega
          have b118 : (-2147483648) ≤ Z82 60 2 ∧ Z82 60 2 ≤ 2147483647 := hG82.pr 60 2
          have rp109 := QR_n r82
          obtain ⟨Z109, h109, hc109, hx109, hG109, hf109, b109⟩ := ct_169_56_3007 (a0 := a0) (d := d + 26) (l := l) (D := D) (b0 := b0) (ad := ad) (Hb := Hb) (tau := tau) hx82 hG82 (show 3007 ≤ 3008 ∧ 3008 ≤ 3008 by omega) (show (Z82 56 11 = 0 → Z82 60 61 ≤ 899) by first | omega | (simp only [eq110]; omega)) (show a0 ≤ Z82 60 61 by first | omega | (simp only [eq110]; omega)) (show 0 ≤ a0 by first | omega | (simp only [eq110]; omega))
          try rw [eq110] at b109
          obtain ⟨bq109, b109⟩ := b109
          have b119 : 0 ≤ Z109 60 61 ∧ Z109 60 61 ≤ 900 := by have hq := GI_ex hG109 60 61; replace hq : f60 (61 % 962) (Z109 60 61) := hq; unfold f60 at hq; omega
          have b120 : (-2147483648) ≤ Z109 60 61 ∧ Z109 60 61 ≤ 2147483647 := hG109.pr 60 61
          have b121 : 0 ≤ Z109 60 1 ∧ Z109 60 1 ≤ 18 := by have hq := GI_ex hG109 60 1; replace hq : f60 (1 % 962) (Z109 60 1) := hq; unfold f60 at hq; omega
          have b122 : (-2147483648) ≤ Z109 60 1 ∧ Z109 60 1 ≤ 2147483647 := hG109.pr 60 1
          have b123 : 0 ≤ Z109 60 2 ∧ Z109 60 2 ≤ 18 := by have hq := GI_ex hG109 60 2; replace hq : f60 (2 % 962) (Z109 60 2) := hq; unfold f60 at hq; omega
          have b124 : (-2147483648) ≤ Z109 60 2 ∧ Z109 60 2 ≤ 2147483647 := hG109.pr 60 2
          have rn109 := QR_n r82
          have r109 := QR_c (d2 := 1) (c2 := 0) r82 bq109 (by omega) (hf109 56 11 rfl) (hf109 56 6 rfl) (by decide) (by decide) (by decide)
          refine Jcv0 hx82 (show mx_Sn _ _ 23 (mx_callv 169 2 12 26) from sn_177 23) a56 s56 hc109 rfl rfl rfl ?_
          refine mx_J.step (sn_177 26) (fun _ _ => rfl) ?_
          have eq125 : Z109 56 6 = Z82 56 6 := (hf109 56 6 rfl)
          have b126 : 0 ≤ Z82 56 6 ∧ Z82 56 6 ≤ 900 := hG82.pr 56 6
          have eq127 : Z109 56 7 = Z82 56 7 := (hf109 56 7 rfl)
          have b128 : 0 ≤ Z82 56 7 ∧ Z82 56 7 ≤ 900 := hG82.pr 56 7
          have eq129 : Z109 56 6 = Z82 56 6 := (hf109 56 6 rfl)
          have b130 : 0 ≤ Z82 56 6 ∧ Z82 56 6 ≤ 900 := hG82.pr 56 6
          have eq131 : Z109 56 7 = Z82 56 7 := (hf109 56 7 rfl)
          have b132 : 0 ≤ Z82 56 7 ∧ Z82 56 7 ≤ 900 := hG82.pr 56 7
          have eq133 : Z109 56 9 = Z82 56 9 := (hf109 56 9 rfl)
          have b134 : 0 ≤ Z82 56 9 ∧ Z82 56 9 ≤ 100 := hG82.pr 56 9
          have eq135 : Z109 56 6 = Z82 56 6 := (hf109 56 6 rfl)
          have b136 : 0 ≤ Z82 56 6 ∧ Z82 56 6 ≤ 900 := hG82.pr 56 6
          have b137 : 0 ≤ Z109 60 61 ∧ Z109 60 61 ≤ 900 := by have hq := GI_ex hG109 60 61; replace hq : f60 (61 % 962) (Z109 60 61) := hq; unfold f60 at hq; omega
          have b138 : (-2147483648) ≤ Z109 60 61 ∧ Z109 60 61 ≤ 2147483647 := hG109.pr 60 61
          have b139 : 0 ≤ Z109 60 1 ∧ Z109 60 1 ≤ 18 := by have hq := GI_ex hG109 60 1; replace hq : f60 (1 % 962) (Z109 60 1) := hq; unfold f60 at hq; omega
          have b140 : (-2147483648) ≤ Z109 60 1 ∧ Z109 60 1 ≤ 2147483647 := hG109.pr 60 1
          have b141 : 0 ≤ Z109 60 2 ∧ Z109 60 2 ≤ 18 := by have hq := GI_ex hG109 60 2; replace hq : f60 (2 % 962) (Z109 60 2) := hq; unfold f60 at hq; omega
          have b142 : (-2147483648) ≤ Z109 60 2 ∧ Z109 60 2 ≤ 2147483647 := hG109.pr 60 2
          have eq143 : Z109 56 6 = Z82 56 6 := (hf109 56 6 rfl)
          have b144 : 0 ≤ Z82 56 6 ∧ Z82 56 6 ≤ 900 := hG82.pr 56 6
          exact ih23 Z109 h109 (by omega) (by omega) (by omega) (by omega) (by omega) (QR_le r109 (by decide)) hx109 hG109 (fr_tr (M := [(56, 6), (56, 7), (56, 9), (56, 10), (56, 11), (56, 12), (60, (-1))]) (fr_tr (M := [(56, 6), (56, 7), (56, 9), (56, 10), (56, 11), (56, 12), (60, (-1))]) (fr_tr (M := [(56, 6), (56, 7), (56, 9), (56, 10), (56, 11), (56, 12), (60, (-1))]) (fr_tr (M := [(56, 6), (56, 7), (56, 9), (56, 10), (56, 11), (56, 12), (60, (-1))]) fr_rf (hf24) (M1 := []) rfl rfl) (hf38) rfl rfl) (hf82) rfl rfl) (hf109) rfl rfl)
    have b145 : 0 ≤ Z1 56 6 ∧ Z1 56 6 ≤ 900 := hG1.pr 56 6
    have b146 : 0 ≤ Z1 56 7 ∧ Z1 56 7 ≤ 900 := hG1.pr 56 7
    have b147 : 0 ≤ Z1 56 6 ∧ Z1 56 6 ≤ 900 := hG1.pr 56 6
    have b148 : 0 ≤ Z1 56 7 ∧ Z1 56 7 ≤ 900 := hG1.pr 56 7
    have b149 : 0 ≤ Z1 56 9 ∧ Z1 56 9 ≤ 100 := hG1.pr 56 9
    have b150 : 0 ≤ Z1 56 6 ∧ Z1 56 6 ≤ 900 := hG1.pr 56 6
    have b151 : 0 ≤ Z1 60 61 ∧ Z1 60 61 ≤ 900 := by have hq := GI_ex hG1 60 61; replace hq : f60 (61 % 962) (Z1 60 61) := hq; unfold f60 at hq; omega
    have b152 : (-2147483648) ≤ Z1 60 61 ∧ Z1 60 61 ≤ 2147483647 := hG1.pr 60 61
    have b153 : 0 ≤ Z1 60 1 ∧ Z1 60 1 ≤ 18 := by have hq := GI_ex hG1 60 1; replace hq : f60 (1 % 962) (Z1 60 1) := hq; unfold f60 at hq; omega
    have b154 : (-2147483648) ≤ Z1 60 1 ∧ Z1 60 1 ≤ 2147483647 := hG1.pr 60 1
    have b155 : 0 ≤ Z1 60 2 ∧ Z1 60 2 ≤ 18 := by have hq := GI_ex hG1 60 2; replace hq : f60 (2 % 962) (Z1 60 2) := hq; unfold f60 at hq; omega
    have b156 : (-2147483648) ≤ Z1 60 2 ∧ Z1 60 2 ≤ 2147483647 := hG1.pr 60 2
    have b157 : 0 ≤ Z1 56 6 ∧ Z1 56 6 ≤ 900 := hG1.pr 56 6
    exact c5 (Int.toNat ((((Z 56 8 - Z1 56 6).toNat : Nat) : Int)) + 1) Z1 h1 (by omega) (by omega) (by omega) (by omega) (by omega) (QR_le r1 (by decide)) hx1 hG1 fr_rf
theorem ct_177_56_i4 {l : Launch} {D : va_G} {b0 : Nat} {ad : Nat → Nat} {Hb : Heap} {tau : Nat → Int64} {d n s : Nat} {S : Nat → xS} {Z : xZ} {h : mx_H} {a0 : Int} (hx : XH n s S Z h) (hG : GI n S Z)   (k0 : (Z 56 6 ≤ Z 56 7 ∧ Z 56 7 ≤ Z 56 8 ∧ (Z 56 9 = 24 ∨ Z 56 6 < Z 56 7))) (k1 : Z 60 61 ≤ Z 56 6) (k2 : a0 ≤ Z 60 61) (k3 : 0 ≤ a0) : ∃ (Z' : xZ) (h' : mx_H), mx_Ca (tB l D b0 ad Hb tau) (d + 28) 177 [.ref 56, xI 4] h (none, h') ∧ XH n s S Z' h' ∧ GI n S Z' ∧ fr' [(56, 6), (56, 7), (56, 9), (56, 10), (56, 11), (56, 12), (60, (-1))] Z Z' ∧ (QR Z Z' a0 1 0 ∧ ((Z' 56 6 ≤ Z' 56 7 ∧ Z' 56 7 ≤ Z 56 8 ∧ (Z' 56 9 = 24 ∨ Z' 56 6 < Z' 56 7)) ∧ Z' 60 1 = Z 60 1 ∧ Z' 60 2 = Z 60 2 ∧ Z 56 6 ≤ Z' 56 6 ∧ Z 60 61 ≤ Z' 60 61 ∧ Z' 60 61 - Z 60 61 ≤ Z' 56 6 - Z 56 6)) := by
  obtain ⟨r, hca, Z', h', e, q⟩ := Jmt (B := tB l D b0 ad Hb tau) (M := mt_177) (mi := 177) (as := [.ref 56, xI 4]) (d := d + 27) (ls := [some (.ref 56), some (xI 4)]) rfl rfl rfl rfl rfl rfl (cw_177_56_i4 (l := l) (D := D) (b0 := b0) (ad := ad) (Hb := Hb) (tau := tau) (d := d) (Post := fun r => ∃ (Z' : xZ) (h' : mx_H), r = (none, h') ∧ XH n s S Z' h' ∧ GI n S Z' ∧ fr' [(56, 6), (56, 7), (56, 9), (56, 10), (56, 11), (56, 12), (60, (-1))] Z Z' ∧ (QR Z Z' a0 1 0 ∧ ((Z' 56 6 ≤ Z' 56 7 ∧ Z' 56 7 ≤ Z 56 8 ∧ (Z' 56 9 = 24 ∨ Z' 56 6 < Z' 56 7)) ∧ Z' 60 1 = Z 60 1 ∧ Z' 60 2 = Z 60 2 ∧ Z 56 6 ≤ Z' 56 6 ∧ Z 60 61 ≤ Z' 60 61 ∧ Z' 60 61 - Z 60 61 ≤ Z' 56 6 - Z 56 6))) hx hG k0 k1 k2 k3 (fun Z' h' q1 q2 q3 q4 => ⟨Z', h', rfl, q1, q2, q3, q4⟩))
  subst e; exact ⟨Z', h', hca, q⟩
set_option maxHeartbeats 8000000 in
set_option maxRecDepth 100000 in
theorem cw_172_56_i3 {l : Launch} {D : va_G} {b0 : Nat} {ad : Nat → Nat} {Hb : Heap} {tau : Nat → Int64} {d n s : Nat} {S : Nat → xS} {Z : xZ} {h : mx_H} {Post : mx_R → Prop} {a0 : Int} (hx : XH n s S Z h) (hG : GI n S Z)   (k0 : (Z 56 6 ≤ Z 56 7 ∧ Z 56 7 ≤ Z 56 8 ∧ (Z 56 9 = 24 ∨ Z 56 6 < Z 56 7))) (k1 : Z 60 61 ≤ Z 56 6) (k2 : a0 ≤ Z 60 61) (k3 : 0 ≤ a0) (k4 : ¬ Z 56 9 = 24) (hP : ∀ (Z' : xZ) (h' : mx_H), XH n s S Z' h' → GI n S Z' → fr' [(56, 6), (56, 7), (56, 9), (56, 10), (56, 11), (56, 12), (60, (-1))] Z Z' → QR Z Z' a0 1 0 ∧ ((Z' 56 6 ≤ Z' 56 7 ∧ Z' 56 7 ≤ Z 56 8 ∧ (Z' 56 9 = 24 ∨ Z' 56 6 < Z' 56 7)) ∧ Z' 60 1 = Z 60 1 ∧ Z' 60 2 = Z 60 2 ∧ Z 56 6 ≤ Z' 56 6 ∧ Z 60 61 ≤ Z' 60 61 ∧ Z' 60 61 - Z 60 61 ≤ Z' 56 6 - Z 56 6) → Post (none, h')) : mx_J (tB l D b0 ad Hb tau) mt_172 (d + 28) 0 [some (.ref 56), some (xI 3)] [] h Post := by
    have a56 : 56 < n := lt83 (GI_n hG) rfl
    have s56 : S 56 = .inl (12, [0, 2, 2, 2, 2, 0, 0, 0, 0, 0, 0, 0, 0, 0, 0, 2, 2, 2, 0, 2, 2, 2, 0, 0, 2, 2, 2, 2, 2, 2, 0, 0, 2, 2, 2, 2, 2, 2, 2, 2, 2, 2]) := GI_s hG 56 rfl
    refine mx_J.step (sn_172 0) (fun _ _ => rfl) ?_
    refine mx_J.step (sn_172 1) (fun _ _ => rfl) ?_
    have b2 : 0 ≤ Z 56 6 ∧ Z 56 6 ≤ 900 := hG.pr 56 6
    have b3 : 0 ≤ Z 56 7 ∧ Z 56 7 ≤ 900 := hG.pr 56 7
    have b4 : 0 ≤ Z 56 8 ∧ Z 56 8 ≤ 900 := hG.pr 56 8
    have b5 : 0 ≤ Z 56 9 ∧ Z 56 9 ≤ 100 := hG.pr 56 9
    have b6 : 0 ≤ Z 56 11 ∧ Z 56 11 ≤ 4 := hG.pr 56 11
    obtain ⟨z1, Z1, h1, hc1, hx1, hG1, hf1, b1⟩ := ct_170_56 (d := d + 21) (l := l) (D := D) (b0 := b0) (ad := ad) (Hb := Hb) (tau := tau) hx hG (show 0 ≤ 3 ∧ 3 ≤ 5 by omega) (show (Z 56 6 ≤ Z 56 7 ∧ Z 56 7 ≤ Z 56 8 ∧ (Z 56 9 = 24 ∨ Z 56 6 < Z 56 7)) by omega) (show ¬ Z 56 9 = 24 by omega)
    have b7 : 0 ≤ Z1 56 6 ∧ Z1 56 6 ≤ 900 := hG1.pr 56 6
    have b8 : 0 ≤ Z1 56 7 ∧ Z1 56 7 ≤ 900 := hG1.pr 56 7
    have b9 : 0 ≤ Z1 56 9 ∧ Z1 56 9 ≤ 100 := hG1.pr 56 9
    have eq10 : Z1 56 11 = Z 56 11 := (hf1 56 11 rfl)
    have b11 : 0 ≤ Z 56 11 ∧ Z 56 11 ≤ 4 := hG.pr 56 11
    have b12 : 0 ≤ Z 56 6 ∧ Z 56 6 ≤ 900 := hG.pr 56 6
    have b13 : 0 ≤ Z 56 11 ∧ Z 56 11 ≤ 4 := hG.pr 56 11
    have b14 : 0 ≤ Z 56 9 ∧ Z 56 9 ≤ 100 := hG.pr 56 9
    have r1 := QR_g (k := 1) (c2 := 1) (QR_rf (Z := Z) (a := a0)) (fun e => (hf1 56 11 rfl).symm.trans e) (fun i => hf1 60 i rfl) (fun e => by omega) (by decide)
    refine Jcv hx (show mx_Sn _ _ 2 (mx_callv 170 2 12 5) from sn_172 2) a56 s56 hc1 rfl rfl rfl ?_
    refine Jif_ne (show mx_Sn _ _ 5 (mx_if_ne 9 8) from sn_172 5) (by omega) (fun q15 => ?_) (fun q15 => ?_)
    · skip
      refine mx_J.step (sn_172 9) (fun _ _ => rfl) ?_
      refine mx_J.step (sn_172 10) (fun _ _ => rfl) ?_
      refine JcI (z := 1) (show mx_Sn _ _ 11 (mx_const (.int 1) 12) from sn_172 11) rfl ?_
      refine JiaddE (r := 4) (show mx_Sn _ _ 12 (mx_iadd 13) from sn_172 12) (by decide) ?_
      have b17 : 0 ≤ Z1 56 6 ∧ Z1 56 6 ≤ 900 := hG1.pr 56 6
      have b18 : 0 ≤ Z1 56 7 ∧ Z1 56 7 ≤ 900 := hG1.pr 56 7
      have eq19 : Z1 56 8 = Z 56 8 := (hf1 56 8 rfl)
      have b20 : 0 ≤ Z 56 8 ∧ Z 56 8 ≤ 900 := hG.pr 56 8
      have b21 : 0 ≤ Z1 56 9 ∧ Z1 56 9 ≤ 100 := hG1.pr 56 9
      have eq22 : Z1 56 11 = Z 56 11 := (hf1 56 11 rfl)
      have b23 : 0 ≤ Z 56 11 ∧ Z 56 11 ≤ 4 := hG.pr 56 11
      have eq24 : Z1 60 61 = Z 60 61 := (hf1 60 61 rfl)
      have b25 : 0 ≤ Z 60 61 ∧ Z 60 61 ≤ 900 := by have hq := GI_ex hG 60 61; replace hq : f60 (61 % 962) (Z 60 61) := hq; unfold f60 at hq; omega
      have b26 : (-2147483648) ≤ Z 60 61 ∧ Z 60 61 ≤ 2147483647 := hG.pr 60 61
      have eq27 : Z1 60 1 = Z 60 1 := (hf1 60 1 rfl)
      have b28 : 0 ≤ Z 60 1 ∧ Z 60 1 ≤ 18 := by have hq := GI_ex hG 60 1; replace hq : f60 (1 % 962) (Z 60 1) := hq; unfold f60 at hq; omega
      have b29 : (-2147483648) ≤ Z 60 1 ∧ Z 60 1 ≤ 2147483647 := hG.pr 60 1
      have eq30 : Z1 60 2 = Z 60 2 := (hf1 60 2 rfl)
      have b31 : 0 ≤ Z 60 2 ∧ Z 60 2 ≤ 18 := by have hq := GI_ex hG 60 2; replace hq : f60 (2 % 962) (Z 60 2) := hq; unfold f60 at hq; omega
      have b32 : (-2147483648) ≤ Z 60 2 ∧ Z 60 2 ≤ 2147483647 := hG.pr 60 2
      obtain ⟨Z16, h16, hc16, hx16, hG16, hf16, b16⟩ := ct_177_56_i4 (a0 := a0) (d := d + 0) (l := l) (D := D) (b0 := b0) (ad := ad) (Hb := Hb) (tau := tau) hx1 hG1  (show (Z1 56 6 ≤ Z1 56 7 ∧ Z1 56 7 ≤ Z1 56 8 ∧ (Z1 56 9 = 24 ∨ Z1 56 6 < Z1 56 7)) by first | omega | (simp only [eq19, eq22, eq24, eq27, eq30]; omega)) (show Z1 60 61 ≤ Z1 56 6 by first | omega | (simp only [eq19, eq22, eq24, eq27, eq30]; omega)) (show a0 ≤ Z1 60 61 by first | omega | (simp only [eq19, eq22, eq24, eq27, eq30]; omega)) (show 0 ≤ a0 by first | omega | (simp only [eq19, eq22, eq24, eq27, eq30]; omega))
      try rw [eq19] at b16
      try rw [eq22] at b16
      try rw [eq24] at b16
      try rw [eq27] at b16
      try rw [eq30] at b16
      obtain ⟨bq16, b16⟩ := b16
      have b33 : 0 ≤ Z16 56 6 ∧ Z16 56 6 ≤ 900 := hG16.pr 56 6
      have b34 : 0 ≤ Z16 56 7 ∧ Z16 56 7 ≤ 900 := hG16.pr 56 7
      have b35 : 0 ≤ Z16 56 9 ∧ Z16 56 9 ≤ 100 := hG16.pr 56 9
      have b36 : 0 ≤ Z16 56 11 ∧ Z16 56 11 ≤ 4 := hG16.pr 56 11
      have b37 : 0 ≤ Z16 60 61 ∧ Z16 60 61 ≤ 900 := by have hq := GI_ex hG16 60 61; replace hq : f60 (61 % 962) (Z16 60 61) := hq; unfold f60 at hq; omega
      have b38 : (-2147483648) ≤ Z16 60 61 ∧ Z16 60 61 ≤ 2147483647 := hG16.pr 60 61
      have b39 : 0 ≤ Z16 60 1 ∧ Z16 60 1 ≤ 18 := by have hq := GI_ex hG16 60 1; replace hq : f60 (1 % 962) (Z16 60 1) := hq; unfold f60 at hq; omega
      have b40 : (-2147483648) ≤ Z16 60 1 ∧ Z16 60 1 ≤ 2147483647 := hG16.pr 60 1
      have b41 : 0 ≤ Z16 60 2 ∧ Z16 60 2 ≤ 18 := by have hq := GI_ex hG16 60 2; replace hq : f60 (2 % 962) (Z16 60 2) := hq; unfold f60 at hq; omega
      have b42 : (-2147483648) ≤ Z16 60 2 ∧ Z16 60 2 ≤ 2147483647 := hG16.pr 60 2
      have r16 := QR_tr (d := 1) (c := 1) r1 bq16 (by decide) (by decide) (by decide)
      refine Jcv0 hx1 (show mx_Sn _ _ 13 (mx_callv 177 2 12 16) from sn_172 13) a56 s56 hc16 rfl rfl rfl ?_
      refine mx_J.step (sn_172 16) (fun _ _ => rfl) ?_
      refine JcI (z := 6) (show mx_Sn _ _ 17 (mx_const (.int 6) 19) from sn_172 17) rfl ?_
      have b44 : 0 ≤ Z16 56 6 ∧ Z16 56 6 ≤ 900 := hG16.pr 56 6
      have b45 : 0 ≤ Z16 56 7 ∧ Z16 56 7 ≤ 900 := hG16.pr 56 7
      have eq46 : Z16 56 8 = Z 56 8 := ((hf16 56 8 rfl).trans (hf1 56 8 rfl))
      have b47 : 0 ≤ Z 56 8 ∧ Z 56 8 ≤ 900 := hG.pr 56 8
      have b48 : 0 ≤ Z16 56 9 ∧ Z16 56 9 ≤ 100 := hG16.pr 56 9
      have b49 : 0 ≤ Z16 56 11 ∧ Z16 56 11 ≤ 4 := hG16.pr 56 11
      obtain ⟨z43, Z43, h43, hc43, hx43, hG43, hf43, b43⟩ := ct_165_56 (d := d + 21) (l := l) (D := D) (b0 := b0) (ad := ad) (Hb := Hb) (tau := tau) hx16 hG16 (show 0 ≤ 6 ∧ 6 ≤ 100 by omega) (show (Z16 56 6 ≤ Z16 56 7 ∧ Z16 56 7 ≤ Z16 56 8 ∧ (Z16 56 9 = 24 ∨ Z16 56 6 < Z16 56 7)) by first | omega | (simp only [eq46]; omega)) (show ¬ 6 = 24 by first | omega | (simp only [eq46]; omega))
      try rw [eq46] at b43
      have b50 : 0 ≤ Z43 56 6 ∧ Z43 56 6 ≤ 900 := hG43.pr 56 6
      have b51 : 0 ≤ Z43 56 7 ∧ Z43 56 7 ≤ 900 := hG43.pr 56 7
      have b52 : 0 ≤ Z43 56 9 ∧ Z43 56 9 ≤ 100 := hG43.pr 56 9
      have b53 : 0 ≤ Z16 56 6 ∧ Z16 56 6 ≤ 900 := hG16.pr 56 6
      have b54 : 0 ≤ Z16 56 11 ∧ Z16 56 11 ≤ 4 := hG16.pr 56 11
      have b55 : 0 ≤ Z16 56 9 ∧ Z16 56 9 ≤ 100 := hG16.pr 56 9
      have r43 := QR_g (k := 0) (c2 := 1) r16 (fun e => (hf43 56 11 rfl).symm.trans e) (fun i => hf43 60 i rfl) (fun e => by omega) (by decide)
      have rk43 : z43 = 1 → QR Z Z43 a0 1 2 := fun ez => QR_g (k := 1) r16 (fun e => (hf43 56 11 rfl).symm.trans e) (fun i => hf43 60 i rfl) (fun e => by omega) (by decide)
      refine Jcv hx16 (show mx_Sn _ _ 19 (mx_callv 165 2 12 22) from sn_172 19) a56 s56 hc43 rfl rfl rfl ?_
      have c30 : ∀  (Z57 : xZ) (h57 : mx_H), (Z57 56 6 ≤ Z57 56 7 ∧ Z57 56 7 ≤ Z 56 8) → (Z57 56 9 = 24 ∨ Z57 56 6 < Z57 56 7) → (Z 56 6 ≤ Z57 56 6 ∧ Z 60 61 ≤ Z57 60 61 ∧ Z57 60 61 - Z 60 61 ≤ Z57 56 6 - Z 56 6) → (Z57 60 1 = Z 60 1 ∧ Z57 60 2 = Z 60 2) → QR Z Z57 a0 1 1 → XH n s S Z57 h57 → GI n S Z57 → fr' [(56, 11), (56, 12)] Z43 Z57 → mx_J (tB l D b0 ad Hb tau) mt_172 (d + 28) 30 [some (.ref 56), some (xI 3)] [] h57 Post := by
        intro Z57 h57 f56_0 f56_1 f56_2 f56_3 f56_4 hx57 hG57 hf57
        clear b1 b16 b43
        have eq58 : Z57 56 6 = Z43 56 6 := (hf57 56 6 rfl)
        have b59 : 0 ≤ Z43 56 6 ∧ Z43 56 6 ≤ 900 := hG43.pr 56 6
        have eq60 : Z57 56 7 = Z43 56 7 := (hf57 56 7 rfl)
        have b61 : 0 ≤ Z43 56 7 ∧ Z43 56 7 ≤ 900 := hG43.pr 56 7
        have eq62 : Z57 56 6 = Z43 56 6 := (hf57 56 6 rfl)
        have b63 : 0 ≤ Z43 56 6 ∧ Z43 56 6 ≤ 900 := hG43.pr 56 6
        have eq64 : Z57 56 7 = Z43 56 7 := (hf57 56 7 rfl)
        have b65 : 0 ≤ Z43 56 7 ∧ Z43 56 7 ≤ 900 := hG43.pr 56 7
        have eq66 : Z57 56 9 = Z43 56 9 := (hf57 56 9 rfl)
        have b67 : 0 ≤ Z43 56 9 ∧ Z43 56 9 ≤ 100 := hG43.pr 56 9
        have eq68 : Z57 56 6 = Z43 56 6 := (hf57 56 6 rfl)
        have b69 : 0 ≤ Z43 56 6 ∧ Z43 56 6 ≤ 900 := hG43.pr 56 6
        have eq70 : Z57 60 61 = Z16 60 61 := ((hf57 60 61 rfl).trans (hf43 60 61 rfl))
        have b71 : 0 ≤ Z16 60 61 ∧ Z16 60 61 ≤ 900 := by have hq := GI_ex hG16 60 61; replace hq : f60 (61 % 962) (Z16 60 61) := hq; unfold f60 at hq; omega
        have b72 : (-2147483648) ≤ Z16 60 61 ∧ Z16 60 61 ≤ 2147483647 := hG16.pr 60 61
        have eq73 : Z57 60 1 = Z16 60 1 := ((hf57 60 1 rfl).trans (hf43 60 1 rfl))
        have b74 : 0 ≤ Z16 60 1 ∧ Z16 60 1 ≤ 18 := by have hq := GI_ex hG16 60 1; replace hq : f60 (1 % 962) (Z16 60 1) := hq; unfold f60 at hq; omega
        have b75 : (-2147483648) ≤ Z16 60 1 ∧ Z16 60 1 ≤ 2147483647 := hG16.pr 60 1
        have eq76 : Z57 60 2 = Z16 60 2 := ((hf57 60 2 rfl).trans (hf43 60 2 rfl))
        have b77 : 0 ≤ Z16 60 2 ∧ Z16 60 2 ≤ 18 := by have hq := GI_ex hG16 60 2; replace hq : f60 (2 % 962) (Z16 60 2) := hq; unfold f60 at hq; omega
        have b78 : (-2147483648) ≤ Z16 60 2 ∧ Z16 60 2 ≤ 2147483647 := hG16.pr 60 2
        refine mx_J.step (sn_172 30) (fun _ _ => rfl) ?_
        refine mx_J.step (sn_172 31) (fun _ _ => rfl) ?_
        refine JcI (z := 1) (show mx_Sn _ _ 32 (mx_const (.int 1) 33) from sn_172 32) rfl ?_
        refine JiaddE (r := 4) (show mx_Sn _ _ 33 (mx_iadd 34) from sn_172 33) (by decide) ?_
        have eq80 : Z57 56 6 = Z43 56 6 := (hf57 56 6 rfl)
        have b81 : 0 ≤ Z43 56 6 ∧ Z43 56 6 ≤ 900 := hG43.pr 56 6
        have eq82 : Z57 56 7 = Z43 56 7 := (hf57 56 7 rfl)
        have b83 : 0 ≤ Z43 56 7 ∧ Z43 56 7 ≤ 900 := hG43.pr 56 7
        have eq84 : Z57 56 8 = Z 56 8 := ((hf57 56 8 rfl).trans ((hf43 56 8 rfl).trans ((hf16 56 8 rfl).trans (hf1 56 8 rfl))))
        have b85 : 0 ≤ Z 56 8 ∧ Z 56 8 ≤ 900 := hG.pr 56 8
        have eq86 : Z57 56 9 = Z43 56 9 := (hf57 56 9 rfl)
        have b87 : 0 ≤ Z43 56 9 ∧ Z43 56 9 ≤ 100 := hG43.pr 56 9
        have b88 : 0 ≤ Z57 56 11 ∧ Z57 56 11 ≤ 4 := hG57.pr 56 11
        have eq89 : Z57 60 61 = Z16 60 61 := ((hf57 60 61 rfl).trans (hf43 60 61 rfl))
        have b90 : 0 ≤ Z16 60 61 ∧ Z16 60 61 ≤ 900 := by have hq := GI_ex hG16 60 61; replace hq : f60 (61 % 962) (Z16 60 61) := hq; unfold f60 at hq; omega
        have b91 : (-2147483648) ≤ Z16 60 61 ∧ Z16 60 61 ≤ 2147483647 := hG16.pr 60 61
        have eq92 : Z57 60 1 = Z16 60 1 := ((hf57 60 1 rfl).trans (hf43 60 1 rfl))
        have b93 : 0 ≤ Z16 60 1 ∧ Z16 60 1 ≤ 18 := by have hq := GI_ex hG16 60 1; replace hq : f60 (1 % 962) (Z16 60 1) := hq; unfold f60 at hq; omega
        have b94 : (-2147483648) ≤ Z16 60 1 ∧ Z16 60 1 ≤ 2147483647 := hG16.pr 60 1
        have eq95 : Z57 60 2 = Z16 60 2 := ((hf57 60 2 rfl).trans (hf43 60 2 rfl))
        have b96 : 0 ≤ Z16 60 2 ∧ Z16 60 2 ≤ 18 := by have hq := GI_ex hG16 60 2; replace hq : f60 (2 % 962) (Z16 60 2) := hq; unfold f60 at hq; omega
        have b97 : (-2147483648) ≤ Z16 60 2 ∧ Z16 60 2 ≤ 2147483647 := hG16.pr 60 2
        obtain ⟨Z79, h79, hc79, hx79, hG79, hf79, b79⟩ := ct_174_56_i4 (a0 := a0) (d := d + 3) (l := l) (D := D) (b0 := b0) (ad := ad) (Hb := Hb) (tau := tau) hx57 hG57  (show (Z57 56 6 ≤ Z57 56 7 ∧ Z57 56 7 ≤ Z57 56 8 ∧ (Z57 56 9 = 24 ∨ Z57 56 6 < Z57 56 7)) by first | omega | (simp only [eq80, eq82, eq84, eq86, eq89, eq92, eq95]; omega)) (show Z57 60 61 ≤ Z57 56 6 by first | omega | (simp only [eq80, eq82, eq84, eq86, eq89, eq92, eq95]; omega)) (show a0 ≤ Z57 60 61 by first | omega | (simp only [eq80, eq82, eq84, eq86, eq89, eq92, eq95]; omega)) (show 0 ≤ a0 by first | omega | (simp only [eq80, eq82, eq84, eq86, eq89, eq92, eq95]; omega))
        try rw [eq80] at b79
        try rw [eq82] at b79
        try rw [eq84] at b79
        try rw [eq86] at b79
        try rw [eq89] at b79
        try rw [eq92] at b79
        try rw [eq95] at b79
        obtain ⟨bq79, b79⟩ := b79
        have b98 : 0 ≤ Z79 56 6 ∧ Z79 56 6 ≤ 900 := hG79.pr 56 6
        have b99 : 0 ≤ Z79 56 7 ∧ Z79 56 7 ≤ 900 := hG79.pr 56 7
        have b100 : 0 ≤ Z79 56 9 ∧ Z79 56 9 ≤ 100 := hG79.pr 56 9
        have b101 : 0 ≤ Z79 56 11 ∧ Z79 56 11 ≤ 4 := hG79.pr 56 11
        have b102 : 0 ≤ Z79 60 61 ∧ Z79 60 61 ≤ 900 := by have hq := GI_ex hG79 60 61; replace hq : f60 (61 % 962) (Z79 60 61) := hq; unfold f60 at hq; omega
        have b103 : (-2147483648) ≤ Z79 60 61 ∧ Z79 60 61 ≤ 2147483647 := hG79.pr 60 61
        have b104 : 0 ≤ Z79 60 1 ∧ Z79 60 1 ≤ 18 := by have hq := GI_ex hG79 60 1; replace hq : f60 (1 % 962) (Z79 60 1) := hq; unfold f60 at hq; omega
        have b105 : (-2147483648) ≤ Z79 60 1 ∧ Z79 60 1 ≤ 2147483647 := hG79.pr 60 1
        have b106 : 0 ≤ Z79 60 2 ∧ Z79 60 2 ≤ 18 := by have hq := GI_ex hG79 60 2; replace hq : f60 (2 % 962) (Z79 60 2) := hq; unfold f60 at hq; omega
        have b107 : (-2147483648) ≤ Z79 60 2 ∧ Z79 60 2 ≤ 2147483647 := hG79.pr 60 2
        have r79 := QR_tr (d := 2) (c := 1) f56_4 bq79 (by decide) (by decide) (by decide)
        refine Jcv0 hx57 (show mx_Sn _ _ 34 (mx_callv 174 2 12 37) from sn_172 34) a56 s56 hc79 rfl rfl rfl ?_
        refine mx_J.step (sn_172 37) (fun _ _ => rfl) ?_
        refine JcI (z := 7) (show mx_Sn _ _ 38 (mx_const (.int 7) 40) from sn_172 38) rfl ?_
        have b109 : 0 ≤ Z79 56 6 ∧ Z79 56 6 ≤ 900 := hG79.pr 56 6
        have b110 : 0 ≤ Z79 56 7 ∧ Z79 56 7 ≤ 900 := hG79.pr 56 7
        have eq111 : Z79 56 8 = Z 56 8 := ((hf79 56 8 rfl).trans ((hf57 56 8 rfl).trans ((hf43 56 8 rfl).trans ((hf16 56 8 rfl).trans (hf1 56 8 rfl)))))
        have b112 : 0 ≤ Z 56 8 ∧ Z 56 8 ≤ 900 := hG.pr 56 8
        have b113 : 0 ≤ Z79 56 9 ∧ Z79 56 9 ≤ 100 := hG79.pr 56 9
        have b114 : 0 ≤ Z79 56 11 ∧ Z79 56 11 ≤ 4 := hG79.pr 56 11
        obtain ⟨z108, Z108, h108, hc108, hx108, hG108, hf108, b108⟩ := ct_165_56 (d := d + 21) (l := l) (D := D) (b0 := b0) (ad := ad) (Hb := Hb) (tau := tau) hx79 hG79 (show 0 ≤ 7 ∧ 7 ≤ 100 by omega) (show (Z79 56 6 ≤ Z79 56 7 ∧ Z79 56 7 ≤ Z79 56 8 ∧ (Z79 56 9 = 24 ∨ Z79 56 6 < Z79 56 7)) by first | omega | (simp only [eq111]; omega)) (show ¬ 7 = 24 by first | omega | (simp only [eq111]; omega))
        try rw [eq111] at b108
        have b115 : 0 ≤ Z108 56 6 ∧ Z108 56 6 ≤ 900 := hG108.pr 56 6
        have b116 : 0 ≤ Z108 56 7 ∧ Z108 56 7 ≤ 900 := hG108.pr 56 7
        have b117 : 0 ≤ Z108 56 9 ∧ Z108 56 9 ≤ 100 := hG108.pr 56 9
        have b118 : 0 ≤ Z79 56 6 ∧ Z79 56 6 ≤ 900 := hG79.pr 56 6
        have b119 : 0 ≤ Z79 56 11 ∧ Z79 56 11 ≤ 4 := hG79.pr 56 11
        have b120 : 0 ≤ Z79 56 9 ∧ Z79 56 9 ≤ 100 := hG79.pr 56 9
        have r108 := QR_g (k := 0) (c2 := 1) r79 (fun e => (hf108 56 11 rfl).symm.trans e) (fun i => hf108 60 i rfl) (fun e => by omega) (by decide)
        have rk108 : z108 = 1 → QR Z Z108 a0 2 2 := fun ez => QR_g (k := 1) r79 (fun e => (hf108 56 11 rfl).symm.trans e) (fun i => hf108 60 i rfl) (fun e => by omega) (by decide)
        refine Jcv hx79 (show mx_Sn _ _ 40 (mx_callv 165 2 12 43) from sn_172 40) a56 s56 hc108 rfl rfl rfl ?_
        have c51 : ∀  (Z122 : xZ) (h122 : mx_H), (Z122 56 6 ≤ Z122 56 7 ∧ Z122 56 7 ≤ Z 56 8) → (Z122 56 9 = 24 ∨ Z122 56 6 < Z122 56 7) → (Z 56 6 ≤ Z122 56 6 ∧ Z 60 61 ≤ Z122 60 61 ∧ Z122 60 61 - Z 60 61 ≤ Z122 56 6 - Z 56 6) → (Z122 60 1 = Z 60 1 ∧ Z122 60 2 = Z 60 2) → QR Z Z122 a0 2 1 → XH n s S Z122 h122 → GI n S Z122 → fr' [(56, 11), (56, 12)] Z108 Z122 → mx_J (tB l D b0 ad Hb tau) mt_172 (d + 28) 51 [some (.ref 56), some (xI 3)] [] h122 Post := by
          intro Z122 h122 f121_0 f121_1 f121_2 f121_3 f121_4 hx122 hG122 hf122
          clear b79 b108
          have eq123 : Z122 56 6 = Z108 56 6 := (hf122 56 6 rfl)
          have b124 : 0 ≤ Z108 56 6 ∧ Z108 56 6 ≤ 900 := hG108.pr 56 6
          have eq125 : Z122 56 7 = Z108 56 7 := (hf122 56 7 rfl)
          have b126 : 0 ≤ Z108 56 7 ∧ Z108 56 7 ≤ 900 := hG108.pr 56 7
          have eq127 : Z122 56 6 = Z108 56 6 := (hf122 56 6 rfl)
          have b128 : 0 ≤ Z108 56 6 ∧ Z108 56 6 ≤ 900 := hG108.pr 56 6
          have eq129 : Z122 56 7 = Z108 56 7 := (hf122 56 7 rfl)
          have b130 : 0 ≤ Z108 56 7 ∧ Z108 56 7 ≤ 900 := hG108.pr 56 7
          have eq131 : Z122 56 9 = Z108 56 9 := (hf122 56 9 rfl)
          have b132 : 0 ≤ Z108 56 9 ∧ Z108 56 9 ≤ 100 := hG108.pr 56 9
          have eq133 : Z122 56 6 = Z108 56 6 := (hf122 56 6 rfl)
          have b134 : 0 ≤ Z108 56 6 ∧ Z108 56 6 ≤ 900 := hG108.pr 56 6
          have eq135 : Z122 60 61 = Z79 60 61 := ((hf122 60 61 rfl).trans (hf108 60 61 rfl))
          have b136 : 0 ≤ Z79 60 61 ∧ Z79 60 61 ≤ 900 := by have hq := GI_ex hG79 60 61; replace hq : f60 (61 % 962) (Z79 60 61) := hq; unfold f60 at hq; omega
          have b137 : (-2147483648) ≤ Z79 60 61 ∧ Z79 60 61 ≤ 2147483647 := hG79.pr 60 61
          have eq138 : Z122 60 1 = Z79 60 1 := ((hf122 60 1 rfl).trans (hf108 60 1 rfl))
          have b139 : 0 ≤ Z79 60 1 ∧ Z79 60 1 ≤ 18 := by have hq := GI_ex hG79 60 1; replace hq : f60 (1 % 962) (Z79 60 1) := hq; unfold f60 at hq; omega
          have b140 : (-2147483648) ≤ Z79 60 1 ∧ Z79 60 1 ≤ 2147483647 := hG79.pr 60 1
          have eq141 : Z122 60 2 = Z79 60 2 := ((hf122 60 2 rfl).trans (hf108 60 2 rfl))
          have b142 : 0 ≤ Z79 60 2 ∧ Z79 60 2 ≤ 18 := by have hq := GI_ex hG79 60 2; replace hq : f60 (2 % 962) (Z79 60 2) := hq; unfold f60 at hq; omega
          have b143 : (-2147483648) ≤ Z79 60 2 ∧ Z79 60 2 ≤ 2147483647 := hG79.pr 60 2
          refine mx_J.step (sn_172 51) (fun _ _ => rfl) ?_
          refine mx_J.step (sn_172 52) (fun _ _ => rfl) ?_
          refine JcI (z := 1) (show mx_Sn _ _ 53 (mx_const (.int 1) 54) from sn_172 53) rfl ?_
          refine JiaddE (r := 4) (show mx_Sn _ _ 54 (mx_iadd 55) from sn_172 54) (by decide) ?_
          have eq145 : Z122 56 6 = Z108 56 6 := (hf122 56 6 rfl)
          have b146 : 0 ≤ Z108 56 6 ∧ Z108 56 6 ≤ 900 := hG108.pr 56 6
          have eq147 : Z122 56 7 = Z108 56 7 := (hf122 56 7 rfl)
          have b148 : 0 ≤ Z108 56 7 ∧ Z108 56 7 ≤ 900 := hG108.pr 56 7
          have eq149 : Z122 56 8 = Z 56 8 := ((hf122 56 8 rfl).trans ((hf108 56 8 rfl).trans ((hf79 56 8 rfl).trans ((hf57 56 8 rfl).trans ((hf43 56 8 rfl).trans ((hf16 56 8 rfl).trans (hf1 56 8 rfl)))))))
          have b150 : 0 ≤ Z 56 8 ∧ Z 56 8 ≤ 900 := hG.pr 56 8
          have eq151 : Z122 56 9 = Z108 56 9 := (hf122 56 9 rfl)
          have b152 : 0 ≤ Z108 56 9 ∧ Z108 56 9 ≤ 100 := hG108.pr 56 9
          have b153 : 0 ≤ Z122 56 11 ∧ Z122 56 11 ≤ 4 := hG122.pr 56 11
          have eq154 : Z122 60 61 = Z79 60 61 := ((hf122 60 61 rfl).trans (hf108 60 61 rfl))
          have b155 : 0 ≤ Z79 60 61 ∧ Z79 60 61 ≤ 900 := by have hq := GI_ex hG79 60 61; replace hq : f60 (61 % 962) (Z79 60 61) := hq; unfold f60 at hq; omega
          have b156 : (-2147483648) ≤ Z79 60 61 ∧ Z79 60 61 ≤ 2147483647 := hG79.pr 60 61
          have eq157 : Z122 60 1 = Z79 60 1 := ((hf122 60 1 rfl).trans (hf108 60 1 rfl))
          have b158 : 0 ≤ Z79 60 1 ∧ Z79 60 1 ≤ 18 := by have hq := GI_ex hG79 60 1; replace hq : f60 (1 % 962) (Z79 60 1) := hq; unfold f60 at hq; omega
          have b159 : (-2147483648) ≤ Z79 60 1 ∧ Z79 60 1 ≤ 2147483647 := hG79.pr 60 1
          have eq160 : Z122 60 2 = Z79 60 2 := ((hf122 60 2 rfl).trans (hf108 60 2 rfl))
          have b161 : 0 ≤ Z79 60 2 ∧ Z79 60 2 ≤ 18 := by have hq := GI_ex hG79 60 2; replace hq : f60 (2 % 962) (Z79 60 2) := hq; unfold f60 at hq; omega
          have b162 : (-2147483648) ≤ Z79 60 2 ∧ Z79 60 2 ≤ 2147483647 := hG79.pr 60 2
          obtain ⟨Z144, h144, hc144, hx144, hG144, hf144, b144⟩ := ct_174_56_i4 (a0 := a0) (d := d + 3) (l := l) (D := D) (b0 := b0) (ad := ad) (Hb := Hb) (tau := tau) hx122 hG122  (show (Z122 56 6 ≤ Z122 56 7 ∧ Z122 56 7 ≤ Z122 56 8 ∧ (Z122 56 9 = 24 ∨ Z122 56 6 < Z122 56 7)) by first | omega | (simp only [eq145, eq147, eq149, eq151, eq154, eq157, eq160]; omega)) (show Z122 60 61 ≤ Z122 56 6 by first | omega | (simp only [eq145, eq147, eq149, eq151, eq154, eq157, eq160]; omega)) (show a0 ≤ Z122 60 61 by first | omega | (simp only [eq145, eq147, eq149, eq151, eq154, eq157, eq160]; omega)) (show 0 ≤ a0 by first | omega | (simp only [eq145, eq147, eq149, eq151, eq154, eq157, eq160]; omega))
          try rw [eq145] at b144
          try rw [eq147] at b144
          try rw [eq149] at b144
          try rw [eq151] at b144
          try rw [eq154] at b144
          try rw [eq157] at b144
          try rw [eq160] at b144
          obtain ⟨bq144, b144⟩ := b144
          have b163 : 0 ≤ Z144 56 6 ∧ Z144 56 6 ≤ 900 := hG144.pr 56 6
          have b164 : 0 ≤ Z144 56 7 ∧ Z144 56 7 ≤ 900 := hG144.pr 56 7
          have b165 : 0 ≤ Z144 56 9 ∧ Z144 56 9 ≤ 100 := hG144.pr 56 9
          have b166 : 0 ≤ Z144 56 11 ∧ Z144 56 11 ≤ 4 := hG144.pr 56 11
          have b167 : 0 ≤ Z144 60 61 ∧ Z144 60 61 ≤ 900 := by have hq := GI_ex hG144 60 61; replace hq : f60 (61 % 962) (Z144 60 61) := hq; unfold f60 at hq; omega
          have b168 : (-2147483648) ≤ Z144 60 61 ∧ Z144 60 61 ≤ 2147483647 := hG144.pr 60 61
          have b169 : 0 ≤ Z144 60 1 ∧ Z144 60 1 ≤ 18 := by have hq := GI_ex hG144 60 1; replace hq : f60 (1 % 962) (Z144 60 1) := hq; unfold f60 at hq; omega
          have b170 : (-2147483648) ≤ Z144 60 1 ∧ Z144 60 1 ≤ 2147483647 := hG144.pr 60 1
          have b171 : 0 ≤ Z144 60 2 ∧ Z144 60 2 ≤ 18 := by have hq := GI_ex hG144 60 2; replace hq : f60 (2 % 962) (Z144 60 2) := hq; unfold f60 at hq; omega
          have b172 : (-2147483648) ≤ Z144 60 2 ∧ Z144 60 2 ≤ 2147483647 := hG144.pr 60 2
          have r144 := QR_tr (d := 3) (c := 1) f121_4 bq144 (by decide) (by decide) (by decide)
          refine Jcv0 hx122 (show mx_Sn _ _ 55 (mx_callv 174 2 12 58) from sn_172 55) a56 s56 hc144 rfl rfl rfl ?_
          refine mx_J.step (sn_172 58) (fun _ _ => rfl) ?_
          refine JcI (z := 8) (show mx_Sn _ _ 59 (mx_const (.int 8) 61) from sn_172 59) rfl ?_
          have b174 : 0 ≤ Z144 56 6 ∧ Z144 56 6 ≤ 900 := hG144.pr 56 6
          have b175 : 0 ≤ Z144 56 7 ∧ Z144 56 7 ≤ 900 := hG144.pr 56 7
          have eq176 : Z144 56 8 = Z 56 8 := ((hf144 56 8 rfl).trans ((hf122 56 8 rfl).trans ((hf108 56 8 rfl).trans ((hf79 56 8 rfl).trans ((hf57 56 8 rfl).trans ((hf43 56 8 rfl).trans ((hf16 56 8 rfl).trans (hf1 56 8 rfl))))))))
          have b177 : 0 ≤ Z 56 8 ∧ Z 56 8 ≤ 900 := hG.pr 56 8
          have b178 : 0 ≤ Z144 56 9 ∧ Z144 56 9 ≤ 100 := hG144.pr 56 9
          have b179 : 0 ≤ Z144 56 11 ∧ Z144 56 11 ≤ 4 := hG144.pr 56 11
          obtain ⟨z173, Z173, h173, hc173, hx173, hG173, hf173, b173⟩ := ct_165_56 (d := d + 21) (l := l) (D := D) (b0 := b0) (ad := ad) (Hb := Hb) (tau := tau) hx144 hG144 (show 0 ≤ 8 ∧ 8 ≤ 100 by omega) (show (Z144 56 6 ≤ Z144 56 7 ∧ Z144 56 7 ≤ Z144 56 8 ∧ (Z144 56 9 = 24 ∨ Z144 56 6 < Z144 56 7)) by first | omega | (simp only [eq176]; omega)) (show ¬ 8 = 24 by first | omega | (simp only [eq176]; omega))
          try rw [eq176] at b173
          have b180 : 0 ≤ Z173 56 6 ∧ Z173 56 6 ≤ 900 := hG173.pr 56 6
          have b181 : 0 ≤ Z173 56 7 ∧ Z173 56 7 ≤ 900 := hG173.pr 56 7
          have b182 : 0 ≤ Z173 56 9 ∧ Z173 56 9 ≤ 100 := hG173.pr 56 9
          have b183 : 0 ≤ Z144 56 6 ∧ Z144 56 6 ≤ 900 := hG144.pr 56 6
          have b184 : 0 ≤ Z144 56 11 ∧ Z144 56 11 ≤ 4 := hG144.pr 56 11
          have b185 : 0 ≤ Z144 56 9 ∧ Z144 56 9 ≤ 100 := hG144.pr 56 9
          have r173 := QR_g (k := 0) (c2 := 1) r144 (fun e => (hf173 56 11 rfl).symm.trans e) (fun i => hf173 60 i rfl) (fun e => by omega) (by decide)
          have rk173 : z173 = 1 → QR Z Z173 a0 3 2 := fun ez => QR_g (k := 1) r144 (fun e => (hf173 56 11 rfl).symm.trans e) (fun i => hf173 60 i rfl) (fun e => by omega) (by decide)
          refine Jcv hx144 (show mx_Sn _ _ 61 (mx_callv 165 2 12 64) from sn_172 61) a56 s56 hc173 rfl rfl rfl ?_
          have c72 : ∀  (Z187 : xZ) (h187 : mx_H), (Z187 56 6 ≤ Z187 56 7 ∧ Z187 56 7 ≤ Z 56 8) → (Z187 56 9 = 24 ∨ Z187 56 6 < Z187 56 7) → (Z 56 6 ≤ Z187 56 6 ∧ Z 60 61 ≤ Z187 60 61 ∧ Z187 60 61 - Z 60 61 ≤ Z187 56 6 - Z 56 6) → (Z187 60 1 = Z 60 1 ∧ Z187 60 2 = Z 60 2) → QR Z Z187 a0 3 1 → XH n s S Z187 h187 → GI n S Z187 → fr' [(56, 11), (56, 12)] Z173 Z187 → mx_J (tB l D b0 ad Hb tau) mt_172 (d + 28) 72 [some (.ref 56), some (xI 3)] [] h187 Post := by
            intro Z187 h187 f186_0 f186_1 f186_2 f186_3 f186_4 hx187 hG187 hf187
            clear b144 b173
            have eq188 : Z187 56 6 = Z173 56 6 := (hf187 56 6 rfl)
            have b189 : 0 ≤ Z173 56 6 ∧ Z173 56 6 ≤ 900 := hG173.pr 56 6
            have eq190 : Z187 56 7 = Z173 56 7 := (hf187 56 7 rfl)
            have b191 : 0 ≤ Z173 56 7 ∧ Z173 56 7 ≤ 900 := hG173.pr 56 7
            have eq192 : Z187 56 6 = Z173 56 6 := (hf187 56 6 rfl)
            have b193 : 0 ≤ Z173 56 6 ∧ Z173 56 6 ≤ 900 := hG173.pr 56 6
            have eq194 : Z187 56 7 = Z173 56 7 := (hf187 56 7 rfl)
            have b195 : 0 ≤ Z173 56 7 ∧ Z173 56 7 ≤ 900 := hG173.pr 56 7
            have eq196 : Z187 56 9 = Z173 56 9 := (hf187 56 9 rfl)
            have b197 : 0 ≤ Z173 56 9 ∧ Z173 56 9 ≤ 100 := hG173.pr 56 9
            have eq198 : Z187 56 6 = Z173 56 6 := (hf187 56 6 rfl)
            have b199 : 0 ≤ Z173 56 6 ∧ Z173 56 6 ≤ 900 := hG173.pr 56 6
            have eq200 : Z187 60 61 = Z144 60 61 := ((hf187 60 61 rfl).trans (hf173 60 61 rfl))
            have b201 : 0 ≤ Z144 60 61 ∧ Z144 60 61 ≤ 900 := by have hq := GI_ex hG144 60 61; replace hq : f60 (61 % 962) (Z144 60 61) := hq; unfold f60 at hq; omega
            have b202 : (-2147483648) ≤ Z144 60 61 ∧ Z144 60 61 ≤ 2147483647 := hG144.pr 60 61
            have eq203 : Z187 60 1 = Z144 60 1 := ((hf187 60 1 rfl).trans (hf173 60 1 rfl))
            have b204 : 0 ≤ Z144 60 1 ∧ Z144 60 1 ≤ 18 := by have hq := GI_ex hG144 60 1; replace hq : f60 (1 % 962) (Z144 60 1) := hq; unfold f60 at hq; omega
            have b205 : (-2147483648) ≤ Z144 60 1 ∧ Z144 60 1 ≤ 2147483647 := hG144.pr 60 1
            have eq206 : Z187 60 2 = Z144 60 2 := ((hf187 60 2 rfl).trans (hf173 60 2 rfl))
            have b207 : 0 ≤ Z144 60 2 ∧ Z144 60 2 ≤ 18 := by have hq := GI_ex hG144 60 2; replace hq : f60 (2 % 962) (Z144 60 2) := hq; unfold f60 at hq; omega
            have b208 : (-2147483648) ≤ Z144 60 2 ∧ Z144 60 2 ≤ 2147483647 := hG144.pr 60 2
            refine mx_J.step (sn_172 72) (fun _ _ => rfl) ?_
            refine JcI (z := 3009) (show mx_Sn _ _ 73 (mx_const (.int 3009) 76) from sn_172 73) rfl ?_
            have eq210 : Z187 56 8 = Z 56 8 := ((hf187 56 8 rfl).trans ((hf173 56 8 rfl).trans ((hf144 56 8 rfl).trans ((hf122 56 8 rfl).trans ((hf108 56 8 rfl).trans ((hf79 56 8 rfl).trans ((hf57 56 8 rfl).trans ((hf43 56 8 rfl).trans ((hf16 56 8 rfl).trans (hf1 56 8 rfl))))))))))
            have b211 : 0 ≤ Z 56 8 ∧ Z 56 8 ≤ 900 := hG.pr 56 8
            have b212 : 0 ≤ Z187 56 11 ∧ Z187 56 11 ≤ 4 := hG187.pr 56 11
            have eq213 : Z187 60 61 = Z144 60 61 := ((hf187 60 61 rfl).trans (hf173 60 61 rfl))
            have b214 : 0 ≤ Z144 60 61 ∧ Z144 60 61 ≤ 900 := by have hq := GI_ex hG144 60 61; replace hq : f60 (61 % 962) (Z144 60 61) := hq; unfold f60 at hq; omega
            have b215 : (-2147483648) ≤ Z144 60 61 ∧ Z144 60 61 ≤ 2147483647 := hG144.pr 60 61
            have eq216 : DP Z187 a0 = DP Z144 a0 := ((DP_c (fun i => hf187 60 i rfl)).trans (DP_c (fun i => hf173 60 i rfl)))
            have eq217 : MW Z187 a0 = MW Z144 a0 := ((MW_c (fun i => hf187 60 i rfl)).trans (MW_c (fun i => hf173 60 i rfl)))
            have eq218 : WFF Z187  = WFF Z144 := ((WFF_c (fun i => hf187 60 i rfl)).trans (WFF_c (fun i => hf173 60 i rfl)))
            have eq219 : Z187 60 1 = Z144 60 1 := ((hf187 60 1 rfl).trans (hf173 60 1 rfl))
            have b220 : 0 ≤ Z144 60 1 ∧ Z144 60 1 ≤ 18 := by have hq := GI_ex hG144 60 1; replace hq : f60 (1 % 962) (Z144 60 1) := hq; unfold f60 at hq; omega
            have b221 : (-2147483648) ≤ Z144 60 1 ∧ Z144 60 1 ≤ 2147483647 := hG144.pr 60 1
            have eq222 : Z187 60 2 = Z144 60 2 := ((hf187 60 2 rfl).trans (hf173 60 2 rfl))
            have b223 : 0 ≤ Z144 60 2 ∧ Z144 60 2 ≤ 18 := by have hq := GI_ex hG144 60 2; replace hq : f60 (2 % 962) (Z144 60 2) := hq; unfold f60 at hq; omega
            have b224 : (-2147483648) ≤ Z144 60 2 ∧ Z144 60 2 ≤ 2147483647 := hG144.pr 60 2
            have rp209 := QR_n f186_4
            obtain ⟨Z209, h209, hc209, hx209, hG209, hf209, b209⟩ := ct_169_56_3009 (a0 := a0) (d := d + 27) (l := l) (D := D) (b0 := b0) (ad := ad) (Hb := Hb) (tau := tau) hx187 hG187  (show (Z187 56 11 = 0 → Z187 60 61 ≤ 899) by first | omega | (simp only [eq210, eq213, eq219, eq222]; omega)) (show a0 ≤ Z187 60 61 by first | omega | (simp only [eq210, eq213, eq219, eq222]; omega)) (show 0 ≤ a0 by first | omega | (simp only [eq210, eq213, eq219, eq222]; omega))
            try rw [eq210] at b209
            try rw [eq213] at b209
            try rw [eq219] at b209
            try rw [eq222] at b209
            obtain ⟨bq209, b209⟩ := b209
            have b225 : 0 ≤ Z209 60 61 ∧ Z209 60 61 ≤ 900 := by have hq := GI_ex hG209 60 61; replace hq : f60 (61 % 962) (Z209 60 61) := hq; unfold f60 at hq; omega
            have b226 : (-2147483648) ≤ Z209 60 61 ∧ Z209 60 61 ≤ 2147483647 := hG209.pr 60 61
            have b227 : 0 ≤ Z209 60 1 ∧ Z209 60 1 ≤ 18 := by have hq := GI_ex hG209 60 1; replace hq : f60 (1 % 962) (Z209 60 1) := hq; unfold f60 at hq; omega
            have b228 : (-2147483648) ≤ Z209 60 1 ∧ Z209 60 1 ≤ 2147483647 := hG209.pr 60 1
            have b229 : 0 ≤ Z209 60 2 ∧ Z209 60 2 ≤ 18 := by have hq := GI_ex hG209 60 2; replace hq : f60 (2 % 962) (Z209 60 2) := hq; unfold f60 at hq; omega
            have b230 : (-2147483648) ≤ Z209 60 2 ∧ Z209 60 2 ≤ 2147483647 := hG209.pr 60 2
            have rn209 := QR_n f186_4
            have r209 := QR_c (d2 := 1) (c2 := 0) f186_4 bq209 (by omega) (hf209 56 11 rfl) (hf209 56 6 rfl) (by decide) (by decide) (by decide)
            refine Jcv0 hx187 (show mx_Sn _ _ 76 (mx_callv 169 2 12 79) from sn_172 76) a56 s56 hc209 rfl rfl rfl ?_
            have eq231 : Z209 56 6 = Z173 56 6 := ((hf209 56 6 rfl).trans (hf187 56 6 rfl))
            have b232 : 0 ≤ Z173 56 6 ∧ Z173 56 6 ≤ 900 := hG173.pr 56 6
            have eq233 : Z209 56 7 = Z173 56 7 := ((hf209 56 7 rfl).trans (hf187 56 7 rfl))
            have b234 : 0 ≤ Z173 56 7 ∧ Z173 56 7 ≤ 900 := hG173.pr 56 7
            have eq235 : Z209 56 9 = Z173 56 9 := ((hf209 56 9 rfl).trans (hf187 56 9 rfl))
            have b236 : 0 ≤ Z173 56 9 ∧ Z173 56 9 ≤ 100 := hG173.pr 56 9
            have eq237 : Z209 56 11 = Z187 56 11 := (hf209 56 11 rfl)
            have b238 : 0 ≤ Z187 56 11 ∧ Z187 56 11 ≤ 4 := hG187.pr 56 11
            have b239 : 0 ≤ Z209 60 61 ∧ Z209 60 61 ≤ 900 := by have hq := GI_ex hG209 60 61; replace hq : f60 (61 % 962) (Z209 60 61) := hq; unfold f60 at hq; omega
            have b240 : (-2147483648) ≤ Z209 60 61 ∧ Z209 60 61 ≤ 2147483647 := hG209.pr 60 61
            have b241 : 0 ≤ Z209 60 1 ∧ Z209 60 1 ≤ 18 := by have hq := GI_ex hG209 60 1; replace hq : f60 (1 % 962) (Z209 60 1) := hq; unfold f60 at hq; omega
            have b242 : (-2147483648) ≤ Z209 60 1 ∧ Z209 60 1 ≤ 2147483647 := hG209.pr 60 1
            have b243 : 0 ≤ Z209 60 2 ∧ Z209 60 2 ≤ 18 := by have hq := GI_ex hG209 60 2; replace hq : f60 (2 % 962) (Z209 60 2) := hq; unfold f60 at hq; omega
            have b244 : (-2147483648) ≤ Z209 60 2 ∧ Z209 60 2 ≤ 2147483647 := hG209.pr 60 2
            have eq245 : Z209 56 6 = Z173 56 6 := ((hf209 56 6 rfl).trans (hf187 56 6 rfl))
            have b246 : 0 ≤ Z173 56 6 ∧ Z173 56 6 ≤ 900 := hG173.pr 56 6
            have eq247 : Z209 56 7 = Z173 56 7 := ((hf209 56 7 rfl).trans (hf187 56 7 rfl))
            have b248 : 0 ≤ Z173 56 7 ∧ Z173 56 7 ≤ 900 := hG173.pr 56 7
            have eq249 : Z209 56 8 = Z 56 8 := ((hf209 56 8 rfl).trans ((hf187 56 8 rfl).trans ((hf173 56 8 rfl).trans ((hf144 56 8 rfl).trans ((hf122 56 8 rfl).trans ((hf108 56 8 rfl).trans ((hf79 56 8 rfl).trans ((hf57 56 8 rfl).trans ((hf43 56 8 rfl).trans ((hf16 56 8 rfl).trans (hf1 56 8 rfl)))))))))))
            have b250 : 0 ≤ Z 56 8 ∧ Z 56 8 ≤ 900 := hG.pr 56 8
            have eq251 : Z209 56 9 = Z173 56 9 := ((hf209 56 9 rfl).trans (hf187 56 9 rfl))
            have b252 : 0 ≤ Z173 56 9 ∧ Z173 56 9 ≤ 100 := hG173.pr 56 9
            have eq253 : Z209 56 11 = Z187 56 11 := (hf209 56 11 rfl)
            have b254 : 0 ≤ Z187 56 11 ∧ Z187 56 11 ≤ 4 := hG187.pr 56 11
            have b255 : 0 ≤ Z209 60 61 ∧ Z209 60 61 ≤ 900 := by have hq := GI_ex hG209 60 61; replace hq : f60 (61 % 962) (Z209 60 61) := hq; unfold f60 at hq; omega
            have b256 : (-2147483648) ≤ Z209 60 61 ∧ Z209 60 61 ≤ 2147483647 := hG209.pr 60 61
            have b257 : 0 ≤ Z209 60 1 ∧ Z209 60 1 ≤ 18 := by have hq := GI_ex hG209 60 1; replace hq : f60 (1 % 962) (Z209 60 1) := hq; unfold f60 at hq; omega
            have b258 : (-2147483648) ≤ Z209 60 1 ∧ Z209 60 1 ≤ 2147483647 := hG209.pr 60 1
            have b259 : 0 ≤ Z209 60 2 ∧ Z209 60 2 ≤ 18 := by have hq := GI_ex hG209 60 2; replace hq : f60 (2 % 962) (Z209 60 2) := hq; unfold f60 at hq; omega
            have b260 : (-2147483648) ≤ Z209 60 2 ∧ Z209 60 2 ≤ 2147483647 := hG209.pr 60 2
            exact mx_J.ret (sn_172 79) (fun _ _ => rfl) (hP Z209 h209 hx209 hG209 (fr_tr (M := [(56, 6), (56, 7), (56, 9), (56, 10), (56, 11), (56, 12), (60, (-1))]) (fr_tr (M := [(56, 6), (56, 7), (56, 9), (56, 10), (56, 11), (56, 12), (60, (-1))]) (fr_tr (M := [(56, 6), (56, 7), (56, 9), (56, 10), (56, 11), (56, 12), (60, (-1))]) (fr_tr (M := [(56, 6), (56, 7), (56, 9), (56, 10), (56, 11), (56, 12), (60, (-1))]) (fr_tr (M := [(56, 6), (56, 7), (56, 9), (56, 10), (56, 11), (56, 12), (60, (-1))]) (fr_tr (M := [(56, 6), (56, 7), (56, 9), (56, 10), (56, 11), (56, 12), (60, (-1))]) (fr_tr (M := [(56, 6), (56, 7), (56, 9), (56, 10), (56, 11), (56, 12), (60, (-1))]) (fr_tr (M := [(56, 6), (56, 7), (56, 9), (56, 10), (56, 11), (56, 12), (60, (-1))]) (fr_tr (M := [(56, 6), (56, 7), (56, 9), (56, 10), (56, 11), (56, 12), (60, (-1))]) (fr_tr (M := [(56, 6), (56, 7), (56, 9), (56, 10), (56, 11), (56, 12), (60, (-1))]) (fr_tr (M := [(56, 6), (56, 7), (56, 9), (56, 10), (56, 11), (56, 12), (60, (-1))]) fr_rf (hf1) (M1 := []) rfl rfl) (hf16) rfl rfl) (hf43) rfl rfl) (hf57) rfl rfl) (hf79) rfl rfl) (hf108) rfl rfl) (hf122) rfl rfl) (hf144) rfl rfl) (hf173) rfl rfl) (hf187) rfl rfl) (hf209) rfl rfl) ⟨(QR_le r209 (by decide)), by omega⟩)
          refine Jif_ne (show mx_Sn _ _ 64 (mx_if_ne 72 67) from sn_172 64) (by omega) (fun q261 => ?_) (fun q261 => ?_)
          · skip
            have b262 : 0 ≤ Z173 56 6 ∧ Z173 56 6 ≤ 900 := hG173.pr 56 6
            have b263 : 0 ≤ Z173 56 7 ∧ Z173 56 7 ≤ 900 := hG173.pr 56 7
            have b264 : 0 ≤ Z173 56 6 ∧ Z173 56 6 ≤ 900 := hG173.pr 56 6
            have b265 : 0 ≤ Z173 56 7 ∧ Z173 56 7 ≤ 900 := hG173.pr 56 7
            have b266 : 0 ≤ Z173 56 9 ∧ Z173 56 9 ≤ 100 := hG173.pr 56 9
            have b267 : 0 ≤ Z173 56 6 ∧ Z173 56 6 ≤ 900 := hG173.pr 56 6
            have eq268 : Z173 60 61 = Z144 60 61 := (hf173 60 61 rfl)
            have b269 : 0 ≤ Z144 60 61 ∧ Z144 60 61 ≤ 900 := by have hq := GI_ex hG144 60 61; replace hq : f60 (61 % 962) (Z144 60 61) := hq; unfold f60 at hq; omega
            have b270 : (-2147483648) ≤ Z144 60 61 ∧ Z144 60 61 ≤ 2147483647 := hG144.pr 60 61
            have eq271 : Z173 60 1 = Z144 60 1 := (hf173 60 1 rfl)
            have b272 : 0 ≤ Z144 60 1 ∧ Z144 60 1 ≤ 18 := by have hq := GI_ex hG144 60 1; replace hq : f60 (1 % 962) (Z144 60 1) := hq; unfold f60 at hq; omega
            have b273 : (-2147483648) ≤ Z144 60 1 ∧ Z144 60 1 ≤ 2147483647 := hG144.pr 60 1
            have eq274 : Z173 60 2 = Z144 60 2 := (hf173 60 2 rfl)
            have b275 : 0 ≤ Z144 60 2 ∧ Z144 60 2 ≤ 18 := by have hq := GI_ex hG144 60 2; replace hq : f60 (2 % 962) (Z144 60 2) := hq; unfold f60 at hq; omega
            have b276 : (-2147483648) ≤ Z144 60 2 ∧ Z144 60 2 ≤ 2147483647 := hG144.pr 60 2
            exact c72 Z173 h173 (by omega) (by omega) (by omega) (by omega) (QR_le (rk173 (by omega)) (by decide)) hx173 hG173 fr_rf
          · skip
            refine mx_J.step (sn_172 67) (fun _ _ => rfl) ?_
            refine JcI (z := 2) (show mx_Sn _ _ 68 (mx_const (.int 2) 69) from sn_172 68) rfl ?_
            obtain ⟨Z277, h277, hc277, hx277, hG277, hf277, b277⟩ := ct_163_56 (d := d + 27) (l := l) (D := D) (b0 := b0) (ad := ad) (Hb := Hb) (tau := tau) hx173 hG173 (show 1 ≤ 2 ∧ 2 ≤ 4 by omega)
            have b278 : 0 ≤ Z277 56 11 ∧ Z277 56 11 ≤ 4 := hG277.pr 56 11
            have r277 : ¬ Z277 56 11 = 0 := by omega
            refine Jcv0 hx173 (show mx_Sn _ _ 69 (mx_callv 163 2 12 72) from sn_172 69) a56 s56 hc277 rfl rfl rfl ?_
            have eq279 : Z277 56 6 = Z173 56 6 := (hf277 56 6 rfl)
            have b280 : 0 ≤ Z173 56 6 ∧ Z173 56 6 ≤ 900 := hG173.pr 56 6
            have eq281 : Z277 56 7 = Z173 56 7 := (hf277 56 7 rfl)
            have b282 : 0 ≤ Z173 56 7 ∧ Z173 56 7 ≤ 900 := hG173.pr 56 7
            have eq283 : Z277 56 6 = Z173 56 6 := (hf277 56 6 rfl)
            have b284 : 0 ≤ Z173 56 6 ∧ Z173 56 6 ≤ 900 := hG173.pr 56 6
            have eq285 : Z277 56 7 = Z173 56 7 := (hf277 56 7 rfl)
            have b286 : 0 ≤ Z173 56 7 ∧ Z173 56 7 ≤ 900 := hG173.pr 56 7
            have eq287 : Z277 56 9 = Z173 56 9 := (hf277 56 9 rfl)
            have b288 : 0 ≤ Z173 56 9 ∧ Z173 56 9 ≤ 100 := hG173.pr 56 9
            have eq289 : Z277 56 6 = Z173 56 6 := (hf277 56 6 rfl)
            have b290 : 0 ≤ Z173 56 6 ∧ Z173 56 6 ≤ 900 := hG173.pr 56 6
            have eq291 : Z277 60 61 = Z144 60 61 := ((hf277 60 61 rfl).trans (hf173 60 61 rfl))
            have b292 : 0 ≤ Z144 60 61 ∧ Z144 60 61 ≤ 900 := by have hq := GI_ex hG144 60 61; replace hq : f60 (61 % 962) (Z144 60 61) := hq; unfold f60 at hq; omega
            have b293 : (-2147483648) ≤ Z144 60 61 ∧ Z144 60 61 ≤ 2147483647 := hG144.pr 60 61
            have eq294 : Z277 60 1 = Z144 60 1 := ((hf277 60 1 rfl).trans (hf173 60 1 rfl))
            have b295 : 0 ≤ Z144 60 1 ∧ Z144 60 1 ≤ 18 := by have hq := GI_ex hG144 60 1; replace hq : f60 (1 % 962) (Z144 60 1) := hq; unfold f60 at hq; omega
            have b296 : (-2147483648) ≤ Z144 60 1 ∧ Z144 60 1 ≤ 2147483647 := hG144.pr 60 1
            have eq297 : Z277 60 2 = Z144 60 2 := ((hf277 60 2 rfl).trans (hf173 60 2 rfl))
            have b298 : 0 ≤ Z144 60 2 ∧ Z144 60 2 ≤ 18 := by have hq := GI_ex hG144 60 2; replace hq : f60 (2 % 962) (Z144 60 2) := hq; unfold f60 at hq; omega
            have b299 : (-2147483648) ≤ Z144 60 2 ∧ Z144 60 2 ≤ 2147483647 := hG144.pr 60 2
            exact c72 Z277 h277 (by omega) (by omega) (by omega) (by omega) (QR_f r277) hx277 hG277 (fr_tr (M := [(56, 11), (56, 12)]) fr_rf (hf277) (M1 := []) rfl rfl)
        refine Jif_ne (show mx_Sn _ _ 43 (mx_if_ne 51 46) from sn_172 43) (by omega) (fun q300 => ?_) (fun q300 => ?_)
        · skip
          have b301 : 0 ≤ Z108 56 6 ∧ Z108 56 6 ≤ 900 := hG108.pr 56 6
          have b302 : 0 ≤ Z108 56 7 ∧ Z108 56 7 ≤ 900 := hG108.pr 56 7
          have b303 : 0 ≤ Z108 56 6 ∧ Z108 56 6 ≤ 900 := hG108.pr 56 6
          have b304 : 0 ≤ Z108 56 7 ∧ Z108 56 7 ≤ 900 := hG108.pr 56 7
          have b305 : 0 ≤ Z108 56 9 ∧ Z108 56 9 ≤ 100 := hG108.pr 56 9
          have b306 : 0 ≤ Z108 56 6 ∧ Z108 56 6 ≤ 900 := hG108.pr 56 6
          have eq307 : Z108 60 61 = Z79 60 61 := (hf108 60 61 rfl)
          have b308 : 0 ≤ Z79 60 61 ∧ Z79 60 61 ≤ 900 := by have hq := GI_ex hG79 60 61; replace hq : f60 (61 % 962) (Z79 60 61) := hq; unfold f60 at hq; omega
          have b309 : (-2147483648) ≤ Z79 60 61 ∧ Z79 60 61 ≤ 2147483647 := hG79.pr 60 61
          have eq310 : Z108 60 1 = Z79 60 1 := (hf108 60 1 rfl)
          have b311 : 0 ≤ Z79 60 1 ∧ Z79 60 1 ≤ 18 := by have hq := GI_ex hG79 60 1; replace hq : f60 (1 % 962) (Z79 60 1) := hq; unfold f60 at hq; omega
          have b312 : (-2147483648) ≤ Z79 60 1 ∧ Z79 60 1 ≤ 2147483647 := hG79.pr 60 1
          have eq313 : Z108 60 2 = Z79 60 2 := (hf108 60 2 rfl)
          have b314 : 0 ≤ Z79 60 2 ∧ Z79 60 2 ≤ 18 := by have hq := GI_ex hG79 60 2; replace hq : f60 (2 % 962) (Z79 60 2) := hq; unfold f60 at hq; omega
          have b315 : (-2147483648) ≤ Z79 60 2 ∧ Z79 60 2 ≤ 2147483647 := hG79.pr 60 2
          exact c51 Z108 h108 (by omega) (by omega) (by omega) (by omega) (QR_le (rk108 (by omega)) (by decide)) hx108 hG108 fr_rf
        · skip
          refine mx_J.step (sn_172 46) (fun _ _ => rfl) ?_
          refine JcI (z := 2) (show mx_Sn _ _ 47 (mx_const (.int 2) 48) from sn_172 47) rfl ?_
          obtain ⟨Z316, h316, hc316, hx316, hG316, hf316, b316⟩ := ct_163_56 (d := d + 27) (l := l) (D := D) (b0 := b0) (ad := ad) (Hb := Hb) (tau := tau) hx108 hG108 (show 1 ≤ 2 ∧ 2 ≤ 4 by omega)
          have b317 : 0 ≤ Z316 56 11 ∧ Z316 56 11 ≤ 4 := hG316.pr 56 11
          have r316 : ¬ Z316 56 11 = 0 := by omega
          refine Jcv0 hx108 (show mx_Sn _ _ 48 (mx_callv 163 2 12 51) from sn_172 48) a56 s56 hc316 rfl rfl rfl ?_
          have eq318 : Z316 56 6 = Z108 56 6 := (hf316 56 6 rfl)
          have b319 : 0 ≤ Z108 56 6 ∧ Z108 56 6 ≤ 900 := hG108.pr 56 6
          have eq320 : Z316 56 7 = Z108 56 7 := (hf316 56 7 rfl)
          have b321 : 0 ≤ Z108 56 7 ∧ Z108 56 7 ≤ 900 := hG108.pr 56 7
          have eq322 : Z316 56 6 = Z108 56 6 := (hf316 56 6 rfl)
          have b323 : 0 ≤ Z108 56 6 ∧ Z108 56 6 ≤ 900 := hG108.pr 56 6
          have eq324 : Z316 56 7 = Z108 56 7 := (hf316 56 7 rfl)
          have b325 : 0 ≤ Z108 56 7 ∧ Z108 56 7 ≤ 900 := hG108.pr 56 7
          have eq326 : Z316 56 9 = Z108 56 9 := (hf316 56 9 rfl)
          have b327 : 0 ≤ Z108 56 9 ∧ Z108 56 9 ≤ 100 := hG108.pr 56 9
          have eq328 : Z316 56 6 = Z108 56 6 := (hf316 56 6 rfl)
          have b329 : 0 ≤ Z108 56 6 ∧ Z108 56 6 ≤ 900 := hG108.pr 56 6
          have eq330 : Z316 60 61 = Z79 60 61 := ((hf316 60 61 rfl).trans (hf108 60 61 rfl))
          have b331 : 0 ≤ Z79 60 61 ∧ Z79 60 61 ≤ 900 := by have hq := GI_ex hG79 60 61; replace hq : f60 (61 % 962) (Z79 60 61) := hq; unfold f60 at hq; omega
          have b332 : (-2147483648) ≤ Z79 60 61 ∧ Z79 60 61 ≤ 2147483647 := hG79.pr 60 61
          have eq333 : Z316 60 1 = Z79 60 1 := ((hf316 60 1 rfl).trans (hf108 60 1 rfl))
          have b334 : 0 ≤ Z79 60 1 ∧ Z79 60 1 ≤ 18 := by have hq := GI_ex hG79 60 1; replace hq : f60 (1 % 962) (Z79 60 1) := hq; unfold f60 at hq; omega
          have b335 : (-2147483648) ≤ Z79 60 1 ∧ Z79 60 1 ≤ 2147483647 := hG79.pr 60 1
          have eq336 : Z316 60 2 = Z79 60 2 := ((hf316 60 2 rfl).trans (hf108 60 2 rfl))
          have b337 : 0 ≤ Z79 60 2 ∧ Z79 60 2 ≤ 18 := by have hq := GI_ex hG79 60 2; replace hq : f60 (2 % 962) (Z79 60 2) := hq; unfold f60 at hq; omega
          have b338 : (-2147483648) ≤ Z79 60 2 ∧ Z79 60 2 ≤ 2147483647 := hG79.pr 60 2
          exact c51 Z316 h316 (by omega) (by omega) (by omega) (by omega) (QR_f r316) hx316 hG316 (fr_tr (M := [(56, 11), (56, 12)]) fr_rf (hf316) (M1 := []) rfl rfl)
      refine Jif_ne (show mx_Sn _ _ 22 (mx_if_ne 30 25) from sn_172 22) (by omega) (fun q339 => ?_) (fun q339 => ?_)
      · skip
        have b340 : 0 ≤ Z43 56 6 ∧ Z43 56 6 ≤ 900 := hG43.pr 56 6
        have b341 : 0 ≤ Z43 56 7 ∧ Z43 56 7 ≤ 900 := hG43.pr 56 7
        have b342 : 0 ≤ Z43 56 6 ∧ Z43 56 6 ≤ 900 := hG43.pr 56 6
        have b343 : 0 ≤ Z43 56 7 ∧ Z43 56 7 ≤ 900 := hG43.pr 56 7
        have b344 : 0 ≤ Z43 56 9 ∧ Z43 56 9 ≤ 100 := hG43.pr 56 9
        have b345 : 0 ≤ Z43 56 6 ∧ Z43 56 6 ≤ 900 := hG43.pr 56 6
        have eq346 : Z43 60 61 = Z16 60 61 := (hf43 60 61 rfl)
        have b347 : 0 ≤ Z16 60 61 ∧ Z16 60 61 ≤ 900 := by have hq := GI_ex hG16 60 61; replace hq : f60 (61 % 962) (Z16 60 61) := hq; unfold f60 at hq; omega
        have b348 : (-2147483648) ≤ Z16 60 61 ∧ Z16 60 61 ≤ 2147483647 := hG16.pr 60 61
        have eq349 : Z43 60 1 = Z16 60 1 := (hf43 60 1 rfl)
        have b350 : 0 ≤ Z16 60 1 ∧ Z16 60 1 ≤ 18 := by have hq := GI_ex hG16 60 1; replace hq : f60 (1 % 962) (Z16 60 1) := hq; unfold f60 at hq; omega
        have b351 : (-2147483648) ≤ Z16 60 1 ∧ Z16 60 1 ≤ 2147483647 := hG16.pr 60 1
        have eq352 : Z43 60 2 = Z16 60 2 := (hf43 60 2 rfl)
        have b353 : 0 ≤ Z16 60 2 ∧ Z16 60 2 ≤ 18 := by have hq := GI_ex hG16 60 2; replace hq : f60 (2 % 962) (Z16 60 2) := hq; unfold f60 at hq; omega
        have b354 : (-2147483648) ≤ Z16 60 2 ∧ Z16 60 2 ≤ 2147483647 := hG16.pr 60 2
        exact c30 Z43 h43 (by omega) (by omega) (by omega) (by omega) (QR_le (rk43 (by omega)) (by decide)) hx43 hG43 fr_rf
      · skip
        refine mx_J.step (sn_172 25) (fun _ _ => rfl) ?_
        refine JcI (z := 2) (show mx_Sn _ _ 26 (mx_const (.int 2) 27) from sn_172 26) rfl ?_
        obtain ⟨Z355, h355, hc355, hx355, hG355, hf355, b355⟩ := ct_163_56 (d := d + 27) (l := l) (D := D) (b0 := b0) (ad := ad) (Hb := Hb) (tau := tau) hx43 hG43 (show 1 ≤ 2 ∧ 2 ≤ 4 by omega)
        have b356 : 0 ≤ Z355 56 11 ∧ Z355 56 11 ≤ 4 := hG355.pr 56 11
        have r355 : ¬ Z355 56 11 = 0 := by omega
        refine Jcv0 hx43 (show mx_Sn _ _ 27 (mx_callv 163 2 12 30) from sn_172 27) a56 s56 hc355 rfl rfl rfl ?_
        have eq357 : Z355 56 6 = Z43 56 6 := (hf355 56 6 rfl)
        have b358 : 0 ≤ Z43 56 6 ∧ Z43 56 6 ≤ 900 := hG43.pr 56 6
        have eq359 : Z355 56 7 = Z43 56 7 := (hf355 56 7 rfl)
        have b360 : 0 ≤ Z43 56 7 ∧ Z43 56 7 ≤ 900 := hG43.pr 56 7
        have eq361 : Z355 56 6 = Z43 56 6 := (hf355 56 6 rfl)
        have b362 : 0 ≤ Z43 56 6 ∧ Z43 56 6 ≤ 900 := hG43.pr 56 6
        have eq363 : Z355 56 7 = Z43 56 7 := (hf355 56 7 rfl)
        have b364 : 0 ≤ Z43 56 7 ∧ Z43 56 7 ≤ 900 := hG43.pr 56 7
        have eq365 : Z355 56 9 = Z43 56 9 := (hf355 56 9 rfl)
        have b366 : 0 ≤ Z43 56 9 ∧ Z43 56 9 ≤ 100 := hG43.pr 56 9
        have eq367 : Z355 56 6 = Z43 56 6 := (hf355 56 6 rfl)
        have b368 : 0 ≤ Z43 56 6 ∧ Z43 56 6 ≤ 900 := hG43.pr 56 6
        have eq369 : Z355 60 61 = Z16 60 61 := ((hf355 60 61 rfl).trans (hf43 60 61 rfl))
        have b370 : 0 ≤ Z16 60 61 ∧ Z16 60 61 ≤ 900 := by have hq := GI_ex hG16 60 61; replace hq : f60 (61 % 962) (Z16 60 61) := hq; unfold f60 at hq; omega
        have b371 : (-2147483648) ≤ Z16 60 61 ∧ Z16 60 61 ≤ 2147483647 := hG16.pr 60 61
        have eq372 : Z355 60 1 = Z16 60 1 := ((hf355 60 1 rfl).trans (hf43 60 1 rfl))
        have b373 : 0 ≤ Z16 60 1 ∧ Z16 60 1 ≤ 18 := by have hq := GI_ex hG16 60 1; replace hq : f60 (1 % 962) (Z16 60 1) := hq; unfold f60 at hq; omega
        have b374 : (-2147483648) ≤ Z16 60 1 ∧ Z16 60 1 ≤ 2147483647 := hG16.pr 60 1
        have eq375 : Z355 60 2 = Z16 60 2 := ((hf355 60 2 rfl).trans (hf43 60 2 rfl))
        have b376 : 0 ≤ Z16 60 2 ∧ Z16 60 2 ≤ 18 := by have hq := GI_ex hG16 60 2; replace hq : f60 (2 % 962) (Z16 60 2) := hq; unfold f60 at hq; omega
        have b377 : (-2147483648) ≤ Z16 60 2 ∧ Z16 60 2 ≤ 2147483647 := hG16.pr 60 2
        exact c30 Z355 h355 (by omega) (by omega) (by omega) (by omega) (QR_f r355) hx355 hG355 (fr_tr (M := [(56, 11), (56, 12)]) fr_rf (hf355) (M1 := []) rfl rfl)
    · skip
      have b378 : 0 ≤ Z1 56 6 ∧ Z1 56 6 ≤ 900 := hG1.pr 56 6
      have b379 : 0 ≤ Z1 56 7 ∧ Z1 56 7 ≤ 900 := hG1.pr 56 7
      have b380 : 0 ≤ Z1 56 9 ∧ Z1 56 9 ≤ 100 := hG1.pr 56 9
      have eq381 : Z1 56 11 = Z 56 11 := (hf1 56 11 rfl)
      have b382 : 0 ≤ Z 56 11 ∧ Z 56 11 ≤ 4 := hG.pr 56 11
      have eq383 : Z1 60 61 = Z 60 61 := (hf1 60 61 rfl)
      have b384 : 0 ≤ Z 60 61 ∧ Z 60 61 ≤ 900 := by have hq := GI_ex hG 60 61; replace hq : f60 (61 % 962) (Z 60 61) := hq; unfold f60 at hq; omega
      have b385 : (-2147483648) ≤ Z 60 61 ∧ Z 60 61 ≤ 2147483647 := hG.pr 60 61
      have eq386 : Z1 60 1 = Z 60 1 := (hf1 60 1 rfl)
      have b387 : 0 ≤ Z 60 1 ∧ Z 60 1 ≤ 18 := by have hq := GI_ex hG 60 1; replace hq : f60 (1 % 962) (Z 60 1) := hq; unfold f60 at hq; omega
      have b388 : (-2147483648) ≤ Z 60 1 ∧ Z 60 1 ≤ 2147483647 := hG.pr 60 1
      have eq389 : Z1 60 2 = Z 60 2 := (hf1 60 2 rfl)
      have b390 : 0 ≤ Z 60 2 ∧ Z 60 2 ≤ 18 := by have hq := GI_ex hG 60 2; replace hq : f60 (2 % 962) (Z 60 2) := hq; unfold f60 at hq; omega
      have b391 : (-2147483648) ≤ Z 60 2 ∧ Z 60 2 ≤ 2147483647 := hG.pr 60 2
      have b392 : 0 ≤ Z1 56 6 ∧ Z1 56 6 ≤ 900 := hG1.pr 56 6
      have b393 : 0 ≤ Z1 56 7 ∧ Z1 56 7 ≤ 900 := hG1.pr 56 7
      have eq394 : Z1 56 8 = Z 56 8 := (hf1 56 8 rfl)
      have b395 : 0 ≤ Z 56 8 ∧ Z 56 8 ≤ 900 := hG.pr 56 8
      have b396 : 0 ≤ Z1 56 9 ∧ Z1 56 9 ≤ 100 := hG1.pr 56 9
      have eq397 : Z1 56 11 = Z 56 11 := (hf1 56 11 rfl)
      have b398 : 0 ≤ Z 56 11 ∧ Z 56 11 ≤ 4 := hG.pr 56 11
      have eq399 : Z1 60 61 = Z 60 61 := (hf1 60 61 rfl)
      have b400 : 0 ≤ Z 60 61 ∧ Z 60 61 ≤ 900 := by have hq := GI_ex hG 60 61; replace hq : f60 (61 % 962) (Z 60 61) := hq; unfold f60 at hq; omega
      have b401 : (-2147483648) ≤ Z 60 61 ∧ Z 60 61 ≤ 2147483647 := hG.pr 60 61
      have eq402 : Z1 60 1 = Z 60 1 := (hf1 60 1 rfl)
      have b403 : 0 ≤ Z 60 1 ∧ Z 60 1 ≤ 18 := by have hq := GI_ex hG 60 1; replace hq : f60 (1 % 962) (Z 60 1) := hq; unfold f60 at hq; omega
      have b404 : (-2147483648) ≤ Z 60 1 ∧ Z 60 1 ≤ 2147483647 := hG.pr 60 1
      have eq405 : Z1 60 2 = Z 60 2 := (hf1 60 2 rfl)
      have b406 : 0 ≤ Z 60 2 ∧ Z 60 2 ≤ 18 := by have hq := GI_ex hG 60 2; replace hq : f60 (2 % 962) (Z 60 2) := hq; unfold f60 at hq; omega
      have b407 : (-2147483648) ≤ Z 60 2 ∧ Z 60 2 ≤ 2147483647 := hG.pr 60 2
      exact mx_J.ret (sn_172 8) (fun _ _ => rfl) (hP Z1 h1 hx1 hG1 (fr_tr (M := [(56, 6), (56, 7), (56, 9), (56, 10), (56, 11), (56, 12), (60, (-1))]) fr_rf (hf1) (M1 := []) rfl rfl) ⟨(QR_f (by omega)), by omega⟩)
theorem ct_172_56_i3 {l : Launch} {D : va_G} {b0 : Nat} {ad : Nat → Nat} {Hb : Heap} {tau : Nat → Int64} {d n s : Nat} {S : Nat → xS} {Z : xZ} {h : mx_H} {a0 : Int} (hx : XH n s S Z h) (hG : GI n S Z)   (k0 : (Z 56 6 ≤ Z 56 7 ∧ Z 56 7 ≤ Z 56 8 ∧ (Z 56 9 = 24 ∨ Z 56 6 < Z 56 7))) (k1 : Z 60 61 ≤ Z 56 6) (k2 : a0 ≤ Z 60 61) (k3 : 0 ≤ a0) (k4 : ¬ Z 56 9 = 24) : ∃ (Z' : xZ) (h' : mx_H), mx_Ca (tB l D b0 ad Hb tau) (d + 29) 172 [.ref 56, xI 3] h (none, h') ∧ XH n s S Z' h' ∧ GI n S Z' ∧ fr' [(56, 6), (56, 7), (56, 9), (56, 10), (56, 11), (56, 12), (60, (-1))] Z Z' ∧ (QR Z Z' a0 1 0 ∧ ((Z' 56 6 ≤ Z' 56 7 ∧ Z' 56 7 ≤ Z 56 8 ∧ (Z' 56 9 = 24 ∨ Z' 56 6 < Z' 56 7)) ∧ Z' 60 1 = Z 60 1 ∧ Z' 60 2 = Z 60 2 ∧ Z 56 6 ≤ Z' 56 6 ∧ Z 60 61 ≤ Z' 60 61 ∧ Z' 60 61 - Z 60 61 ≤ Z' 56 6 - Z 56 6)) := by
  obtain ⟨r, hca, Z', h', e, q⟩ := Jmt (B := tB l D b0 ad Hb tau) (M := mt_172) (mi := 172) (as := [.ref 56, xI 3]) (d := d + 28) (ls := [some (.ref 56), some (xI 3)]) rfl rfl rfl rfl rfl rfl (cw_172_56_i3 (l := l) (D := D) (b0 := b0) (ad := ad) (Hb := Hb) (tau := tau) (d := d) (Post := fun r => ∃ (Z' : xZ) (h' : mx_H), r = (none, h') ∧ XH n s S Z' h' ∧ GI n S Z' ∧ fr' [(56, 6), (56, 7), (56, 9), (56, 10), (56, 11), (56, 12), (60, (-1))] Z Z' ∧ (QR Z Z' a0 1 0 ∧ ((Z' 56 6 ≤ Z' 56 7 ∧ Z' 56 7 ≤ Z 56 8 ∧ (Z' 56 9 = 24 ∨ Z' 56 6 < Z' 56 7)) ∧ Z' 60 1 = Z 60 1 ∧ Z' 60 2 = Z 60 2 ∧ Z 56 6 ≤ Z' 56 6 ∧ Z 60 61 ≤ Z' 60 61 ∧ Z' 60 61 - Z 60 61 ≤ Z' 56 6 - Z 56 6))) hx hG k0 k1 k2 k3 k4 (fun Z' h' q1 q2 q3 q4 => ⟨Z', h', rfl, q1, q2, q3, q4⟩))
  subst e; exact ⟨Z', h', hca, q⟩
set_option maxHeartbeats 8000000 in
set_option maxRecDepth 100000 in
theorem cw_171_56_i3 {l : Launch} {D : va_G} {b0 : Nat} {ad : Nat → Nat} {Hb : Heap} {tau : Nat → Int64} {d n s : Nat} {S : Nat → xS} {Z : xZ} {h : mx_H} {Post : mx_R → Prop} {a0 : Int} (hx : XH n s S Z h) (hG : GI n S Z)   (k0 : (Z 56 6 ≤ Z 56 7 ∧ Z 56 7 ≤ Z 56 8 ∧ (Z 56 9 = 24 ∨ Z 56 6 < Z 56 7))) (k1 : Z 60 61 ≤ Z 56 6) (k2 : a0 ≤ Z 60 61) (k3 : 0 ≤ a0) (hP : ∀ (Z' : xZ) (h' : mx_H), XH n s S Z' h' → GI n S Z' → fr' [(56, 6), (56, 7), (56, 9), (56, 10), (56, 11), (56, 12), (60, (-1))] Z Z' → QR Z Z' a0 1 0 ∧ ((Z' 56 6 ≤ Z' 56 7 ∧ Z' 56 7 ≤ Z 56 8 ∧ (Z' 56 9 = 24 ∨ Z' 56 6 < Z' 56 7)) ∧ Z' 60 1 = Z 60 1 ∧ Z' 60 2 = Z 60 2 ∧ Z 56 6 ≤ Z' 56 6 ∧ Z 60 61 ≤ Z' 60 61 ∧ Z' 60 61 - Z 60 61 ≤ Z' 56 6 - Z 56 6) → Post (none, h')) : mx_J (tB l D b0 ad Hb tau) mt_171 (d + 29) 0 [some (.ref 56), some (xI 3)] [] h Post := by
    have a56 : 56 < n := lt83 (GI_n hG) rfl
    have s56 : S 56 = .inl (12, [0, 2, 2, 2, 2, 0, 0, 0, 0, 0, 0, 0, 0, 0, 0, 2, 2, 2, 0, 2, 2, 2, 0, 0, 2, 2, 2, 2, 2, 2, 0, 0, 2, 2, 2, 2, 2, 2, 2, 2, 2, 2]) := GI_s hG 56 rfl
    refine mx_J.step (sn_171 0) (fun _ _ => rfl) ?_
    refine JcI (z := 23) (show mx_Sn _ _ 1 (mx_const (.int 23) 3) from sn_171 1) rfl ?_
    have b2 : 0 ≤ Z 56 9 ∧ Z 56 9 ≤ 100 := hG.pr 56 9
    have b3 : 0 ≤ Z 56 11 ∧ Z 56 11 ≤ 4 := hG.pr 56 11
    obtain ⟨z1, hc1, b1⟩ := ct_164_56 (d := d + 28) (l := l) (D := D) (b0 := b0) (ad := ad) (Hb := Hb) (tau := tau) hx hG (show 0 ≤ 23 ∧ 23 ≤ 100 by omega)
    refine Jcv hx (show mx_Sn _ _ 3 (mx_callv 164 2 12 6) from sn_171 3) a56 s56 hc1 rfl rfl rfl ?_
    have c129 : ∀  (Z5 : xZ) (h5 : mx_H), (Z5 56 6 ≤ Z5 56 7 ∧ Z5 56 7 ≤ Z 56 8) → (Z5 56 9 = 24 ∨ Z5 56 6 < Z5 56 7) → (Z 56 6 ≤ Z5 56 6 ∧ Z 60 61 ≤ Z5 60 61 ∧ Z5 60 61 - Z 60 61 ≤ Z5 56 6 - Z 56 6) → (Z5 60 1 = Z 60 1 ∧ Z5 60 2 = Z 60 2) → QR Z Z5 a0 1 0 → XH n s S Z5 h5 → GI n S Z5 → fr' [(56, 6), (56, 7), (56, 9), (56, 10), (56, 11), (56, 12), (60, (-1))] Z Z5 → mx_J (tB l D b0 ad Hb tau) mt_171 (d + 29) 129 [some (.ref 56), some (xI 3)] [] h5 Post := by
      intro Z5 h5 f4_0 f4_1 f4_2 f4_3 f4_4 hx5 hG5 hf5
      have b6 : 0 ≤ Z5 56 6 ∧ Z5 56 6 ≤ 900 := hG5.pr 56 6
      have b7 : 0 ≤ Z5 56 7 ∧ Z5 56 7 ≤ 900 := hG5.pr 56 7
      have b8 : 0 ≤ Z5 56 6 ∧ Z5 56 6 ≤ 900 := hG5.pr 56 6
      have b9 : 0 ≤ Z5 56 7 ∧ Z5 56 7 ≤ 900 := hG5.pr 56 7
      have b10 : 0 ≤ Z5 56 9 ∧ Z5 56 9 ≤ 100 := hG5.pr 56 9
      have b11 : 0 ≤ Z5 56 6 ∧ Z5 56 6 ≤ 900 := hG5.pr 56 6
      have b12 : 0 ≤ Z5 60 61 ∧ Z5 60 61 ≤ 900 := by have hq := GI_ex hG5 60 61; replace hq : f60 (61 % 962) (Z5 60 61) := hq; unfold f60 at hq; omega
      have b13 : (-2147483648) ≤ Z5 60 61 ∧ Z5 60 61 ≤ 2147483647 := hG5.pr 60 61
      have b14 : 0 ≤ Z5 60 1 ∧ Z5 60 1 ≤ 18 := by have hq := GI_ex hG5 60 1; replace hq : f60 (1 % 962) (Z5 60 1) := hq; unfold f60 at hq; omega
      have b15 : (-2147483648) ≤ Z5 60 1 ∧ Z5 60 1 ≤ 2147483647 := hG5.pr 60 1
      have b16 : 0 ≤ Z5 60 2 ∧ Z5 60 2 ≤ 18 := by have hq := GI_ex hG5 60 2; replace hq : f60 (2 % 962) (Z5 60 2) := hq; unfold f60 at hq; omega
      have b17 : (-2147483648) ≤ Z5 60 2 ∧ Z5 60 2 ≤ 2147483647 := hG5.pr 60 2
      have b18 : 0 ≤ Z5 56 6 ∧ Z5 56 6 ≤ 900 := hG5.pr 56 6
      have b19 : 0 ≤ Z5 56 7 ∧ Z5 56 7 ≤ 900 := hG5.pr 56 7
      have b20 : 0 ≤ Z5 56 9 ∧ Z5 56 9 ≤ 100 := hG5.pr 56 9
      have b21 : 0 ≤ Z5 56 11 ∧ Z5 56 11 ≤ 4 := hG5.pr 56 11
      have b22 : 0 ≤ Z5 60 61 ∧ Z5 60 61 ≤ 900 := by have hq := GI_ex hG5 60 61; replace hq : f60 (61 % 962) (Z5 60 61) := hq; unfold f60 at hq; omega
      have b23 : (-2147483648) ≤ Z5 60 61 ∧ Z5 60 61 ≤ 2147483647 := hG5.pr 60 61
      have b24 : 0 ≤ Z5 60 1 ∧ Z5 60 1 ≤ 18 := by have hq := GI_ex hG5 60 1; replace hq : f60 (1 % 962) (Z5 60 1) := hq; unfold f60 at hq; omega
      have b25 : (-2147483648) ≤ Z5 60 1 ∧ Z5 60 1 ≤ 2147483647 := hG5.pr 60 1
      have b26 : 0 ≤ Z5 60 2 ∧ Z5 60 2 ≤ 18 := by have hq := GI_ex hG5 60 2; replace hq : f60 (2 % 962) (Z5 60 2) := hq; unfold f60 at hq; omega
      have b27 : (-2147483648) ≤ Z5 60 2 ∧ Z5 60 2 ≤ 2147483647 := hG5.pr 60 2
      have b28 : 0 ≤ Z5 56 6 ∧ Z5 56 6 ≤ 900 := hG5.pr 56 6
      have b29 : 0 ≤ Z5 56 7 ∧ Z5 56 7 ≤ 900 := hG5.pr 56 7
      have eq30 : Z5 56 8 = Z 56 8 := (hf5 56 8 rfl)
      have b31 : 0 ≤ Z 56 8 ∧ Z 56 8 ≤ 900 := hG.pr 56 8
      have b32 : 0 ≤ Z5 56 9 ∧ Z5 56 9 ≤ 100 := hG5.pr 56 9
      have b33 : 0 ≤ Z5 56 11 ∧ Z5 56 11 ≤ 4 := hG5.pr 56 11
      have b34 : 0 ≤ Z5 60 61 ∧ Z5 60 61 ≤ 900 := by have hq := GI_ex hG5 60 61; replace hq : f60 (61 % 962) (Z5 60 61) := hq; unfold f60 at hq; omega
      have b35 : (-2147483648) ≤ Z5 60 61 ∧ Z5 60 61 ≤ 2147483647 := hG5.pr 60 61
      have b36 : 0 ≤ Z5 60 1 ∧ Z5 60 1 ≤ 18 := by have hq := GI_ex hG5 60 1; replace hq : f60 (1 % 962) (Z5 60 1) := hq; unfold f60 at hq; omega
      have b37 : (-2147483648) ≤ Z5 60 1 ∧ Z5 60 1 ≤ 2147483647 := hG5.pr 60 1
      have b38 : 0 ≤ Z5 60 2 ∧ Z5 60 2 ≤ 18 := by have hq := GI_ex hG5 60 2; replace hq : f60 (2 % 962) (Z5 60 2) := hq; unfold f60 at hq; omega
      have b39 : (-2147483648) ≤ Z5 60 2 ∧ Z5 60 2 ≤ 2147483647 := hG5.pr 60 2
      exact mx_J.ret (sn_171 129) (fun _ _ => rfl) (hP Z5 h5 hx5 hG5 (fr_tr (M := [(56, 6), (56, 7), (56, 9), (56, 10), (56, 11), (56, 12), (60, (-1))]) fr_rf (hf5) (M1 := []) rfl rfl) ⟨(QR_le f4_4 (by decide)), by omega⟩)
    refine Jif_eq (show mx_Sn _ _ 6 (mx_if_eq 24 9) from sn_171 6) (by omega) (fun q40 => ?_) (fun q40 => ?_)
    · skip
      refine mx_J.step (sn_171 24) (fun _ _ => rfl) ?_
      have b42 : 0 ≤ Z 56 11 ∧ Z 56 11 ≤ 4 := hG.pr 56 11
      refine JgetI (g := 11) (z := Z 56 11) hx (show mx_Sn _ _ 25 (mx_getf 12 11 28) from sn_171 25) a56 s56 rfl rfl rfl ?_
      have c66 : mx_J (tB l D b0 ad Hb tau) mt_171 (d + 29) 66 [some (.ref 56), some (xI 3)] [] h Post := by
        refine mx_J.step (sn_171 66) (fun _ _ => rfl) ?_
        refine JcI (z := 35) (show mx_Sn _ _ 67 (mx_const (.int 35) 69) from sn_171 67) rfl ?_
        have b45 : 0 ≤ Z 56 9 ∧ Z 56 9 ≤ 100 := hG.pr 56 9
        have b46 : 0 ≤ Z 56 11 ∧ Z 56 11 ≤ 4 := hG.pr 56 11
        obtain ⟨z44, hc44, b44⟩ := ct_164_56 (d := d + 28) (l := l) (D := D) (b0 := b0) (ad := ad) (Hb := Hb) (tau := tau) hx hG (show 0 ≤ 35 ∧ 35 ≤ 100 by omega)
        refine Jcv hx (show mx_Sn _ _ 69 (mx_callv 164 2 12 72) from sn_171 69) a56 s56 hc44 rfl rfl rfl ?_
        refine Jif_eq (show mx_Sn _ _ 72 (mx_if_eq 108 75) from sn_171 72) (by omega) (fun q47 => ?_) (fun q47 => ?_)
        · skip
          refine mx_J.step (sn_171 108) (fun _ _ => rfl) ?_
          refine JcI (z := 5) (show mx_Sn _ _ 109 (mx_const (.int 5) 110) from sn_171 109) rfl ?_
          have b49 : 0 ≤ Z 56 9 ∧ Z 56 9 ≤ 100 := hG.pr 56 9
          have b50 : 0 ≤ Z 56 11 ∧ Z 56 11 ≤ 4 := hG.pr 56 11
          obtain ⟨z48, hc48, b48⟩ := ct_164_56 (d := d + 28) (l := l) (D := D) (b0 := b0) (ad := ad) (Hb := Hb) (tau := tau) hx hG (show 0 ≤ 5 ∧ 5 ≤ 100 by omega)
          refine Jcv hx (show mx_Sn _ _ 110 (mx_callv 164 2 12 113) from sn_171 110) a56 s56 hc48 rfl rfl rfl ?_
          refine Jif_eq (show mx_Sn _ _ 113 (mx_if_eq 124 116) from sn_171 113) (by omega) (fun q51 => ?_) (fun q51 => ?_)
          · skip
            refine mx_J.step (sn_171 124) (fun _ _ => rfl) ?_
            refine JcI (z := 2) (show mx_Sn _ _ 125 (mx_const (.int 2) 126) from sn_171 125) rfl ?_
            obtain ⟨Z52, h52, hc52, hx52, hG52, hf52, b52⟩ := ct_163_56 (d := d + 28) (l := l) (D := D) (b0 := b0) (ad := ad) (Hb := Hb) (tau := tau) hx hG (show 1 ≤ 2 ∧ 2 ≤ 4 by omega)
            have b53 : 0 ≤ Z52 56 11 ∧ Z52 56 11 ≤ 4 := hG52.pr 56 11
            have r52 : ¬ Z52 56 11 = 0 := by omega
            refine Jcv0 hx (show mx_Sn _ _ 126 (mx_callv 163 2 12 129) from sn_171 126) a56 s56 hc52 rfl rfl rfl ?_
            have eq54 : Z52 56 6 = Z 56 6 := (hf52 56 6 rfl)
            have b55 : 0 ≤ Z 56 6 ∧ Z 56 6 ≤ 900 := hG.pr 56 6
            have eq56 : Z52 56 7 = Z 56 7 := (hf52 56 7 rfl)
            have b57 : 0 ≤ Z 56 7 ∧ Z 56 7 ≤ 900 := hG.pr 56 7
            have eq58 : Z52 56 6 = Z 56 6 := (hf52 56 6 rfl)
            have b59 : 0 ≤ Z 56 6 ∧ Z 56 6 ≤ 900 := hG.pr 56 6
            have eq60 : Z52 56 7 = Z 56 7 := (hf52 56 7 rfl)
            have b61 : 0 ≤ Z 56 7 ∧ Z 56 7 ≤ 900 := hG.pr 56 7
            have eq62 : Z52 56 9 = Z 56 9 := (hf52 56 9 rfl)
            have b63 : 0 ≤ Z 56 9 ∧ Z 56 9 ≤ 100 := hG.pr 56 9
            have eq64 : Z52 56 6 = Z 56 6 := (hf52 56 6 rfl)
            have b65 : 0 ≤ Z 56 6 ∧ Z 56 6 ≤ 900 := hG.pr 56 6
            have eq66 : Z52 60 61 = Z 60 61 := (hf52 60 61 rfl)
            have b67 : 0 ≤ Z 60 61 ∧ Z 60 61 ≤ 900 := by have hq := GI_ex hG 60 61; replace hq : f60 (61 % 962) (Z 60 61) := hq; unfold f60 at hq; omega
            have b68 : (-2147483648) ≤ Z 60 61 ∧ Z 60 61 ≤ 2147483647 := hG.pr 60 61
            have eq69 : Z52 60 1 = Z 60 1 := (hf52 60 1 rfl)
            have b70 : 0 ≤ Z 60 1 ∧ Z 60 1 ≤ 18 := by have hq := GI_ex hG 60 1; replace hq : f60 (1 % 962) (Z 60 1) := hq; unfold f60 at hq; omega
            have b71 : (-2147483648) ≤ Z 60 1 ∧ Z 60 1 ≤ 2147483647 := hG.pr 60 1
            have eq72 : Z52 60 2 = Z 60 2 := (hf52 60 2 rfl)
            have b73 : 0 ≤ Z 60 2 ∧ Z 60 2 ≤ 18 := by have hq := GI_ex hG 60 2; replace hq : f60 (2 % 962) (Z 60 2) := hq; unfold f60 at hq; omega
            have b74 : (-2147483648) ≤ Z 60 2 ∧ Z 60 2 ≤ 2147483647 := hG.pr 60 2
            exact c129 Z52 h52 (by omega) (by omega) (by omega) (by omega) (QR_f r52) hx52 hG52 (fr_tr (M := [(56, 6), (56, 7), (56, 9), (56, 10), (56, 11), (56, 12), (60, (-1))]) fr_rf (hf52) (M1 := []) rfl rfl)
          · skip
            refine mx_J.step (sn_171 116) (fun _ _ => rfl) ?_
            refine mx_J.step (sn_171 117) (fun _ _ => rfl) ?_
            have b76 : 0 ≤ Z 56 6 ∧ Z 56 6 ≤ 900 := hG.pr 56 6
            have b77 : 0 ≤ Z 56 7 ∧ Z 56 7 ≤ 900 := hG.pr 56 7
            have b78 : 0 ≤ Z 56 8 ∧ Z 56 8 ≤ 900 := hG.pr 56 8
            have b79 : 0 ≤ Z 56 9 ∧ Z 56 9 ≤ 100 := hG.pr 56 9
            have b80 : 0 ≤ Z 56 11 ∧ Z 56 11 ≤ 4 := hG.pr 56 11
            have b81 : 0 ≤ Z 60 61 ∧ Z 60 61 ≤ 900 := by have hq := GI_ex hG 60 61; replace hq : f60 (61 % 962) (Z 60 61) := hq; unfold f60 at hq; omega
            have b82 : (-2147483648) ≤ Z 60 61 ∧ Z 60 61 ≤ 2147483647 := hG.pr 60 61
            have b83 : 0 ≤ Z 60 1 ∧ Z 60 1 ≤ 18 := by have hq := GI_ex hG 60 1; replace hq : f60 (1 % 962) (Z 60 1) := hq; unfold f60 at hq; omega
            have b84 : (-2147483648) ≤ Z 60 1 ∧ Z 60 1 ≤ 2147483647 := hG.pr 60 1
            have b85 : 0 ≤ Z 60 2 ∧ Z 60 2 ≤ 18 := by have hq := GI_ex hG 60 2; replace hq : f60 (2 % 962) (Z 60 2) := hq; unfold f60 at hq; omega
            have b86 : (-2147483648) ≤ Z 60 2 ∧ Z 60 2 ≤ 2147483647 := hG.pr 60 2
            obtain ⟨Z75, h75, hc75, hx75, hG75, hf75, b75⟩ := ct_172_56_i3 (a0 := a0) (d := d + 0) (l := l) (D := D) (b0 := b0) (ad := ad) (Hb := Hb) (tau := tau) hx hG  (show (Z 56 6 ≤ Z 56 7 ∧ Z 56 7 ≤ Z 56 8 ∧ (Z 56 9 = 24 ∨ Z 56 6 < Z 56 7)) by omega) (show Z 60 61 ≤ Z 56 6 by omega) (show a0 ≤ Z 60 61 by omega) (show 0 ≤ a0 by omega) (show ¬ Z 56 9 = 24 by omega)
            obtain ⟨bq75, b75⟩ := b75
            have b87 : 0 ≤ Z75 56 6 ∧ Z75 56 6 ≤ 900 := hG75.pr 56 6
            have b88 : 0 ≤ Z75 56 7 ∧ Z75 56 7 ≤ 900 := hG75.pr 56 7
            have b89 : 0 ≤ Z75 56 9 ∧ Z75 56 9 ≤ 100 := hG75.pr 56 9
            have b90 : 0 ≤ Z75 56 11 ∧ Z75 56 11 ≤ 4 := hG75.pr 56 11
            have b91 : 0 ≤ Z75 60 61 ∧ Z75 60 61 ≤ 900 := by have hq := GI_ex hG75 60 61; replace hq : f60 (61 % 962) (Z75 60 61) := hq; unfold f60 at hq; omega
            have b92 : (-2147483648) ≤ Z75 60 61 ∧ Z75 60 61 ≤ 2147483647 := hG75.pr 60 61
            have b93 : 0 ≤ Z75 60 1 ∧ Z75 60 1 ≤ 18 := by have hq := GI_ex hG75 60 1; replace hq : f60 (1 % 962) (Z75 60 1) := hq; unfold f60 at hq; omega
            have b94 : (-2147483648) ≤ Z75 60 1 ∧ Z75 60 1 ≤ 2147483647 := hG75.pr 60 1
            have b95 : 0 ≤ Z75 60 2 ∧ Z75 60 2 ≤ 18 := by have hq := GI_ex hG75 60 2; replace hq : f60 (2 % 962) (Z75 60 2) := hq; unfold f60 at hq; omega
            have b96 : (-2147483648) ≤ Z75 60 2 ∧ Z75 60 2 ≤ 2147483647 := hG75.pr 60 2
            have r75 := QR_tr (d := 1) (c := 0) (QR_rf (Z := Z) (a := a0)) bq75 (by decide) (by decide) (by decide)
            refine Jcv0 hx (show mx_Sn _ _ 118 (mx_callv 172 2 12 121) from sn_171 118) a56 s56 hc75 rfl rfl rfl ?_
            refine mx_J.step (sn_171 121) (fun _ _ => rfl) ?_
            have b97 : 0 ≤ Z75 56 6 ∧ Z75 56 6 ≤ 900 := hG75.pr 56 6
            have b98 : 0 ≤ Z75 56 7 ∧ Z75 56 7 ≤ 900 := hG75.pr 56 7
            have b99 : 0 ≤ Z75 56 6 ∧ Z75 56 6 ≤ 900 := hG75.pr 56 6
            have b100 : 0 ≤ Z75 56 7 ∧ Z75 56 7 ≤ 900 := hG75.pr 56 7
            have b101 : 0 ≤ Z75 56 9 ∧ Z75 56 9 ≤ 100 := hG75.pr 56 9
            have b102 : 0 ≤ Z75 56 6 ∧ Z75 56 6 ≤ 900 := hG75.pr 56 6
            have b103 : 0 ≤ Z75 60 61 ∧ Z75 60 61 ≤ 900 := by have hq := GI_ex hG75 60 61; replace hq : f60 (61 % 962) (Z75 60 61) := hq; unfold f60 at hq; omega
            have b104 : (-2147483648) ≤ Z75 60 61 ∧ Z75 60 61 ≤ 2147483647 := hG75.pr 60 61
            have b105 : 0 ≤ Z75 60 1 ∧ Z75 60 1 ≤ 18 := by have hq := GI_ex hG75 60 1; replace hq : f60 (1 % 962) (Z75 60 1) := hq; unfold f60 at hq; omega
            have b106 : (-2147483648) ≤ Z75 60 1 ∧ Z75 60 1 ≤ 2147483647 := hG75.pr 60 1
            have b107 : 0 ≤ Z75 60 2 ∧ Z75 60 2 ≤ 18 := by have hq := GI_ex hG75 60 2; replace hq : f60 (2 % 962) (Z75 60 2) := hq; unfold f60 at hq; omega
            have b108 : (-2147483648) ≤ Z75 60 2 ∧ Z75 60 2 ≤ 2147483647 := hG75.pr 60 2
            exact c129 Z75 h75 (by omega) (by omega) (by omega) (by omega) (QR_le r75 (by decide)) hx75 hG75 (fr_tr (M := [(56, 6), (56, 7), (56, 9), (56, 10), (56, 11), (56, 12), (60, (-1))]) fr_rf (hf75) (M1 := []) rfl rfl)
        · skip
          refine mx_J.step (sn_171 75) (fun _ _ => rfl) ?_
          refine mx_J.step (sn_171 76) (fun _ _ => rfl) ?_
          have b110 : 0 ≤ Z 56 6 ∧ Z 56 6 ≤ 900 := hG.pr 56 6
          have b111 : 0 ≤ Z 56 7 ∧ Z 56 7 ≤ 900 := hG.pr 56 7
          have b112 : 0 ≤ Z 56 8 ∧ Z 56 8 ≤ 900 := hG.pr 56 8
          have b113 : 0 ≤ Z 56 9 ∧ Z 56 9 ≤ 100 := hG.pr 56 9
          have b114 : 0 ≤ Z 56 11 ∧ Z 56 11 ≤ 4 := hG.pr 56 11
          obtain ⟨z109, Z109, h109, hc109, hx109, hG109, hf109, b109⟩ := ct_170_56 (d := d + 22) (l := l) (D := D) (b0 := b0) (ad := ad) (Hb := Hb) (tau := tau) hx hG (show 0 ≤ 3 ∧ 3 ≤ 5 by omega) (show (Z 56 6 ≤ Z 56 7 ∧ Z 56 7 ≤ Z 56 8 ∧ (Z 56 9 = 24 ∨ Z 56 6 < Z 56 7)) by omega) (show ¬ Z 56 9 = 24 by omega)
          have b115 : 0 ≤ Z109 56 6 ∧ Z109 56 6 ≤ 900 := hG109.pr 56 6
          have b116 : 0 ≤ Z109 56 7 ∧ Z109 56 7 ≤ 900 := hG109.pr 56 7
          have b117 : 0 ≤ Z109 56 9 ∧ Z109 56 9 ≤ 100 := hG109.pr 56 9
          have eq118 : Z109 56 11 = Z 56 11 := (hf109 56 11 rfl)
          have b119 : 0 ≤ Z 56 11 ∧ Z 56 11 ≤ 4 := hG.pr 56 11
          have b120 : 0 ≤ Z 56 6 ∧ Z 56 6 ≤ 900 := hG.pr 56 6
          have b121 : 0 ≤ Z 56 11 ∧ Z 56 11 ≤ 4 := hG.pr 56 11
          have b122 : 0 ≤ Z 56 9 ∧ Z 56 9 ≤ 100 := hG.pr 56 9
          have r109 := QR_g (k := 1) (c2 := 1) (QR_rf (Z := Z) (a := a0)) (fun e => (hf109 56 11 rfl).symm.trans e) (fun i => hf109 60 i rfl) (fun e => by omega) (by decide)
          refine Jcv hx (show mx_Sn _ _ 77 (mx_callv 170 2 12 80) from sn_171 77) a56 s56 hc109 rfl rfl rfl ?_
          refine Jif_ne (show mx_Sn _ _ 80 (mx_if_ne 84 83) from sn_171 80) (by omega) (fun q123 => ?_) (fun q123 => ?_)
          · skip
            refine mx_J.step (sn_171 84) (fun _ _ => rfl) ?_
            refine mx_J.step (sn_171 85) (fun _ _ => rfl) ?_
            refine JcI (z := 1) (show mx_Sn _ _ 86 (mx_const (.int 1) 87) from sn_171 86) rfl ?_
            refine JiaddE (r := 4) (show mx_Sn _ _ 87 (mx_iadd 88) from sn_171 87) (by decide) ?_
            have b125 : 0 ≤ Z109 56 6 ∧ Z109 56 6 ≤ 900 := hG109.pr 56 6
            have b126 : 0 ≤ Z109 56 7 ∧ Z109 56 7 ≤ 900 := hG109.pr 56 7
            have eq127 : Z109 56 8 = Z 56 8 := (hf109 56 8 rfl)
            have b128 : 0 ≤ Z 56 8 ∧ Z 56 8 ≤ 900 := hG.pr 56 8
            have b129 : 0 ≤ Z109 56 9 ∧ Z109 56 9 ≤ 100 := hG109.pr 56 9
            have eq130 : Z109 56 11 = Z 56 11 := (hf109 56 11 rfl)
            have b131 : 0 ≤ Z 56 11 ∧ Z 56 11 ≤ 4 := hG.pr 56 11
            have eq132 : Z109 60 61 = Z 60 61 := (hf109 60 61 rfl)
            have b133 : 0 ≤ Z 60 61 ∧ Z 60 61 ≤ 900 := by have hq := GI_ex hG 60 61; replace hq : f60 (61 % 962) (Z 60 61) := hq; unfold f60 at hq; omega
            have b134 : (-2147483648) ≤ Z 60 61 ∧ Z 60 61 ≤ 2147483647 := hG.pr 60 61
            have eq135 : Z109 60 1 = Z 60 1 := (hf109 60 1 rfl)
            have b136 : 0 ≤ Z 60 1 ∧ Z 60 1 ≤ 18 := by have hq := GI_ex hG 60 1; replace hq : f60 (1 % 962) (Z 60 1) := hq; unfold f60 at hq; omega
            have b137 : (-2147483648) ≤ Z 60 1 ∧ Z 60 1 ≤ 2147483647 := hG.pr 60 1
            have eq138 : Z109 60 2 = Z 60 2 := (hf109 60 2 rfl)
            have b139 : 0 ≤ Z 60 2 ∧ Z 60 2 ≤ 18 := by have hq := GI_ex hG 60 2; replace hq : f60 (2 % 962) (Z 60 2) := hq; unfold f60 at hq; omega
            have b140 : (-2147483648) ≤ Z 60 2 ∧ Z 60 2 ≤ 2147483647 := hG.pr 60 2
            obtain ⟨Z124, h124, hc124, hx124, hG124, hf124, b124⟩ := ct_174_56_i4 (a0 := a0) (d := d + 4) (l := l) (D := D) (b0 := b0) (ad := ad) (Hb := Hb) (tau := tau) hx109 hG109  (show (Z109 56 6 ≤ Z109 56 7 ∧ Z109 56 7 ≤ Z109 56 8 ∧ (Z109 56 9 = 24 ∨ Z109 56 6 < Z109 56 7)) by first | omega | (simp only [eq127, eq130, eq132, eq135, eq138]; omega)) (show Z109 60 61 ≤ Z109 56 6 by first | omega | (simp only [eq127, eq130, eq132, eq135, eq138]; omega)) (show a0 ≤ Z109 60 61 by first | omega | (simp only [eq127, eq130, eq132, eq135, eq138]; omega)) (show 0 ≤ a0 by first | omega | (simp only [eq127, eq130, eq132, eq135, eq138]; omega))
            try rw [eq127] at b124
            try rw [eq130] at b124
            try rw [eq132] at b124
            try rw [eq135] at b124
            try rw [eq138] at b124
            obtain ⟨bq124, b124⟩ := b124
            have b141 : 0 ≤ Z124 56 6 ∧ Z124 56 6 ≤ 900 := hG124.pr 56 6
            have b142 : 0 ≤ Z124 56 7 ∧ Z124 56 7 ≤ 900 := hG124.pr 56 7
            have b143 : 0 ≤ Z124 56 9 ∧ Z124 56 9 ≤ 100 := hG124.pr 56 9
            have b144 : 0 ≤ Z124 56 11 ∧ Z124 56 11 ≤ 4 := hG124.pr 56 11
            have b145 : 0 ≤ Z124 60 61 ∧ Z124 60 61 ≤ 900 := by have hq := GI_ex hG124 60 61; replace hq : f60 (61 % 962) (Z124 60 61) := hq; unfold f60 at hq; omega
            have b146 : (-2147483648) ≤ Z124 60 61 ∧ Z124 60 61 ≤ 2147483647 := hG124.pr 60 61
            have b147 : 0 ≤ Z124 60 1 ∧ Z124 60 1 ≤ 18 := by have hq := GI_ex hG124 60 1; replace hq : f60 (1 % 962) (Z124 60 1) := hq; unfold f60 at hq; omega
            have b148 : (-2147483648) ≤ Z124 60 1 ∧ Z124 60 1 ≤ 2147483647 := hG124.pr 60 1
            have b149 : 0 ≤ Z124 60 2 ∧ Z124 60 2 ≤ 18 := by have hq := GI_ex hG124 60 2; replace hq : f60 (2 % 962) (Z124 60 2) := hq; unfold f60 at hq; omega
            have b150 : (-2147483648) ≤ Z124 60 2 ∧ Z124 60 2 ≤ 2147483647 := hG124.pr 60 2
            have r124 := QR_tr (d := 1) (c := 1) r109 bq124 (by decide) (by decide) (by decide)
            refine Jcv0 hx109 (show mx_Sn _ _ 88 (mx_callv 174 2 12 91) from sn_171 88) a56 s56 hc124 rfl rfl rfl ?_
            refine mx_J.step (sn_171 91) (fun _ _ => rfl) ?_
            refine JcI (z := 36) (show mx_Sn _ _ 92 (mx_const (.int 36) 94) from sn_171 92) rfl ?_
            have b152 : 0 ≤ Z124 56 6 ∧ Z124 56 6 ≤ 900 := hG124.pr 56 6
            have b153 : 0 ≤ Z124 56 7 ∧ Z124 56 7 ≤ 900 := hG124.pr 56 7
            have eq154 : Z124 56 8 = Z 56 8 := ((hf124 56 8 rfl).trans (hf109 56 8 rfl))
            have b155 : 0 ≤ Z 56 8 ∧ Z 56 8 ≤ 900 := hG.pr 56 8
            have b156 : 0 ≤ Z124 56 9 ∧ Z124 56 9 ≤ 100 := hG124.pr 56 9
            have b157 : 0 ≤ Z124 56 11 ∧ Z124 56 11 ≤ 4 := hG124.pr 56 11
            obtain ⟨z151, Z151, h151, hc151, hx151, hG151, hf151, b151⟩ := ct_165_56 (d := d + 22) (l := l) (D := D) (b0 := b0) (ad := ad) (Hb := Hb) (tau := tau) hx124 hG124 (show 0 ≤ 36 ∧ 36 ≤ 100 by omega) (show (Z124 56 6 ≤ Z124 56 7 ∧ Z124 56 7 ≤ Z124 56 8 ∧ (Z124 56 9 = 24 ∨ Z124 56 6 < Z124 56 7)) by first | omega | (simp only [eq154]; omega)) (show ¬ 36 = 24 by first | omega | (simp only [eq154]; omega))
            try rw [eq154] at b151
            have b158 : 0 ≤ Z151 56 6 ∧ Z151 56 6 ≤ 900 := hG151.pr 56 6
            have b159 : 0 ≤ Z151 56 7 ∧ Z151 56 7 ≤ 900 := hG151.pr 56 7
            have b160 : 0 ≤ Z151 56 9 ∧ Z151 56 9 ≤ 100 := hG151.pr 56 9
            have b161 : 0 ≤ Z124 56 6 ∧ Z124 56 6 ≤ 900 := hG124.pr 56 6
            have b162 : 0 ≤ Z124 56 11 ∧ Z124 56 11 ≤ 4 := hG124.pr 56 11
            have b163 : 0 ≤ Z124 56 9 ∧ Z124 56 9 ≤ 100 := hG124.pr 56 9
            have r151 := QR_g (k := 0) (c2 := 1) r124 (fun e => (hf151 56 11 rfl).symm.trans e) (fun i => hf151 60 i rfl) (fun e => by omega) (by decide)
            have rk151 : z151 = 1 → QR Z Z151 a0 1 2 := fun ez => QR_g (k := 1) r124 (fun e => (hf151 56 11 rfl).symm.trans e) (fun i => hf151 60 i rfl) (fun e => by omega) (by decide)
            refine Jcv hx124 (show mx_Sn _ _ 94 (mx_callv 165 2 12 97) from sn_171 94) a56 s56 hc151 rfl rfl rfl ?_
            refine Jif_ne (show mx_Sn _ _ 97 (mx_if_ne 129 100) from sn_171 97) (by omega) (fun q164 => ?_) (fun q164 => ?_)
            · skip
              have b165 : 0 ≤ Z151 56 6 ∧ Z151 56 6 ≤ 900 := hG151.pr 56 6
              have b166 : 0 ≤ Z151 56 7 ∧ Z151 56 7 ≤ 900 := hG151.pr 56 7
              have b167 : 0 ≤ Z151 56 6 ∧ Z151 56 6 ≤ 900 := hG151.pr 56 6
              have b168 : 0 ≤ Z151 56 7 ∧ Z151 56 7 ≤ 900 := hG151.pr 56 7
              have b169 : 0 ≤ Z151 56 9 ∧ Z151 56 9 ≤ 100 := hG151.pr 56 9
              have b170 : 0 ≤ Z151 56 6 ∧ Z151 56 6 ≤ 900 := hG151.pr 56 6
              have eq171 : Z151 60 61 = Z124 60 61 := (hf151 60 61 rfl)
              have b172 : 0 ≤ Z124 60 61 ∧ Z124 60 61 ≤ 900 := by have hq := GI_ex hG124 60 61; replace hq : f60 (61 % 962) (Z124 60 61) := hq; unfold f60 at hq; omega
              have b173 : (-2147483648) ≤ Z124 60 61 ∧ Z124 60 61 ≤ 2147483647 := hG124.pr 60 61
              have eq174 : Z151 60 1 = Z124 60 1 := (hf151 60 1 rfl)
              have b175 : 0 ≤ Z124 60 1 ∧ Z124 60 1 ≤ 18 := by have hq := GI_ex hG124 60 1; replace hq : f60 (1 % 962) (Z124 60 1) := hq; unfold f60 at hq; omega
              have b176 : (-2147483648) ≤ Z124 60 1 ∧ Z124 60 1 ≤ 2147483647 := hG124.pr 60 1
              have eq177 : Z151 60 2 = Z124 60 2 := (hf151 60 2 rfl)
              have b178 : 0 ≤ Z124 60 2 ∧ Z124 60 2 ≤ 18 := by have hq := GI_ex hG124 60 2; replace hq : f60 (2 % 962) (Z124 60 2) := hq; unfold f60 at hq; omega
              have b179 : (-2147483648) ≤ Z124 60 2 ∧ Z124 60 2 ≤ 2147483647 := hG124.pr 60 2
              exact c129 Z151 h151 (by omega) (by omega) (by omega) (by omega) (QR_le (rk151 (by omega)) (by decide)) hx151 hG151 (fr_tr (M := [(56, 6), (56, 7), (56, 9), (56, 10), (56, 11), (56, 12), (60, (-1))]) (fr_tr (M := [(56, 6), (56, 7), (56, 9), (56, 10), (56, 11), (56, 12), (60, (-1))]) (fr_tr (M := [(56, 6), (56, 7), (56, 9), (56, 10), (56, 11), (56, 12), (60, (-1))]) fr_rf (hf109) (M1 := []) rfl rfl) (hf124) rfl rfl) (hf151) rfl rfl)
            · skip
              refine mx_J.step (sn_171 100) (fun _ _ => rfl) ?_
              refine JcI (z := 2) (show mx_Sn _ _ 101 (mx_const (.int 2) 102) from sn_171 101) rfl ?_
              obtain ⟨Z180, h180, hc180, hx180, hG180, hf180, b180⟩ := ct_163_56 (d := d + 28) (l := l) (D := D) (b0 := b0) (ad := ad) (Hb := Hb) (tau := tau) hx151 hG151 (show 1 ≤ 2 ∧ 2 ≤ 4 by omega)
              have b181 : 0 ≤ Z180 56 11 ∧ Z180 56 11 ≤ 4 := hG180.pr 56 11
              have r180 : ¬ Z180 56 11 = 0 := by omega
              refine Jcv0 hx151 (show mx_Sn _ _ 102 (mx_callv 163 2 12 105) from sn_171 102) a56 s56 hc180 rfl rfl rfl ?_
              refine mx_J.step (sn_171 105) (fun _ _ => rfl) ?_
              have eq182 : Z180 56 6 = Z151 56 6 := (hf180 56 6 rfl)
              have b183 : 0 ≤ Z151 56 6 ∧ Z151 56 6 ≤ 900 := hG151.pr 56 6
              have eq184 : Z180 56 7 = Z151 56 7 := (hf180 56 7 rfl)
              have b185 : 0 ≤ Z151 56 7 ∧ Z151 56 7 ≤ 900 := hG151.pr 56 7
              have eq186 : Z180 56 6 = Z151 56 6 := (hf180 56 6 rfl)
              have b187 : 0 ≤ Z151 56 6 ∧ Z151 56 6 ≤ 900 := hG151.pr 56 6
              have eq188 : Z180 56 7 = Z151 56 7 := (hf180 56 7 rfl)
              have b189 : 0 ≤ Z151 56 7 ∧ Z151 56 7 ≤ 900 := hG151.pr 56 7
              have eq190 : Z180 56 9 = Z151 56 9 := (hf180 56 9 rfl)
              have b191 : 0 ≤ Z151 56 9 ∧ Z151 56 9 ≤ 100 := hG151.pr 56 9
              have eq192 : Z180 56 6 = Z151 56 6 := (hf180 56 6 rfl)
              have b193 : 0 ≤ Z151 56 6 ∧ Z151 56 6 ≤ 900 := hG151.pr 56 6
              have eq194 : Z180 60 61 = Z124 60 61 := ((hf180 60 61 rfl).trans (hf151 60 61 rfl))
              have b195 : 0 ≤ Z124 60 61 ∧ Z124 60 61 ≤ 900 := by have hq := GI_ex hG124 60 61; replace hq : f60 (61 % 962) (Z124 60 61) := hq; unfold f60 at hq; omega
              have b196 : (-2147483648) ≤ Z124 60 61 ∧ Z124 60 61 ≤ 2147483647 := hG124.pr 60 61
              have eq197 : Z180 60 1 = Z124 60 1 := ((hf180 60 1 rfl).trans (hf151 60 1 rfl))
              have b198 : 0 ≤ Z124 60 1 ∧ Z124 60 1 ≤ 18 := by have hq := GI_ex hG124 60 1; replace hq : f60 (1 % 962) (Z124 60 1) := hq; unfold f60 at hq; omega
              have b199 : (-2147483648) ≤ Z124 60 1 ∧ Z124 60 1 ≤ 2147483647 := hG124.pr 60 1
              have eq200 : Z180 60 2 = Z124 60 2 := ((hf180 60 2 rfl).trans (hf151 60 2 rfl))
              have b201 : 0 ≤ Z124 60 2 ∧ Z124 60 2 ≤ 18 := by have hq := GI_ex hG124 60 2; replace hq : f60 (2 % 962) (Z124 60 2) := hq; unfold f60 at hq; omega
              have b202 : (-2147483648) ≤ Z124 60 2 ∧ Z124 60 2 ≤ 2147483647 := hG124.pr 60 2
              exact c129 Z180 h180 (by omega) (by omega) (by omega) (by omega) (QR_f r180) hx180 hG180 (fr_tr (M := [(56, 6), (56, 7), (56, 9), (56, 10), (56, 11), (56, 12), (60, (-1))]) (fr_tr (M := [(56, 6), (56, 7), (56, 9), (56, 10), (56, 11), (56, 12), (60, (-1))]) (fr_tr (M := [(56, 6), (56, 7), (56, 9), (56, 10), (56, 11), (56, 12), (60, (-1))]) (fr_tr (M := [(56, 6), (56, 7), (56, 9), (56, 10), (56, 11), (56, 12), (60, (-1))]) fr_rf (hf109) (M1 := []) rfl rfl) (hf124) rfl rfl) (hf151) rfl rfl) (hf180) rfl rfl)
          · skip
            have b203 : 0 ≤ Z109 56 6 ∧ Z109 56 6 ≤ 900 := hG109.pr 56 6
            have b204 : 0 ≤ Z109 56 7 ∧ Z109 56 7 ≤ 900 := hG109.pr 56 7
            have b205 : 0 ≤ Z109 56 9 ∧ Z109 56 9 ≤ 100 := hG109.pr 56 9
            have eq206 : Z109 56 11 = Z 56 11 := (hf109 56 11 rfl)
            have b207 : 0 ≤ Z 56 11 ∧ Z 56 11 ≤ 4 := hG.pr 56 11
            have eq208 : Z109 60 61 = Z 60 61 := (hf109 60 61 rfl)
            have b209 : 0 ≤ Z 60 61 ∧ Z 60 61 ≤ 900 := by have hq := GI_ex hG 60 61; replace hq : f60 (61 % 962) (Z 60 61) := hq; unfold f60 at hq; omega
            have b210 : (-2147483648) ≤ Z 60 61 ∧ Z 60 61 ≤ 2147483647 := hG.pr 60 61
            have eq211 : Z109 60 1 = Z 60 1 := (hf109 60 1 rfl)
            have b212 : 0 ≤ Z 60 1 ∧ Z 60 1 ≤ 18 := by have hq := GI_ex hG 60 1; replace hq : f60 (1 % 962) (Z 60 1) := hq; unfold f60 at hq; omega
            have b213 : (-2147483648) ≤ Z 60 1 ∧ Z 60 1 ≤ 2147483647 := hG.pr 60 1
            have eq214 : Z109 60 2 = Z 60 2 := (hf109 60 2 rfl)
            have b215 : 0 ≤ Z 60 2 ∧ Z 60 2 ≤ 18 := by have hq := GI_ex hG 60 2; replace hq : f60 (2 % 962) (Z 60 2) := hq; unfold f60 at hq; omega
            have b216 : (-2147483648) ≤ Z 60 2 ∧ Z 60 2 ≤ 2147483647 := hG.pr 60 2
            have b217 : 0 ≤ Z109 56 6 ∧ Z109 56 6 ≤ 900 := hG109.pr 56 6
            have b218 : 0 ≤ Z109 56 7 ∧ Z109 56 7 ≤ 900 := hG109.pr 56 7
            have eq219 : Z109 56 8 = Z 56 8 := (hf109 56 8 rfl)
            have b220 : 0 ≤ Z 56 8 ∧ Z 56 8 ≤ 900 := hG.pr 56 8
            have b221 : 0 ≤ Z109 56 9 ∧ Z109 56 9 ≤ 100 := hG109.pr 56 9
            have eq222 : Z109 56 11 = Z 56 11 := (hf109 56 11 rfl)
            have b223 : 0 ≤ Z 56 11 ∧ Z 56 11 ≤ 4 := hG.pr 56 11
            have eq224 : Z109 60 61 = Z 60 61 := (hf109 60 61 rfl)
            have b225 : 0 ≤ Z 60 61 ∧ Z 60 61 ≤ 900 := by have hq := GI_ex hG 60 61; replace hq : f60 (61 % 962) (Z 60 61) := hq; unfold f60 at hq; omega
            have b226 : (-2147483648) ≤ Z 60 61 ∧ Z 60 61 ≤ 2147483647 := hG.pr 60 61
            have eq227 : Z109 60 1 = Z 60 1 := (hf109 60 1 rfl)
            have b228 : 0 ≤ Z 60 1 ∧ Z 60 1 ≤ 18 := by have hq := GI_ex hG 60 1; replace hq : f60 (1 % 962) (Z 60 1) := hq; unfold f60 at hq; omega
            have b229 : (-2147483648) ≤ Z 60 1 ∧ Z 60 1 ≤ 2147483647 := hG.pr 60 1
            have eq230 : Z109 60 2 = Z 60 2 := (hf109 60 2 rfl)
            have b231 : 0 ≤ Z 60 2 ∧ Z 60 2 ≤ 18 := by have hq := GI_ex hG 60 2; replace hq : f60 (2 % 962) (Z 60 2) := hq; unfold f60 at hq; omega
            have b232 : (-2147483648) ≤ Z 60 2 ∧ Z 60 2 ≤ 2147483647 := hG.pr 60 2
            exact mx_J.ret (sn_171 83) (fun _ _ => rfl) (hP Z109 h109 hx109 hG109 (fr_tr (M := [(56, 6), (56, 7), (56, 9), (56, 10), (56, 11), (56, 12), (60, (-1))]) fr_rf (hf109) (M1 := []) rfl rfl) ⟨(QR_f (by omega)), by omega⟩)
      refine Jif_ne (show mx_Sn _ _ 28 (mx_if_ne 66 31) from sn_171 28) (by omega) (fun q233 => ?_) (fun q233 => ?_)
      · skip
        exact c66 
      · skip
        refine mx_J.step (sn_171 31) (fun _ _ => rfl) ?_
        refine mx_J.step (sn_171 32) (fun _ _ => rfl) ?_
        have b235 : 0 ≤ Z 56 9 ∧ Z 56 9 ≤ 100 := hG.pr 56 9
        refine JgetI (g := 9) (z := Z 56 9) hx (show mx_Sn _ _ 33 (mx_getf 12 9 36) from sn_171 33) a56 s56 rfl rfl rfl ?_
        obtain ⟨z236, hc236, b236⟩ := ct_168_56 (d := d + 28) (l := l) (D := D) (b0 := b0) (ad := ad) (Hb := Hb) (tau := tau) hx hG (show 0 ≤ Z 56 9 ∧ Z 56 9 ≤ 100 by omega)
        refine Jcv hx (show mx_Sn _ _ 36 (mx_callv 168 2 12 39) from sn_171 36) a56 s56 hc236 rfl rfl rfl ?_
        refine JcI (z := (-1)) (show mx_Sn _ _ 39 (mx_const (.int (-1)) 40) from sn_171 39) rfl ?_
        refine Jicmp_eq (show mx_Sn _ _ 40 (mx_icmp_eq 66 43) from sn_171 40) (by omega) (by omega) (fun q237 => ?_) (fun q237 => ?_)
        · skip
          exact c66 
        · skip
          refine mx_J.step (sn_171 43) (fun _ _ => rfl) ?_
          refine JcI (z := 1000) (show mx_Sn _ _ 44 (mx_const (.int 1000) 47) from sn_171 44) rfl ?_
          refine mx_J.step (sn_171 47) (fun _ _ => rfl) ?_
          refine mx_J.step (sn_171 48) (fun _ _ => rfl) ?_
          have b239 : 0 ≤ Z 56 9 ∧ Z 56 9 ≤ 100 := hG.pr 56 9
          refine JgetI (g := 9) (z := Z 56 9) hx (show mx_Sn _ _ 49 (mx_getf 12 9 52) from sn_171 49) a56 s56 rfl rfl rfl ?_
          obtain ⟨z240, hc240, b240⟩ := ct_168_56 (d := d + 28) (l := l) (D := D) (b0 := b0) (ad := ad) (Hb := Hb) (tau := tau) hx hG (show 0 ≤ Z 56 9 ∧ Z 56 9 ≤ 100 by omega)
          refine Jcv hx (show mx_Sn _ _ 52 (mx_callv 168 2 12 55) from sn_171 52) a56 s56 hc240 rfl rfl rfl ?_
          refine Jiadd (show mx_Sn _ _ 55 (mx_iadd 56) from sn_171 55) ?_
          have b242 : 0 ≤ Z 56 8 ∧ Z 56 8 ≤ 900 := hG.pr 56 8
          have b243 : 0 ≤ Z 56 11 ∧ Z 56 11 ≤ 4 := hG.pr 56 11
          have b244 : 0 ≤ Z 60 61 ∧ Z 60 61 ≤ 900 := by have hq := GI_ex hG 60 61; replace hq : f60 (61 % 962) (Z 60 61) := hq; unfold f60 at hq; omega
          have b245 : (-2147483648) ≤ Z 60 61 ∧ Z 60 61 ≤ 2147483647 := hG.pr 60 61
          have b246 : 0 ≤ Z 60 1 ∧ Z 60 1 ≤ 18 := by have hq := GI_ex hG 60 1; replace hq : f60 (1 % 962) (Z 60 1) := hq; unfold f60 at hq; omega
          have b247 : (-2147483648) ≤ Z 60 1 ∧ Z 60 1 ≤ 2147483647 := hG.pr 60 1
          have b248 : 0 ≤ Z 60 2 ∧ Z 60 2 ≤ 18 := by have hq := GI_ex hG 60 2; replace hq : f60 (2 % 962) (Z 60 2) := hq; unfold f60 at hq; omega
          have b249 : (-2147483648) ≤ Z 60 2 ∧ Z 60 2 ≤ 2147483647 := hG.pr 60 2
          have rp241 := QR_n (QR_rf (Z := Z) (a := a0))
          obtain ⟨Z241, h241, hc241, hx241, hG241, hf241, b241⟩ := ct_169_56_0 (a0 := a0) (d := d + 28) (l := l) (D := D) (b0 := b0) (ad := ad) (Hb := Hb) (tau := tau) hx hG (show 0 ≤ 1000 + z240 ∧ 1000 + z240 ≤ 1004 by omega) (show (Z 56 11 = 0 → Z 60 61 ≤ 899) by omega) (show a0 ≤ Z 60 61 by omega) (show 0 ≤ a0 by omega)
          obtain ⟨bq241, b241⟩ := b241
          have b250 : 0 ≤ Z241 60 61 ∧ Z241 60 61 ≤ 900 := by have hq := GI_ex hG241 60 61; replace hq : f60 (61 % 962) (Z241 60 61) := hq; unfold f60 at hq; omega
          have b251 : (-2147483648) ≤ Z241 60 61 ∧ Z241 60 61 ≤ 2147483647 := hG241.pr 60 61
          have b252 : 0 ≤ Z241 60 1 ∧ Z241 60 1 ≤ 18 := by have hq := GI_ex hG241 60 1; replace hq : f60 (1 % 962) (Z241 60 1) := hq; unfold f60 at hq; omega
          have b253 : (-2147483648) ≤ Z241 60 1 ∧ Z241 60 1 ≤ 2147483647 := hG241.pr 60 1
          have b254 : 0 ≤ Z241 60 2 ∧ Z241 60 2 ≤ 18 := by have hq := GI_ex hG241 60 2; replace hq : f60 (2 % 962) (Z241 60 2) := hq; unfold f60 at hq; omega
          have b255 : (-2147483648) ≤ Z241 60 2 ∧ Z241 60 2 ≤ 2147483647 := hG241.pr 60 2
          have rn241 := QR_n (QR_rf (Z := Z) (a := a0))
          have r241 := QR_c (d2 := 1) (c2 := (-1)) (QR_rf (Z := Z) (a := a0)) bq241 (by omega) (hf241 56 11 rfl) (hf241 56 6 rfl) (by decide) (by decide) (by decide)
          refine Jcv0 hx (show mx_Sn _ _ 56 (mx_callv 169 2 12 59) from sn_171 56) a56 s56 hc241 rfl rfl rfl ?_
          refine mx_J.step (sn_171 59) (fun _ _ => rfl) ?_
          have eq257 : Z241 56 7 = Z 56 7 := (hf241 56 7 rfl)
          have b258 : 0 ≤ Z 56 7 ∧ Z 56 7 ≤ 900 := hG.pr 56 7
          have eq259 : Z241 56 8 = Z 56 8 := (hf241 56 8 rfl)
          have b260 : 0 ≤ Z 56 8 ∧ Z 56 8 ≤ 900 := hG.pr 56 8
          obtain ⟨Z256, h256, hc256, hx256, hG256, hf256, b256⟩ := ct_162_56 (d := d + 23) (l := l) (D := D) (b0 := b0) (ad := ad) (Hb := Hb) (tau := tau) hx241 hG241  (show Z241 56 7 ≤ Z241 56 8 by first | omega | (simp only [eq257, eq259]; omega))
          try rw [eq257] at b256
          try rw [eq259] at b256
          have b261 : 0 ≤ Z256 56 6 ∧ Z256 56 6 ≤ 900 := hG256.pr 56 6
          have b262 : 0 ≤ Z256 56 7 ∧ Z256 56 7 ≤ 900 := hG256.pr 56 7
          have b263 : 0 ≤ Z256 56 9 ∧ Z256 56 9 ≤ 100 := hG256.pr 56 9
          have eq264 : Z241 56 6 = Z 56 6 := (hf241 56 6 rfl)
          have b265 : 0 ≤ Z 56 6 ∧ Z 56 6 ≤ 900 := hG.pr 56 6
          have eq266 : Z241 56 11 = Z 56 11 := (hf241 56 11 rfl)
          have b267 : 0 ≤ Z 56 11 ∧ Z 56 11 ≤ 4 := hG.pr 56 11
          have eq268 : Z241 56 9 = Z 56 9 := (hf241 56 9 rfl)
          have b269 : 0 ≤ Z 56 9 ∧ Z 56 9 ≤ 100 := hG.pr 56 9
          have r256 := QR_g (k := 1) (c2 := 0) r241 (fun e => (hf256 56 11 rfl).symm.trans e) (fun i => hf256 60 i rfl) (fun e => by omega) (by decide)
          refine Jcv0 hx241 (show mx_Sn _ _ 60 (mx_callv 162 1 12 63) from sn_171 60) a56 s56 hc256 rfl rfl rfl ?_
          refine mx_J.step (sn_171 63) (fun _ _ => rfl) ?_
          have b270 : 0 ≤ Z256 56 6 ∧ Z256 56 6 ≤ 900 := hG256.pr 56 6
          have b271 : 0 ≤ Z256 56 7 ∧ Z256 56 7 ≤ 900 := hG256.pr 56 7
          have b272 : 0 ≤ Z256 56 6 ∧ Z256 56 6 ≤ 900 := hG256.pr 56 6
          have b273 : 0 ≤ Z256 56 7 ∧ Z256 56 7 ≤ 900 := hG256.pr 56 7
          have b274 : 0 ≤ Z256 56 9 ∧ Z256 56 9 ≤ 100 := hG256.pr 56 9
          have b275 : 0 ≤ Z256 56 6 ∧ Z256 56 6 ≤ 900 := hG256.pr 56 6
          have eq276 : Z256 60 61 = Z241 60 61 := (hf256 60 61 rfl)
          have b277 : 0 ≤ Z241 60 61 ∧ Z241 60 61 ≤ 900 := by have hq := GI_ex hG241 60 61; replace hq : f60 (61 % 962) (Z241 60 61) := hq; unfold f60 at hq; omega
          have b278 : (-2147483648) ≤ Z241 60 61 ∧ Z241 60 61 ≤ 2147483647 := hG241.pr 60 61
          have eq279 : Z256 60 1 = Z241 60 1 := (hf256 60 1 rfl)
          have b280 : 0 ≤ Z241 60 1 ∧ Z241 60 1 ≤ 18 := by have hq := GI_ex hG241 60 1; replace hq : f60 (1 % 962) (Z241 60 1) := hq; unfold f60 at hq; omega
          have b281 : (-2147483648) ≤ Z241 60 1 ∧ Z241 60 1 ≤ 2147483647 := hG241.pr 60 1
          have eq282 : Z256 60 2 = Z241 60 2 := (hf256 60 2 rfl)
          have b283 : 0 ≤ Z241 60 2 ∧ Z241 60 2 ≤ 18 := by have hq := GI_ex hG241 60 2; replace hq : f60 (2 % 962) (Z241 60 2) := hq; unfold f60 at hq; omega
          have b284 : (-2147483648) ≤ Z241 60 2 ∧ Z241 60 2 ≤ 2147483647 := hG241.pr 60 2
          exact c129 Z256 h256 (by omega) (by omega) (by omega) (by omega) (QR_le r256 (by decide)) hx256 hG256 (fr_tr (M := [(56, 6), (56, 7), (56, 9), (56, 10), (56, 11), (56, 12), (60, (-1))]) (fr_tr (M := [(56, 6), (56, 7), (56, 9), (56, 10), (56, 11), (56, 12), (60, (-1))]) fr_rf (hf241) (M1 := []) rfl rfl) (hf256) rfl rfl)
    · skip
      refine mx_J.step (sn_171 9) (fun _ _ => rfl) ?_
      refine mx_J.step (sn_171 10) (fun _ _ => rfl) ?_
      have b286 : 0 ≤ Z 56 10 ∧ Z 56 10 ≤ 999 := hG.pr 56 10
      refine JgetI (g := 10) (z := Z 56 10) hx (show mx_Sn _ _ 11 (mx_getf 12 10 14) from sn_171 11) a56 s56 rfl rfl rfl ?_
      have b288 : 0 ≤ Z 56 8 ∧ Z 56 8 ≤ 900 := hG.pr 56 8
      have b289 : 0 ≤ Z 56 11 ∧ Z 56 11 ≤ 4 := hG.pr 56 11
      have b290 : 0 ≤ Z 60 61 ∧ Z 60 61 ≤ 900 := by have hq := GI_ex hG 60 61; replace hq : f60 (61 % 962) (Z 60 61) := hq; unfold f60 at hq; omega
      have b291 : (-2147483648) ≤ Z 60 61 ∧ Z 60 61 ≤ 2147483647 := hG.pr 60 61
      have b292 : 0 ≤ Z 60 1 ∧ Z 60 1 ≤ 18 := by have hq := GI_ex hG 60 1; replace hq : f60 (1 % 962) (Z 60 1) := hq; unfold f60 at hq; omega
      have b293 : (-2147483648) ≤ Z 60 1 ∧ Z 60 1 ≤ 2147483647 := hG.pr 60 1
      have b294 : 0 ≤ Z 60 2 ∧ Z 60 2 ≤ 18 := by have hq := GI_ex hG 60 2; replace hq : f60 (2 % 962) (Z 60 2) := hq; unfold f60 at hq; omega
      have b295 : (-2147483648) ≤ Z 60 2 ∧ Z 60 2 ≤ 2147483647 := hG.pr 60 2
      have rp287 := QR_n (QR_rf (Z := Z) (a := a0))
      obtain ⟨Z287, h287, hc287, hx287, hG287, hf287, b287⟩ := ct_169_56_0 (a0 := a0) (d := d + 28) (l := l) (D := D) (b0 := b0) (ad := ad) (Hb := Hb) (tau := tau) hx hG (show 0 ≤ Z 56 10 ∧ Z 56 10 ≤ 1004 by omega) (show (Z 56 11 = 0 → Z 60 61 ≤ 899) by omega) (show a0 ≤ Z 60 61 by omega) (show 0 ≤ a0 by omega)
      obtain ⟨bq287, b287⟩ := b287
      have b296 : 0 ≤ Z287 60 61 ∧ Z287 60 61 ≤ 900 := by have hq := GI_ex hG287 60 61; replace hq : f60 (61 % 962) (Z287 60 61) := hq; unfold f60 at hq; omega
      have b297 : (-2147483648) ≤ Z287 60 61 ∧ Z287 60 61 ≤ 2147483647 := hG287.pr 60 61
      have b298 : 0 ≤ Z287 60 1 ∧ Z287 60 1 ≤ 18 := by have hq := GI_ex hG287 60 1; replace hq : f60 (1 % 962) (Z287 60 1) := hq; unfold f60 at hq; omega
      have b299 : (-2147483648) ≤ Z287 60 1 ∧ Z287 60 1 ≤ 2147483647 := hG287.pr 60 1
      have b300 : 0 ≤ Z287 60 2 ∧ Z287 60 2 ≤ 18 := by have hq := GI_ex hG287 60 2; replace hq : f60 (2 % 962) (Z287 60 2) := hq; unfold f60 at hq; omega
      have b301 : (-2147483648) ≤ Z287 60 2 ∧ Z287 60 2 ≤ 2147483647 := hG287.pr 60 2
      have rn287 := QR_n (QR_rf (Z := Z) (a := a0))
      have r287 := QR_c (d2 := 1) (c2 := (-1)) (QR_rf (Z := Z) (a := a0)) bq287 (by omega) (hf287 56 11 rfl) (hf287 56 6 rfl) (by decide) (by decide) (by decide)
      refine Jcv0 hx (show mx_Sn _ _ 14 (mx_callv 169 2 12 17) from sn_171 14) a56 s56 hc287 rfl rfl rfl ?_
      refine mx_J.step (sn_171 17) (fun _ _ => rfl) ?_
      have eq303 : Z287 56 7 = Z 56 7 := (hf287 56 7 rfl)
      have b304 : 0 ≤ Z 56 7 ∧ Z 56 7 ≤ 900 := hG.pr 56 7
      have eq305 : Z287 56 8 = Z 56 8 := (hf287 56 8 rfl)
      have b306 : 0 ≤ Z 56 8 ∧ Z 56 8 ≤ 900 := hG.pr 56 8
      obtain ⟨Z302, h302, hc302, hx302, hG302, hf302, b302⟩ := ct_162_56 (d := d + 23) (l := l) (D := D) (b0 := b0) (ad := ad) (Hb := Hb) (tau := tau) hx287 hG287  (show Z287 56 7 ≤ Z287 56 8 by first | omega | (simp only [eq303, eq305]; omega))
      try rw [eq303] at b302
      try rw [eq305] at b302
      have b307 : 0 ≤ Z302 56 6 ∧ Z302 56 6 ≤ 900 := hG302.pr 56 6
      have b308 : 0 ≤ Z302 56 7 ∧ Z302 56 7 ≤ 900 := hG302.pr 56 7
      have b309 : 0 ≤ Z302 56 9 ∧ Z302 56 9 ≤ 100 := hG302.pr 56 9
      have eq310 : Z287 56 6 = Z 56 6 := (hf287 56 6 rfl)
      have b311 : 0 ≤ Z 56 6 ∧ Z 56 6 ≤ 900 := hG.pr 56 6
      have eq312 : Z287 56 11 = Z 56 11 := (hf287 56 11 rfl)
      have b313 : 0 ≤ Z 56 11 ∧ Z 56 11 ≤ 4 := hG.pr 56 11
      have eq314 : Z287 56 9 = Z 56 9 := (hf287 56 9 rfl)
      have b315 : 0 ≤ Z 56 9 ∧ Z 56 9 ≤ 100 := hG.pr 56 9
      have r302 := QR_g (k := 1) (c2 := 0) r287 (fun e => (hf302 56 11 rfl).symm.trans e) (fun i => hf302 60 i rfl) (fun e => by omega) (by decide)
      refine Jcv0 hx287 (show mx_Sn _ _ 18 (mx_callv 162 1 12 21) from sn_171 18) a56 s56 hc302 rfl rfl rfl ?_
      refine mx_J.step (sn_171 21) (fun _ _ => rfl) ?_
      have b316 : 0 ≤ Z302 56 6 ∧ Z302 56 6 ≤ 900 := hG302.pr 56 6
      have b317 : 0 ≤ Z302 56 7 ∧ Z302 56 7 ≤ 900 := hG302.pr 56 7
      have b318 : 0 ≤ Z302 56 6 ∧ Z302 56 6 ≤ 900 := hG302.pr 56 6
      have b319 : 0 ≤ Z302 56 7 ∧ Z302 56 7 ≤ 900 := hG302.pr 56 7
      have b320 : 0 ≤ Z302 56 9 ∧ Z302 56 9 ≤ 100 := hG302.pr 56 9
      have b321 : 0 ≤ Z302 56 6 ∧ Z302 56 6 ≤ 900 := hG302.pr 56 6
      have eq322 : Z302 60 61 = Z287 60 61 := (hf302 60 61 rfl)
      have b323 : 0 ≤ Z287 60 61 ∧ Z287 60 61 ≤ 900 := by have hq := GI_ex hG287 60 61; replace hq : f60 (61 % 962) (Z287 60 61) := hq; unfold f60 at hq; omega
      have b324 : (-2147483648) ≤ Z287 60 61 ∧ Z287 60 61 ≤ 2147483647 := hG287.pr 60 61
      have eq325 : Z302 60 1 = Z287 60 1 := (hf302 60 1 rfl)
      have b326 : 0 ≤ Z287 60 1 ∧ Z287 60 1 ≤ 18 := by have hq := GI_ex hG287 60 1; replace hq : f60 (1 % 962) (Z287 60 1) := hq; unfold f60 at hq; omega
      have b327 : (-2147483648) ≤ Z287 60 1 ∧ Z287 60 1 ≤ 2147483647 := hG287.pr 60 1
      have eq328 : Z302 60 2 = Z287 60 2 := (hf302 60 2 rfl)
      have b329 : 0 ≤ Z287 60 2 ∧ Z287 60 2 ≤ 18 := by have hq := GI_ex hG287 60 2; replace hq : f60 (2 % 962) (Z287 60 2) := hq; unfold f60 at hq; omega
      have b330 : (-2147483648) ≤ Z287 60 2 ∧ Z287 60 2 ≤ 2147483647 := hG287.pr 60 2
      exact c129 Z302 h302 (by omega) (by omega) (by omega) (by omega) (QR_le r302 (by decide)) hx302 hG302 (fr_tr (M := [(56, 6), (56, 7), (56, 9), (56, 10), (56, 11), (56, 12), (60, (-1))]) (fr_tr (M := [(56, 6), (56, 7), (56, 9), (56, 10), (56, 11), (56, 12), (60, (-1))]) fr_rf (hf287) (M1 := []) rfl rfl) (hf302) rfl rfl)
theorem ct_171_56_i3 {l : Launch} {D : va_G} {b0 : Nat} {ad : Nat → Nat} {Hb : Heap} {tau : Nat → Int64} {d n s : Nat} {S : Nat → xS} {Z : xZ} {h : mx_H} {a0 : Int} (hx : XH n s S Z h) (hG : GI n S Z)   (k0 : (Z 56 6 ≤ Z 56 7 ∧ Z 56 7 ≤ Z 56 8 ∧ (Z 56 9 = 24 ∨ Z 56 6 < Z 56 7))) (k1 : Z 60 61 ≤ Z 56 6) (k2 : a0 ≤ Z 60 61) (k3 : 0 ≤ a0) : ∃ (Z' : xZ) (h' : mx_H), mx_Ca (tB l D b0 ad Hb tau) (d + 30) 171 [.ref 56, xI 3] h (none, h') ∧ XH n s S Z' h' ∧ GI n S Z' ∧ fr' [(56, 6), (56, 7), (56, 9), (56, 10), (56, 11), (56, 12), (60, (-1))] Z Z' ∧ (QR Z Z' a0 1 0 ∧ ((Z' 56 6 ≤ Z' 56 7 ∧ Z' 56 7 ≤ Z 56 8 ∧ (Z' 56 9 = 24 ∨ Z' 56 6 < Z' 56 7)) ∧ Z' 60 1 = Z 60 1 ∧ Z' 60 2 = Z 60 2 ∧ Z 56 6 ≤ Z' 56 6 ∧ Z 60 61 ≤ Z' 60 61 ∧ Z' 60 61 - Z 60 61 ≤ Z' 56 6 - Z 56 6)) := by
  obtain ⟨r, hca, Z', h', e, q⟩ := Jmt (B := tB l D b0 ad Hb tau) (M := mt_171) (mi := 171) (as := [.ref 56, xI 3]) (d := d + 29) (ls := [some (.ref 56), some (xI 3)]) rfl rfl rfl rfl rfl rfl (cw_171_56_i3 (l := l) (D := D) (b0 := b0) (ad := ad) (Hb := Hb) (tau := tau) (d := d) (Post := fun r => ∃ (Z' : xZ) (h' : mx_H), r = (none, h') ∧ XH n s S Z' h' ∧ GI n S Z' ∧ fr' [(56, 6), (56, 7), (56, 9), (56, 10), (56, 11), (56, 12), (60, (-1))] Z Z' ∧ (QR Z Z' a0 1 0 ∧ ((Z' 56 6 ≤ Z' 56 7 ∧ Z' 56 7 ≤ Z 56 8 ∧ (Z' 56 9 = 24 ∨ Z' 56 6 < Z' 56 7)) ∧ Z' 60 1 = Z 60 1 ∧ Z' 60 2 = Z 60 2 ∧ Z 56 6 ≤ Z' 56 6 ∧ Z 60 61 ≤ Z' 60 61 ∧ Z' 60 61 - Z 60 61 ≤ Z' 56 6 - Z 56 6))) hx hG k0 k1 k2 k3 (fun Z' h' q1 q2 q3 q4 => ⟨Z', h', rfl, q1, q2, q3, q4⟩))
  subst e; exact ⟨Z', h', hca, q⟩
set_option maxHeartbeats 8000000 in
set_option maxRecDepth 100000 in
theorem cw_173_56_i3 {l : Launch} {D : va_G} {b0 : Nat} {ad : Nat → Nat} {Hb : Heap} {tau : Nat → Int64} {d n s : Nat} {S : Nat → xS} {Z : xZ} {h : mx_H} {Post : mx_R → Prop} {a0 : Int} (hx : XH n s S Z h) (hG : GI n S Z)   (k0 : (Z 56 6 ≤ Z 56 7 ∧ Z 56 7 ≤ Z 56 8 ∧ (Z 56 9 = 24 ∨ Z 56 6 < Z 56 7))) (k1 : Z 60 61 ≤ Z 56 6) (k2 : a0 ≤ Z 60 61) (k3 : 0 ≤ a0) (hP : ∀ (Z' : xZ) (h' : mx_H), XH n s S Z' h' → GI n S Z' → fr' [(56, 6), (56, 7), (56, 9), (56, 10), (56, 11), (56, 12), (60, (-1))] Z Z' → QR Z Z' a0 1 0 ∧ ((Z' 56 6 ≤ Z' 56 7 ∧ Z' 56 7 ≤ Z 56 8 ∧ (Z' 56 9 = 24 ∨ Z' 56 6 < Z' 56 7)) ∧ Z' 60 1 = Z 60 1 ∧ Z' 60 2 = Z 60 2 ∧ Z 56 6 ≤ Z' 56 6 ∧ Z 60 61 ≤ Z' 60 61 ∧ Z' 60 61 - Z 60 61 ≤ Z' 56 6 - Z 56 6) → Post (none, h')) : mx_J (tB l D b0 ad Hb tau) mt_173 (d + 30) 0 [some (.ref 56), some (xI 3)] [] h Post := by
    have a56 : 56 < n := lt83 (GI_n hG) rfl
    have s56 : S 56 = .inl (12, [0, 2, 2, 2, 2, 0, 0, 0, 0, 0, 0, 0, 0, 0, 0, 2, 2, 2, 0, 2, 2, 2, 0, 0, 2, 2, 2, 2, 2, 2, 0, 0, 2, 2, 2, 2, 2, 2, 2, 2, 2, 2]) := GI_s hG 56 rfl
    refine mx_J.step (sn_173 0) (fun _ _ => rfl) ?_
    refine mx_J.step (sn_173 1) (fun _ _ => rfl) ?_
    have b2 : 0 ≤ Z 56 6 ∧ Z 56 6 ≤ 900 := hG.pr 56 6
    have b3 : 0 ≤ Z 56 7 ∧ Z 56 7 ≤ 900 := hG.pr 56 7
    have b4 : 0 ≤ Z 56 8 ∧ Z 56 8 ≤ 900 := hG.pr 56 8
    have b5 : 0 ≤ Z 56 9 ∧ Z 56 9 ≤ 100 := hG.pr 56 9
    have b6 : 0 ≤ Z 56 11 ∧ Z 56 11 ≤ 4 := hG.pr 56 11
    have b7 : 0 ≤ Z 60 61 ∧ Z 60 61 ≤ 900 := by have hq := GI_ex hG 60 61; replace hq : f60 (61 % 962) (Z 60 61) := hq; unfold f60 at hq; omega
    have b8 : (-2147483648) ≤ Z 60 61 ∧ Z 60 61 ≤ 2147483647 := hG.pr 60 61
    have b9 : 0 ≤ Z 60 1 ∧ Z 60 1 ≤ 18 := by have hq := GI_ex hG 60 1; replace hq : f60 (1 % 962) (Z 60 1) := hq; unfold f60 at hq; omega
    have b10 : (-2147483648) ≤ Z 60 1 ∧ Z 60 1 ≤ 2147483647 := hG.pr 60 1
    have b11 : 0 ≤ Z 60 2 ∧ Z 60 2 ≤ 18 := by have hq := GI_ex hG 60 2; replace hq : f60 (2 % 962) (Z 60 2) := hq; unfold f60 at hq; omega
    have b12 : (-2147483648) ≤ Z 60 2 ∧ Z 60 2 ≤ 2147483647 := hG.pr 60 2
    obtain ⟨Z1, h1, hc1, hx1, hG1, hf1, b1⟩ := ct_171_56_i3 (a0 := a0) (d := d + 0) (l := l) (D := D) (b0 := b0) (ad := ad) (Hb := Hb) (tau := tau) hx hG  (show (Z 56 6 ≤ Z 56 7 ∧ Z 56 7 ≤ Z 56 8 ∧ (Z 56 9 = 24 ∨ Z 56 6 < Z 56 7)) by omega) (show Z 60 61 ≤ Z 56 6 by omega) (show a0 ≤ Z 60 61 by omega) (show 0 ≤ a0 by omega)
    obtain ⟨bq1, b1⟩ := b1
    have b13 : 0 ≤ Z1 56 6 ∧ Z1 56 6 ≤ 900 := hG1.pr 56 6
    have b14 : 0 ≤ Z1 56 7 ∧ Z1 56 7 ≤ 900 := hG1.pr 56 7
    have b15 : 0 ≤ Z1 56 9 ∧ Z1 56 9 ≤ 100 := hG1.pr 56 9
    have b16 : 0 ≤ Z1 56 11 ∧ Z1 56 11 ≤ 4 := hG1.pr 56 11
    have b17 : 0 ≤ Z1 60 61 ∧ Z1 60 61 ≤ 900 := by have hq := GI_ex hG1 60 61; replace hq : f60 (61 % 962) (Z1 60 61) := hq; unfold f60 at hq; omega
    have b18 : (-2147483648) ≤ Z1 60 61 ∧ Z1 60 61 ≤ 2147483647 := hG1.pr 60 61
    have b19 : 0 ≤ Z1 60 1 ∧ Z1 60 1 ≤ 18 := by have hq := GI_ex hG1 60 1; replace hq : f60 (1 % 962) (Z1 60 1) := hq; unfold f60 at hq; omega
    have b20 : (-2147483648) ≤ Z1 60 1 ∧ Z1 60 1 ≤ 2147483647 := hG1.pr 60 1
    have b21 : 0 ≤ Z1 60 2 ∧ Z1 60 2 ≤ 18 := by have hq := GI_ex hG1 60 2; replace hq : f60 (2 % 962) (Z1 60 2) := hq; unfold f60 at hq; omega
    have b22 : (-2147483648) ≤ Z1 60 2 ∧ Z1 60 2 ≤ 2147483647 := hG1.pr 60 2
    have r1 := QR_tr (d := 1) (c := 0) (QR_rf (Z := Z) (a := a0)) bq1 (by decide) (by decide) (by decide)
    refine Jcv0 hx (show mx_Sn _ _ 2 (mx_callv 171 2 12 5) from sn_173 2) a56 s56 hc1 rfl rfl rfl ?_
    have c5 : ∀ (m23 : Nat)  (Z24 : xZ) (h24 : mx_H), (((Z 56 8 - Z24 56 6).toNat : Nat) : Int) < (m23 : Int) → (Z24 56 6 ≤ Z24 56 7 ∧ Z24 56 7 ≤ Z 56 8) → (Z24 56 9 = 24 ∨ Z24 56 6 < Z24 56 7) → (Z 56 6 ≤ Z24 56 6 ∧ Z 60 61 ≤ Z24 60 61 ∧ Z24 60 61 - Z 60 61 ≤ Z24 56 6 - Z 56 6) → (Z24 60 1 = Z 60 1 ∧ Z24 60 2 = Z 60 2) → QR Z Z24 a0 1 0 → XH n s S Z24 h24 → GI n S Z24 → fr' [(56, 6), (56, 7), (56, 9), (56, 10), (56, 11), (56, 12), (60, (-1))] Z1 Z24 → mx_J (tB l D b0 ad Hb tau) mt_173 (d + 30) 5 [some (.ref 56), some (xI 3)] [] h24 Post := by
      intro m23
      induction m23 with
      | zero => intro Z24 h24 q23 f23_0 f23_1 f23_2 f23_3 f23_4 hx24 hG24 hf24; exact absurd q23 (by omega)
      | succ m23 ih23 =>
        intro Z24 h24 q23 f23_0 f23_1 f23_2 f23_3 f23_4 hx24 hG24 hf24
        have b25 : 0 ≤ Z24 56 6 ∧ Z24 56 6 ≤ 900 := hG24.pr 56 6
        have b26 : 0 ≤ Z24 56 7 ∧ Z24 56 7 ≤ 900 := hG24.pr 56 7
        have b27 : 0 ≤ Z24 56 6 ∧ Z24 56 6 ≤ 900 := hG24.pr 56 6
        have b28 : 0 ≤ Z24 56 7 ∧ Z24 56 7 ≤ 900 := hG24.pr 56 7
        have b29 : 0 ≤ Z24 56 9 ∧ Z24 56 9 ≤ 100 := hG24.pr 56 9
        have b30 : 0 ≤ Z24 56 6 ∧ Z24 56 6 ≤ 900 := hG24.pr 56 6
        have b31 : 0 ≤ Z24 60 61 ∧ Z24 60 61 ≤ 900 := by have hq := GI_ex hG24 60 61; replace hq : f60 (61 % 962) (Z24 60 61) := hq; unfold f60 at hq; omega
        have b32 : (-2147483648) ≤ Z24 60 61 ∧ Z24 60 61 ≤ 2147483647 := hG24.pr 60 61
        have b33 : 0 ≤ Z24 60 1 ∧ Z24 60 1 ≤ 18 := by have hq := GI_ex hG24 60 1; replace hq : f60 (1 % 962) (Z24 60 1) := hq; unfold f60 at hq; omega
        have b34 : (-2147483648) ≤ Z24 60 1 ∧ Z24 60 1 ≤ 2147483647 := hG24.pr 60 1
        have b35 : 0 ≤ Z24 60 2 ∧ Z24 60 2 ≤ 18 := by have hq := GI_ex hG24 60 2; replace hq : f60 (2 % 962) (Z24 60 2) := hq; unfold f60 at hq; omega
        have b36 : (-2147483648) ≤ Z24 60 2 ∧ Z24 60 2 ≤ 2147483647 := hG24.pr 60 2
        have b37 : 0 ≤ Z24 56 6 ∧ Z24 56 6 ≤ 900 := hG24.pr 56 6
        refine mx_J.step (sn_173 5) (fun _ _ => rfl) ?_
        refine JcI (z := 34) (show mx_Sn _ _ 6 (mx_const (.int 34) 8) from sn_173 6) rfl ?_
        have b39 : 0 ≤ Z24 56 6 ∧ Z24 56 6 ≤ 900 := hG24.pr 56 6
        have b40 : 0 ≤ Z24 56 7 ∧ Z24 56 7 ≤ 900 := hG24.pr 56 7
        have eq41 : Z24 56 8 = Z 56 8 := ((hf24 56 8 rfl).trans (hf1 56 8 rfl))
        have b42 : 0 ≤ Z 56 8 ∧ Z 56 8 ≤ 900 := hG.pr 56 8
        have b43 : 0 ≤ Z24 56 9 ∧ Z24 56 9 ≤ 100 := hG24.pr 56 9
        have b44 : 0 ≤ Z24 56 11 ∧ Z24 56 11 ≤ 4 := hG24.pr 56 11
        obtain ⟨z38, Z38, h38, hc38, hx38, hG38, hf38, b38⟩ := ct_165_56 (d := d + 23) (l := l) (D := D) (b0 := b0) (ad := ad) (Hb := Hb) (tau := tau) hx24 hG24 (show 0 ≤ 34 ∧ 34 ≤ 100 by omega) (show (Z24 56 6 ≤ Z24 56 7 ∧ Z24 56 7 ≤ Z24 56 8 ∧ (Z24 56 9 = 24 ∨ Z24 56 6 < Z24 56 7)) by first | omega | (simp only [eq41]; omega)) (show ¬ 34 = 24 by first | omega | (simp only [eq41]; omega))
        try rw [eq41] at b38
        have b45 : 0 ≤ Z38 56 6 ∧ Z38 56 6 ≤ 900 := hG38.pr 56 6
        have b46 : 0 ≤ Z38 56 7 ∧ Z38 56 7 ≤ 900 := hG38.pr 56 7
        have b47 : 0 ≤ Z38 56 9 ∧ Z38 56 9 ≤ 100 := hG38.pr 56 9
        have b48 : 0 ≤ Z24 56 6 ∧ Z24 56 6 ≤ 900 := hG24.pr 56 6
        have b49 : 0 ≤ Z24 56 11 ∧ Z24 56 11 ≤ 4 := hG24.pr 56 11
        have b50 : 0 ≤ Z24 56 9 ∧ Z24 56 9 ≤ 100 := hG24.pr 56 9
        have r38 := QR_g (k := 0) (c2 := 0) f23_4 (fun e => (hf38 56 11 rfl).symm.trans e) (fun i => hf38 60 i rfl) (fun e => by omega) (by decide)
        have rk38 : z38 = 1 → QR Z Z38 a0 1 1 := fun ez => QR_g (k := 1) f23_4 (fun e => (hf38 56 11 rfl).symm.trans e) (fun i => hf38 60 i rfl) (fun e => by omega) (by decide)
        refine Jcv hx24 (show mx_Sn _ _ 8 (mx_callv 165 2 12 11) from sn_173 8) a56 s56 hc38 rfl rfl rfl ?_
        refine Jif_eq (show mx_Sn _ _ 11 (mx_if_eq 29 14) from sn_173 11) (by omega) (fun q51 => ?_) (fun q51 => ?_)
        · skip
          have b52 : 0 ≤ Z38 56 6 ∧ Z38 56 6 ≤ 900 := hG38.pr 56 6
          have b53 : 0 ≤ Z38 56 7 ∧ Z38 56 7 ≤ 900 := hG38.pr 56 7
          have b54 : 0 ≤ Z38 56 9 ∧ Z38 56 9 ≤ 100 := hG38.pr 56 9
          have eq55 : Z38 56 11 = Z24 56 11 := (hf38 56 11 rfl)
          have b56 : 0 ≤ Z24 56 11 ∧ Z24 56 11 ≤ 4 := hG24.pr 56 11
          have eq57 : Z38 60 61 = Z24 60 61 := (hf38 60 61 rfl)
          have b58 : 0 ≤ Z24 60 61 ∧ Z24 60 61 ≤ 900 := by have hq := GI_ex hG24 60 61; replace hq : f60 (61 % 962) (Z24 60 61) := hq; unfold f60 at hq; omega
          have b59 : (-2147483648) ≤ Z24 60 61 ∧ Z24 60 61 ≤ 2147483647 := hG24.pr 60 61
          have eq60 : Z38 60 1 = Z24 60 1 := (hf38 60 1 rfl)
          have b61 : 0 ≤ Z24 60 1 ∧ Z24 60 1 ≤ 18 := by have hq := GI_ex hG24 60 1; replace hq : f60 (1 % 962) (Z24 60 1) := hq; unfold f60 at hq; omega
          have b62 : (-2147483648) ≤ Z24 60 1 ∧ Z24 60 1 ≤ 2147483647 := hG24.pr 60 1
          have eq63 : Z38 60 2 = Z24 60 2 := (hf38 60 2 rfl)
          have b64 : 0 ≤ Z24 60 2 ∧ Z24 60 2 ≤ 18 := by have hq := GI_ex hG24 60 2; replace hq : f60 (2 % 962) (Z24 60 2) := hq; unfold f60 at hq; omega
          have b65 : (-2147483648) ≤ Z24 60 2 ∧ Z24 60 2 ≤ 2147483647 := hG24.pr 60 2
          have b66 : 0 ≤ Z38 56 6 ∧ Z38 56 6 ≤ 900 := hG38.pr 56 6
          have b67 : 0 ≤ Z38 56 7 ∧ Z38 56 7 ≤ 900 := hG38.pr 56 7
          have eq68 : Z38 56 8 = Z 56 8 := ((hf38 56 8 rfl).trans ((hf24 56 8 rfl).trans (hf1 56 8 rfl)))
          have b69 : 0 ≤ Z 56 8 ∧ Z 56 8 ≤ 900 := hG.pr 56 8
          have b70 : 0 ≤ Z38 56 9 ∧ Z38 56 9 ≤ 100 := hG38.pr 56 9
          have eq71 : Z38 56 11 = Z24 56 11 := (hf38 56 11 rfl)
          have b72 : 0 ≤ Z24 56 11 ∧ Z24 56 11 ≤ 4 := hG24.pr 56 11
          have eq73 : Z38 60 61 = Z24 60 61 := (hf38 60 61 rfl)
          have b74 : 0 ≤ Z24 60 61 ∧ Z24 60 61 ≤ 900 := by have hq := GI_ex hG24 60 61; replace hq : f60 (61 % 962) (Z24 60 61) := hq; unfold f60 at hq; omega
          have b75 : (-2147483648) ≤ Z24 60 61 ∧ Z24 60 61 ≤ 2147483647 := hG24.pr 60 61
          have eq76 : Z38 60 1 = Z24 60 1 := (hf38 60 1 rfl)
          have b77 : 0 ≤ Z24 60 1 ∧ Z24 60 1 ≤ 18 := by have hq := GI_ex hG24 60 1; replace hq : f60 (1 % 962) (Z24 60 1) := hq; unfold f60 at hq; omega
          have b78 : (-2147483648) ≤ Z24 60 1 ∧ Z24 60 1 ≤ 2147483647 := hG24.pr 60 1
          have eq79 : Z38 60 2 = Z24 60 2 := (hf38 60 2 rfl)
          have b80 : 0 ≤ Z24 60 2 ∧ Z24 60 2 ≤ 18 := by have hq := GI_ex hG24 60 2; replace hq : f60 (2 % 962) (Z24 60 2) := hq; unfold f60 at hq; omega
          have b81 : (-2147483648) ≤ Z24 60 2 ∧ Z24 60 2 ≤ 2147483647 := hG24.pr 60 2
          exact mx_J.ret (sn_173 29) (fun _ _ => rfl) (hP Z38 h38 hx38 hG38 (fr_tr (M := [(56, 6), (56, 7), (56, 9), (56, 10), (56, 11), (56, 12), (60, (-1))]) (fr_tr (M := [(56, 6), (56, 7), (56, 9), (56, 10), (56, 11), (56, 12), (60, (-1))]) (fr_tr (M := [(56, 6), (56, 7), (56, 9), (56, 10), (56, 11), (56, 12), (60, (-1))]) fr_rf (hf1) (M1 := []) rfl rfl) (hf24) rfl rfl) (hf38) rfl rfl) ⟨(QR_le r38 (by decide)), by omega⟩)
        · skip
          refine mx_J.step (sn_173 14) (fun _ _ => rfl) ?_
          refine mx_J.step (sn_173 15) (fun _ _ => rfl) ?_
          have b83 : 0 ≤ Z38 56 6 ∧ Z38 56 6 ≤ 900 := hG38.pr 56 6
          have b84 : 0 ≤ Z38 56 7 ∧ Z38 56 7 ≤ 900 := hG38.pr 56 7
          have eq85 : Z38 56 8 = Z 56 8 := ((hf38 56 8 rfl).trans ((hf24 56 8 rfl).trans (hf1 56 8 rfl)))
          have b86 : 0 ≤ Z 56 8 ∧ Z 56 8 ≤ 900 := hG.pr 56 8
          have b87 : 0 ≤ Z38 56 9 ∧ Z38 56 9 ≤ 100 := hG38.pr 56 9
          have eq88 : Z38 56 11 = Z24 56 11 := (hf38 56 11 rfl)
          have b89 : 0 ≤ Z24 56 11 ∧ Z24 56 11 ≤ 4 := hG24.pr 56 11
          have eq90 : Z38 60 61 = Z24 60 61 := (hf38 60 61 rfl)
          have b91 : 0 ≤ Z24 60 61 ∧ Z24 60 61 ≤ 900 := by have hq := GI_ex hG24 60 61; replace hq : f60 (61 % 962) (Z24 60 61) := hq; unfold f60 at hq; omega
          have b92 : (-2147483648) ≤ Z24 60 61 ∧ Z24 60 61 ≤ 2147483647 := hG24.pr 60 61
          have eq93 : Z38 60 1 = Z24 60 1 := (hf38 60 1 rfl)
          have b94 : 0 ≤ Z24 60 1 ∧ Z24 60 1 ≤ 18 := by have hq := GI_ex hG24 60 1; replace hq : f60 (1 % 962) (Z24 60 1) := hq; unfold f60 at hq; omega
          have b95 : (-2147483648) ≤ Z24 60 1 ∧ Z24 60 1 ≤ 2147483647 := hG24.pr 60 1
          have eq96 : Z38 60 2 = Z24 60 2 := (hf38 60 2 rfl)
          have b97 : 0 ≤ Z24 60 2 ∧ Z24 60 2 ≤ 18 := by have hq := GI_ex hG24 60 2; replace hq : f60 (2 % 962) (Z24 60 2) := hq; unfold f60 at hq; omega
          have b98 : (-2147483648) ≤ Z24 60 2 ∧ Z24 60 2 ≤ 2147483647 := hG24.pr 60 2
          obtain ⟨Z82, h82, hc82, hx82, hG82, hf82, b82⟩ := ct_171_56_i3 (a0 := a0) (d := d + 0) (l := l) (D := D) (b0 := b0) (ad := ad) (Hb := Hb) (tau := tau) hx38 hG38  (show (Z38 56 6 ≤ Z38 56 7 ∧ Z38 56 7 ≤ Z38 56 8 ∧ (Z38 56 9 = 24 ∨ Z38 56 6 < Z38 56 7)) by first | omega | (simp only [eq85, eq88, eq90, eq93, eq96]; omega)) (show Z38 60 61 ≤ Z38 56 6 by first | omega | (simp only [eq85, eq88, eq90, eq93, eq96]; omega)) (show a0 ≤ Z38 60 61 by first | omega | (simp only [eq85, eq88, eq90, eq93, eq96]; omega)) (show 0 ≤ a0 by first | omega | (simp only [eq85, eq88, eq90, eq93, eq96]; omega))
          try rw [eq85] at b82
          try rw [eq88] at b82
          try rw [eq90] at b82
          try rw [eq93] at b82
          try rw [eq96] at b82
          obtain ⟨bq82, b82⟩ := b82
          have b99 : 0 ≤ Z82 56 6 ∧ Z82 56 6 ≤ 900 := hG82.pr 56 6
          have b100 : 0 ≤ Z82 56 7 ∧ Z82 56 7 ≤ 900 := hG82.pr 56 7
          have b101 : 0 ≤ Z82 56 9 ∧ Z82 56 9 ≤ 100 := hG82.pr 56 9
          have b102 : 0 ≤ Z82 56 11 ∧ Z82 56 11 ≤ 4 := hG82.pr 56 11
          have b103 : 0 ≤ Z82 60 61 ∧ Z82 60 61 ≤ 900 := by have hq := GI_ex hG82 60 61; replace hq : f60 (61 % 962) (Z82 60 61) := hq; unfold f60 at hq; omega
          have b104 : (-2147483648) ≤ Z82 60 61 ∧ Z82 60 61 ≤ 2147483647 := hG82.pr 60 61
          have b105 : 0 ≤ Z82 60 1 ∧ Z82 60 1 ≤ 18 := by have hq := GI_ex hG82 60 1; replace hq : f60 (1 % 962) (Z82 60 1) := hq; unfold f60 at hq; omega
          have b106 : (-2147483648) ≤ Z82 60 1 ∧ Z82 60 1 ≤ 2147483647 := hG82.pr 60 1
          have b107 : 0 ≤ Z82 60 2 ∧ Z82 60 2 ≤ 18 := by have hq := GI_ex hG82 60 2; replace hq : f60 (2 % 962) (Z82 60 2) := hq; unfold f60 at hq; omega
          have b108 : (-2147483648) ≤ Z82 60 2 ∧ Z82 60 2 ≤ 2147483647 := hG82.pr 60 2
          have r82 := QR_tr (d := 2) (c := 1) (rk38 (by omega)) bq82 (by decide) (by decide) (by decide)
          refine Jcv0 hx38 (show mx_Sn _ _ 16 (mx_callv 171 2 12 19) from sn_173 16) a56 s56 hc82 rfl rfl rfl ?_
          refine mx_J.step (sn_173 19) (fun _ _ => rfl) ?_
          refine JcI (z := 3002) (show mx_Sn _ _ 20 (mx_const (.int 3002) 23) from sn_173 20) rfl ?_
          have eq110 : Z82 56 8 = Z 56 8 := ((hf82 56 8 rfl).trans ((hf38 56 8 rfl).trans ((hf24 56 8 rfl).trans (hf1 56 8 rfl))))
          have b111 : 0 ≤ Z 56 8 ∧ Z 56 8 ≤ 900 := hG.pr 56 8
          have b112 : 0 ≤ Z82 56 11 ∧ Z82 56 11 ≤ 4 := hG82.pr 56 11
          have b113 : 0 ≤ Z82 60 61 ∧ Z82 60 61 ≤ 900 := by have hq := GI_ex hG82 60 61; replace hq : f60 (61 % 962) (Z82 60 61) := hq; unfold f60 at hq; omega
          have b114 : (-2147483648) ≤ Z82 60 61 ∧ Z82 60 61 ≤ 2147483647 := hG82.pr 60 61
          have b115 : 0 ≤ Z82 60 1 ∧ Z82 60 1 ≤ 18 := by have hq := GI_ex hG82 60 1; replace hq : f60 (1 % 962) (Z82 60 1) := hq; unfold f60 at hq; omega
          have b116 : (-2147483648) ≤ Z82 60 1 ∧ Z82 60 1 ≤ 2147483647 := hG82.pr 60 1
          have b117 : 0 ≤ Z82 60 2 ∧ Z82 60 2 ≤ 18 := by have hq := GI_ex hG82 60 2; replace hq : f60 (2 % 962) (Z82 60 2) := hq; unfold f60 at hq; omega
          have b118 : (-2147483648) ≤ Z82 60 2 ∧ Z82 60 2 ≤ 2147483647 := hG82.pr 60 2
          have rp109 := QR_n r82
          obtain ⟨Z109, h109, hc109, hx109, hG109, hf109, b109⟩ := ct_169_56_3000 (a0 := a0) (d := d + 29) (l := l) (D := D) (b0 := b0) (ad := ad) (Hb := Hb) (tau := tau) hx82 hG82 (show 3000 ≤ 3002 ∧ 3002 ≤ 3005 by omega) (show (Z82 56 11 = 0 → Z82 60 61 ≤ 899) by first | omega | (simp only [eq110]; omega)) (show a0 ≤ Z82 60 61 by first | omega | (simp only [eq110]; omega)) (show 0 ≤ a0 by first | omega | (simp only [eq110]; omega))
          try rw [eq110] at b109
          obtain ⟨bq109, b109⟩ := b109
          have b119 : 0 ≤ Z109 60 61 ∧ Z109 60 61 ≤ 900 := by have hq := GI_ex hG109 60 61; replace hq : f60 (61 % 962) (Z109 60 61) := hq; unfold f60 at hq; omega
          have b120 : (-2147483648) ≤ Z109 60 61 ∧ Z109 60 61 ≤ 2147483647 := hG109.pr 60 61
          have b121 : 0 ≤ Z109 60 1 ∧ Z109 60 1 ≤ 18 := by have hq := GI_ex hG109 60 1; replace hq : f60 (1 % 962) (Z109 60 1) := hq; unfold f60 at hq; omega
          have b122 : (-2147483648) ≤ Z109 60 1 ∧ Z109 60 1 ≤ 2147483647 := hG109.pr 60 1
          have b123 : 0 ≤ Z109 60 2 ∧ Z109 60 2 ≤ 18 := by have hq := GI_ex hG109 60 2; replace hq : f60 (2 % 962) (Z109 60 2) := hq; unfold f60 at hq; omega
          have b124 : (-2147483648) ≤ Z109 60 2 ∧ Z109 60 2 ≤ 2147483647 := hG109.pr 60 2
          have rn109 := QR_n r82
          have r109 := QR_c (d2 := 1) (c2 := 0) r82 bq109 (by omega) (hf109 56 11 rfl) (hf109 56 6 rfl) (by decide) (by decide) (by decide)
          refine Jcv0 hx82 (show mx_Sn _ _ 23 (mx_callv 169 2 12 26) from sn_173 23) a56 s56 hc109 rfl rfl rfl ?_
          refine mx_J.step (sn_173 26) (fun _ _ => rfl) ?_
          have eq125 : Z109 56 6 = Z82 56 6 := (hf109 56 6 rfl)
          have b126 : 0 ≤ Z82 56 6 ∧ Z82 56 6 ≤ 900 := hG82.pr 56 6
          have eq127 : Z109 56 7 = Z82 56 7 := (hf109 56 7 rfl)
          have b128 : 0 ≤ Z82 56 7 ∧ Z82 56 7 ≤ 900 := hG82.pr 56 7
          have eq129 : Z109 56 6 = Z82 56 6 := (hf109 56 6 rfl)
          have b130 : 0 ≤ Z82 56 6 ∧ Z82 56 6 ≤ 900 := hG82.pr 56 6
          have eq131 : Z109 56 7 = Z82 56 7 := (hf109 56 7 rfl)
          have b132 : 0 ≤ Z82 56 7 ∧ Z82 56 7 ≤ 900 := hG82.pr 56 7
          have eq133 : Z109 56 9 = Z82 56 9 := (hf109 56 9 rfl)
          have b134 : 0 ≤ Z82 56 9 ∧ Z82 56 9 ≤ 100 := hG82.pr 56 9
          have eq135 : Z109 56 6 = Z82 56 6 := (hf109 56 6 rfl)
          have b136 : 0 ≤ Z82 56 6 ∧ Z82 56 6 ≤ 900 := hG82.pr 56 6
          have b137 : 0 ≤ Z109 60 61 ∧ Z109 60 61 ≤ 900 := by have hq := GI_ex hG109 60 61; replace hq : f60 (61 % 962) (Z109 60 61) := hq; unfold f60 at hq; omega
          have b138 : (-2147483648) ≤ Z109 60 61 ∧ Z109 60 61 ≤ 2147483647 := hG109.pr 60 61
          have b139 : 0 ≤ Z109 60 1 ∧ Z109 60 1 ≤ 18 := by have hq := GI_ex hG109 60 1; replace hq : f60 (1 % 962) (Z109 60 1) := hq; unfold f60 at hq; omega
          have b140 : (-2147483648) ≤ Z109 60 1 ∧ Z109 60 1 ≤ 2147483647 := hG109.pr 60 1
          have b141 : 0 ≤ Z109 60 2 ∧ Z109 60 2 ≤ 18 := by have hq := GI_ex hG109 60 2; replace hq : f60 (2 % 962) (Z109 60 2) := hq; unfold f60 at hq; omega
          have b142 : (-2147483648) ≤ Z109 60 2 ∧ Z109 60 2 ≤ 2147483647 := hG109.pr 60 2
          have eq143 : Z109 56 6 = Z82 56 6 := (hf109 56 6 rfl)
          have b144 : 0 ≤ Z82 56 6 ∧ Z82 56 6 ≤ 900 := hG82.pr 56 6
          exact ih23 Z109 h109 (by omega) (by omega) (by omega) (by omega) (by omega) (QR_le r109 (by decide)) hx109 hG109 (fr_tr (M := [(56, 6), (56, 7), (56, 9), (56, 10), (56, 11), (56, 12), (60, (-1))]) (fr_tr (M := [(56, 6), (56, 7), (56, 9), (56, 10), (56, 11), (56, 12), (60, (-1))]) (fr_tr (M := [(56, 6), (56, 7), (56, 9), (56, 10), (56, 11), (56, 12), (60, (-1))]) (fr_tr (M := [(56, 6), (56, 7), (56, 9), (56, 10), (56, 11), (56, 12), (60, (-1))]) fr_rf (hf24) (M1 := []) rfl rfl) (hf38) rfl rfl) (hf82) rfl rfl) (hf109) rfl rfl)
    have b145 : 0 ≤ Z1 56 6 ∧ Z1 56 6 ≤ 900 := hG1.pr 56 6
    have b146 : 0 ≤ Z1 56 7 ∧ Z1 56 7 ≤ 900 := hG1.pr 56 7
    have b147 : 0 ≤ Z1 56 6 ∧ Z1 56 6 ≤ 900 := hG1.pr 56 6
    have b148 : 0 ≤ Z1 56 7 ∧ Z1 56 7 ≤ 900 := hG1.pr 56 7
    have b149 : 0 ≤ Z1 56 9 ∧ Z1 56 9 ≤ 100 := hG1.pr 56 9
    have b150 : 0 ≤ Z1 56 6 ∧ Z1 56 6 ≤ 900 := hG1.pr 56 6
    have b151 : 0 ≤ Z1 60 61 ∧ Z1 60 61 ≤ 900 := by have hq := GI_ex hG1 60 61; replace hq : f60 (61 % 962) (Z1 60 61) := hq; unfold f60 at hq; omega
    have b152 : (-2147483648) ≤ Z1 60 61 ∧ Z1 60 61 ≤ 2147483647 := hG1.pr 60 61
    have b153 : 0 ≤ Z1 60 1 ∧ Z1 60 1 ≤ 18 := by have hq := GI_ex hG1 60 1; replace hq : f60 (1 % 962) (Z1 60 1) := hq; unfold f60 at hq; omega
    have b154 : (-2147483648) ≤ Z1 60 1 ∧ Z1 60 1 ≤ 2147483647 := hG1.pr 60 1
    have b155 : 0 ≤ Z1 60 2 ∧ Z1 60 2 ≤ 18 := by have hq := GI_ex hG1 60 2; replace hq : f60 (2 % 962) (Z1 60 2) := hq; unfold f60 at hq; omega
    have b156 : (-2147483648) ≤ Z1 60 2 ∧ Z1 60 2 ≤ 2147483647 := hG1.pr 60 2
    have b157 : 0 ≤ Z1 56 6 ∧ Z1 56 6 ≤ 900 := hG1.pr 56 6
    exact c5 (Int.toNat ((((Z 56 8 - Z1 56 6).toNat : Nat) : Int)) + 1) Z1 h1 (by omega) (by omega) (by omega) (by omega) (by omega) (QR_le r1 (by decide)) hx1 hG1 fr_rf
theorem ct_173_56_i3 {l : Launch} {D : va_G} {b0 : Nat} {ad : Nat → Nat} {Hb : Heap} {tau : Nat → Int64} {d n s : Nat} {S : Nat → xS} {Z : xZ} {h : mx_H} {a0 : Int} (hx : XH n s S Z h) (hG : GI n S Z)   (k0 : (Z 56 6 ≤ Z 56 7 ∧ Z 56 7 ≤ Z 56 8 ∧ (Z 56 9 = 24 ∨ Z 56 6 < Z 56 7))) (k1 : Z 60 61 ≤ Z 56 6) (k2 : a0 ≤ Z 60 61) (k3 : 0 ≤ a0) : ∃ (Z' : xZ) (h' : mx_H), mx_Ca (tB l D b0 ad Hb tau) (d + 31) 173 [.ref 56, xI 3] h (none, h') ∧ XH n s S Z' h' ∧ GI n S Z' ∧ fr' [(56, 6), (56, 7), (56, 9), (56, 10), (56, 11), (56, 12), (60, (-1))] Z Z' ∧ (QR Z Z' a0 1 0 ∧ ((Z' 56 6 ≤ Z' 56 7 ∧ Z' 56 7 ≤ Z 56 8 ∧ (Z' 56 9 = 24 ∨ Z' 56 6 < Z' 56 7)) ∧ Z' 60 1 = Z 60 1 ∧ Z' 60 2 = Z 60 2 ∧ Z 56 6 ≤ Z' 56 6 ∧ Z 60 61 ≤ Z' 60 61 ∧ Z' 60 61 - Z 60 61 ≤ Z' 56 6 - Z 56 6)) := by
  obtain ⟨r, hca, Z', h', e, q⟩ := Jmt (B := tB l D b0 ad Hb tau) (M := mt_173) (mi := 173) (as := [.ref 56, xI 3]) (d := d + 30) (ls := [some (.ref 56), some (xI 3)]) rfl rfl rfl rfl rfl rfl (cw_173_56_i3 (l := l) (D := D) (b0 := b0) (ad := ad) (Hb := Hb) (tau := tau) (d := d) (Post := fun r => ∃ (Z' : xZ) (h' : mx_H), r = (none, h') ∧ XH n s S Z' h' ∧ GI n S Z' ∧ fr' [(56, 6), (56, 7), (56, 9), (56, 10), (56, 11), (56, 12), (60, (-1))] Z Z' ∧ (QR Z Z' a0 1 0 ∧ ((Z' 56 6 ≤ Z' 56 7 ∧ Z' 56 7 ≤ Z 56 8 ∧ (Z' 56 9 = 24 ∨ Z' 56 6 < Z' 56 7)) ∧ Z' 60 1 = Z 60 1 ∧ Z' 60 2 = Z 60 2 ∧ Z 56 6 ≤ Z' 56 6 ∧ Z 60 61 ≤ Z' 60 61 ∧ Z' 60 61 - Z 60 61 ≤ Z' 56 6 - Z 56 6))) hx hG k0 k1 k2 k3 (fun Z' h' q1 q2 q3 q4 => ⟨Z', h', rfl, q1, q2, q3, q4⟩))
  subst e; exact ⟨Z', h', hca, q⟩
set_option maxHeartbeats 8000000 in
set_option maxRecDepth 100000 in
theorem cw_174_56_i3 {l : Launch} {D : va_G} {b0 : Nat} {ad : Nat → Nat} {Hb : Heap} {tau : Nat → Int64} {d n s : Nat} {S : Nat → xS} {Z : xZ} {h : mx_H} {Post : mx_R → Prop} {a0 : Int} (hx : XH n s S Z h) (hG : GI n S Z)   (k0 : (Z 56 6 ≤ Z 56 7 ∧ Z 56 7 ≤ Z 56 8 ∧ (Z 56 9 = 24 ∨ Z 56 6 < Z 56 7))) (k1 : Z 60 61 ≤ Z 56 6) (k2 : a0 ≤ Z 60 61) (k3 : 0 ≤ a0) (hP : ∀ (Z' : xZ) (h' : mx_H), XH n s S Z' h' → GI n S Z' → fr' [(56, 6), (56, 7), (56, 9), (56, 10), (56, 11), (56, 12), (60, (-1))] Z Z' → QR Z Z' a0 1 0 ∧ ((Z' 56 6 ≤ Z' 56 7 ∧ Z' 56 7 ≤ Z 56 8 ∧ (Z' 56 9 = 24 ∨ Z' 56 6 < Z' 56 7)) ∧ Z' 60 1 = Z 60 1 ∧ Z' 60 2 = Z 60 2 ∧ Z 56 6 ≤ Z' 56 6 ∧ Z 60 61 ≤ Z' 60 61 ∧ Z' 60 61 - Z 60 61 ≤ Z' 56 6 - Z 56 6) → Post (none, h')) : mx_J (tB l D b0 ad Hb tau) mt_174 (d + 31) 0 [some (.ref 56), some (xI 3), none] [] h Post := by
    have a56 : 56 < n := lt83 (GI_n hG) rfl
    have s56 : S 56 = .inl (12, [0, 2, 2, 2, 2, 0, 0, 0, 0, 0, 0, 0, 0, 0, 0, 2, 2, 2, 0, 2, 2, 2, 0, 0, 2, 2, 2, 2, 2, 2, 0, 0, 2, 2, 2, 2, 2, 2, 2, 2, 2, 2]) := GI_s hG 56 rfl
    refine mx_J.step (sn_174 0) (fun _ _ => rfl) ?_
    refine mx_J.step (sn_174 1) (fun _ _ => rfl) ?_
    have b2 : 0 ≤ Z 56 6 ∧ Z 56 6 ≤ 900 := hG.pr 56 6
    have b3 : 0 ≤ Z 56 7 ∧ Z 56 7 ≤ 900 := hG.pr 56 7
    have b4 : 0 ≤ Z 56 8 ∧ Z 56 8 ≤ 900 := hG.pr 56 8
    have b5 : 0 ≤ Z 56 9 ∧ Z 56 9 ≤ 100 := hG.pr 56 9
    have b6 : 0 ≤ Z 56 11 ∧ Z 56 11 ≤ 4 := hG.pr 56 11
    have b7 : 0 ≤ Z 60 61 ∧ Z 60 61 ≤ 900 := by have hq := GI_ex hG 60 61; replace hq : f60 (61 % 962) (Z 60 61) := hq; unfold f60 at hq; omega
    have b8 : (-2147483648) ≤ Z 60 61 ∧ Z 60 61 ≤ 2147483647 := hG.pr 60 61
    have b9 : 0 ≤ Z 60 1 ∧ Z 60 1 ≤ 18 := by have hq := GI_ex hG 60 1; replace hq : f60 (1 % 962) (Z 60 1) := hq; unfold f60 at hq; omega
    have b10 : (-2147483648) ≤ Z 60 1 ∧ Z 60 1 ≤ 2147483647 := hG.pr 60 1
    have b11 : 0 ≤ Z 60 2 ∧ Z 60 2 ≤ 18 := by have hq := GI_ex hG 60 2; replace hq : f60 (2 % 962) (Z 60 2) := hq; unfold f60 at hq; omega
    have b12 : (-2147483648) ≤ Z 60 2 ∧ Z 60 2 ≤ 2147483647 := hG.pr 60 2
    obtain ⟨Z1, h1, hc1, hx1, hG1, hf1, b1⟩ := ct_173_56_i3 (a0 := a0) (d := d + 0) (l := l) (D := D) (b0 := b0) (ad := ad) (Hb := Hb) (tau := tau) hx hG  (show (Z 56 6 ≤ Z 56 7 ∧ Z 56 7 ≤ Z 56 8 ∧ (Z 56 9 = 24 ∨ Z 56 6 < Z 56 7)) by omega) (show Z 60 61 ≤ Z 56 6 by omega) (show a0 ≤ Z 60 61 by omega) (show 0 ≤ a0 by omega)
    obtain ⟨bq1, b1⟩ := b1
    have b13 : 0 ≤ Z1 56 6 ∧ Z1 56 6 ≤ 900 := hG1.pr 56 6
    have b14 : 0 ≤ Z1 56 7 ∧ Z1 56 7 ≤ 900 := hG1.pr 56 7
    have b15 : 0 ≤ Z1 56 9 ∧ Z1 56 9 ≤ 100 := hG1.pr 56 9
    have b16 : 0 ≤ Z1 56 11 ∧ Z1 56 11 ≤ 4 := hG1.pr 56 11
    have b17 : 0 ≤ Z1 60 61 ∧ Z1 60 61 ≤ 900 := by have hq := GI_ex hG1 60 61; replace hq : f60 (61 % 962) (Z1 60 61) := hq; unfold f60 at hq; omega
    have b18 : (-2147483648) ≤ Z1 60 61 ∧ Z1 60 61 ≤ 2147483647 := hG1.pr 60 61
    have b19 : 0 ≤ Z1 60 1 ∧ Z1 60 1 ≤ 18 := by have hq := GI_ex hG1 60 1; replace hq : f60 (1 % 962) (Z1 60 1) := hq; unfold f60 at hq; omega
    have b20 : (-2147483648) ≤ Z1 60 1 ∧ Z1 60 1 ≤ 2147483647 := hG1.pr 60 1
    have b21 : 0 ≤ Z1 60 2 ∧ Z1 60 2 ≤ 18 := by have hq := GI_ex hG1 60 2; replace hq : f60 (2 % 962) (Z1 60 2) := hq; unfold f60 at hq; omega
    have b22 : (-2147483648) ≤ Z1 60 2 ∧ Z1 60 2 ≤ 2147483647 := hG1.pr 60 2
    have r1 := QR_tr (d := 1) (c := 0) (QR_rf (Z := Z) (a := a0)) bq1 (by decide) (by decide) (by decide)
    refine Jcv0 hx (show mx_Sn _ _ 2 (mx_callv 173 2 12 5) from sn_174 2) a56 s56 hc1 rfl rfl rfl ?_
    have c5 : ∀ (m23 : Nat) (u23_2 : Option Value) (Z24 : xZ) (h24 : mx_H), (((Z 56 8 - Z24 56 6).toNat : Nat) : Int) < (m23 : Int) → (Z24 56 6 ≤ Z24 56 7 ∧ Z24 56 7 ≤ Z 56 8) → (Z24 56 9 = 24 ∨ Z24 56 6 < Z24 56 7) → (Z 56 6 ≤ Z24 56 6 ∧ Z 60 61 ≤ Z24 60 61 ∧ Z24 60 61 - Z 60 61 ≤ Z24 56 6 - Z 56 6) → (Z24 60 1 = Z 60 1 ∧ Z24 60 2 = Z 60 2) → QR Z Z24 a0 1 0 → XH n s S Z24 h24 → GI n S Z24 → fr' [(56, 6), (56, 7), (56, 9), (56, 10), (56, 11), (56, 12), (60, (-1))] Z1 Z24 → mx_J (tB l D b0 ad Hb tau) mt_174 (d + 31) 5 [some (.ref 56), some (xI 3), u23_2] [] h24 Post := by
      intro m23
      induction m23 with
      | zero => intro u23_2 Z24 h24 q23 f23_0 f23_1 f23_2 f23_3 f23_4 hx24 hG24 hf24; exact absurd q23 (by omega)
      | succ m23 ih23 =>
        intro u23_2 Z24 h24 q23 f23_0 f23_1 f23_2 f23_3 f23_4 hx24 hG24 hf24
        have b25 : 0 ≤ Z24 56 6 ∧ Z24 56 6 ≤ 900 := hG24.pr 56 6
        have b26 : 0 ≤ Z24 56 7 ∧ Z24 56 7 ≤ 900 := hG24.pr 56 7
        have b27 : 0 ≤ Z24 56 6 ∧ Z24 56 6 ≤ 900 := hG24.pr 56 6
        have b28 : 0 ≤ Z24 56 7 ∧ Z24 56 7 ≤ 900 := hG24.pr 56 7
        have b29 : 0 ≤ Z24 56 9 ∧ Z24 56 9 ≤ 100 := hG24.pr 56 9
        have b30 : 0 ≤ Z24 56 6 ∧ Z24 56 6 ≤ 900 := hG24.pr 56 6
        have b31 : 0 ≤ Z24 60 61 ∧ Z24 60 61 ≤ 900 := by have hq := GI_ex hG24 60 61; replace hq : f60 (61 % 962) (Z24 60 61) := hq; unfold f60 at hq; omega
        have b32 : (-2147483648) ≤ Z24 60 61 ∧ Z24 60 61 ≤ 2147483647 := hG24.pr 60 61
        have b33 : 0 ≤ Z24 60 1 ∧ Z24 60 1 ≤ 18 := by have hq := GI_ex hG24 60 1; replace hq : f60 (1 % 962) (Z24 60 1) := hq; unfold f60 at hq; omega
        have b34 : (-2147483648) ≤ Z24 60 1 ∧ Z24 60 1 ≤ 2147483647 := hG24.pr 60 1
        have b35 : 0 ≤ Z24 60 2 ∧ Z24 60 2 ≤ 18 := by have hq := GI_ex hG24 60 2; replace hq : f60 (2 % 962) (Z24 60 2) := hq; unfold f60 at hq; omega
        have b36 : (-2147483648) ≤ Z24 60 2 ∧ Z24 60 2 ≤ 2147483647 := hG24.pr 60 2
        have b37 : 0 ≤ Z24 56 6 ∧ Z24 56 6 ≤ 900 := hG24.pr 56 6
        refine mx_J.step (sn_174 5) (fun _ _ => rfl) ?_
        refine JcI (z := 32) (show mx_Sn _ _ 6 (mx_const (.int 32) 8) from sn_174 6) rfl ?_
        have b39 : 0 ≤ Z24 56 9 ∧ Z24 56 9 ≤ 100 := hG24.pr 56 9
        have b40 : 0 ≤ Z24 56 11 ∧ Z24 56 11 ≤ 4 := hG24.pr 56 11
        obtain ⟨z38, hc38, b38⟩ := ct_164_56 (d := d + 30) (l := l) (D := D) (b0 := b0) (ad := ad) (Hb := Hb) (tau := tau) hx24 hG24 (show 0 ≤ 32 ∧ 32 ≤ 100 by omega)
        refine Jcv hx24 (show mx_Sn _ _ 8 (mx_callv 164 2 12 11) from sn_174 8) a56 s56 hc38 rfl rfl rfl ?_
        have c23 : (Z24 56 11 = 0 ∧ (Z24 56 9 = 32 ∨ Z24 56 9 = 33)) → mx_J (tB l D b0 ad Hb tau) mt_174 (d + 31) 23 [some (.ref 56), some (xI 3), u23_2] [] h24 Post := by
          intro f41_0
          refine mx_J.step (sn_174 23) (fun _ _ => rfl) ?_
          have b43 : 0 ≤ Z24 56 9 ∧ Z24 56 9 ≤ 100 := hG24.pr 56 9
          refine JgetI (g := 9) (z := Z24 56 9) hx24 (show mx_Sn _ _ 24 (mx_getf 12 9 27) from sn_174 24) a56 s56 rfl rfl rfl ?_
          refine JcI (z := 32) (show mx_Sn _ _ 27 (mx_const (.int 32) 29) from sn_174 27) rfl ?_
          have c41 : ∀ (k44_0 : Int), 3000 ≤ k44_0 ∧ k44_0 ≤ 3001 → mx_J (tB l D b0 ad Hb tau) mt_174 (d + 31) 41 [some (.ref 56), some (xI 3), u23_2] [xI k44_0] h24 Post := by
            intro k44_0 f44_0
            refine mx_J.step (ls2 := [some (.ref 56), some (xI 3), some (xI k44_0)]) (sn_174 41) (fun _ _ => rfl) ?_
            refine mx_J.step (sn_174 42) (fun _ _ => rfl) ?_
            have b46 : 0 ≤ Z24 56 7 ∧ Z24 56 7 ≤ 900 := hG24.pr 56 7
            have eq47 : Z24 56 8 = Z 56 8 := ((hf24 56 8 rfl).trans (hf1 56 8 rfl))
            have b48 : 0 ≤ Z 56 8 ∧ Z 56 8 ≤ 900 := hG.pr 56 8
            obtain ⟨Z45, h45, hc45, hx45, hG45, hf45, b45⟩ := ct_162_56 (d := d + 25) (l := l) (D := D) (b0 := b0) (ad := ad) (Hb := Hb) (tau := tau) hx24 hG24  (show Z24 56 7 ≤ Z24 56 8 by first | omega | (simp only [eq47]; omega))
            try rw [eq47] at b45
            have b49 : 0 ≤ Z45 56 6 ∧ Z45 56 6 ≤ 900 := hG45.pr 56 6
            have b50 : 0 ≤ Z45 56 7 ∧ Z45 56 7 ≤ 900 := hG45.pr 56 7
            have b51 : 0 ≤ Z45 56 9 ∧ Z45 56 9 ≤ 100 := hG45.pr 56 9
            have b52 : 0 ≤ Z24 56 6 ∧ Z24 56 6 ≤ 900 := hG24.pr 56 6
            have b53 : 0 ≤ Z24 56 11 ∧ Z24 56 11 ≤ 4 := hG24.pr 56 11
            have b54 : 0 ≤ Z24 56 9 ∧ Z24 56 9 ≤ 100 := hG24.pr 56 9
            have r45 := QR_g (k := 1) (c2 := 1) f23_4 (fun e => (hf45 56 11 rfl).symm.trans e) (fun i => hf45 60 i rfl) (fun e => by omega) (by decide)
            refine Jcv0 hx24 (show mx_Sn _ _ 43 (mx_callv 162 1 12 46) from sn_174 43) a56 s56 hc45 rfl rfl rfl ?_
            refine mx_J.step (sn_174 46) (fun _ _ => rfl) ?_
            refine mx_J.step (sn_174 47) (fun _ _ => rfl) ?_
            have b56 : 0 ≤ Z45 56 6 ∧ Z45 56 6 ≤ 900 := hG45.pr 56 6
            have b57 : 0 ≤ Z45 56 7 ∧ Z45 56 7 ≤ 900 := hG45.pr 56 7
            have eq58 : Z45 56 8 = Z 56 8 := ((hf45 56 8 rfl).trans ((hf24 56 8 rfl).trans (hf1 56 8 rfl)))
            have b59 : 0 ≤ Z 56 8 ∧ Z 56 8 ≤ 900 := hG.pr 56 8
            have b60 : 0 ≤ Z45 56 9 ∧ Z45 56 9 ≤ 100 := hG45.pr 56 9
            have eq61 : Z45 56 11 = Z24 56 11 := (hf45 56 11 rfl)
            have b62 : 0 ≤ Z24 56 11 ∧ Z24 56 11 ≤ 4 := hG24.pr 56 11
            have eq63 : Z45 60 61 = Z24 60 61 := (hf45 60 61 rfl)
            have b64 : 0 ≤ Z24 60 61 ∧ Z24 60 61 ≤ 900 := by have hq := GI_ex hG24 60 61; replace hq : f60 (61 % 962) (Z24 60 61) := hq; unfold f60 at hq; omega
            have b65 : (-2147483648) ≤ Z24 60 61 ∧ Z24 60 61 ≤ 2147483647 := hG24.pr 60 61
            have eq66 : Z45 60 1 = Z24 60 1 := (hf45 60 1 rfl)
            have b67 : 0 ≤ Z24 60 1 ∧ Z24 60 1 ≤ 18 := by have hq := GI_ex hG24 60 1; replace hq : f60 (1 % 962) (Z24 60 1) := hq; unfold f60 at hq; omega
            have b68 : (-2147483648) ≤ Z24 60 1 ∧ Z24 60 1 ≤ 2147483647 := hG24.pr 60 1
            have eq69 : Z45 60 2 = Z24 60 2 := (hf45 60 2 rfl)
            have b70 : 0 ≤ Z24 60 2 ∧ Z24 60 2 ≤ 18 := by have hq := GI_ex hG24 60 2; replace hq : f60 (2 % 962) (Z24 60 2) := hq; unfold f60 at hq; omega
            have b71 : (-2147483648) ≤ Z24 60 2 ∧ Z24 60 2 ≤ 2147483647 := hG24.pr 60 2
            obtain ⟨Z55, h55, hc55, hx55, hG55, hf55, b55⟩ := ct_173_56_i3 (a0 := a0) (d := d + 0) (l := l) (D := D) (b0 := b0) (ad := ad) (Hb := Hb) (tau := tau) hx45 hG45  (show (Z45 56 6 ≤ Z45 56 7 ∧ Z45 56 7 ≤ Z45 56 8 ∧ (Z45 56 9 = 24 ∨ Z45 56 6 < Z45 56 7)) by first | omega | (simp only [eq58, eq61, eq63, eq66, eq69]; omega)) (show Z45 60 61 ≤ Z45 56 6 by first | omega | (simp only [eq58, eq61, eq63, eq66, eq69]; omega)) (show a0 ≤ Z45 60 61 by first | omega | (simp only [eq58, eq61, eq63, eq66, eq69]; omega)) (show 0 ≤ a0 by first | omega | (simp only [eq58, eq61, eq63, eq66, eq69]; omega))
            try rw [eq58] at b55
            try rw [eq61] at b55
            try rw [eq63] at b55
            try rw [eq66] at b55
            try rw [eq69] at b55
            obtain ⟨bq55, b55⟩ := b55
            have b72 : 0 ≤ Z55 56 6 ∧ Z55 56 6 ≤ 900 := hG55.pr 56 6
            have b73 : 0 ≤ Z55 56 7 ∧ Z55 56 7 ≤ 900 := hG55.pr 56 7
            have b74 : 0 ≤ Z55 56 9 ∧ Z55 56 9 ≤ 100 := hG55.pr 56 9
            have b75 : 0 ≤ Z55 56 11 ∧ Z55 56 11 ≤ 4 := hG55.pr 56 11
            have b76 : 0 ≤ Z55 60 61 ∧ Z55 60 61 ≤ 900 := by have hq := GI_ex hG55 60 61; replace hq : f60 (61 % 962) (Z55 60 61) := hq; unfold f60 at hq; omega
            have b77 : (-2147483648) ≤ Z55 60 61 ∧ Z55 60 61 ≤ 2147483647 := hG55.pr 60 61
            have b78 : 0 ≤ Z55 60 1 ∧ Z55 60 1 ≤ 18 := by have hq := GI_ex hG55 60 1; replace hq : f60 (1 % 962) (Z55 60 1) := hq; unfold f60 at hq; omega
            have b79 : (-2147483648) ≤ Z55 60 1 ∧ Z55 60 1 ≤ 2147483647 := hG55.pr 60 1
            have b80 : 0 ≤ Z55 60 2 ∧ Z55 60 2 ≤ 18 := by have hq := GI_ex hG55 60 2; replace hq : f60 (2 % 962) (Z55 60 2) := hq; unfold f60 at hq; omega
            have b81 : (-2147483648) ≤ Z55 60 2 ∧ Z55 60 2 ≤ 2147483647 := hG55.pr 60 2
            have r55 := QR_tr (d := 2) (c := 1) r45 bq55 (by decide) (by decide) (by decide)
            refine Jcv0 hx45 (show mx_Sn _ _ 48 (mx_callv 173 2 12 51) from sn_174 48) a56 s56 hc55 rfl rfl rfl ?_
            refine mx_J.step (sn_174 51) (fun _ _ => rfl) ?_
            refine mx_J.step (sn_174 52) (fun _ _ => rfl) ?_
            have eq83 : Z55 56 8 = Z 56 8 := ((hf55 56 8 rfl).trans ((hf45 56 8 rfl).trans ((hf24 56 8 rfl).trans (hf1 56 8 rfl))))
            have b84 : 0 ≤ Z 56 8 ∧ Z 56 8 ≤ 900 := hG.pr 56 8
            have b85 : 0 ≤ Z55 56 11 ∧ Z55 56 11 ≤ 4 := hG55.pr 56 11
            have b86 : 0 ≤ Z55 60 61 ∧ Z55 60 61 ≤ 900 := by have hq := GI_ex hG55 60 61; replace hq : f60 (61 % 962) (Z55 60 61) := hq; unfold f60 at hq; omega
            have b87 : (-2147483648) ≤ Z55 60 61 ∧ Z55 60 61 ≤ 2147483647 := hG55.pr 60 61
            have b88 : 0 ≤ Z55 60 1 ∧ Z55 60 1 ≤ 18 := by have hq := GI_ex hG55 60 1; replace hq : f60 (1 % 962) (Z55 60 1) := hq; unfold f60 at hq; omega
            have b89 : (-2147483648) ≤ Z55 60 1 ∧ Z55 60 1 ≤ 2147483647 := hG55.pr 60 1
            have b90 : 0 ≤ Z55 60 2 ∧ Z55 60 2 ≤ 18 := by have hq := GI_ex hG55 60 2; replace hq : f60 (2 % 962) (Z55 60 2) := hq; unfold f60 at hq; omega
            have b91 : (-2147483648) ≤ Z55 60 2 ∧ Z55 60 2 ≤ 2147483647 := hG55.pr 60 2
            have rp82 := QR_n r55
            obtain ⟨Z82, h82, hc82, hx82, hG82, hf82, b82⟩ := ct_169_56_3000 (a0 := a0) (d := d + 30) (l := l) (D := D) (b0 := b0) (ad := ad) (Hb := Hb) (tau := tau) hx55 hG55 (show 3000 ≤ k44_0 ∧ k44_0 ≤ 3005 by omega) (show (Z55 56 11 = 0 → Z55 60 61 ≤ 899) by first | omega | (simp only [eq83]; omega)) (show a0 ≤ Z55 60 61 by first | omega | (simp only [eq83]; omega)) (show 0 ≤ a0 by first | omega | (simp only [eq83]; omega))
            try rw [eq83] at b82
            obtain ⟨bq82, b82⟩ := b82
            have b92 : 0 ≤ Z82 60 61 ∧ Z82 60 61 ≤ 900 := by have hq := GI_ex hG82 60 61; replace hq : f60 (61 % 962) (Z82 60 61) := hq; unfold f60 at hq; omega
            have b93 : (-2147483648) ≤ Z82 60 61 ∧ Z82 60 61 ≤ 2147483647 := hG82.pr 60 61
            have b94 : 0 ≤ Z82 60 1 ∧ Z82 60 1 ≤ 18 := by have hq := GI_ex hG82 60 1; replace hq : f60 (1 % 962) (Z82 60 1) := hq; unfold f60 at hq; omega
            have b95 : (-2147483648) ≤ Z82 60 1 ∧ Z82 60 1 ≤ 2147483647 := hG82.pr 60 1
            have b96 : 0 ≤ Z82 60 2 ∧ Z82 60 2 ≤ 18 := by have hq := GI_ex hG82 60 2; replace hq : f60 (2 % 962) (Z82 60 2) := hq; unfold f60 at hq; omega
            have b97 : (-2147483648) ≤ Z82 60 2 ∧ Z82 60 2 ≤ 2147483647 := hG82.pr 60 2
            have rn82 := QR_n r55
            have r82 := QR_c (d2 := 1) (c2 := 0) r55 bq82 (by omega) (hf82 56 11 rfl) (hf82 56 6 rfl) (by decide) (by decide) (by decide)
            refine Jcv0 hx55 (show mx_Sn _ _ 53 (mx_callv 169 2 12 56) from sn_174 53) a56 s56 hc82 rfl rfl rfl ?_
            refine mx_J.step (sn_174 56) (fun _ _ => rfl) ?_
            have eq98 : Z82 56 6 = Z55 56 6 := (hf82 56 6 rfl)
            have b99 : 0 ≤ Z55 56 6 ∧ Z55 56 6 ≤ 900 := hG55.pr 56 6
            have eq100 : Z82 56 7 = Z55 56 7 := (hf82 56 7 rfl)
            have b101 : 0 ≤ Z55 56 7 ∧ Z55 56 7 ≤ 900 := hG55.pr 56 7
            have eq102 : Z82 56 6 = Z55 56 6 := (hf82 56 6 rfl)
            have b103 : 0 ≤ Z55 56 6 ∧ Z55 56 6 ≤ 900 := hG55.pr 56 6
            have eq104 : Z82 56 7 = Z55 56 7 := (hf82 56 7 rfl)
            have b105 : 0 ≤ Z55 56 7 ∧ Z55 56 7 ≤ 900 := hG55.pr 56 7
            have eq106 : Z82 56 9 = Z55 56 9 := (hf82 56 9 rfl)
            have b107 : 0 ≤ Z55 56 9 ∧ Z55 56 9 ≤ 100 := hG55.pr 56 9
            have eq108 : Z82 56 6 = Z55 56 6 := (hf82 56 6 rfl)
            have b109 : 0 ≤ Z55 56 6 ∧ Z55 56 6 ≤ 900 := hG55.pr 56 6
            have b110 : 0 ≤ Z82 60 61 ∧ Z82 60 61 ≤ 900 := by have hq := GI_ex hG82 60 61; replace hq : f60 (61 % 962) (Z82 60 61) := hq; unfold f60 at hq; omega
            have b111 : (-2147483648) ≤ Z82 60 61 ∧ Z82 60 61 ≤ 2147483647 := hG82.pr 60 61
            have b112 : 0 ≤ Z82 60 1 ∧ Z82 60 1 ≤ 18 := by have hq := GI_ex hG82 60 1; replace hq : f60 (1 % 962) (Z82 60 1) := hq; unfold f60 at hq; omega
            have b113 : (-2147483648) ≤ Z82 60 1 ∧ Z82 60 1 ≤ 2147483647 := hG82.pr 60 1
            have b114 : 0 ≤ Z82 60 2 ∧ Z82 60 2 ≤ 18 := by have hq := GI_ex hG82 60 2; replace hq : f60 (2 % 962) (Z82 60 2) := hq; unfold f60 at hq; omega
            have b115 : (-2147483648) ≤ Z82 60 2 ∧ Z82 60 2 ≤ 2147483647 := hG82.pr 60 2
            have eq116 : Z82 56 6 = Z55 56 6 := (hf82 56 6 rfl)
            have b117 : 0 ≤ Z55 56 6 ∧ Z55 56 6 ≤ 900 := hG55.pr 56 6
            exact ih23 (some (xI k44_0)) Z82 h82 (by omega) (by omega) (by omega) (by omega) (by omega) (QR_le r82 (by decide)) hx82 hG82 (fr_tr (M := [(56, 6), (56, 7), (56, 9), (56, 10), (56, 11), (56, 12), (60, (-1))]) (fr_tr (M := [(56, 6), (56, 7), (56, 9), (56, 10), (56, 11), (56, 12), (60, (-1))]) (fr_tr (M := [(56, 6), (56, 7), (56, 9), (56, 10), (56, 11), (56, 12), (60, (-1))]) (fr_tr (M := [(56, 6), (56, 7), (56, 9), (56, 10), (56, 11), (56, 12), (60, (-1))]) fr_rf (hf24) (M1 := []) rfl rfl) (hf45) rfl rfl) (hf55) rfl rfl) (hf82) rfl rfl)
          refine Jicmp_ne (show mx_Sn _ _ 29 (mx_icmp_ne 38 32) from sn_174 29) (by omega) (by omega) (fun q118 => ?_) (fun q118 => ?_)
          · skip
            refine JcI (z := 3001) (show mx_Sn _ _ 38 (mx_const (.int 3001) 41) from sn_174 38) rfl ?_
            exact c41 3001 (by omega)
          · skip
            refine JcI (z := 3000) (show mx_Sn _ _ 32 (mx_const (.int 3000) 35) from sn_174 32) rfl ?_
            refine mx_J.step (sn_174 35) (fun _ _ => rfl) ?_
            exact c41 3000 (by omega)
        refine Jif_ne (show mx_Sn _ _ 11 (mx_if_ne 23 14) from sn_174 11) (by omega) (fun q119 => ?_) (fun q119 => ?_)
        · skip
          exact c23 (by omega)
        · skip
          refine mx_J.step (sn_174 14) (fun _ _ => rfl) ?_
          refine JcI (z := 33) (show mx_Sn _ _ 15 (mx_const (.int 33) 17) from sn_174 15) rfl ?_
          have b121 : 0 ≤ Z24 56 9 ∧ Z24 56 9 ≤ 100 := hG24.pr 56 9
          have b122 : 0 ≤ Z24 56 11 ∧ Z24 56 11 ≤ 4 := hG24.pr 56 11
          obtain ⟨z120, hc120, b120⟩ := ct_164_56 (d := d + 30) (l := l) (D := D) (b0 := b0) (ad := ad) (Hb := Hb) (tau := tau) hx24 hG24 (show 0 ≤ 33 ∧ 33 ≤ 100 by omega)
          refine Jcv hx24 (show mx_Sn _ _ 17 (mx_callv 164 2 12 20) from sn_174 17) a56 s56 hc120 rfl rfl rfl ?_
          refine Jif_eq (show mx_Sn _ _ 20 (mx_if_eq 59 23) from sn_174 20) (by omega) (fun q123 => ?_) (fun q123 => ?_)
          · skip
            have b124 : 0 ≤ Z24 56 6 ∧ Z24 56 6 ≤ 900 := hG24.pr 56 6
            have b125 : 0 ≤ Z24 56 7 ∧ Z24 56 7 ≤ 900 := hG24.pr 56 7
            have b126 : 0 ≤ Z24 56 9 ∧ Z24 56 9 ≤ 100 := hG24.pr 56 9
            have b127 : 0 ≤ Z24 56 11 ∧ Z24 56 11 ≤ 4 := hG24.pr 56 11
            have b128 : 0 ≤ Z24 60 61 ∧ Z24 60 61 ≤ 900 := by have hq := GI_ex hG24 60 61; replace hq : f60 (61 % 962) (Z24 60 61) := hq; unfold f60 at hq; omega
            have b129 : (-2147483648) ≤ Z24 60 61 ∧ Z24 60 61 ≤ 2147483647 := hG24.pr 60 61
            have b130 : 0 ≤ Z24 60 1 ∧ Z24 60 1 ≤ 18 := by have hq := GI_ex hG24 60 1; replace hq : f60 (1 % 962) (Z24 60 1) := hq; unfold f60 at hq; omega
            have b131 : (-2147483648) ≤ Z24 60 1 ∧ Z24 60 1 ≤ 2147483647 := hG24.pr 60 1
            have b132 : 0 ≤ Z24 60 2 ∧ Z24 60 2 ≤ 18 := by have hq := GI_ex hG24 60 2; replace hq : f60 (2 % 962) (Z24 60 2) := hq; unfold f60 at hq; omega
            have b133 : (-2147483648) ≤ Z24 60 2 ∧ Z24 60 2 ≤ 2147483647 := hG24.pr 60 2
            have b134 : 0 ≤ Z24 56 6 ∧ Z24 56 6 ≤ 900 := hG24.pr 56 6
            have b135 : 0 ≤ Z24 56 7 ∧ Z24 56 7 ≤ 900 := hG24.pr 56 7
            have eq136 : Z24 56 8 = Z 56 8 := ((hf24 56 8 rfl).trans (hf1 56 8 rfl))
            have b137 : 0 ≤ Z 56 8 ∧ Z 56 8 ≤ 900 := hG.pr 56 8
            have b138 : 0 ≤ Z24 56 9 ∧ Z24 56 9 ≤ 100 := hG24.pr 56 9
            have b139 : 0 ≤ Z24 56 11 ∧ Z24 56 11 ≤ 4 := hG24.pr 56 11
            have b140 : 0 ≤ Z24 60 61 ∧ Z24 60 61 ≤ 900 := by have hq := GI_ex hG24 60 61; replace hq : f60 (61 % 962) (Z24 60 61) := hq; unfold f60 at hq; omega
            have b141 : (-2147483648) ≤ Z24 60 61 ∧ Z24 60 61 ≤ 2147483647 := hG24.pr 60 61
            have b142 : 0 ≤ Z24 60 1 ∧ Z24 60 1 ≤ 18 := by have hq := GI_ex hG24 60 1; replace hq : f60 (1 % 962) (Z24 60 1) := hq; unfold f60 at hq; omega
            have b143 : (-2147483648) ≤ Z24 60 1 ∧ Z24 60 1 ≤ 2147483647 := hG24.pr 60 1
            have b144 : 0 ≤ Z24 60 2 ∧ Z24 60 2 ≤ 18 := by have hq := GI_ex hG24 60 2; replace hq : f60 (2 % 962) (Z24 60 2) := hq; unfold f60 at hq; omega
            have b145 : (-2147483648) ≤ Z24 60 2 ∧ Z24 60 2 ≤ 2147483647 := hG24.pr 60 2
            exact mx_J.ret (sn_174 59) (fun _ _ => rfl) (hP Z24 h24 hx24 hG24 (fr_tr (M := [(56, 6), (56, 7), (56, 9), (56, 10), (56, 11), (56, 12), (60, (-1))]) (fr_tr (M := [(56, 6), (56, 7), (56, 9), (56, 10), (56, 11), (56, 12), (60, (-1))]) fr_rf (hf1) (M1 := []) rfl rfl) (hf24) rfl rfl) ⟨(QR_le f23_4 (by decide)), by omega⟩)
          · skip
            exact c23 (by omega)
    have b146 : 0 ≤ Z1 56 6 ∧ Z1 56 6 ≤ 900 := hG1.pr 56 6
    have b147 : 0 ≤ Z1 56 7 ∧ Z1 56 7 ≤ 900 := hG1.pr 56 7
    have b148 : 0 ≤ Z1 56 6 ∧ Z1 56 6 ≤ 900 := hG1.pr 56 6
    have b149 : 0 ≤ Z1 56 7 ∧ Z1 56 7 ≤ 900 := hG1.pr 56 7
    have b150 : 0 ≤ Z1 56 9 ∧ Z1 56 9 ≤ 100 := hG1.pr 56 9
    have b151 : 0 ≤ Z1 56 6 ∧ Z1 56 6 ≤ 900 := hG1.pr 56 6
    have b152 : 0 ≤ Z1 60 61 ∧ Z1 60 61 ≤ 900 := by have hq := GI_ex hG1 60 61; replace hq : f60 (61 % 962) (Z1 60 61) := hq; unfold f60 at hq; omega
    have b153 : (-2147483648) ≤ Z1 60 61 ∧ Z1 60 61 ≤ 2147483647 := hG1.pr 60 61
    have b154 : 0 ≤ Z1 60 1 ∧ Z1 60 1 ≤ 18 := by have hq := GI_ex hG1 60 1; replace hq : f60 (1 % 962) (Z1 60 1) := hq; unfold f60 at hq; omega
    have b155 : (-2147483648) ≤ Z1 60 1 ∧ Z1 60 1 ≤ 2147483647 := hG1.pr 60 1
    have b156 : 0 ≤ Z1 60 2 ∧ Z1 60 2 ≤ 18 := by have hq := GI_ex hG1 60 2; replace hq : f60 (2 % 962) (Z1 60 2) := hq; unfold f60 at hq; omega
    have b157 : (-2147483648) ≤ Z1 60 2 ∧ Z1 60 2 ≤ 2147483647 := hG1.pr 60 2
    have b158 : 0 ≤ Z1 56 6 ∧ Z1 56 6 ≤ 900 := hG1.pr 56 6
    exact c5 (Int.toNat ((((Z 56 8 - Z1 56 6).toNat : Nat) : Int)) + 1) none Z1 h1 (by omega) (by omega) (by omega) (by omega) (by omega) (QR_le r1 (by decide)) hx1 hG1 fr_rf
theorem ct_174_56_i3 {l : Launch} {D : va_G} {b0 : Nat} {ad : Nat → Nat} {Hb : Heap} {tau : Nat → Int64} {d n s : Nat} {S : Nat → xS} {Z : xZ} {h : mx_H} {a0 : Int} (hx : XH n s S Z h) (hG : GI n S Z)   (k0 : (Z 56 6 ≤ Z 56 7 ∧ Z 56 7 ≤ Z 56 8 ∧ (Z 56 9 = 24 ∨ Z 56 6 < Z 56 7))) (k1 : Z 60 61 ≤ Z 56 6) (k2 : a0 ≤ Z 60 61) (k3 : 0 ≤ a0) : ∃ (Z' : xZ) (h' : mx_H), mx_Ca (tB l D b0 ad Hb tau) (d + 32) 174 [.ref 56, xI 3] h (none, h') ∧ XH n s S Z' h' ∧ GI n S Z' ∧ fr' [(56, 6), (56, 7), (56, 9), (56, 10), (56, 11), (56, 12), (60, (-1))] Z Z' ∧ (QR Z Z' a0 1 0 ∧ ((Z' 56 6 ≤ Z' 56 7 ∧ Z' 56 7 ≤ Z 56 8 ∧ (Z' 56 9 = 24 ∨ Z' 56 6 < Z' 56 7)) ∧ Z' 60 1 = Z 60 1 ∧ Z' 60 2 = Z 60 2 ∧ Z 56 6 ≤ Z' 56 6 ∧ Z 60 61 ≤ Z' 60 61 ∧ Z' 60 61 - Z 60 61 ≤ Z' 56 6 - Z 56 6)) := by
  obtain ⟨r, hca, Z', h', e, q⟩ := Jmt (B := tB l D b0 ad Hb tau) (M := mt_174) (mi := 174) (as := [.ref 56, xI 3]) (d := d + 31) (ls := [some (.ref 56), some (xI 3), none]) rfl rfl rfl rfl rfl rfl (cw_174_56_i3 (l := l) (D := D) (b0 := b0) (ad := ad) (Hb := Hb) (tau := tau) (d := d) (Post := fun r => ∃ (Z' : xZ) (h' : mx_H), r = (none, h') ∧ XH n s S Z' h' ∧ GI n S Z' ∧ fr' [(56, 6), (56, 7), (56, 9), (56, 10), (56, 11), (56, 12), (60, (-1))] Z Z' ∧ (QR Z Z' a0 1 0 ∧ ((Z' 56 6 ≤ Z' 56 7 ∧ Z' 56 7 ≤ Z 56 8 ∧ (Z' 56 9 = 24 ∨ Z' 56 6 < Z' 56 7)) ∧ Z' 60 1 = Z 60 1 ∧ Z' 60 2 = Z 60 2 ∧ Z 56 6 ≤ Z' 56 6 ∧ Z 60 61 ≤ Z' 60 61 ∧ Z' 60 61 - Z 60 61 ≤ Z' 56 6 - Z 56 6))) hx hG k0 k1 k2 k3 (fun Z' h' q1 q2 q3 q4 => ⟨Z', h', rfl, q1, q2, q3, q4⟩))
  subst e; exact ⟨Z', h', hca, q⟩
