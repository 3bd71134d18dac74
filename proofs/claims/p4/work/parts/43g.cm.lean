set_option maxHeartbeats 8000000 in
set_option maxRecDepth 100000 in
theorem cw_172_56_s {l : Launch} {D : va_G} {b0 : Nat} {ad : Nat → Nat} {Hb : Heap} {tau : Nat → Int64} {d n s : Nat} {S : Nat → xS} {Z : xZ} {h : mx_H} {Post : mx_R → Prop} {a0 : Int} {g0 : Int} {T : Int → Int} {N : Int} {sg : SS} (hx : XH n s S Z h) (hG : GI n S Z)  {x0 : Int} (p0 : 0 ≤ x0 ∧ x0 ≤ 6) (k0 : (Z 56 6 ≤ Z 56 7 ∧ Z 56 7 ≤ Z 56 8 ∧ (Z 56 9 = 24 ∨ Z 56 6 < Z 56 7))) (k1 : Z 60 61 ≤ Z 56 6) (k2 : a0 ≤ Z 60 61) (k3 : 0 ≤ a0) (k4 : 0 ≤ g0) (k5 : ¬ Z 56 9 = 24) (k6 : Z 56 11 = 0) (hr : RM g0 T N Z sg) {kk : Nat} (IH : RBnh l D b0 ad Hb tau kk x0) (hd : kk ≤ d) (hP : ∀ (Z' : xZ) (h' : mx_H), XH n s S Z' h' → GI n S Z' → fr' [(56, 6), (56, 7), (56, 9), (56, 10), (56, 11), (56, 12), (60, (-1))] Z Z' → RM g0 T N Z' (ifX T N (lvI T N x0) sg) ∧ QR Z Z' a0 1 0 ∧ ((Z' 56 6 ≤ Z' 56 7 ∧ Z' 56 7 ≤ Z 56 8 ∧ (Z' 56 9 = 24 ∨ Z' 56 6 < Z' 56 7)) ∧ Z' 60 0 = Z 60 0 ∧ Z' 60 1 = Z 60 1 ∧ Z' 60 2 = Z 60 2 ∧ Z 56 6 ≤ Z' 56 6 ∧ Z 60 61 ≤ Z' 60 61 ∧ Z' 60 61 - Z 60 61 ≤ Z' 56 6 - Z 56 6) → Post (none, h')) : mx_J (tB l D b0 ad Hb tau) mt_172 (d + 7) 0 [some (.ref 56), some (xI x0)] [] h Post := by
    have a56 : 56 < n := lt83 (GI_n hG) rfl
    have s56 : S 56 = .inl (12, [0, 2, 2, 2, 2, 0, 0, 0, 0, 0, 0, 0, 0, 0, 0, 2, 2, 2, 0, 2, 2, 2, 0, 0, 2, 2, 2, 2, 2, 2, 0, 0, 2, 2, 2, 2, 2, 2, 2, 2, 2, 2]) := GI_s hG 56 rfl
    refine mx_J.step (sn_172 0) (fun _ _ => rfl) ?_
    refine mx_J.step (sn_172 1) (fun _ _ => rfl) ?_
    have b2 : 0 ≤ Z 56 6 ∧ Z 56 6 ≤ 900 := hG.pr 56 6
    have b3 : 0 ≤ Z 56 7 ∧ Z 56 7 ≤ 900 := hG.pr 56 7
    have b4 : 0 ≤ Z 56 8 ∧ Z 56 8 ≤ 900 := hG.pr 56 8
    have b5 : 0 ≤ Z 56 9 ∧ Z 56 9 ≤ 100 := hG.pr 56 9
    have b6 : 0 ≤ Z 56 11 ∧ Z 56 11 ≤ 4 := hG.pr 56 11
    obtain ⟨z1, Z1, h1, hc1, hx1, hG1, hf1, b1⟩ := ct_170_56 (g0 := g0) (T := T) (N := N) (sg := sg) (d := d + 0) (l := l) (D := D) (b0 := b0) (ad := ad) (Hb := Hb) (tau := tau) hx hG (show 0 ≤ x0 ∧ x0 ≤ 6 by omega) (show (Z 56 6 ≤ Z 56 7 ∧ Z 56 7 ≤ Z 56 8 ∧ (Z 56 9 = 24 ∨ Z 56 6 < Z 56 7)) by omega) (show ¬ Z 56 9 = 24 by omega) hr
    obtain ⟨br1, b1⟩ := b1
    have b7 : 0 ≤ Z1 56 6 ∧ Z1 56 6 ≤ 900 := hG1.pr 56 6
    have b8 : 0 ≤ Z1 56 7 ∧ Z1 56 7 ≤ 900 := hG1.pr 56 7
    have b9 : 0 ≤ Z1 56 9 ∧ Z1 56 9 ≤ 100 := hG1.pr 56 9
    have b10 : 0 ≤ Z1 56 11 ∧ Z1 56 11 ≤ 4 := hG1.pr 56 11
    have r1 := QR_g (k := 1) (c2 := 1) (QR_rf (Z := Z) (a := a0)) (fun e => by omega) (fun i => hf1 60 i rfl) (fun e => by omega) (by decide)
    refine Jcv hx (show mx_Sn _ _ 2 (mx_callv 170 2 12 5) from sn_172 2) a56 s56 hc1 rfl rfl rfl ?_
    refine Jif_ne (show mx_Sn _ _ 5 (mx_if_ne 9 8) from sn_172 5) (by omega) (fun q11 => ?_) (fun q11 => ?_)
    · skip
      have hx5 : x0 ≤ 5 := by omega
      have rc12 : RM g0 T N Z1 (gAd T N sg) := RM_e br1 ((gEn_y (by omega)).symm)
      refine mx_J.step (sn_172 9) (fun _ _ => rfl) ?_
      refine mx_J.step (sn_172 10) (fun _ _ => rfl) ?_
      refine JcI (z := 1) (show mx_Sn _ _ 11 (mx_const (.int 1) 12) from sn_172 11) rfl ?_
      refine Jiadd (show mx_Sn _ _ 12 (mx_iadd 13) from sn_172 12) ?_
      have eq14 : Z1 56 8 = Z 56 8 := (hf1 56 8 rfl)
      have eq15 : Z1 60 61 = Z 60 61 := (hf1 60 61 rfl)
      have b16 : 0 ≤ Z 60 61 ∧ Z 60 61 ≤ 900 := by have hq := GI_ex hG 60 61; replace hq : f60 (61 % 962) (Z 60 61) := hq; unfold f60 at hq; omega
      have b17 : (-2147483648) ≤ Z 60 61 ∧ Z 60 61 ≤ 2147483647 := hG.pr 60 61
      have eq18 : Z1 60 0 = Z 60 0 := (hf1 60 0 rfl)
      have b19 : (-2147483648) ≤ Z 60 0 ∧ Z 60 0 ≤ 2147483647 := hG.pr 60 0
      have eq20 : Z1 60 1 = Z 60 1 := (hf1 60 1 rfl)
      have b21 : 0 ≤ Z 60 1 ∧ Z 60 1 ≤ 18 := by have hq := GI_ex hG 60 1; replace hq : f60 (1 % 962) (Z 60 1) := hq; unfold f60 at hq; omega
      have b22 : (-2147483648) ≤ Z 60 1 ∧ Z 60 1 ≤ 2147483647 := hG.pr 60 1
      have eq23 : Z1 60 2 = Z 60 2 := (hf1 60 2 rfl)
      have b24 : 0 ≤ Z 60 2 ∧ Z 60 2 ≤ 18 := by have hq := GI_ex hG 60 2; replace hq : f60 (2 % 962) (Z 60 2) := hq; unfold f60 at hq; omega
      have b25 : (-2147483648) ≤ Z 60 2 ∧ Z 60 2 ≤ 2147483647 := hG.pr 60 2
      obtain ⟨Z13, h13, hc13, hx13, hG13, hf13, b13⟩ := riR_177 IH (by omega) (hd := by omega) (a0 := a0) (g0 := g0) (T := T) (N := N) (sg := gAd T N sg) (d := d + 7) (l := l) (D := D) (b0 := b0) (ad := ad) (Hb := Hb) (tau := tau) hx1 hG1 (show 1 ≤ x0 + 1 ∧ x0 + 1 ≤ 6 by omega) (show (Z1 56 6 ≤ Z1 56 7 ∧ Z1 56 7 ≤ Z1 56 8 ∧ (Z1 56 9 = 24 ∨ Z1 56 6 < Z1 56 7)) by first | omega | (simp only [eq14, eq15, eq18, eq20, eq23]; omega)) (show Z1 60 61 ≤ Z1 56 6 by first | omega | (simp only [eq14, eq15, eq18, eq20, eq23]; omega)) (show a0 ≤ Z1 60 61 by first | omega | (simp only [eq14, eq15, eq18, eq20, eq23]; omega)) (show 0 ≤ a0 by first | omega | (simp only [eq14, eq15, eq18, eq20, eq23]; omega)) (show 0 ≤ g0 by first | omega | (simp only [eq14, eq15, eq18, eq20, eq23]; omega)) rc12
      try rw [eq14] at b13
      try rw [eq15] at b13
      try rw [eq18] at b13
      try rw [eq20] at b13
      try rw [eq23] at b13
      obtain ⟨br13, b13⟩ := b13
      obtain ⟨bq13, b13⟩ := b13
      have b26 : 0 ≤ Z13 56 6 ∧ Z13 56 6 ≤ 900 := hG13.pr 56 6
      have b27 : 0 ≤ Z13 56 7 ∧ Z13 56 7 ≤ 900 := hG13.pr 56 7
      have b28 : 0 ≤ Z13 56 9 ∧ Z13 56 9 ≤ 100 := hG13.pr 56 9
      have b29 : 0 ≤ Z13 56 11 ∧ Z13 56 11 ≤ 4 := hG13.pr 56 11
      have b30 : 0 ≤ Z13 60 61 ∧ Z13 60 61 ≤ 900 := by have hq := GI_ex hG13 60 61; replace hq : f60 (61 % 962) (Z13 60 61) := hq; unfold f60 at hq; omega
      have b31 : (-2147483648) ≤ Z13 60 61 ∧ Z13 60 61 ≤ 2147483647 := hG13.pr 60 61
      have b32 : (-2147483648) ≤ Z13 60 0 ∧ Z13 60 0 ≤ 2147483647 := hG13.pr 60 0
      have b33 : 0 ≤ Z13 60 1 ∧ Z13 60 1 ≤ 18 := by have hq := GI_ex hG13 60 1; replace hq : f60 (1 % 962) (Z13 60 1) := hq; unfold f60 at hq; omega
      have b34 : (-2147483648) ≤ Z13 60 1 ∧ Z13 60 1 ≤ 2147483647 := hG13.pr 60 1
      have b35 : 0 ≤ Z13 60 2 ∧ Z13 60 2 ≤ 18 := by have hq := GI_ex hG13 60 2; replace hq : f60 (2 % 962) (Z13 60 2) := hq; unfold f60 at hq; omega
      have b36 : (-2147483648) ≤ Z13 60 2 ∧ Z13 60 2 ≤ 2147483647 := hG13.pr 60 2
      have r13 := QR_tr (d := 1) (c := 1) r1 bq13 (by decide) (by decide) (by decide)
      refine Jcv0 hx1 (show mx_Sn _ _ 13 (mx_callv 177 2 12 16) from sn_172 13) a56 s56 hc13 rfl rfl rfl ?_
      have gt6 := RM_is (k := 6) br13
      refine mx_J.step (sn_172 16) (fun _ _ => rfl) ?_
      refine JcI (z := 6) (show mx_Sn _ _ 17 (mx_const (.int 6) 19) from sn_172 17) rfl ?_
      have eq38 : Z13 56 8 = Z 56 8 := ((hf13 56 8 rfl).trans (hf1 56 8 rfl))
      obtain ⟨z37, Z37, h37, hc37, hx37, hG37, hf37, b37⟩ := ct_165_56 (g0 := g0) (T := T) (N := N) (sg := trX T N (lvI T N (x0 + 1)) (gAd T N sg)) (d := d + 0) (l := l) (D := D) (b0 := b0) (ad := ad) (Hb := Hb) (tau := tau) hx13 hG13 (show 0 ≤ 6 ∧ 6 ≤ 100 by omega) (show (Z13 56 6 ≤ Z13 56 7 ∧ Z13 56 7 ≤ Z13 56 8 ∧ (Z13 56 9 = 24 ∨ Z13 56 6 < Z13 56 7)) by first | omega | (simp only [eq38]; omega)) (show ¬ 6 = 24 by first | omega | (simp only [eq38]; omega)) br13
      try rw [eq38] at b37
      obtain ⟨br37, b37⟩ := b37
      have b39 : 0 ≤ Z37 56 6 ∧ Z37 56 6 ≤ 900 := hG37.pr 56 6
      have b40 : 0 ≤ Z37 56 7 ∧ Z37 56 7 ≤ 900 := hG37.pr 56 7
      have b41 : 0 ≤ Z37 56 9 ∧ Z37 56 9 ≤ 100 := hG37.pr 56 9
      have r37 := QR_g (k := 0) (c2 := 1) r13 (fun e => (hf37 56 11 rfl).symm.trans e) (fun i => hf37 60 i rfl) (fun e => by omega) (by decide)
      have rk37 : z37 = 1 → QR Z Z37 a0 1 2 := fun ez => QR_g (k := 1) r13 (fun e => (hf37 56 11 rfl).symm.trans e) (fun i => hf37 60 i rfl) (fun e => by omega) (by decide)
      refine Jcv hx13 (show mx_Sn _ _ 19 (mx_callv 165 2 12 22) from sn_172 19) a56 s56 hc37 rfl rfl rfl ?_
      have c30 : ∀  (Z43 : xZ) (h43 : mx_H), (Z43 56 6 ≤ Z43 56 7 ∧ Z43 56 7 ≤ Z 56 8) → (Z43 56 9 = 24 ∨ Z43 56 6 < Z43 56 7) → (Z 56 6 ≤ Z43 56 6 ∧ Z 60 61 ≤ Z43 60 61 ∧ Z43 60 61 - Z 60 61 ≤ Z43 56 6 - Z 56 6) → (Z43 60 0 = Z 60 0 ∧ Z43 60 1 = Z 60 1 ∧ Z43 60 2 = Z 60 2) → QR Z Z43 a0 1 1 → RM g0 T N Z43 (gEx T N 6 (trX T N (lvI T N (x0 + 1)) (gAd T N sg))) → XH n s S Z43 h43 → GI n S Z43 → fr' [(56, 11), (56, 12)] Z37 Z43 → mx_J (tB l D b0 ad Hb tau) mt_172 (d + 7) 30 [some (.ref 56), some (xI x0)] [] h43 Post := by
        intro Z43 h43 f42_0 f42_1 f42_2 f42_3 f42_4 f42_5 hx43 hG43 hf43
        clear b1 b13 b37
        have eq44 : Z43 56 6 = Z37 56 6 := (hf43 56 6 rfl)
        have eq45 : Z43 56 7 = Z37 56 7 := (hf43 56 7 rfl)
        have eq46 : Z43 56 6 = Z37 56 6 := (hf43 56 6 rfl)
        have eq47 : Z43 56 7 = Z37 56 7 := (hf43 56 7 rfl)
        have eq48 : Z43 56 9 = Z37 56 9 := (hf43 56 9 rfl)
        have eq49 : Z43 56 6 = Z37 56 6 := (hf43 56 6 rfl)
        have eq50 : Z43 60 61 = Z13 60 61 := ((hf43 60 61 rfl).trans (hf37 60 61 rfl))
        have eq51 : Z43 60 0 = Z13 60 0 := ((hf43 60 0 rfl).trans (hf37 60 0 rfl))
        have eq52 : Z43 60 1 = Z13 60 1 := ((hf43 60 1 rfl).trans (hf37 60 1 rfl))
        have eq53 : Z43 60 2 = Z13 60 2 := ((hf43 60 2 rfl).trans (hf37 60 2 rfl))
        refine mx_J.step (sn_172 30) (fun _ _ => rfl) ?_
        refine mx_J.step (sn_172 31) (fun _ _ => rfl) ?_
        refine JcI (z := 1) (show mx_Sn _ _ 32 (mx_const (.int 1) 33) from sn_172 32) rfl ?_
        refine Jiadd (show mx_Sn _ _ 33 (mx_iadd 34) from sn_172 33) ?_
        have eq55 : Z43 56 6 = Z37 56 6 := (hf43 56 6 rfl)
        have eq56 : Z43 56 7 = Z37 56 7 := (hf43 56 7 rfl)
        have eq57 : Z43 56 8 = Z 56 8 := ((hf43 56 8 rfl).trans ((hf37 56 8 rfl).trans ((hf13 56 8 rfl).trans (hf1 56 8 rfl))))
        have eq58 : Z43 56 9 = Z37 56 9 := (hf43 56 9 rfl)
        have b59 : 0 ≤ Z43 56 11 ∧ Z43 56 11 ≤ 4 := hG43.pr 56 11
        have eq60 : Z43 60 61 = Z13 60 61 := ((hf43 60 61 rfl).trans (hf37 60 61 rfl))
        have eq61 : Z43 60 0 = Z13 60 0 := ((hf43 60 0 rfl).trans (hf37 60 0 rfl))
        have eq62 : Z43 60 1 = Z13 60 1 := ((hf43 60 1 rfl).trans (hf37 60 1 rfl))
        have eq63 : Z43 60 2 = Z13 60 2 := ((hf43 60 2 rfl).trans (hf37 60 2 rfl))
        obtain ⟨Z54, h54, hc54, hx54, hG54, hf54, b54⟩ := riR_174 IH (by omega) (hd := by omega) (a0 := a0) (g0 := g0) (T := T) (N := N) (sg := gEx T N 6 (trX T N (lvI T N (x0 + 1)) (gAd T N sg))) (d := d + 7) (l := l) (D := D) (b0 := b0) (ad := ad) (Hb := Hb) (tau := tau) hx43 hG43 (show 1 ≤ x0 + 1 ∧ x0 + 1 ≤ 6 by omega) (show (Z43 56 6 ≤ Z43 56 7 ∧ Z43 56 7 ≤ Z43 56 8 ∧ (Z43 56 9 = 24 ∨ Z43 56 6 < Z43 56 7)) by first | omega | (simp only [eq55, eq56, eq57, eq58, eq60, eq61, eq62, eq63]; omega)) (show Z43 60 61 ≤ Z43 56 6 by first | omega | (simp only [eq55, eq56, eq57, eq58, eq60, eq61, eq62, eq63]; omega)) (show a0 ≤ Z43 60 61 by first | omega | (simp only [eq55, eq56, eq57, eq58, eq60, eq61, eq62, eq63]; omega)) (show 0 ≤ a0 by first | omega | (simp only [eq55, eq56, eq57, eq58, eq60, eq61, eq62, eq63]; omega)) (show 0 ≤ g0 by first | omega | (simp only [eq55, eq56, eq57, eq58, eq60, eq61, eq62, eq63]; omega)) f42_5
        try rw [eq55] at b54
        try rw [eq56] at b54
        try rw [eq57] at b54
        try rw [eq58] at b54
        try rw [eq60] at b54
        try rw [eq61] at b54
        try rw [eq62] at b54
        try rw [eq63] at b54
        obtain ⟨br54, b54⟩ := b54
        obtain ⟨bq54, b54⟩ := b54
        have b64 : 0 ≤ Z54 56 6 ∧ Z54 56 6 ≤ 900 := hG54.pr 56 6
        have b65 : 0 ≤ Z54 56 7 ∧ Z54 56 7 ≤ 900 := hG54.pr 56 7
        have b66 : 0 ≤ Z54 56 9 ∧ Z54 56 9 ≤ 100 := hG54.pr 56 9
        have b67 : 0 ≤ Z54 56 11 ∧ Z54 56 11 ≤ 4 := hG54.pr 56 11
        have b68 : 0 ≤ Z54 60 61 ∧ Z54 60 61 ≤ 900 := by have hq := GI_ex hG54 60 61; replace hq : f60 (61 % 962) (Z54 60 61) := hq; unfold f60 at hq; omega
        have b69 : (-2147483648) ≤ Z54 60 61 ∧ Z54 60 61 ≤ 2147483647 := hG54.pr 60 61
        have b70 : (-2147483648) ≤ Z54 60 0 ∧ Z54 60 0 ≤ 2147483647 := hG54.pr 60 0
        have b71 : 0 ≤ Z54 60 1 ∧ Z54 60 1 ≤ 18 := by have hq := GI_ex hG54 60 1; replace hq : f60 (1 % 962) (Z54 60 1) := hq; unfold f60 at hq; omega
        have b72 : (-2147483648) ≤ Z54 60 1 ∧ Z54 60 1 ≤ 2147483647 := hG54.pr 60 1
        have b73 : 0 ≤ Z54 60 2 ∧ Z54 60 2 ≤ 18 := by have hq := GI_ex hG54 60 2; replace hq : f60 (2 % 962) (Z54 60 2) := hq; unfold f60 at hq; omega
        have b74 : (-2147483648) ≤ Z54 60 2 ∧ Z54 60 2 ≤ 2147483647 := hG54.pr 60 2
        have r54 := QR_tr (d := 2) (c := 1) f42_4 bq54 (by decide) (by decide) (by decide)
        refine Jcv0 hx43 (show mx_Sn _ _ 34 (mx_callv 174 2 12 37) from sn_172 34) a56 s56 hc54 rfl rfl rfl ?_
        have gt7 := RM_is (k := 7) br54
        refine mx_J.step (sn_172 37) (fun _ _ => rfl) ?_
        refine JcI (z := 7) (show mx_Sn _ _ 38 (mx_const (.int 7) 40) from sn_172 38) rfl ?_
        have eq76 : Z54 56 8 = Z 56 8 := ((hf54 56 8 rfl).trans ((hf43 56 8 rfl).trans ((hf37 56 8 rfl).trans ((hf13 56 8 rfl).trans (hf1 56 8 rfl)))))
        obtain ⟨z75, Z75, h75, hc75, hx75, hG75, hf75, b75⟩ := ct_165_56 (g0 := g0) (T := T) (N := N) (sg := smX T N (lvI T N (x0 + 1)) (gEx T N 6 (trX T N (lvI T N (x0 + 1)) (gAd T N sg)))) (d := d + 0) (l := l) (D := D) (b0 := b0) (ad := ad) (Hb := Hb) (tau := tau) hx54 hG54 (show 0 ≤ 7 ∧ 7 ≤ 100 by omega) (show (Z54 56 6 ≤ Z54 56 7 ∧ Z54 56 7 ≤ Z54 56 8 ∧ (Z54 56 9 = 24 ∨ Z54 56 6 < Z54 56 7)) by first | omega | (simp only [eq76]; omega)) (show ¬ 7 = 24 by first | omega | (simp only [eq76]; omega)) br54
        try rw [eq76] at b75
        obtain ⟨br75, b75⟩ := b75
        have b77 : 0 ≤ Z75 56 6 ∧ Z75 56 6 ≤ 900 := hG75.pr 56 6
        have b78 : 0 ≤ Z75 56 7 ∧ Z75 56 7 ≤ 900 := hG75.pr 56 7
        have b79 : 0 ≤ Z75 56 9 ∧ Z75 56 9 ≤ 100 := hG75.pr 56 9
        have r75 := QR_g (k := 0) (c2 := 1) r54 (fun e => (hf75 56 11 rfl).symm.trans e) (fun i => hf75 60 i rfl) (fun e => by omega) (by decide)
        have rk75 : z75 = 1 → QR Z Z75 a0 2 2 := fun ez => QR_g (k := 1) r54 (fun e => (hf75 56 11 rfl).symm.trans e) (fun i => hf75 60 i rfl) (fun e => by omega) (by decide)
        refine Jcv hx54 (show mx_Sn _ _ 40 (mx_callv 165 2 12 43) from sn_172 40) a56 s56 hc75 rfl rfl rfl ?_
        have c51 : ∀  (Z81 : xZ) (h81 : mx_H), (Z81 56 6 ≤ Z81 56 7 ∧ Z81 56 7 ≤ Z 56 8) → (Z81 56 9 = 24 ∨ Z81 56 6 < Z81 56 7) → (Z 56 6 ≤ Z81 56 6 ∧ Z 60 61 ≤ Z81 60 61 ∧ Z81 60 61 - Z 60 61 ≤ Z81 56 6 - Z 56 6) → (Z81 60 0 = Z 60 0 ∧ Z81 60 1 = Z 60 1 ∧ Z81 60 2 = Z 60 2) → QR Z Z81 a0 2 1 → RM g0 T N Z81 (gEx T N 7 (smX T N (lvI T N (x0 + 1)) (gEx T N 6 (trX T N (lvI T N (x0 + 1)) (gAd T N sg))))) → XH n s S Z81 h81 → GI n S Z81 → fr' [(56, 11), (56, 12)] Z75 Z81 → mx_J (tB l D b0 ad Hb tau) mt_172 (d + 7) 51 [some (.ref 56), some (xI x0)] [] h81 Post := by
          intro Z81 h81 f80_0 f80_1 f80_2 f80_3 f80_4 f80_5 hx81 hG81 hf81
          clear b54 b75
          have eq82 : Z81 56 6 = Z75 56 6 := (hf81 56 6 rfl)
          have eq83 : Z81 56 7 = Z75 56 7 := (hf81 56 7 rfl)
          have eq84 : Z81 56 6 = Z75 56 6 := (hf81 56 6 rfl)
          have eq85 : Z81 56 7 = Z75 56 7 := (hf81 56 7 rfl)
          have eq86 : Z81 56 9 = Z75 56 9 := (hf81 56 9 rfl)
          have eq87 : Z81 56 6 = Z75 56 6 := (hf81 56 6 rfl)
          have eq88 : Z81 60 61 = Z54 60 61 := ((hf81 60 61 rfl).trans (hf75 60 61 rfl))
          have eq89 : Z81 60 0 = Z54 60 0 := ((hf81 60 0 rfl).trans (hf75 60 0 rfl))
          have eq90 : Z81 60 1 = Z54 60 1 := ((hf81 60 1 rfl).trans (hf75 60 1 rfl))
          have eq91 : Z81 60 2 = Z54 60 2 := ((hf81 60 2 rfl).trans (hf75 60 2 rfl))
          refine mx_J.step (sn_172 51) (fun _ _ => rfl) ?_
          refine mx_J.step (sn_172 52) (fun _ _ => rfl) ?_
          refine JcI (z := 1) (show mx_Sn _ _ 53 (mx_const (.int 1) 54) from sn_172 53) rfl ?_
          refine Jiadd (show mx_Sn _ _ 54 (mx_iadd 55) from sn_172 54) ?_
          have eq93 : Z81 56 6 = Z75 56 6 := (hf81 56 6 rfl)
          have eq94 : Z81 56 7 = Z75 56 7 := (hf81 56 7 rfl)
          have eq95 : Z81 56 8 = Z 56 8 := ((hf81 56 8 rfl).trans ((hf75 56 8 rfl).trans ((hf54 56 8 rfl).trans ((hf43 56 8 rfl).trans ((hf37 56 8 rfl).trans ((hf13 56 8 rfl).trans (hf1 56 8 rfl)))))))
          have eq96 : Z81 56 9 = Z75 56 9 := (hf81 56 9 rfl)
          have b97 : 0 ≤ Z81 56 11 ∧ Z81 56 11 ≤ 4 := hG81.pr 56 11
          have eq98 : Z81 60 61 = Z54 60 61 := ((hf81 60 61 rfl).trans (hf75 60 61 rfl))
          have eq99 : Z81 60 0 = Z54 60 0 := ((hf81 60 0 rfl).trans (hf75 60 0 rfl))
          have eq100 : Z81 60 1 = Z54 60 1 := ((hf81 60 1 rfl).trans (hf75 60 1 rfl))
          have eq101 : Z81 60 2 = Z54 60 2 := ((hf81 60 2 rfl).trans (hf75 60 2 rfl))
          obtain ⟨Z92, h92, hc92, hx92, hG92, hf92, b92⟩ := riR_174 IH (by omega) (hd := by omega) (a0 := a0) (g0 := g0) (T := T) (N := N) (sg := gEx T N 7 (smX T N (lvI T N (x0 + 1)) (gEx T N 6 (trX T N (lvI T N (x0 + 1)) (gAd T N sg))))) (d := d + 7) (l := l) (D := D) (b0 := b0) (ad := ad) (Hb := Hb) (tau := tau) hx81 hG81 (show 1 ≤ x0 + 1 ∧ x0 + 1 ≤ 6 by omega) (show (Z81 56 6 ≤ Z81 56 7 ∧ Z81 56 7 ≤ Z81 56 8 ∧ (Z81 56 9 = 24 ∨ Z81 56 6 < Z81 56 7)) by first | omega | (simp only [eq93, eq94, eq95, eq96, eq98, eq99, eq100, eq101]; omega)) (show Z81 60 61 ≤ Z81 56 6 by first | omega | (simp only [eq93, eq94, eq95, eq96, eq98, eq99, eq100, eq101]; omega)) (show a0 ≤ Z81 60 61 by first | omega | (simp only [eq93, eq94, eq95, eq96, eq98, eq99, eq100, eq101]; omega)) (show 0 ≤ a0 by first | omega | (simp only [eq93, eq94, eq95, eq96, eq98, eq99, eq100, eq101]; omega)) (show 0 ≤ g0 by first | omega | (simp only [eq93, eq94, eq95, eq96, eq98, eq99, eq100, eq101]; omega)) f80_5
          try rw [eq93] at b92
          try rw [eq94] at b92
          try rw [eq95] at b92
          try rw [eq96] at b92
          try rw [eq98] at b92
          try rw [eq99] at b92
          try rw [eq100] at b92
          try rw [eq101] at b92
          obtain ⟨br92, b92⟩ := b92
          obtain ⟨bq92, b92⟩ := b92
          have b102 : 0 ≤ Z92 56 6 ∧ Z92 56 6 ≤ 900 := hG92.pr 56 6
          have b103 : 0 ≤ Z92 56 7 ∧ Z92 56 7 ≤ 900 := hG92.pr 56 7
          have b104 : 0 ≤ Z92 56 9 ∧ Z92 56 9 ≤ 100 := hG92.pr 56 9
          have b105 : 0 ≤ Z92 56 11 ∧ Z92 56 11 ≤ 4 := hG92.pr 56 11
          have b106 : 0 ≤ Z92 60 61 ∧ Z92 60 61 ≤ 900 := by have hq := GI_ex hG92 60 61; replace hq : f60 (61 % 962) (Z92 60 61) := hq; unfold f60 at hq; omega
          have b107 : (-2147483648) ≤ Z92 60 61 ∧ Z92 60 61 ≤ 2147483647 := hG92.pr 60 61
          have b108 : (-2147483648) ≤ Z92 60 0 ∧ Z92 60 0 ≤ 2147483647 := hG92.pr 60 0
          have b109 : 0 ≤ Z92 60 1 ∧ Z92 60 1 ≤ 18 := by have hq := GI_ex hG92 60 1; replace hq : f60 (1 % 962) (Z92 60 1) := hq; unfold f60 at hq; omega
          have b110 : (-2147483648) ≤ Z92 60 1 ∧ Z92 60 1 ≤ 2147483647 := hG92.pr 60 1
          have b111 : 0 ≤ Z92 60 2 ∧ Z92 60 2 ≤ 18 := by have hq := GI_ex hG92 60 2; replace hq : f60 (2 % 962) (Z92 60 2) := hq; unfold f60 at hq; omega
          have b112 : (-2147483648) ≤ Z92 60 2 ∧ Z92 60 2 ≤ 2147483647 := hG92.pr 60 2
          have r92 := QR_tr (d := 3) (c := 1) f80_4 bq92 (by decide) (by decide) (by decide)
          refine Jcv0 hx81 (show mx_Sn _ _ 55 (mx_callv 174 2 12 58) from sn_172 55) a56 s56 hc92 rfl rfl rfl ?_
          have gt8 := RM_is (k := 8) br92
          refine mx_J.step (sn_172 58) (fun _ _ => rfl) ?_
          refine JcI (z := 8) (show mx_Sn _ _ 59 (mx_const (.int 8) 61) from sn_172 59) rfl ?_
          have eq114 : Z92 56 8 = Z 56 8 := ((hf92 56 8 rfl).trans ((hf81 56 8 rfl).trans ((hf75 56 8 rfl).trans ((hf54 56 8 rfl).trans ((hf43 56 8 rfl).trans ((hf37 56 8 rfl).trans ((hf13 56 8 rfl).trans (hf1 56 8 rfl))))))))
          obtain ⟨z113, Z113, h113, hc113, hx113, hG113, hf113, b113⟩ := ct_165_56 (g0 := g0) (T := T) (N := N) (sg := smX T N (lvI T N (x0 + 1)) (gEx T N 7 (smX T N (lvI T N (x0 + 1)) (gEx T N 6 (trX T N (lvI T N (x0 + 1)) (gAd T N sg)))))) (d := d + 0) (l := l) (D := D) (b0 := b0) (ad := ad) (Hb := Hb) (tau := tau) hx92 hG92 (show 0 ≤ 8 ∧ 8 ≤ 100 by omega) (show (Z92 56 6 ≤ Z92 56 7 ∧ Z92 56 7 ≤ Z92 56 8 ∧ (Z92 56 9 = 24 ∨ Z92 56 6 < Z92 56 7)) by first | omega | (simp only [eq114]; omega)) (show ¬ 8 = 24 by first | omega | (simp only [eq114]; omega)) br92
          try rw [eq114] at b113
          obtain ⟨br113, b113⟩ := b113
          have b115 : 0 ≤ Z113 56 6 ∧ Z113 56 6 ≤ 900 := hG113.pr 56 6
          have b116 : 0 ≤ Z113 56 7 ∧ Z113 56 7 ≤ 900 := hG113.pr 56 7
          have b117 : 0 ≤ Z113 56 9 ∧ Z113 56 9 ≤ 100 := hG113.pr 56 9
          have r113 := QR_g (k := 0) (c2 := 1) r92 (fun e => (hf113 56 11 rfl).symm.trans e) (fun i => hf113 60 i rfl) (fun e => by omega) (by decide)
          have rk113 : z113 = 1 → QR Z Z113 a0 3 2 := fun ez => QR_g (k := 1) r92 (fun e => (hf113 56 11 rfl).symm.trans e) (fun i => hf113 60 i rfl) (fun e => by omega) (by decide)
          refine Jcv hx92 (show mx_Sn _ _ 61 (mx_callv 165 2 12 64) from sn_172 61) a56 s56 hc113 rfl rfl rfl ?_
          have c72 : ∀  (Z119 : xZ) (h119 : mx_H), (Z119 56 6 ≤ Z119 56 7 ∧ Z119 56 7 ≤ Z 56 8) → (Z119 56 9 = 24 ∨ Z119 56 6 < Z119 56 7) → (Z 56 6 ≤ Z119 56 6 ∧ Z 60 61 ≤ Z119 60 61 ∧ Z119 60 61 - Z 60 61 ≤ Z119 56 6 - Z 56 6) → (Z119 60 0 = Z 60 0 ∧ Z119 60 1 = Z 60 1 ∧ Z119 60 2 = Z 60 2) → QR Z Z119 a0 3 1 → RM g0 T N Z119 (gEx T N 8 (smX T N (lvI T N (x0 + 1)) (gEx T N 7 (smX T N (lvI T N (x0 + 1)) (gEx T N 6 (trX T N (lvI T N (x0 + 1)) (gAd T N sg))))))) → XH n s S Z119 h119 → GI n S Z119 → fr' [(56, 11), (56, 12)] Z113 Z119 → mx_J (tB l D b0 ad Hb tau) mt_172 (d + 7) 72 [some (.ref 56), some (xI x0)] [] h119 Post := by
            intro Z119 h119 f118_0 f118_1 f118_2 f118_3 f118_4 f118_5 hx119 hG119 hf119
            clear b92 b113
            have eq120 : Z119 56 6 = Z113 56 6 := (hf119 56 6 rfl)
            have eq121 : Z119 56 7 = Z113 56 7 := (hf119 56 7 rfl)
            have eq122 : Z119 56 6 = Z113 56 6 := (hf119 56 6 rfl)
            have eq123 : Z119 56 7 = Z113 56 7 := (hf119 56 7 rfl)
            have eq124 : Z119 56 9 = Z113 56 9 := (hf119 56 9 rfl)
            have eq125 : Z119 56 6 = Z113 56 6 := (hf119 56 6 rfl)
            have eq126 : Z119 60 61 = Z92 60 61 := ((hf119 60 61 rfl).trans (hf113 60 61 rfl))
            have eq127 : Z119 60 0 = Z92 60 0 := ((hf119 60 0 rfl).trans (hf113 60 0 rfl))
            have eq128 : Z119 60 1 = Z92 60 1 := ((hf119 60 1 rfl).trans (hf113 60 1 rfl))
            have eq129 : Z119 60 2 = Z92 60 2 := ((hf119 60 2 rfl).trans (hf113 60 2 rfl))
            refine mx_J.step (sn_172 72) (fun _ _ => rfl) ?_
            refine JcI (z := 3009) (show mx_Sn _ _ 73 (mx_const (.int 3009) 76) from sn_172 73) rfl ?_
            have eq131 : Z119 56 8 = Z 56 8 := ((hf119 56 8 rfl).trans ((hf113 56 8 rfl).trans ((hf92 56 8 rfl).trans ((hf81 56 8 rfl).trans ((hf75 56 8 rfl).trans ((hf54 56 8 rfl).trans ((hf43 56 8 rfl).trans ((hf37 56 8 rfl).trans ((hf13 56 8 rfl).trans (hf1 56 8 rfl))))))))))
            have b132 : 0 ≤ Z119 56 11 ∧ Z119 56 11 ≤ 4 := hG119.pr 56 11
            have eq133 : Z119 60 61 = Z92 60 61 := ((hf119 60 61 rfl).trans (hf113 60 61 rfl))
            have eq134 : DP Z119 a0 = DP Z92 a0 := ((DP_c (fun i => hf119 60 i rfl)).trans (DP_c (fun i => hf113 60 i rfl)))
            have eq135 : MW Z119 a0 = MW Z92 a0 := ((MW_c (fun i => hf119 60 i rfl)).trans (MW_c (fun i => hf113 60 i rfl)))
            have eq136 : WFF Z119  = WFF Z92 := ((WFF_c (fun i => hf119 60 i rfl)).trans (WFF_c (fun i => hf113 60 i rfl)))
            have eq137 : Z119 60 0 = Z92 60 0 := ((hf119 60 0 rfl).trans (hf113 60 0 rfl))
            have eq138 : Z119 60 1 = Z92 60 1 := ((hf119 60 1 rfl).trans (hf113 60 1 rfl))
            have eq139 : Z119 60 2 = Z92 60 2 := ((hf119 60 2 rfl).trans (hf113 60 2 rfl))
            have rp130 := QR_n f118_4
            obtain ⟨Z130, h130, hc130, hx130, hG130, hf130, b130⟩ := ct_169_56_3009 (a0 := a0) (g0 := g0) (T := T) (N := N) (sg := gEx T N 8 (smX T N (lvI T N (x0 + 1)) (gEx T N 7 (smX T N (lvI T N (x0 + 1)) (gEx T N 6 (trX T N (lvI T N (x0 + 1)) (gAd T N sg))))))) (d := d + 6) (l := l) (D := D) (b0 := b0) (ad := ad) (Hb := Hb) (tau := tau) hx119 hG119  (show (Z119 56 11 = 0 → Z119 60 61 ≤ 899) by first | omega | (simp only [eq131, eq133, eq137, eq138, eq139]; omega)) (show a0 ≤ Z119 60 61 by first | omega | (simp only [eq131, eq133, eq137, eq138, eq139]; omega)) (show 0 ≤ a0 by first | omega | (simp only [eq131, eq133, eq137, eq138, eq139]; omega)) (show 0 ≤ g0 by first | omega | (simp only [eq131, eq133, eq137, eq138, eq139]; omega)) f118_5
            try rw [eq131] at b130
            try rw [eq133] at b130
            try rw [eq137] at b130
            try rw [eq138] at b130
            try rw [eq139] at b130
            obtain ⟨br130, b130⟩ := b130
            obtain ⟨bq130, b130⟩ := b130
            have b140 : 0 ≤ Z130 60 61 ∧ Z130 60 61 ≤ 900 := by have hq := GI_ex hG130 60 61; replace hq : f60 (61 % 962) (Z130 60 61) := hq; unfold f60 at hq; omega
            have b141 : (-2147483648) ≤ Z130 60 61 ∧ Z130 60 61 ≤ 2147483647 := hG130.pr 60 61
            have b142 : (-2147483648) ≤ Z130 60 0 ∧ Z130 60 0 ≤ 2147483647 := hG130.pr 60 0
            have b143 : 0 ≤ Z130 60 1 ∧ Z130 60 1 ≤ 18 := by have hq := GI_ex hG130 60 1; replace hq : f60 (1 % 962) (Z130 60 1) := hq; unfold f60 at hq; omega
            have b144 : (-2147483648) ≤ Z130 60 1 ∧ Z130 60 1 ≤ 2147483647 := hG130.pr 60 1
            have b145 : 0 ≤ Z130 60 2 ∧ Z130 60 2 ≤ 18 := by have hq := GI_ex hG130 60 2; replace hq : f60 (2 % 962) (Z130 60 2) := hq; unfold f60 at hq; omega
            have b146 : (-2147483648) ≤ Z130 60 2 ∧ Z130 60 2 ≤ 2147483647 := hG130.pr 60 2
            have rn130 := QR_n f118_4
            have r130 := QR_c (d2 := 1) (c2 := 0) f118_4 bq130 (by omega) (hf130 56 11 rfl) (hf130 56 6 rfl) (by decide) (by decide) (by decide)
            refine Jcv0 hx119 (show mx_Sn _ _ 76 (mx_callv 169 2 12 79) from sn_172 76) a56 s56 hc130 rfl rfl rfl ?_
            have eq147 : Z130 56 6 = Z113 56 6 := ((hf130 56 6 rfl).trans (hf119 56 6 rfl))
            have eq148 : Z130 56 7 = Z113 56 7 := ((hf130 56 7 rfl).trans (hf119 56 7 rfl))
            have eq149 : Z130 56 9 = Z113 56 9 := ((hf130 56 9 rfl).trans (hf119 56 9 rfl))
            have eq150 : Z130 56 11 = Z119 56 11 := (hf130 56 11 rfl)
            have eq151 : Z130 56 6 = Z113 56 6 := ((hf130 56 6 rfl).trans (hf119 56 6 rfl))
            have eq152 : Z130 56 7 = Z113 56 7 := ((hf130 56 7 rfl).trans (hf119 56 7 rfl))
            have eq153 : Z130 56 8 = Z 56 8 := ((hf130 56 8 rfl).trans ((hf119 56 8 rfl).trans ((hf113 56 8 rfl).trans ((hf92 56 8 rfl).trans ((hf81 56 8 rfl).trans ((hf75 56 8 rfl).trans ((hf54 56 8 rfl).trans ((hf43 56 8 rfl).trans ((hf37 56 8 rfl).trans ((hf13 56 8 rfl).trans (hf1 56 8 rfl)))))))))))
            have eq154 : Z130 56 9 = Z113 56 9 := ((hf130 56 9 rfl).trans (hf119 56 9 rfl))
            have eq155 : Z130 56 11 = Z119 56 11 := (hf130 56 11 rfl)
            exact mx_J.ret (sn_172 79) (fun _ _ => rfl) (hP Z130 h130 hx130 hG130 (fr_tr (M := [(56, 6), (56, 7), (56, 9), (56, 10), (56, 11), (56, 12), (60, (-1))]) (fr_tr (M := [(56, 6), (56, 7), (56, 9), (56, 10), (56, 11), (56, 12), (60, (-1))]) (fr_tr (M := [(56, 6), (56, 7), (56, 9), (56, 10), (56, 11), (56, 12), (60, (-1))]) (fr_tr (M := [(56, 6), (56, 7), (56, 9), (56, 10), (56, 11), (56, 12), (60, (-1))]) (fr_tr (M := [(56, 6), (56, 7), (56, 9), (56, 10), (56, 11), (56, 12), (60, (-1))]) (fr_tr (M := [(56, 6), (56, 7), (56, 9), (56, 10), (56, 11), (56, 12), (60, (-1))]) (fr_tr (M := [(56, 6), (56, 7), (56, 9), (56, 10), (56, 11), (56, 12), (60, (-1))]) (fr_tr (M := [(56, 6), (56, 7), (56, 9), (56, 10), (56, 11), (56, 12), (60, (-1))]) (fr_tr (M := [(56, 6), (56, 7), (56, 9), (56, 10), (56, 11), (56, 12), (60, (-1))]) (fr_tr (M := [(56, 6), (56, 7), (56, 9), (56, 10), (56, 11), (56, 12), (60, (-1))]) (fr_tr (M := [(56, 6), (56, 7), (56, 9), (56, 10), (56, 11), (56, 12), (60, (-1))]) fr_rf (hf1) (M1 := []) rfl rfl) (hf13) rfl rfl) (hf37) rfl rfl) (hf43) rfl rfl) (hf54) rfl rfl) (hf75) rfl rfl) (hf81) rfl rfl) (hf92) rfl rfl) (hf113) rfl rfl) (hf119) rfl rfl) (hf130) rfl rfl) ⟨(RM_e br130 (in_y hx5)), (QR_le r130 (by decide)), by omega⟩)
          refine Jif_ne (show mx_Sn _ _ 64 (mx_if_ne 72 67) from sn_172 64) (by omega) (fun q156 => ?_) (fun q156 => ?_)
          · skip
            have eq157 : Z113 60 61 = Z92 60 61 := (hf113 60 61 rfl)
            have eq158 : Z113 60 0 = Z92 60 0 := (hf113 60 0 rfl)
            have eq159 : Z113 60 1 = Z92 60 1 := (hf113 60 1 rfl)
            have eq160 : Z113 60 2 = Z92 60 2 := (hf113 60 2 rfl)
            exact c72 Z113 h113 (by omega) (by omega) (by omega) (by omega) (QR_le (rk113 (by omega)) (by decide)) (RM_e br113 (ee_y (gt8.mp (by omega)))) hx113 hG113 fr_rf
          · skip
            refine mx_J.step (sn_172 67) (fun _ _ => rfl) ?_
            refine JcI (z := 2) (show mx_Sn _ _ 68 (mx_const (.int 2) 69) from sn_172 68) rfl ?_
            have eq162 : Z113 56 11 = Z92 56 11 := (hf113 56 11 rfl)
            obtain ⟨Z161, h161, hc161, hx161, hG161, hf161, b161⟩ := ct_163_56 (g0 := g0) (T := T) (N := N) (sg := gEt T N 8 (smX T N (lvI T N (x0 + 1)) (gEx T N 7 (smX T N (lvI T N (x0 + 1)) (gEx T N 6 (trX T N (lvI T N (x0 + 1)) (gAd T N sg))))))) (d := d + 6) (l := l) (D := D) (b0 := b0) (ad := ad) (Hb := Hb) (tau := tau) hx113 hG113 (show 2 ≤ 2 ∧ 2 ≤ 4 by omega) br113
            try rw [eq162] at b161
            obtain ⟨br161, b161⟩ := b161
            have b163 : 0 ≤ Z161 56 11 ∧ Z161 56 11 ≤ 4 := hG161.pr 56 11
            have r161 : ¬ Z161 56 11 = 0 := by omega
            refine Jcv0 hx113 (show mx_Sn _ _ 69 (mx_callv 163 2 12 72) from sn_172 69) a56 s56 hc161 rfl rfl rfl ?_
            have eq164 : Z161 56 6 = Z113 56 6 := (hf161 56 6 rfl)
            have eq165 : Z161 56 7 = Z113 56 7 := (hf161 56 7 rfl)
            have eq166 : Z161 56 6 = Z113 56 6 := (hf161 56 6 rfl)
            have eq167 : Z161 56 7 = Z113 56 7 := (hf161 56 7 rfl)
            have eq168 : Z161 56 9 = Z113 56 9 := (hf161 56 9 rfl)
            have eq169 : Z161 56 6 = Z113 56 6 := (hf161 56 6 rfl)
            have eq170 : Z161 60 61 = Z92 60 61 := ((hf161 60 61 rfl).trans (hf113 60 61 rfl))
            have eq171 : Z161 60 0 = Z92 60 0 := ((hf161 60 0 rfl).trans (hf113 60 0 rfl))
            have eq172 : Z161 60 1 = Z92 60 1 := ((hf161 60 1 rfl).trans (hf113 60 1 rfl))
            have eq173 : Z161 60 2 = Z92 60 2 := ((hf161 60 2 rfl).trans (hf113 60 2 rfl))
            exact c72 Z161 h161 (by omega) (by omega) (by omega) (by omega) (QR_f r161) (RM_e br161 (ee_n (fun q => by have := gt8.mpr q; omega))) hx161 hG161 (fr_tr (M := [(56, 11), (56, 12)]) fr_rf (hf161) (M1 := []) rfl rfl)
        refine Jif_ne (show mx_Sn _ _ 43 (mx_if_ne 51 46) from sn_172 43) (by omega) (fun q174 => ?_) (fun q174 => ?_)
        · skip
          have eq175 : Z75 60 61 = Z54 60 61 := (hf75 60 61 rfl)
          have eq176 : Z75 60 0 = Z54 60 0 := (hf75 60 0 rfl)
          have eq177 : Z75 60 1 = Z54 60 1 := (hf75 60 1 rfl)
          have eq178 : Z75 60 2 = Z54 60 2 := (hf75 60 2 rfl)
          exact c51 Z75 h75 (by omega) (by omega) (by omega) (by omega) (QR_le (rk75 (by omega)) (by decide)) (RM_e br75 (ee_y (gt7.mp (by omega)))) hx75 hG75 fr_rf
        · skip
          refine mx_J.step (sn_172 46) (fun _ _ => rfl) ?_
          refine JcI (z := 2) (show mx_Sn _ _ 47 (mx_const (.int 2) 48) from sn_172 47) rfl ?_
          have eq180 : Z75 56 11 = Z54 56 11 := (hf75 56 11 rfl)
          obtain ⟨Z179, h179, hc179, hx179, hG179, hf179, b179⟩ := ct_163_56 (g0 := g0) (T := T) (N := N) (sg := gEt T N 7 (smX T N (lvI T N (x0 + 1)) (gEx T N 6 (trX T N (lvI T N (x0 + 1)) (gAd T N sg))))) (d := d + 6) (l := l) (D := D) (b0 := b0) (ad := ad) (Hb := Hb) (tau := tau) hx75 hG75 (show 2 ≤ 2 ∧ 2 ≤ 4 by omega) br75
          try rw [eq180] at b179
          obtain ⟨br179, b179⟩ := b179
          have b181 : 0 ≤ Z179 56 11 ∧ Z179 56 11 ≤ 4 := hG179.pr 56 11
          have r179 : ¬ Z179 56 11 = 0 := by omega
          refine Jcv0 hx75 (show mx_Sn _ _ 48 (mx_callv 163 2 12 51) from sn_172 48) a56 s56 hc179 rfl rfl rfl ?_
          have eq182 : Z179 56 6 = Z75 56 6 := (hf179 56 6 rfl)
          have eq183 : Z179 56 7 = Z75 56 7 := (hf179 56 7 rfl)
          have eq184 : Z179 56 6 = Z75 56 6 := (hf179 56 6 rfl)
          have eq185 : Z179 56 7 = Z75 56 7 := (hf179 56 7 rfl)
          have eq186 : Z179 56 9 = Z75 56 9 := (hf179 56 9 rfl)
          have eq187 : Z179 56 6 = Z75 56 6 := (hf179 56 6 rfl)
          have eq188 : Z179 60 61 = Z54 60 61 := ((hf179 60 61 rfl).trans (hf75 60 61 rfl))
          have eq189 : Z179 60 0 = Z54 60 0 := ((hf179 60 0 rfl).trans (hf75 60 0 rfl))
          have eq190 : Z179 60 1 = Z54 60 1 := ((hf179 60 1 rfl).trans (hf75 60 1 rfl))
          have eq191 : Z179 60 2 = Z54 60 2 := ((hf179 60 2 rfl).trans (hf75 60 2 rfl))
          exact c51 Z179 h179 (by omega) (by omega) (by omega) (by omega) (QR_f r179) (RM_e br179 (ee_n (fun q => by have := gt7.mpr q; omega))) hx179 hG179 (fr_tr (M := [(56, 11), (56, 12)]) fr_rf (hf179) (M1 := []) rfl rfl)
      refine Jif_ne (show mx_Sn _ _ 22 (mx_if_ne 30 25) from sn_172 22) (by omega) (fun q192 => ?_) (fun q192 => ?_)
      · skip
        have eq193 : Z37 60 61 = Z13 60 61 := (hf37 60 61 rfl)
        have eq194 : Z37 60 0 = Z13 60 0 := (hf37 60 0 rfl)
        have eq195 : Z37 60 1 = Z13 60 1 := (hf37 60 1 rfl)
        have eq196 : Z37 60 2 = Z13 60 2 := (hf37 60 2 rfl)
        exact c30 Z37 h37 (by omega) (by omega) (by omega) (by omega) (QR_le (rk37 (by omega)) (by decide)) (RM_e br37 (ee_y (gt6.mp (by omega)))) hx37 hG37 fr_rf
      · skip
        refine mx_J.step (sn_172 25) (fun _ _ => rfl) ?_
        refine JcI (z := 2) (show mx_Sn _ _ 26 (mx_const (.int 2) 27) from sn_172 26) rfl ?_
        have eq198 : Z37 56 11 = Z13 56 11 := (hf37 56 11 rfl)
        obtain ⟨Z197, h197, hc197, hx197, hG197, hf197, b197⟩ := ct_163_56 (g0 := g0) (T := T) (N := N) (sg := gEt T N 6 (trX T N (lvI T N (x0 + 1)) (gAd T N sg))) (d := d + 6) (l := l) (D := D) (b0 := b0) (ad := ad) (Hb := Hb) (tau := tau) hx37 hG37 (show 2 ≤ 2 ∧ 2 ≤ 4 by omega) br37
        try rw [eq198] at b197
        obtain ⟨br197, b197⟩ := b197
        have b199 : 0 ≤ Z197 56 11 ∧ Z197 56 11 ≤ 4 := hG197.pr 56 11
        have r197 : ¬ Z197 56 11 = 0 := by omega
        refine Jcv0 hx37 (show mx_Sn _ _ 27 (mx_callv 163 2 12 30) from sn_172 27) a56 s56 hc197 rfl rfl rfl ?_
        have eq200 : Z197 56 6 = Z37 56 6 := (hf197 56 6 rfl)
        have eq201 : Z197 56 7 = Z37 56 7 := (hf197 56 7 rfl)
        have eq202 : Z197 56 6 = Z37 56 6 := (hf197 56 6 rfl)
        have eq203 : Z197 56 7 = Z37 56 7 := (hf197 56 7 rfl)
        have eq204 : Z197 56 9 = Z37 56 9 := (hf197 56 9 rfl)
        have eq205 : Z197 56 6 = Z37 56 6 := (hf197 56 6 rfl)
        have eq206 : Z197 60 61 = Z13 60 61 := ((hf197 60 61 rfl).trans (hf37 60 61 rfl))
        have eq207 : Z197 60 0 = Z13 60 0 := ((hf197 60 0 rfl).trans (hf37 60 0 rfl))
        have eq208 : Z197 60 1 = Z13 60 1 := ((hf197 60 1 rfl).trans (hf37 60 1 rfl))
        have eq209 : Z197 60 2 = Z13 60 2 := ((hf197 60 2 rfl).trans (hf37 60 2 rfl))
        exact c30 Z197 h197 (by omega) (by omega) (by omega) (by omega) (QR_f r197) (RM_e br197 (ee_n (fun q => by have := gt6.mpr q; omega))) hx197 hG197 (fr_tr (M := [(56, 11), (56, 12)]) fr_rf (hf197) (M1 := []) rfl rfl)
    · skip
      have eq210 : Z1 60 61 = Z 60 61 := (hf1 60 61 rfl)
      have b211 : 0 ≤ Z 60 61 ∧ Z 60 61 ≤ 900 := by have hq := GI_ex hG 60 61; replace hq : f60 (61 % 962) (Z 60 61) := hq; unfold f60 at hq; omega
      have b212 : (-2147483648) ≤ Z 60 61 ∧ Z 60 61 ≤ 2147483647 := hG.pr 60 61
      have eq213 : Z1 60 0 = Z 60 0 := (hf1 60 0 rfl)
      have b214 : (-2147483648) ≤ Z 60 0 ∧ Z 60 0 ≤ 2147483647 := hG.pr 60 0
      have eq215 : Z1 60 1 = Z 60 1 := (hf1 60 1 rfl)
      have b216 : 0 ≤ Z 60 1 ∧ Z 60 1 ≤ 18 := by have hq := GI_ex hG 60 1; replace hq : f60 (1 % 962) (Z 60 1) := hq; unfold f60 at hq; omega
      have b217 : (-2147483648) ≤ Z 60 1 ∧ Z 60 1 ≤ 2147483647 := hG.pr 60 1
      have eq218 : Z1 60 2 = Z 60 2 := (hf1 60 2 rfl)
      have b219 : 0 ≤ Z 60 2 ∧ Z 60 2 ≤ 18 := by have hq := GI_ex hG 60 2; replace hq : f60 (2 % 962) (Z 60 2) := hq; unfold f60 at hq; omega
      have b220 : (-2147483648) ≤ Z 60 2 ∧ Z 60 2 ≤ 2147483647 := hG.pr 60 2
      have eq221 : Z1 56 8 = Z 56 8 := (hf1 56 8 rfl)
      have eq222 : Z1 60 61 = Z 60 61 := (hf1 60 61 rfl)
      have eq223 : Z1 60 0 = Z 60 0 := (hf1 60 0 rfl)
      have eq224 : Z1 60 1 = Z 60 1 := (hf1 60 1 rfl)
      have eq225 : Z1 60 2 = Z 60 2 := (hf1 60 2 rfl)
      exact mx_J.ret (sn_172 8) (fun _ _ => rfl) (hP Z1 h1 hx1 hG1 (fr_tr (M := [(56, 6), (56, 7), (56, 9), (56, 10), (56, 11), (56, 12), (60, (-1))]) fr_rf (hf1) (M1 := []) rfl rfl) ⟨(RM_e br1 ((in_n (by omega)).trans (gEn_n (by omega)).symm)), (QR_f (by omega)), by omega⟩)
theorem ct_172_56_s {l : Launch} {D : va_G} {b0 : Nat} {ad : Nat → Nat} {Hb : Heap} {tau : Nat → Int64} {d n s : Nat} {S : Nat → xS} {Z : xZ} {h : mx_H} {a0 : Int} {g0 : Int} {T : Int → Int} {N : Int} {sg : SS} (hx : XH n s S Z h) (hG : GI n S Z)  {x0 : Int} (p0 : 0 ≤ x0 ∧ x0 ≤ 6) (k0 : (Z 56 6 ≤ Z 56 7 ∧ Z 56 7 ≤ Z 56 8 ∧ (Z 56 9 = 24 ∨ Z 56 6 < Z 56 7))) (k1 : Z 60 61 ≤ Z 56 6) (k2 : a0 ≤ Z 60 61) (k3 : 0 ≤ a0) (k4 : 0 ≤ g0) (k5 : ¬ Z 56 9 = 24) (k6 : Z 56 11 = 0) (hr : RM g0 T N Z sg) {kk : Nat} (IH : RBnh l D b0 ad Hb tau kk x0) (hd : kk ≤ d) : ∃ (Z' : xZ) (h' : mx_H), mx_Ca (tB l D b0 ad Hb tau) (d + 8) 172 [.ref 56, xI x0] h (none, h') ∧ XH n s S Z' h' ∧ GI n S Z' ∧ fr' [(56, 6), (56, 7), (56, 9), (56, 10), (56, 11), (56, 12), (60, (-1))] Z Z' ∧ (RM g0 T N Z' (ifX T N (lvI T N x0) sg) ∧ QR Z Z' a0 1 0 ∧ ((Z' 56 6 ≤ Z' 56 7 ∧ Z' 56 7 ≤ Z 56 8 ∧ (Z' 56 9 = 24 ∨ Z' 56 6 < Z' 56 7)) ∧ Z' 60 0 = Z 60 0 ∧ Z' 60 1 = Z 60 1 ∧ Z' 60 2 = Z 60 2 ∧ Z 56 6 ≤ Z' 56 6 ∧ Z 60 61 ≤ Z' 60 61 ∧ Z' 60 61 - Z 60 61 ≤ Z' 56 6 - Z 56 6)) := by
  obtain ⟨r, hca, Z', h', e, q⟩ := Jmt (B := tB l D b0 ad Hb tau) (M := mt_172) (mi := 172) (as := [.ref 56, xI x0]) (d := d + 7) (ls := [some (.ref 56), some (xI x0)]) rfl rfl rfl rfl rfl rfl (cw_172_56_s (l := l) (D := D) (b0 := b0) (ad := ad) (Hb := Hb) (tau := tau) (d := d) (Post := fun r => ∃ (Z' : xZ) (h' : mx_H), r = (none, h') ∧ XH n s S Z' h' ∧ GI n S Z' ∧ fr' [(56, 6), (56, 7), (56, 9), (56, 10), (56, 11), (56, 12), (60, (-1))] Z Z' ∧ (RM g0 T N Z' (ifX T N (lvI T N x0) sg) ∧ QR Z Z' a0 1 0 ∧ ((Z' 56 6 ≤ Z' 56 7 ∧ Z' 56 7 ≤ Z 56 8 ∧ (Z' 56 9 = 24 ∨ Z' 56 6 < Z' 56 7)) ∧ Z' 60 0 = Z 60 0 ∧ Z' 60 1 = Z 60 1 ∧ Z' 60 2 = Z 60 2 ∧ Z 56 6 ≤ Z' 56 6 ∧ Z 60 61 ≤ Z' 60 61 ∧ Z' 60 61 - Z 60 61 ≤ Z' 56 6 - Z 56 6))) hx hG p0 k0 k1 k2 k3 k4 k5 k6 hr IH hd (fun Z' h' q1 q2 q3 q4 => ⟨Z', h', rfl, q1, q2, q3, q4⟩))
  subst e; exact ⟨Z', h', hca, q⟩
set_option maxHeartbeats 8000000 in
set_option maxRecDepth 100000 in
theorem cw_171_56_s {l : Launch} {D : va_G} {b0 : Nat} {ad : Nat → Nat} {Hb : Heap} {tau : Nat → Int64} {d n s : Nat} {S : Nat → xS} {Z : xZ} {h : mx_H} {Post : mx_R → Prop} {a0 : Int} {g0 : Int} {T : Int → Int} {N : Int} {sg : SS} (hx : XH n s S Z h) (hG : GI n S Z)  {x0 : Int} (p0 : 0 ≤ x0 ∧ x0 ≤ 6) (k0 : (Z 56 6 ≤ Z 56 7 ∧ Z 56 7 ≤ Z 56 8 ∧ (Z 56 9 = 24 ∨ Z 56 6 < Z 56 7))) (k1 : Z 60 61 ≤ Z 56 6) (k2 : a0 ≤ Z 60 61) (k3 : 0 ≤ a0) (k4 : 0 ≤ g0) (hr : RM g0 T N Z sg) {kk : Nat} (IH : RBnh l D b0 ad Hb tau kk x0) (hd : kk ≤ d) (hP : ∀ (Z' : xZ) (h' : mx_H), XH n s S Z' h' → GI n S Z' → fr' [(56, 6), (56, 7), (56, 9), (56, 10), (56, 11), (56, 12), (60, (-1))] Z Z' → RM g0 T N Z' (atX T N (lvI T N x0) sg) ∧ QR Z Z' a0 1 0 ∧ ((Z' 56 6 ≤ Z' 56 7 ∧ Z' 56 7 ≤ Z 56 8 ∧ (Z' 56 9 = 24 ∨ Z' 56 6 < Z' 56 7)) ∧ Z' 60 0 = Z 60 0 ∧ Z' 60 1 = Z 60 1 ∧ Z' 60 2 = Z 60 2 ∧ Z 56 6 ≤ Z' 56 6 ∧ Z 60 61 ≤ Z' 60 61 ∧ Z' 60 61 - Z 60 61 ≤ Z' 56 6 - Z 56 6) → Post (none, h')) : mx_J (tB l D b0 ad Hb tau) mt_171 (d + 8) 0 [some (.ref 56), some (xI x0)] [] h Post := by
    have a56 : 56 < n := lt83 (GI_n hG) rfl
    have s56 : S 56 = .inl (12, [0, 2, 2, 2, 2, 0, 0, 0, 0, 0, 0, 0, 0, 0, 0, 2, 2, 2, 0, 2, 2, 2, 0, 0, 2, 2, 2, 2, 2, 2, 0, 0, 2, 2, 2, 2, 2, 2, 2, 2, 2, 2]) := GI_s hG 56 rfl
    refine mx_J.step (sn_171 0) (fun _ _ => rfl) ?_
    refine JcI (z := 23) (show mx_Sn _ _ 1 (mx_const (.int 23) 3) from sn_171 1) rfl ?_
    have b2 : 0 ≤ Z 56 9 ∧ Z 56 9 ≤ 100 := hG.pr 56 9
    have b3 : 0 ≤ Z 56 11 ∧ Z 56 11 ≤ 4 := hG.pr 56 11
    obtain ⟨z1, hc1, b1⟩ := ct_164_56 (d := d + 7) (l := l) (D := D) (b0 := b0) (ad := ad) (Hb := Hb) (tau := tau) hx hG (show 0 ≤ 23 ∧ 23 ≤ 100 by omega)
    refine Jcv hx (show mx_Sn _ _ 3 (mx_callv 164 2 12 6) from sn_171 3) a56 s56 hc1 rfl rfl rfl ?_
    have c129 : ∀  (Z5 : xZ) (h5 : mx_H), (Z5 56 6 ≤ Z5 56 7 ∧ Z5 56 7 ≤ Z 56 8) → (Z5 56 9 = 24 ∨ Z5 56 6 < Z5 56 7) → (Z 56 6 ≤ Z5 56 6 ∧ Z 60 61 ≤ Z5 60 61 ∧ Z5 60 61 - Z 60 61 ≤ Z5 56 6 - Z 56 6) → (Z5 60 0 = Z 60 0 ∧ Z5 60 1 = Z 60 1 ∧ Z5 60 2 = Z 60 2) → QR Z Z5 a0 1 0 → RM g0 T N Z5 (atX T N (lvI T N x0) sg) → XH n s S Z5 h5 → GI n S Z5 → fr' [(56, 6), (56, 7), (56, 9), (56, 10), (56, 11), (56, 12), (60, (-1))] Z Z5 → mx_J (tB l D b0 ad Hb tau) mt_171 (d + 8) 129 [some (.ref 56), some (xI x0)] [] h5 Post := by
      intro Z5 h5 f4_0 f4_1 f4_2 f4_3 f4_4 f4_5 hx5 hG5 hf5
      have b6 : 0 ≤ Z5 56 6 ∧ Z5 56 6 ≤ 900 := hG5.pr 56 6
      have b7 : 0 ≤ Z5 56 7 ∧ Z5 56 7 ≤ 900 := hG5.pr 56 7
      have b8 : 0 ≤ Z5 56 9 ∧ Z5 56 9 ≤ 100 := hG5.pr 56 9
      have b9 : 0 ≤ Z5 60 61 ∧ Z5 60 61 ≤ 900 := by have hq := GI_ex hG5 60 61; replace hq : f60 (61 % 962) (Z5 60 61) := hq; unfold f60 at hq; omega
      have b10 : (-2147483648) ≤ Z5 60 61 ∧ Z5 60 61 ≤ 2147483647 := hG5.pr 60 61
      have b11 : (-2147483648) ≤ Z5 60 0 ∧ Z5 60 0 ≤ 2147483647 := hG5.pr 60 0
      have b12 : 0 ≤ Z5 60 1 ∧ Z5 60 1 ≤ 18 := by have hq := GI_ex hG5 60 1; replace hq : f60 (1 % 962) (Z5 60 1) := hq; unfold f60 at hq; omega
      have b13 : (-2147483648) ≤ Z5 60 1 ∧ Z5 60 1 ≤ 2147483647 := hG5.pr 60 1
      have b14 : 0 ≤ Z5 60 2 ∧ Z5 60 2 ≤ 18 := by have hq := GI_ex hG5 60 2; replace hq : f60 (2 % 962) (Z5 60 2) := hq; unfold f60 at hq; omega
      have b15 : (-2147483648) ≤ Z5 60 2 ∧ Z5 60 2 ≤ 2147483647 := hG5.pr 60 2
      have b16 : 0 ≤ Z5 56 11 ∧ Z5 56 11 ≤ 4 := hG5.pr 56 11
      have eq17 : Z5 56 8 = Z 56 8 := (hf5 56 8 rfl)
      have b18 : 0 ≤ Z 56 8 ∧ Z 56 8 ≤ 900 := hG.pr 56 8
      exact mx_J.ret (sn_171 129) (fun _ _ => rfl) (hP Z5 h5 hx5 hG5 (fr_tr (M := [(56, 6), (56, 7), (56, 9), (56, 10), (56, 11), (56, 12), (60, (-1))]) fr_rf (hf5) (M1 := []) rfl rfl) ⟨f4_5, (QR_le f4_4 (by decide)), by omega⟩)
    refine Jif_eq (show mx_Sn _ _ 6 (mx_if_eq 24 9) from sn_171 6) (by omega) (fun q19 => ?_) (fun q19 => ?_)
    · skip
      refine mx_J.step (sn_171 24) (fun _ _ => rfl) ?_
      refine JgetI (g := 11) (z := Z 56 11) hx (show mx_Sn _ _ 25 (mx_getf 12 11 28) from sn_171 25) a56 s56 rfl rfl rfl ?_
      have c66 : (¬ Z 56 11 = 0 ∨ (¬ Z 56 9 = 1 ∧ ¬ (9 ≤ Z 56 9 ∧ Z 56 9 ≤ 12))) → mx_J (tB l D b0 ad Hb tau) mt_171 (d + 8) 66 [some (.ref 56), some (xI x0)] [] h Post := by
        intro f21_0
        refine mx_J.step (sn_171 66) (fun _ _ => rfl) ?_
        refine JcI (z := 35) (show mx_Sn _ _ 67 (mx_const (.int 35) 69) from sn_171 67) rfl ?_
        obtain ⟨z22, hc22, b22⟩ := ct_164_56 (d := d + 7) (l := l) (D := D) (b0 := b0) (ad := ad) (Hb := Hb) (tau := tau) hx hG (show 0 ≤ 35 ∧ 35 ≤ 100 by omega)
        refine Jcv hx (show mx_Sn _ _ 69 (mx_callv 164 2 12 72) from sn_171 69) a56 s56 hc22 rfl rfl rfl ?_
        refine Jif_eq (show mx_Sn _ _ 72 (mx_if_eq 108 75) from sn_171 72) (by omega) (fun q23 => ?_) (fun q23 => ?_)
        · skip
          refine mx_J.step (sn_171 108) (fun _ _ => rfl) ?_
          refine JcI (z := 5) (show mx_Sn _ _ 109 (mx_const (.int 5) 110) from sn_171 109) rfl ?_
          obtain ⟨z24, hc24, b24⟩ := ct_164_56 (d := d + 7) (l := l) (D := D) (b0 := b0) (ad := ad) (Hb := Hb) (tau := tau) hx hG (show 0 ≤ 5 ∧ 5 ≤ 100 by omega)
          refine Jcv hx (show mx_Sn _ _ 110 (mx_callv 164 2 12 113) from sn_171 110) a56 s56 hc24 rfl rfl rfl ?_
          refine Jif_eq (show mx_Sn _ _ 113 (mx_if_eq 124 116) from sn_171 113) (by omega) (fun q25 => ?_) (fun q25 => ?_)
          · skip
            refine mx_J.step (sn_171 124) (fun _ _ => rfl) ?_
            refine JcI (z := 2) (show mx_Sn _ _ 125 (mx_const (.int 2) 126) from sn_171 125) rfl ?_
            obtain ⟨Z26, h26, hc26, hx26, hG26, hf26, b26⟩ := ct_163_56 (g0 := g0) (T := T) (N := N) (sg := sg) (d := d + 7) (l := l) (D := D) (b0 := b0) (ad := ad) (Hb := Hb) (tau := tau) hx hG (show 2 ≤ 2 ∧ 2 ≤ 4 by omega) hr
            obtain ⟨br26, b26⟩ := b26
            have b27 : 0 ≤ Z26 56 11 ∧ Z26 56 11 ≤ 4 := hG26.pr 56 11
            have r26 : ¬ Z26 56 11 = 0 := by omega
            refine Jcv0 hx (show mx_Sn _ _ 126 (mx_callv 163 2 12 129) from sn_171 126) a56 s56 hc26 rfl rfl rfl ?_
            have eq28 : Z26 56 6 = Z 56 6 := (hf26 56 6 rfl)
            have b29 : 0 ≤ Z 56 6 ∧ Z 56 6 ≤ 900 := hG.pr 56 6
            have eq30 : Z26 56 7 = Z 56 7 := (hf26 56 7 rfl)
            have b31 : 0 ≤ Z 56 7 ∧ Z 56 7 ≤ 900 := hG.pr 56 7
            have eq32 : Z26 56 6 = Z 56 6 := (hf26 56 6 rfl)
            have eq33 : Z26 56 7 = Z 56 7 := (hf26 56 7 rfl)
            have eq34 : Z26 56 9 = Z 56 9 := (hf26 56 9 rfl)
            have eq35 : Z26 56 6 = Z 56 6 := (hf26 56 6 rfl)
            have eq36 : Z26 60 61 = Z 60 61 := (hf26 60 61 rfl)
            have b37 : 0 ≤ Z 60 61 ∧ Z 60 61 ≤ 900 := by have hq := GI_ex hG 60 61; replace hq : f60 (61 % 962) (Z 60 61) := hq; unfold f60 at hq; omega
            have b38 : (-2147483648) ≤ Z 60 61 ∧ Z 60 61 ≤ 2147483647 := hG.pr 60 61
            have eq39 : Z26 60 0 = Z 60 0 := (hf26 60 0 rfl)
            have b40 : (-2147483648) ≤ Z 60 0 ∧ Z 60 0 ≤ 2147483647 := hG.pr 60 0
            have eq41 : Z26 60 1 = Z 60 1 := (hf26 60 1 rfl)
            have b42 : 0 ≤ Z 60 1 ∧ Z 60 1 ≤ 18 := by have hq := GI_ex hG 60 1; replace hq : f60 (1 % 962) (Z 60 1) := hq; unfold f60 at hq; omega
            have b43 : (-2147483648) ≤ Z 60 1 ∧ Z 60 1 ≤ 2147483647 := hG.pr 60 1
            have eq44 : Z26 60 2 = Z 60 2 := (hf26 60 2 rfl)
            have b45 : 0 ≤ Z 60 2 ∧ Z 60 2 ≤ 18 := by have hq := GI_ex hG 60 2; replace hq : f60 (2 % 962) (Z 60 2) := hq; unfold f60 at hq; omega
            have b46 : (-2147483648) ≤ Z 60 2 ∧ Z 60 2 ≤ 2147483647 := hG.pr 60 2
            exact c129 Z26 h26 (by omega) (by omega) (by omega) (by omega) (QR_f r26) (RM_e br26 (at_n (fun q => by have := (RM_is (k := 23) hr).mpr q; omega) (fun q => by have := (RM_is (k := 35) hr).mpr q; omega) (fun q => by have := (RM_is (k := 5) hr).mpr q; omega) (fun q => by have := (RM_is (k := 1) hr).mpr q; omega) (fun q => by have k := (RM_p hr).1.mpr q.1; have k2 := RM_k hr k; omega))) hx26 hG26 (fr_tr (M := [(56, 6), (56, 7), (56, 9), (56, 10), (56, 11), (56, 12), (60, (-1))]) fr_rf (hf26) (M1 := []) rfl rfl)
          · skip
            refine mx_J.step (sn_171 116) (fun _ _ => rfl) ?_
            refine mx_J.step (sn_171 117) (fun _ _ => rfl) ?_
            have b48 : 0 ≤ Z 56 6 ∧ Z 56 6 ≤ 900 := hG.pr 56 6
            have b49 : 0 ≤ Z 56 7 ∧ Z 56 7 ≤ 900 := hG.pr 56 7
            have b50 : 0 ≤ Z 56 8 ∧ Z 56 8 ≤ 900 := hG.pr 56 8
            have b51 : 0 ≤ Z 60 61 ∧ Z 60 61 ≤ 900 := by have hq := GI_ex hG 60 61; replace hq : f60 (61 % 962) (Z 60 61) := hq; unfold f60 at hq; omega
            have b52 : (-2147483648) ≤ Z 60 61 ∧ Z 60 61 ≤ 2147483647 := hG.pr 60 61
            have b53 : (-2147483648) ≤ Z 60 0 ∧ Z 60 0 ≤ 2147483647 := hG.pr 60 0
            have b54 : 0 ≤ Z 60 1 ∧ Z 60 1 ≤ 18 := by have hq := GI_ex hG 60 1; replace hq : f60 (1 % 962) (Z 60 1) := hq; unfold f60 at hq; omega
            have b55 : (-2147483648) ≤ Z 60 1 ∧ Z 60 1 ≤ 2147483647 := hG.pr 60 1
            have b56 : 0 ≤ Z 60 2 ∧ Z 60 2 ≤ 18 := by have hq := GI_ex hG 60 2; replace hq : f60 (2 % 962) (Z 60 2) := hq; unfold f60 at hq; omega
            have b57 : (-2147483648) ≤ Z 60 2 ∧ Z 60 2 ≤ 2147483647 := hG.pr 60 2
            obtain ⟨Z47, h47, hc47, hx47, hG47, hf47, b47⟩ := ct_172_56_s (a0 := a0) (g0 := g0) (T := T) (N := N) (sg := sg) (d := d + 0) (l := l) (D := D) (b0 := b0) (ad := ad) (Hb := Hb) (tau := tau) hx hG (show 0 ≤ x0 ∧ x0 ≤ 6 by omega) (show (Z 56 6 ≤ Z 56 7 ∧ Z 56 7 ≤ Z 56 8 ∧ (Z 56 9 = 24 ∨ Z 56 6 < Z 56 7)) by omega) (show Z 60 61 ≤ Z 56 6 by omega) (show a0 ≤ Z 60 61 by omega) (show 0 ≤ a0 by omega) (show 0 ≤ g0 by omega) (show ¬ Z 56 9 = 24 by omega) (show Z 56 11 = 0 by omega) hr IH (by omega)
            obtain ⟨br47, b47⟩ := b47
            obtain ⟨bq47, b47⟩ := b47
            have b58 : 0 ≤ Z47 56 6 ∧ Z47 56 6 ≤ 900 := hG47.pr 56 6
            have b59 : 0 ≤ Z47 56 7 ∧ Z47 56 7 ≤ 900 := hG47.pr 56 7
            have b60 : 0 ≤ Z47 56 9 ∧ Z47 56 9 ≤ 100 := hG47.pr 56 9
            have b61 : 0 ≤ Z47 56 11 ∧ Z47 56 11 ≤ 4 := hG47.pr 56 11
            have b62 : 0 ≤ Z47 60 61 ∧ Z47 60 61 ≤ 900 := by have hq := GI_ex hG47 60 61; replace hq : f60 (61 % 962) (Z47 60 61) := hq; unfold f60 at hq; omega
            have b63 : (-2147483648) ≤ Z47 60 61 ∧ Z47 60 61 ≤ 2147483647 := hG47.pr 60 61
            have b64 : (-2147483648) ≤ Z47 60 0 ∧ Z47 60 0 ≤ 2147483647 := hG47.pr 60 0
            have b65 : 0 ≤ Z47 60 1 ∧ Z47 60 1 ≤ 18 := by have hq := GI_ex hG47 60 1; replace hq : f60 (1 % 962) (Z47 60 1) := hq; unfold f60 at hq; omega
            have b66 : (-2147483648) ≤ Z47 60 1 ∧ Z47 60 1 ≤ 2147483647 := hG47.pr 60 1
            have b67 : 0 ≤ Z47 60 2 ∧ Z47 60 2 ≤ 18 := by have hq := GI_ex hG47 60 2; replace hq : f60 (2 % 962) (Z47 60 2) := hq; unfold f60 at hq; omega
            have b68 : (-2147483648) ≤ Z47 60 2 ∧ Z47 60 2 ≤ 2147483647 := hG47.pr 60 2
            have r47 := QR_tr (d := 1) (c := 0) (QR_rf (Z := Z) (a := a0)) bq47 (by decide) (by decide) (by decide)
            refine Jcv0 hx (show mx_Sn _ _ 118 (mx_callv 172 2 12 121) from sn_171 118) a56 s56 hc47 rfl rfl rfl ?_
            refine mx_J.step (sn_171 121) (fun _ _ => rfl) ?_
            exact c129 Z47 h47 (by omega) (by omega) (by omega) (by omega) (QR_le r47 (by decide)) (RM_e br47 (at_i ((RM_is (k := 5) hr).mp (by omega)))) hx47 hG47 (fr_tr (M := [(56, 6), (56, 7), (56, 9), (56, 10), (56, 11), (56, 12), (60, (-1))]) fr_rf (hf47) (M1 := []) rfl rfl)
        · skip
          refine mx_J.step (sn_171 75) (fun _ _ => rfl) ?_
          refine mx_J.step (sn_171 76) (fun _ _ => rfl) ?_
          have b70 : 0 ≤ Z 56 6 ∧ Z 56 6 ≤ 900 := hG.pr 56 6
          have b71 : 0 ≤ Z 56 7 ∧ Z 56 7 ≤ 900 := hG.pr 56 7
          have b72 : 0 ≤ Z 56 8 ∧ Z 56 8 ≤ 900 := hG.pr 56 8
          obtain ⟨z69, Z69, h69, hc69, hx69, hG69, hf69, b69⟩ := ct_170_56 (g0 := g0) (T := T) (N := N) (sg := sg) (d := d + 1) (l := l) (D := D) (b0 := b0) (ad := ad) (Hb := Hb) (tau := tau) hx hG (show 0 ≤ x0 ∧ x0 ≤ 6 by omega) (show (Z 56 6 ≤ Z 56 7 ∧ Z 56 7 ≤ Z 56 8 ∧ (Z 56 9 = 24 ∨ Z 56 6 < Z 56 7)) by omega) (show ¬ Z 56 9 = 24 by omega) hr
          obtain ⟨br69, b69⟩ := b69
          have b73 : 0 ≤ Z69 56 6 ∧ Z69 56 6 ≤ 900 := hG69.pr 56 6
          have b74 : 0 ≤ Z69 56 7 ∧ Z69 56 7 ≤ 900 := hG69.pr 56 7
          have b75 : 0 ≤ Z69 56 9 ∧ Z69 56 9 ≤ 100 := hG69.pr 56 9
          have b76 : 0 ≤ Z69 56 11 ∧ Z69 56 11 ≤ 4 := hG69.pr 56 11
          have r69 := QR_g (k := 1) (c2 := 1) (QR_rf (Z := Z) (a := a0)) (fun e => by omega) (fun i => hf69 60 i rfl) (fun e => by omega) (by decide)
          refine Jcv hx (show mx_Sn _ _ 77 (mx_callv 170 2 12 80) from sn_171 77) a56 s56 hc69 rfl rfl rfl ?_
          refine Jif_ne (show mx_Sn _ _ 80 (mx_if_ne 84 83) from sn_171 80) (by omega) (fun q77 => ?_) (fun q77 => ?_)
          · skip
            have hx5 : x0 ≤ 5 := by omega
            have rc78 : RM g0 T N Z69 (gAd T N sg) := RM_e br69 ((gEn_y (by omega)).symm)
            refine mx_J.step (sn_171 84) (fun _ _ => rfl) ?_
            refine mx_J.step (sn_171 85) (fun _ _ => rfl) ?_
            refine JcI (z := 1) (show mx_Sn _ _ 86 (mx_const (.int 1) 87) from sn_171 86) rfl ?_
            refine Jiadd (show mx_Sn _ _ 87 (mx_iadd 88) from sn_171 87) ?_
            have eq80 : Z69 56 8 = Z 56 8 := (hf69 56 8 rfl)
            have eq81 : Z69 60 61 = Z 60 61 := (hf69 60 61 rfl)
            have b82 : 0 ≤ Z 60 61 ∧ Z 60 61 ≤ 900 := by have hq := GI_ex hG 60 61; replace hq : f60 (61 % 962) (Z 60 61) := hq; unfold f60 at hq; omega
            have b83 : (-2147483648) ≤ Z 60 61 ∧ Z 60 61 ≤ 2147483647 := hG.pr 60 61
            have eq84 : Z69 60 0 = Z 60 0 := (hf69 60 0 rfl)
            have b85 : (-2147483648) ≤ Z 60 0 ∧ Z 60 0 ≤ 2147483647 := hG.pr 60 0
            have eq86 : Z69 60 1 = Z 60 1 := (hf69 60 1 rfl)
            have b87 : 0 ≤ Z 60 1 ∧ Z 60 1 ≤ 18 := by have hq := GI_ex hG 60 1; replace hq : f60 (1 % 962) (Z 60 1) := hq; unfold f60 at hq; omega
            have b88 : (-2147483648) ≤ Z 60 1 ∧ Z 60 1 ≤ 2147483647 := hG.pr 60 1
            have eq89 : Z69 60 2 = Z 60 2 := (hf69 60 2 rfl)
            have b90 : 0 ≤ Z 60 2 ∧ Z 60 2 ≤ 18 := by have hq := GI_ex hG 60 2; replace hq : f60 (2 % 962) (Z 60 2) := hq; unfold f60 at hq; omega
            have b91 : (-2147483648) ≤ Z 60 2 ∧ Z 60 2 ≤ 2147483647 := hG.pr 60 2
            obtain ⟨Z79, h79, hc79, hx79, hG79, hf79, b79⟩ := riR_174 IH (by omega) (hd := by omega) (a0 := a0) (g0 := g0) (T := T) (N := N) (sg := gAd T N sg) (d := d + 8) (l := l) (D := D) (b0 := b0) (ad := ad) (Hb := Hb) (tau := tau) hx69 hG69 (show 1 ≤ x0 + 1 ∧ x0 + 1 ≤ 6 by omega) (show (Z69 56 6 ≤ Z69 56 7 ∧ Z69 56 7 ≤ Z69 56 8 ∧ (Z69 56 9 = 24 ∨ Z69 56 6 < Z69 56 7)) by first | omega | (simp only [eq80, eq81, eq84, eq86, eq89]; omega)) (show Z69 60 61 ≤ Z69 56 6 by first | omega | (simp only [eq80, eq81, eq84, eq86, eq89]; omega)) (show a0 ≤ Z69 60 61 by first | omega | (simp only [eq80, eq81, eq84, eq86, eq89]; omega)) (show 0 ≤ a0 by first | omega | (simp only [eq80, eq81, eq84, eq86, eq89]; omega)) (show 0 ≤ g0 by first | omega | (simp only [eq80, eq81, eq84, eq86, eq89]; omega)) rc78
            try rw [eq80] at b79
            try rw [eq81] at b79
            try rw [eq84] at b79
            try rw [eq86] at b79
            try rw [eq89] at b79
            obtain ⟨br79, b79⟩ := b79
            obtain ⟨bq79, b79⟩ := b79
            have b92 : 0 ≤ Z79 56 6 ∧ Z79 56 6 ≤ 900 := hG79.pr 56 6
            have b93 : 0 ≤ Z79 56 7 ∧ Z79 56 7 ≤ 900 := hG79.pr 56 7
            have b94 : 0 ≤ Z79 56 9 ∧ Z79 56 9 ≤ 100 := hG79.pr 56 9
            have b95 : 0 ≤ Z79 56 11 ∧ Z79 56 11 ≤ 4 := hG79.pr 56 11
            have b96 : 0 ≤ Z79 60 61 ∧ Z79 60 61 ≤ 900 := by have hq := GI_ex hG79 60 61; replace hq : f60 (61 % 962) (Z79 60 61) := hq; unfold f60 at hq; omega
            have b97 : (-2147483648) ≤ Z79 60 61 ∧ Z79 60 61 ≤ 2147483647 := hG79.pr 60 61
            have b98 : (-2147483648) ≤ Z79 60 0 ∧ Z79 60 0 ≤ 2147483647 := hG79.pr 60 0
            have b99 : 0 ≤ Z79 60 1 ∧ Z79 60 1 ≤ 18 := by have hq := GI_ex hG79 60 1; replace hq : f60 (1 % 962) (Z79 60 1) := hq; unfold f60 at hq; omega
            have b100 : (-2147483648) ≤ Z79 60 1 ∧ Z79 60 1 ≤ 2147483647 := hG79.pr 60 1
            have b101 : 0 ≤ Z79 60 2 ∧ Z79 60 2 ≤ 18 := by have hq := GI_ex hG79 60 2; replace hq : f60 (2 % 962) (Z79 60 2) := hq; unfold f60 at hq; omega
            have b102 : (-2147483648) ≤ Z79 60 2 ∧ Z79 60 2 ≤ 2147483647 := hG79.pr 60 2
            have r79 := QR_tr (d := 1) (c := 1) r69 bq79 (by decide) (by decide) (by decide)
            refine Jcv0 hx69 (show mx_Sn _ _ 88 (mx_callv 174 2 12 91) from sn_171 88) a56 s56 hc79 rfl rfl rfl ?_
            have gt := RM_is (k := 36) br79
            refine mx_J.step (sn_171 91) (fun _ _ => rfl) ?_
            refine JcI (z := 36) (show mx_Sn _ _ 92 (mx_const (.int 36) 94) from sn_171 92) rfl ?_
            have eq104 : Z79 56 8 = Z 56 8 := ((hf79 56 8 rfl).trans (hf69 56 8 rfl))
            obtain ⟨z103, Z103, h103, hc103, hx103, hG103, hf103, b103⟩ := ct_165_56 (g0 := g0) (T := T) (N := N) (sg := smX T N (lvI T N (x0 + 1)) (gAd T N sg)) (d := d + 1) (l := l) (D := D) (b0 := b0) (ad := ad) (Hb := Hb) (tau := tau) hx79 hG79 (show 0 ≤ 36 ∧ 36 ≤ 100 by omega) (show (Z79 56 6 ≤ Z79 56 7 ∧ Z79 56 7 ≤ Z79 56 8 ∧ (Z79 56 9 = 24 ∨ Z79 56 6 < Z79 56 7)) by first | omega | (simp only [eq104]; omega)) (show ¬ 36 = 24 by first | omega | (simp only [eq104]; omega)) br79
            try rw [eq104] at b103
            obtain ⟨br103, b103⟩ := b103
            have b105 : 0 ≤ Z103 56 6 ∧ Z103 56 6 ≤ 900 := hG103.pr 56 6
            have b106 : 0 ≤ Z103 56 7 ∧ Z103 56 7 ≤ 900 := hG103.pr 56 7
            have b107 : 0 ≤ Z103 56 9 ∧ Z103 56 9 ≤ 100 := hG103.pr 56 9
            have r103 := QR_g (k := 0) (c2 := 1) r79 (fun e => (hf103 56 11 rfl).symm.trans e) (fun i => hf103 60 i rfl) (fun e => by omega) (by decide)
            have rk103 : z103 = 1 → QR Z Z103 a0 1 2 := fun ez => QR_g (k := 1) r79 (fun e => (hf103 56 11 rfl).symm.trans e) (fun i => hf103 60 i rfl) (fun e => by omega) (by decide)
            refine Jcv hx79 (show mx_Sn _ _ 94 (mx_callv 165 2 12 97) from sn_171 94) a56 s56 hc103 rfl rfl rfl ?_
            refine Jif_ne (show mx_Sn _ _ 97 (mx_if_ne 129 100) from sn_171 97) (by omega) (fun q108 => ?_) (fun q108 => ?_)
            · skip
              have eq109 : Z103 60 61 = Z79 60 61 := (hf103 60 61 rfl)
              have eq110 : Z103 60 0 = Z79 60 0 := (hf103 60 0 rfl)
              have eq111 : Z103 60 1 = Z79 60 1 := (hf103 60 1 rfl)
              have eq112 : Z103 60 2 = Z79 60 2 := (hf103 60 2 rfl)
              exact c129 Z103 h103 (by omega) (by omega) (by omega) (by omega) (QR_le (rk103 (by omega)) (by decide)) (RM_e br103 (((at_o ((RM_is (k := 35) hr).mp (by omega))).trans (in_y hx5)).trans (ee_y (gt.mp (by omega))))) hx103 hG103 (fr_tr (M := [(56, 6), (56, 7), (56, 9), (56, 10), (56, 11), (56, 12), (60, (-1))]) (fr_tr (M := [(56, 6), (56, 7), (56, 9), (56, 10), (56, 11), (56, 12), (60, (-1))]) (fr_tr (M := [(56, 6), (56, 7), (56, 9), (56, 10), (56, 11), (56, 12), (60, (-1))]) fr_rf (hf69) (M1 := []) rfl rfl) (hf79) rfl rfl) (hf103) rfl rfl)
            · skip
              refine mx_J.step (sn_171 100) (fun _ _ => rfl) ?_
              refine JcI (z := 2) (show mx_Sn _ _ 101 (mx_const (.int 2) 102) from sn_171 101) rfl ?_
              have eq114 : Z103 56 11 = Z79 56 11 := (hf103 56 11 rfl)
              obtain ⟨Z113, h113, hc113, hx113, hG113, hf113, b113⟩ := ct_163_56 (g0 := g0) (T := T) (N := N) (sg := gEt T N 36 (smX T N (lvI T N (x0 + 1)) (gAd T N sg))) (d := d + 7) (l := l) (D := D) (b0 := b0) (ad := ad) (Hb := Hb) (tau := tau) hx103 hG103 (show 2 ≤ 2 ∧ 2 ≤ 4 by omega) br103
              try rw [eq114] at b113
              obtain ⟨br113, b113⟩ := b113
              have b115 : 0 ≤ Z113 56 11 ∧ Z113 56 11 ≤ 4 := hG113.pr 56 11
              have r113 : ¬ Z113 56 11 = 0 := by omega
              refine Jcv0 hx103 (show mx_Sn _ _ 102 (mx_callv 163 2 12 105) from sn_171 102) a56 s56 hc113 rfl rfl rfl ?_
              refine mx_J.step (sn_171 105) (fun _ _ => rfl) ?_
              have eq116 : Z113 56 6 = Z103 56 6 := (hf113 56 6 rfl)
              have eq117 : Z113 56 7 = Z103 56 7 := (hf113 56 7 rfl)
              have eq118 : Z113 56 6 = Z103 56 6 := (hf113 56 6 rfl)
              have eq119 : Z113 56 7 = Z103 56 7 := (hf113 56 7 rfl)
              have eq120 : Z113 56 9 = Z103 56 9 := (hf113 56 9 rfl)
              have eq121 : Z113 56 6 = Z103 56 6 := (hf113 56 6 rfl)
              have eq122 : Z113 60 61 = Z79 60 61 := ((hf113 60 61 rfl).trans (hf103 60 61 rfl))
              have eq123 : Z113 60 0 = Z79 60 0 := ((hf113 60 0 rfl).trans (hf103 60 0 rfl))
              have eq124 : Z113 60 1 = Z79 60 1 := ((hf113 60 1 rfl).trans (hf103 60 1 rfl))
              have eq125 : Z113 60 2 = Z79 60 2 := ((hf113 60 2 rfl).trans (hf103 60 2 rfl))
              exact c129 Z113 h113 (by omega) (by omega) (by omega) (by omega) (QR_f r113) (RM_e br113 (((at_o ((RM_is (k := 35) hr).mp (by omega))).trans (in_y hx5)).trans (ee_n (fun q => by have := gt.mpr q; omega)))) hx113 hG113 (fr_tr (M := [(56, 6), (56, 7), (56, 9), (56, 10), (56, 11), (56, 12), (60, (-1))]) (fr_tr (M := [(56, 6), (56, 7), (56, 9), (56, 10), (56, 11), (56, 12), (60, (-1))]) (fr_tr (M := [(56, 6), (56, 7), (56, 9), (56, 10), (56, 11), (56, 12), (60, (-1))]) (fr_tr (M := [(56, 6), (56, 7), (56, 9), (56, 10), (56, 11), (56, 12), (60, (-1))]) fr_rf (hf69) (M1 := []) rfl rfl) (hf79) rfl rfl) (hf103) rfl rfl) (hf113) rfl rfl)
          · skip
            have eq126 : Z69 60 61 = Z 60 61 := (hf69 60 61 rfl)
            have b127 : 0 ≤ Z 60 61 ∧ Z 60 61 ≤ 900 := by have hq := GI_ex hG 60 61; replace hq : f60 (61 % 962) (Z 60 61) := hq; unfold f60 at hq; omega
            have b128 : (-2147483648) ≤ Z 60 61 ∧ Z 60 61 ≤ 2147483647 := hG.pr 60 61
            have eq129 : Z69 60 0 = Z 60 0 := (hf69 60 0 rfl)
            have b130 : (-2147483648) ≤ Z 60 0 ∧ Z 60 0 ≤ 2147483647 := hG.pr 60 0
            have eq131 : Z69 60 1 = Z 60 1 := (hf69 60 1 rfl)
            have b132 : 0 ≤ Z 60 1 ∧ Z 60 1 ≤ 18 := by have hq := GI_ex hG 60 1; replace hq : f60 (1 % 962) (Z 60 1) := hq; unfold f60 at hq; omega
            have b133 : (-2147483648) ≤ Z 60 1 ∧ Z 60 1 ≤ 2147483647 := hG.pr 60 1
            have eq134 : Z69 60 2 = Z 60 2 := (hf69 60 2 rfl)
            have b135 : 0 ≤ Z 60 2 ∧ Z 60 2 ≤ 18 := by have hq := GI_ex hG 60 2; replace hq : f60 (2 % 962) (Z 60 2) := hq; unfold f60 at hq; omega
            have b136 : (-2147483648) ≤ Z 60 2 ∧ Z 60 2 ≤ 2147483647 := hG.pr 60 2
            have eq137 : Z69 56 8 = Z 56 8 := (hf69 56 8 rfl)
            have eq138 : Z69 60 61 = Z 60 61 := (hf69 60 61 rfl)
            have eq139 : Z69 60 0 = Z 60 0 := (hf69 60 0 rfl)
            have eq140 : Z69 60 1 = Z 60 1 := (hf69 60 1 rfl)
            have eq141 : Z69 60 2 = Z 60 2 := (hf69 60 2 rfl)
            exact mx_J.ret (sn_171 83) (fun _ _ => rfl) (hP Z69 h69 hx69 hG69 (fr_tr (M := [(56, 6), (56, 7), (56, 9), (56, 10), (56, 11), (56, 12), (60, (-1))]) fr_rf (hf69) (M1 := []) rfl rfl) ⟨(RM_e br69 (((at_o ((RM_is (k := 35) hr).mp (by omega))).trans (in_n (by omega))).trans (gEn_n (by omega)).symm)), (QR_f (by omega)), by omega⟩)
      refine Jif_ne (show mx_Sn _ _ 28 (mx_if_ne 66 31) from sn_171 28) (by omega) (fun q142 => ?_) (fun q142 => ?_)
      · skip
        exact c66 (by omega)
      · skip
        refine mx_J.step (sn_171 31) (fun _ _ => rfl) ?_
        refine mx_J.step (sn_171 32) (fun _ _ => rfl) ?_
        refine JgetI (g := 9) (z := Z 56 9) hx (show mx_Sn _ _ 33 (mx_getf 12 9 36) from sn_171 33) a56 s56 rfl rfl rfl ?_
        obtain ⟨z144, hc144, b144⟩ := ct_168_56 (d := d + 7) (l := l) (D := D) (b0 := b0) (ad := ad) (Hb := Hb) (tau := tau) hx hG (show 0 ≤ Z 56 9 ∧ Z 56 9 ≤ 100 by omega)
        refine Jcv hx (show mx_Sn _ _ 36 (mx_callv 168 2 12 39) from sn_171 36) a56 s56 hc144 rfl rfl rfl ?_
        refine JcI (z := (-1)) (show mx_Sn _ _ 39 (mx_const (.int (-1)) 40) from sn_171 39) rfl ?_
        refine Jicmp_eq (show mx_Sn _ _ 40 (mx_icmp_eq 66 43) from sn_171 40) (by omega) (by omega) (fun q145 => ?_) (fun q145 => ?_)
        · skip
          exact c66 (by omega)
        · skip
          have kk := RM_k hr (by omega)
          refine mx_J.step (sn_171 43) (fun _ _ => rfl) ?_
          refine JcI (z := 1000) (show mx_Sn _ _ 44 (mx_const (.int 1000) 47) from sn_171 44) rfl ?_
          refine mx_J.step (sn_171 47) (fun _ _ => rfl) ?_
          refine mx_J.step (sn_171 48) (fun _ _ => rfl) ?_
          refine JgetI (g := 9) (z := Z 56 9) hx (show mx_Sn _ _ 49 (mx_getf 12 9 52) from sn_171 49) a56 s56 rfl rfl rfl ?_
          obtain ⟨z147, hc147, b147⟩ := ct_168_56 (d := d + 7) (l := l) (D := D) (b0 := b0) (ad := ad) (Hb := Hb) (tau := tau) hx hG (show 0 ≤ Z 56 9 ∧ Z 56 9 ≤ 100 by omega)
          refine Jcv hx (show mx_Sn _ _ 52 (mx_callv 168 2 12 55) from sn_171 52) a56 s56 hc147 rfl rfl rfl ?_
          refine Jiadd (show mx_Sn _ _ 55 (mx_iadd 56) from sn_171 55) ?_
          have b149 : 0 ≤ Z 56 8 ∧ Z 56 8 ≤ 900 := hG.pr 56 8
          have b150 : 0 ≤ Z 60 61 ∧ Z 60 61 ≤ 900 := by have hq := GI_ex hG 60 61; replace hq : f60 (61 % 962) (Z 60 61) := hq; unfold f60 at hq; omega
          have b151 : (-2147483648) ≤ Z 60 61 ∧ Z 60 61 ≤ 2147483647 := hG.pr 60 61
          have b152 : (-2147483648) ≤ Z 60 0 ∧ Z 60 0 ≤ 2147483647 := hG.pr 60 0
          have b153 : 0 ≤ Z 60 1 ∧ Z 60 1 ≤ 18 := by have hq := GI_ex hG 60 1; replace hq : f60 (1 % 962) (Z 60 1) := hq; unfold f60 at hq; omega
          have b154 : (-2147483648) ≤ Z 60 1 ∧ Z 60 1 ≤ 2147483647 := hG.pr 60 1
          have b155 : 0 ≤ Z 60 2 ∧ Z 60 2 ≤ 18 := by have hq := GI_ex hG 60 2; replace hq : f60 (2 % 962) (Z 60 2) := hq; unfold f60 at hq; omega
          have b156 : (-2147483648) ≤ Z 60 2 ∧ Z 60 2 ≤ 2147483647 := hG.pr 60 2
          have rp148 := QR_n (QR_rf (Z := Z) (a := a0))
          obtain ⟨Z148, h148, hc148, hx148, hG148, hf148, b148⟩ := ct_169_56_0 (a0 := a0) (g0 := g0) (T := T) (N := N) (sg := sg) (d := d + 7) (l := l) (D := D) (b0 := b0) (ad := ad) (Hb := Hb) (tau := tau) hx hG (show 0 ≤ 1000 + z147 ∧ 1000 + z147 ≤ 1004 by omega) (show (Z 56 11 = 0 → Z 60 61 ≤ 899) by omega) (show a0 ≤ Z 60 61 by omega) (show 0 ≤ a0 by omega) (show 0 ≤ g0 by omega) hr
          obtain ⟨br148, b148⟩ := b148
          obtain ⟨bq148, b148⟩ := b148
          have b157 : 0 ≤ Z148 60 61 ∧ Z148 60 61 ≤ 900 := by have hq := GI_ex hG148 60 61; replace hq : f60 (61 % 962) (Z148 60 61) := hq; unfold f60 at hq; omega
          have b158 : (-2147483648) ≤ Z148 60 61 ∧ Z148 60 61 ≤ 2147483647 := hG148.pr 60 61
          have b159 : (-2147483648) ≤ Z148 60 0 ∧ Z148 60 0 ≤ 2147483647 := hG148.pr 60 0
          have b160 : 0 ≤ Z148 60 1 ∧ Z148 60 1 ≤ 18 := by have hq := GI_ex hG148 60 1; replace hq : f60 (1 % 962) (Z148 60 1) := hq; unfold f60 at hq; omega
          have b161 : (-2147483648) ≤ Z148 60 1 ∧ Z148 60 1 ≤ 2147483647 := hG148.pr 60 1
          have b162 : 0 ≤ Z148 60 2 ∧ Z148 60 2 ≤ 18 := by have hq := GI_ex hG148 60 2; replace hq : f60 (2 % 962) (Z148 60 2) := hq; unfold f60 at hq; omega
          have b163 : (-2147483648) ≤ Z148 60 2 ∧ Z148 60 2 ≤ 2147483647 := hG148.pr 60 2
          have rn148 := QR_n (QR_rf (Z := Z) (a := a0))
          have r148 := QR_c (d2 := 1) (c2 := (-1)) (QR_rf (Z := Z) (a := a0)) bq148 (by omega) (hf148 56 11 rfl) (hf148 56 6 rfl) (by decide) (by decide) (by decide)
          refine Jcv0 hx (show mx_Sn _ _ 56 (mx_callv 169 2 12 59) from sn_171 56) a56 s56 hc148 rfl rfl rfl ?_
          refine mx_J.step (sn_171 59) (fun _ _ => rfl) ?_
          have eq165 : Z148 56 7 = Z 56 7 := (hf148 56 7 rfl)
          have b166 : 0 ≤ Z 56 7 ∧ Z 56 7 ≤ 900 := hG.pr 56 7
          have eq167 : Z148 56 8 = Z 56 8 := (hf148 56 8 rfl)
          have eq168 : Z148 56 11 = Z 56 11 := (hf148 56 11 rfl)
          obtain ⟨Z164, h164, hc164, hx164, hG164, hf164, b164⟩ := ct_162_56r (g0 := g0) (T := T) (N := N) (sg := gEm ((1000 + z147)) sg) (d := d + 2) (l := l) (D := D) (b0 := b0) (ad := ad) (Hb := Hb) (tau := tau) hx148 hG148  (show Z148 56 7 ≤ Z148 56 8 by first | omega | (simp only [eq165, eq167, eq168]; omega)) (show Z148 56 11 = 0 by first | omega | (simp only [eq165, eq167, eq168]; omega)) br148
          try rw [eq165] at b164
          try rw [eq167] at b164
          try rw [eq168] at b164
          obtain ⟨br164, b164⟩ := b164
          have b169 : 0 ≤ Z164 56 6 ∧ Z164 56 6 ≤ 900 := hG164.pr 56 6
          have b170 : 0 ≤ Z164 56 7 ∧ Z164 56 7 ≤ 900 := hG164.pr 56 7
          have b171 : 0 ≤ Z164 56 9 ∧ Z164 56 9 ≤ 100 := hG164.pr 56 9
          have eq172 : Z148 56 6 = Z 56 6 := (hf148 56 6 rfl)
          have b173 : 0 ≤ Z 56 6 ∧ Z 56 6 ≤ 900 := hG.pr 56 6
          have eq174 : Z148 56 11 = Z 56 11 := (hf148 56 11 rfl)
          have eq175 : Z148 56 9 = Z 56 9 := (hf148 56 9 rfl)
          have r164 := QR_g (k := 1) (c2 := 0) r148 (fun e => (hf164 56 11 rfl).symm.trans e) (fun i => hf164 60 i rfl) (fun e => by omega) (by decide)
          refine Jcv0 hx148 (show mx_Sn _ _ 60 (mx_callv 162 1 12 63) from sn_171 60) a56 s56 hc164 rfl rfl rfl ?_
          refine mx_J.step (sn_171 63) (fun _ _ => rfl) ?_
          have eq176 : Z164 60 61 = Z148 60 61 := (hf164 60 61 rfl)
          have eq177 : Z164 60 0 = Z148 60 0 := (hf164 60 0 rfl)
          have eq178 : Z164 60 1 = Z148 60 1 := (hf164 60 1 rfl)
          have eq179 : Z164 60 2 = Z148 60 2 := (hf164 60 2 rfl)
          exact c129 Z164 h164 (by omega) (by omega) (by omega) (by omega) (QR_le r164 (by decide)) (RM_e br164 (at_wm kk.1 (by omega))) hx164 hG164 (fr_tr (M := [(56, 6), (56, 7), (56, 9), (56, 10), (56, 11), (56, 12), (60, (-1))]) (fr_tr (M := [(56, 6), (56, 7), (56, 9), (56, 10), (56, 11), (56, 12), (60, (-1))]) fr_rf (hf148) (M1 := []) rfl rfl) (hf164) rfl rfl)
    · skip
      have v23 : Z 56 10 = tVl T N sg.1 := RM_v hr ((RM_is (k := 23) hr).mp (by omega))
      refine mx_J.step (sn_171 9) (fun _ _ => rfl) ?_
      refine mx_J.step (sn_171 10) (fun _ _ => rfl) ?_
      have b181 : 0 ≤ Z 56 10 ∧ Z 56 10 ≤ 999 := hG.pr 56 10
      refine JgetI (g := 10) (z := Z 56 10) hx (show mx_Sn _ _ 11 (mx_getf 12 10 14) from sn_171 11) a56 s56 rfl rfl rfl ?_
      have b183 : 0 ≤ Z 56 8 ∧ Z 56 8 ≤ 900 := hG.pr 56 8
      have b184 : 0 ≤ Z 60 61 ∧ Z 60 61 ≤ 900 := by have hq := GI_ex hG 60 61; replace hq : f60 (61 % 962) (Z 60 61) := hq; unfold f60 at hq; omega
      have b185 : (-2147483648) ≤ Z 60 61 ∧ Z 60 61 ≤ 2147483647 := hG.pr 60 61
      have b186 : (-2147483648) ≤ Z 60 0 ∧ Z 60 0 ≤ 2147483647 := hG.pr 60 0
      have b187 : 0 ≤ Z 60 1 ∧ Z 60 1 ≤ 18 := by have hq := GI_ex hG 60 1; replace hq : f60 (1 % 962) (Z 60 1) := hq; unfold f60 at hq; omega
      have b188 : (-2147483648) ≤ Z 60 1 ∧ Z 60 1 ≤ 2147483647 := hG.pr 60 1
      have b189 : 0 ≤ Z 60 2 ∧ Z 60 2 ≤ 18 := by have hq := GI_ex hG 60 2; replace hq : f60 (2 % 962) (Z 60 2) := hq; unfold f60 at hq; omega
      have b190 : (-2147483648) ≤ Z 60 2 ∧ Z 60 2 ≤ 2147483647 := hG.pr 60 2
      have rp182 := QR_n (QR_rf (Z := Z) (a := a0))
      obtain ⟨Z182, h182, hc182, hx182, hG182, hf182, b182⟩ := ct_169_56_0 (a0 := a0) (g0 := g0) (T := T) (N := N) (sg := sg) (d := d + 7) (l := l) (D := D) (b0 := b0) (ad := ad) (Hb := Hb) (tau := tau) hx hG (show 0 ≤ Z 56 10 ∧ Z 56 10 ≤ 1004 by omega) (show (Z 56 11 = 0 → Z 60 61 ≤ 899) by omega) (show a0 ≤ Z 60 61 by omega) (show 0 ≤ a0 by omega) (show 0 ≤ g0 by omega) hr
      obtain ⟨br182, b182⟩ := b182
      obtain ⟨bq182, b182⟩ := b182
      have b191 : 0 ≤ Z182 60 61 ∧ Z182 60 61 ≤ 900 := by have hq := GI_ex hG182 60 61; replace hq : f60 (61 % 962) (Z182 60 61) := hq; unfold f60 at hq; omega
      have b192 : (-2147483648) ≤ Z182 60 61 ∧ Z182 60 61 ≤ 2147483647 := hG182.pr 60 61
      have b193 : (-2147483648) ≤ Z182 60 0 ∧ Z182 60 0 ≤ 2147483647 := hG182.pr 60 0
      have b194 : 0 ≤ Z182 60 1 ∧ Z182 60 1 ≤ 18 := by have hq := GI_ex hG182 60 1; replace hq : f60 (1 % 962) (Z182 60 1) := hq; unfold f60 at hq; omega
      have b195 : (-2147483648) ≤ Z182 60 1 ∧ Z182 60 1 ≤ 2147483647 := hG182.pr 60 1
      have b196 : 0 ≤ Z182 60 2 ∧ Z182 60 2 ≤ 18 := by have hq := GI_ex hG182 60 2; replace hq : f60 (2 % 962) (Z182 60 2) := hq; unfold f60 at hq; omega
      have b197 : (-2147483648) ≤ Z182 60 2 ∧ Z182 60 2 ≤ 2147483647 := hG182.pr 60 2
      have rn182 := QR_n (QR_rf (Z := Z) (a := a0))
      have r182 := QR_c (d2 := 1) (c2 := (-1)) (QR_rf (Z := Z) (a := a0)) bq182 (by omega) (hf182 56 11 rfl) (hf182 56 6 rfl) (by decide) (by decide) (by decide)
      refine Jcv0 hx (show mx_Sn _ _ 14 (mx_callv 169 2 12 17) from sn_171 14) a56 s56 hc182 rfl rfl rfl ?_
      refine mx_J.step (sn_171 17) (fun _ _ => rfl) ?_
      have eq199 : Z182 56 7 = Z 56 7 := (hf182 56 7 rfl)
      have b200 : 0 ≤ Z 56 7 ∧ Z 56 7 ≤ 900 := hG.pr 56 7
      have eq201 : Z182 56 8 = Z 56 8 := (hf182 56 8 rfl)
      have eq202 : Z182 56 11 = Z 56 11 := (hf182 56 11 rfl)
      obtain ⟨Z198, h198, hc198, hx198, hG198, hf198, b198⟩ := ct_162_56r (g0 := g0) (T := T) (N := N) (sg := gEm ((Z 56 10)) sg) (d := d + 2) (l := l) (D := D) (b0 := b0) (ad := ad) (Hb := Hb) (tau := tau) hx182 hG182  (show Z182 56 7 ≤ Z182 56 8 by first | omega | (simp only [eq199, eq201, eq202]; omega)) (show Z182 56 11 = 0 by first | omega | (simp only [eq199, eq201, eq202]; omega)) br182
      try rw [eq199] at b198
      try rw [eq201] at b198
      try rw [eq202] at b198
      obtain ⟨br198, b198⟩ := b198
      have b203 : 0 ≤ Z198 56 6 ∧ Z198 56 6 ≤ 900 := hG198.pr 56 6
      have b204 : 0 ≤ Z198 56 7 ∧ Z198 56 7 ≤ 900 := hG198.pr 56 7
      have b205 : 0 ≤ Z198 56 9 ∧ Z198 56 9 ≤ 100 := hG198.pr 56 9
      have eq206 : Z182 56 6 = Z 56 6 := (hf182 56 6 rfl)
      have b207 : 0 ≤ Z 56 6 ∧ Z 56 6 ≤ 900 := hG.pr 56 6
      have eq208 : Z182 56 11 = Z 56 11 := (hf182 56 11 rfl)
      have eq209 : Z182 56 9 = Z 56 9 := (hf182 56 9 rfl)
      have r198 := QR_g (k := 1) (c2 := 0) r182 (fun e => (hf198 56 11 rfl).symm.trans e) (fun i => hf198 60 i rfl) (fun e => by omega) (by decide)
      refine Jcv0 hx182 (show mx_Sn _ _ 18 (mx_callv 162 1 12 21) from sn_171 18) a56 s56 hc198 rfl rfl rfl ?_
      refine mx_J.step (sn_171 21) (fun _ _ => rfl) ?_
      have eq210 : Z198 60 61 = Z182 60 61 := (hf198 60 61 rfl)
      have eq211 : Z198 60 0 = Z182 60 0 := (hf198 60 0 rfl)
      have eq212 : Z198 60 1 = Z182 60 1 := (hf198 60 1 rfl)
      have eq213 : Z198 60 2 = Z182 60 2 := (hf198 60 2 rfl)
      exact c129 Z198 h198 (by omega) (by omega) (by omega) (by omega) (QR_le r198 (by decide)) (RM_e br198 (at_dm ((RM_is (k := 23) hr).mp (by omega)) v23 (by omega))) hx198 hG198 (fr_tr (M := [(56, 6), (56, 7), (56, 9), (56, 10), (56, 11), (56, 12), (60, (-1))]) (fr_tr (M := [(56, 6), (56, 7), (56, 9), (56, 10), (56, 11), (56, 12), (60, (-1))]) fr_rf (hf182) (M1 := []) rfl rfl) (hf198) rfl rfl)
theorem ct_171_56_s {l : Launch} {D : va_G} {b0 : Nat} {ad : Nat → Nat} {Hb : Heap} {tau : Nat → Int64} {d n s : Nat} {S : Nat → xS} {Z : xZ} {h : mx_H} {a0 : Int} {g0 : Int} {T : Int → Int} {N : Int} {sg : SS} (hx : XH n s S Z h) (hG : GI n S Z)  {x0 : Int} (p0 : 0 ≤ x0 ∧ x0 ≤ 6) (k0 : (Z 56 6 ≤ Z 56 7 ∧ Z 56 7 ≤ Z 56 8 ∧ (Z 56 9 = 24 ∨ Z 56 6 < Z 56 7))) (k1 : Z 60 61 ≤ Z 56 6) (k2 : a0 ≤ Z 60 61) (k3 : 0 ≤ a0) (k4 : 0 ≤ g0) (hr : RM g0 T N Z sg) {kk : Nat} (IH : RBnh l D b0 ad Hb tau kk x0) (hd : kk ≤ d) : ∃ (Z' : xZ) (h' : mx_H), mx_Ca (tB l D b0 ad Hb tau) (d + 9) 171 [.ref 56, xI x0] h (none, h') ∧ XH n s S Z' h' ∧ GI n S Z' ∧ fr' [(56, 6), (56, 7), (56, 9), (56, 10), (56, 11), (56, 12), (60, (-1))] Z Z' ∧ (RM g0 T N Z' (atX T N (lvI T N x0) sg) ∧ QR Z Z' a0 1 0 ∧ ((Z' 56 6 ≤ Z' 56 7 ∧ Z' 56 7 ≤ Z 56 8 ∧ (Z' 56 9 = 24 ∨ Z' 56 6 < Z' 56 7)) ∧ Z' 60 0 = Z 60 0 ∧ Z' 60 1 = Z 60 1 ∧ Z' 60 2 = Z 60 2 ∧ Z 56 6 ≤ Z' 56 6 ∧ Z 60 61 ≤ Z' 60 61 ∧ Z' 60 61 - Z 60 61 ≤ Z' 56 6 - Z 56 6)) := by
  obtain ⟨r, hca, Z', h', e, q⟩ := Jmt (B := tB l D b0 ad Hb tau) (M := mt_171) (mi := 171) (as := [.ref 56, xI x0]) (d := d + 8) (ls := [some (.ref 56), some (xI x0)]) rfl rfl rfl rfl rfl rfl (cw_171_56_s (l := l) (D := D) (b0 := b0) (ad := ad) (Hb := Hb) (tau := tau) (d := d) (Post := fun r => ∃ (Z' : xZ) (h' : mx_H), r = (none, h') ∧ XH n s S Z' h' ∧ GI n S Z' ∧ fr' [(56, 6), (56, 7), (56, 9), (56, 10), (56, 11), (56, 12), (60, (-1))] Z Z' ∧ (RM g0 T N Z' (atX T N (lvI T N x0) sg) ∧ QR Z Z' a0 1 0 ∧ ((Z' 56 6 ≤ Z' 56 7 ∧ Z' 56 7 ≤ Z 56 8 ∧ (Z' 56 9 = 24 ∨ Z' 56 6 < Z' 56 7)) ∧ Z' 60 0 = Z 60 0 ∧ Z' 60 1 = Z 60 1 ∧ Z' 60 2 = Z 60 2 ∧ Z 56 6 ≤ Z' 56 6 ∧ Z 60 61 ≤ Z' 60 61 ∧ Z' 60 61 - Z 60 61 ≤ Z' 56 6 - Z 56 6))) hx hG p0 k0 k1 k2 k3 k4 hr IH hd (fun Z' h' q1 q2 q3 q4 => ⟨Z', h', rfl, q1, q2, q3, q4⟩))
  subst e; exact ⟨Z', h', hca, q⟩
set_option maxHeartbeats 8000000 in
set_option maxRecDepth 100000 in
theorem cw_173_56_s {l : Launch} {D : va_G} {b0 : Nat} {ad : Nat → Nat} {Hb : Heap} {tau : Nat → Int64} {d n s : Nat} {S : Nat → xS} {Z : xZ} {h : mx_H} {Post : mx_R → Prop} {a0 : Int} {g0 : Int} {T : Int → Int} {N : Int} {sg : SS} (hx : XH n s S Z h) (hG : GI n S Z)  {x0 : Int} (p0 : 0 ≤ x0 ∧ x0 ≤ 6) (k0 : (Z 56 6 ≤ Z 56 7 ∧ Z 56 7 ≤ Z 56 8 ∧ (Z 56 9 = 24 ∨ Z 56 6 < Z 56 7))) (k1 : Z 60 61 ≤ Z 56 6) (k2 : a0 ≤ Z 60 61) (k3 : 0 ≤ a0) (k4 : 0 ≤ g0) (hr : RM g0 T N Z sg) {kk : Nat} (IH : RBnh l D b0 ad Hb tau kk x0) (hd : kk ≤ d) (hP : ∀ (Z' : xZ) (h' : mx_H), XH n s S Z' h' → GI n S Z' → fr' [(56, 6), (56, 7), (56, 9), (56, 10), (56, 11), (56, 12), (60, (-1))] Z Z' → RM g0 T N Z' (tmX T N (lvI T N x0) sg) ∧ QR Z Z' a0 1 0 ∧ ((Z' 56 6 ≤ Z' 56 7 ∧ Z' 56 7 ≤ Z 56 8 ∧ (Z' 56 9 = 24 ∨ Z' 56 6 < Z' 56 7)) ∧ Z' 60 0 = Z 60 0 ∧ Z' 60 1 = Z 60 1 ∧ Z' 60 2 = Z 60 2 ∧ Z 56 6 ≤ Z' 56 6 ∧ Z 60 61 ≤ Z' 60 61 ∧ Z' 60 61 - Z 60 61 ≤ Z' 56 6 - Z 56 6) → Post (none, h')) : mx_J (tB l D b0 ad Hb tau) mt_173 (d + 9) 0 [some (.ref 56), some (xI x0)] [] h Post := by
    have a56 : 56 < n := lt83 (GI_n hG) rfl
    have s56 : S 56 = .inl (12, [0, 2, 2, 2, 2, 0, 0, 0, 0, 0, 0, 0, 0, 0, 0, 2, 2, 2, 0, 2, 2, 2, 0, 0, 2, 2, 2, 2, 2, 2, 0, 0, 2, 2, 2, 2, 2, 2, 2, 2, 2, 2]) := GI_s hG 56 rfl
    refine mx_J.step (sn_173 0) (fun _ _ => rfl) ?_
    refine mx_J.step (sn_173 1) (fun _ _ => rfl) ?_
    have b2 : 0 ≤ Z 56 6 ∧ Z 56 6 ≤ 900 := hG.pr 56 6
    have b3 : 0 ≤ Z 56 7 ∧ Z 56 7 ≤ 900 := hG.pr 56 7
    have b4 : 0 ≤ Z 56 8 ∧ Z 56 8 ≤ 900 := hG.pr 56 8
    have b5 : 0 ≤ Z 56 9 ∧ Z 56 9 ≤ 100 := hG.pr 56 9
    have b6 : 0 ≤ Z 56 11 ∧ Z 56 11 ≤ 4 := hG.pr 56 11
    have b7 : 0 ≤ Z 60 61 ∧ Z 60 61 ≤ 900 := by have hq := GI_ex hG 60 61; replace hq : f60 (61 % 962) (Z 60 61) := hq; unfold f60 at hq; omega
    have b8 : (-2147483648) ≤ Z 60 61 ∧ Z 60 61 ≤ 2147483647 := hG.pr 60 61
    have b9 : (-2147483648) ≤ Z 60 0 ∧ Z 60 0 ≤ 2147483647 := hG.pr 60 0
    have b10 : 0 ≤ Z 60 1 ∧ Z 60 1 ≤ 18 := by have hq := GI_ex hG 60 1; replace hq : f60 (1 % 962) (Z 60 1) := hq; unfold f60 at hq; omega
    have b11 : (-2147483648) ≤ Z 60 1 ∧ Z 60 1 ≤ 2147483647 := hG.pr 60 1
    have b12 : 0 ≤ Z 60 2 ∧ Z 60 2 ≤ 18 := by have hq := GI_ex hG 60 2; replace hq : f60 (2 % 962) (Z 60 2) := hq; unfold f60 at hq; omega
    have b13 : (-2147483648) ≤ Z 60 2 ∧ Z 60 2 ≤ 2147483647 := hG.pr 60 2
    obtain ⟨Z1, h1, hc1, hx1, hG1, hf1, b1⟩ := ct_171_56_s (a0 := a0) (g0 := g0) (T := T) (N := N) (sg := sg) (d := d + 0) (l := l) (D := D) (b0 := b0) (ad := ad) (Hb := Hb) (tau := tau) hx hG (show 0 ≤ x0 ∧ x0 ≤ 6 by omega) (show (Z 56 6 ≤ Z 56 7 ∧ Z 56 7 ≤ Z 56 8 ∧ (Z 56 9 = 24 ∨ Z 56 6 < Z 56 7)) by omega) (show Z 60 61 ≤ Z 56 6 by omega) (show a0 ≤ Z 60 61 by omega) (show 0 ≤ a0 by omega) (show 0 ≤ g0 by omega) hr IH (by omega)
    obtain ⟨br1, b1⟩ := b1
    obtain ⟨bq1, b1⟩ := b1
    have b14 : 0 ≤ Z1 56 6 ∧ Z1 56 6 ≤ 900 := hG1.pr 56 6
    have b15 : 0 ≤ Z1 56 7 ∧ Z1 56 7 ≤ 900 := hG1.pr 56 7
    have b16 : 0 ≤ Z1 56 9 ∧ Z1 56 9 ≤ 100 := hG1.pr 56 9
    have b17 : 0 ≤ Z1 56 11 ∧ Z1 56 11 ≤ 4 := hG1.pr 56 11
    have b18 : 0 ≤ Z1 60 61 ∧ Z1 60 61 ≤ 900 := by have hq := GI_ex hG1 60 61; replace hq : f60 (61 % 962) (Z1 60 61) := hq; unfold f60 at hq; omega
    have b19 : (-2147483648) ≤ Z1 60 61 ∧ Z1 60 61 ≤ 2147483647 := hG1.pr 60 61
    have b20 : (-2147483648) ≤ Z1 60 0 ∧ Z1 60 0 ≤ 2147483647 := hG1.pr 60 0
    have b21 : 0 ≤ Z1 60 1 ∧ Z1 60 1 ≤ 18 := by have hq := GI_ex hG1 60 1; replace hq : f60 (1 % 962) (Z1 60 1) := hq; unfold f60 at hq; omega
    have b22 : (-2147483648) ≤ Z1 60 1 ∧ Z1 60 1 ≤ 2147483647 := hG1.pr 60 1
    have b23 : 0 ≤ Z1 60 2 ∧ Z1 60 2 ≤ 18 := by have hq := GI_ex hG1 60 2; replace hq : f60 (2 % 962) (Z1 60 2) := hq; unfold f60 at hq; omega
    have b24 : (-2147483648) ≤ Z1 60 2 ∧ Z1 60 2 ≤ 2147483647 := hG1.pr 60 2
    have r1 := QR_tr (d := 1) (c := 0) (QR_rf (Z := Z) (a := a0)) bq1 (by decide) (by decide) (by decide)
    refine Jcv0 hx (show mx_Sn _ _ 2 (mx_callv 171 2 12 5) from sn_173 2) a56 s56 hc1 rfl rfl rfl ?_
    have c5 : ∀ (m25 : Nat) (sg25 : SS) (Z26 : xZ) (h26 : mx_H), (((Z 56 8 - Z26 56 6).toNat : Nat) : Int) < (m25 : Int) → RM g0 T N Z26 sg25 → (Z26 56 6 ≤ Z26 56 7 ∧ Z26 56 7 ≤ Z 56 8) → (Z26 56 9 = 24 ∨ Z26 56 6 < Z26 56 7) → (Z 56 6 ≤ Z26 56 6 ∧ Z 60 61 ≤ Z26 60 61 ∧ Z26 60 61 - Z 60 61 ≤ Z26 56 6 - Z 56 6) → (Z26 60 0 = Z 60 0 ∧ Z26 60 1 = Z 60 1 ∧ Z26 60 2 = Z 60 2) → QR Z Z26 a0 1 0 → tmL T N (lvI T N x0) sg25 = tmX T N (lvI T N x0) sg → XH n s S Z26 h26 → GI n S Z26 → fr' [(56, 6), (56, 7), (56, 9), (56, 10), (56, 11), (56, 12), (60, (-1))] Z1 Z26 → mx_J (tB l D b0 ad Hb tau) mt_173 (d + 9) 5 [some (.ref 56), some (xI x0)] [] h26 Post := by
      intro m25
      induction m25 with
      | zero => intro sg25 Z26 h26 q25 f25_0 f25_1 f25_2 f25_3 f25_4 f25_5 f25_6 hx26 hG26 hf26; exact absurd q25 (by omega)
      | succ m25 ih25 =>
        intro sg25 Z26 h26 q25 f25_0 f25_1 f25_2 f25_3 f25_4 f25_5 f25_6 hx26 hG26 hf26
        have b27 : 0 ≤ Z26 56 6 ∧ Z26 56 6 ≤ 900 := hG26.pr 56 6
        have b28 : 0 ≤ Z26 56 7 ∧ Z26 56 7 ≤ 900 := hG26.pr 56 7
        have b29 : 0 ≤ Z26 56 9 ∧ Z26 56 9 ≤ 100 := hG26.pr 56 9
        have b30 : 0 ≤ Z26 60 61 ∧ Z26 60 61 ≤ 900 := by have hq := GI_ex hG26 60 61; replace hq : f60 (61 % 962) (Z26 60 61) := hq; unfold f60 at hq; omega
        have b31 : (-2147483648) ≤ Z26 60 61 ∧ Z26 60 61 ≤ 2147483647 := hG26.pr 60 61
        have b32 : (-2147483648) ≤ Z26 60 0 ∧ Z26 60 0 ≤ 2147483647 := hG26.pr 60 0
        have b33 : 0 ≤ Z26 60 1 ∧ Z26 60 1 ≤ 18 := by have hq := GI_ex hG26 60 1; replace hq : f60 (1 % 962) (Z26 60 1) := hq; unfold f60 at hq; omega
        have b34 : (-2147483648) ≤ Z26 60 1 ∧ Z26 60 1 ≤ 2147483647 := hG26.pr 60 1
        have b35 : 0 ≤ Z26 60 2 ∧ Z26 60 2 ≤ 18 := by have hq := GI_ex hG26 60 2; replace hq : f60 (2 % 962) (Z26 60 2) := hq; unfold f60 at hq; omega
        have b36 : (-2147483648) ≤ Z26 60 2 ∧ Z26 60 2 ≤ 2147483647 := hG26.pr 60 2
        refine mx_J.step (sn_173 5) (fun _ _ => rfl) ?_
        refine JcI (z := 34) (show mx_Sn _ _ 6 (mx_const (.int 34) 8) from sn_173 6) rfl ?_
        have gt := RM_is (k := 34) f25_0
        have gn := RM_N f25_0
        have eq38 : Z26 56 8 = Z 56 8 := ((hf26 56 8 rfl).trans (hf1 56 8 rfl))
        have b39 : 0 ≤ Z26 56 11 ∧ Z26 56 11 ≤ 4 := hG26.pr 56 11
        obtain ⟨z37, Z37, h37, hc37, hx37, hG37, hf37, b37⟩ := ct_165_56 (g0 := g0) (T := T) (N := N) (sg := sg25) (d := d + 2) (l := l) (D := D) (b0 := b0) (ad := ad) (Hb := Hb) (tau := tau) hx26 hG26 (show 0 ≤ 34 ∧ 34 ≤ 100 by omega) (show (Z26 56 6 ≤ Z26 56 7 ∧ Z26 56 7 ≤ Z26 56 8 ∧ (Z26 56 9 = 24 ∨ Z26 56 6 < Z26 56 7)) by first | omega | (simp only [eq38]; omega)) (show ¬ 34 = 24 by first | omega | (simp only [eq38]; omega)) f25_0
        try rw [eq38] at b37
        obtain ⟨br37, b37⟩ := b37
        have b40 : 0 ≤ Z37 56 6 ∧ Z37 56 6 ≤ 900 := hG37.pr 56 6
        have b41 : 0 ≤ Z37 56 7 ∧ Z37 56 7 ≤ 900 := hG37.pr 56 7
        have b42 : 0 ≤ Z37 56 9 ∧ Z37 56 9 ≤ 100 := hG37.pr 56 9
        have r37 := QR_g (k := 0) (c2 := 0) f25_5 (fun e => (hf37 56 11 rfl).symm.trans e) (fun i => hf37 60 i rfl) (fun e => by omega) (by decide)
        have rk37 : z37 = 1 → QR Z Z37 a0 1 1 := fun ez => QR_g (k := 1) f25_5 (fun e => (hf37 56 11 rfl).symm.trans e) (fun i => hf37 60 i rfl) (fun e => by omega) (by decide)
        refine Jcv hx26 (show mx_Sn _ _ 8 (mx_callv 165 2 12 11) from sn_173 8) a56 s56 hc37 rfl rfl rfl ?_
        refine Jif_eq (show mx_Sn _ _ 11 (mx_if_eq 29 14) from sn_173 11) (by omega) (fun q43 => ?_) (fun q43 => ?_)
        · skip
          have eq44 : Z37 56 11 = Z26 56 11 := (hf37 56 11 rfl)
          have eq45 : Z37 60 61 = Z26 60 61 := (hf37 60 61 rfl)
          have eq46 : Z37 60 0 = Z26 60 0 := (hf37 60 0 rfl)
          have eq47 : Z37 60 1 = Z26 60 1 := (hf37 60 1 rfl)
          have eq48 : Z37 60 2 = Z26 60 2 := (hf37 60 2 rfl)
          have eq49 : Z37 56 8 = Z 56 8 := ((hf37 56 8 rfl).trans ((hf26 56 8 rfl).trans (hf1 56 8 rfl)))
          have eq50 : Z37 56 11 = Z26 56 11 := (hf37 56 11 rfl)
          have eq51 : Z37 60 61 = Z26 60 61 := (hf37 60 61 rfl)
          have eq52 : Z37 60 0 = Z26 60 0 := (hf37 60 0 rfl)
          have eq53 : Z37 60 1 = Z26 60 1 := (hf37 60 1 rfl)
          have eq54 : Z37 60 2 = Z26 60 2 := (hf37 60 2 rfl)
          exact mx_J.ret (sn_173 29) (fun _ _ => rfl) (hP Z37 h37 hx37 hG37 (fr_tr (M := [(56, 6), (56, 7), (56, 9), (56, 10), (56, 11), (56, 12), (60, (-1))]) (fr_tr (M := [(56, 6), (56, 7), (56, 9), (56, 10), (56, 11), (56, 12), (60, (-1))]) (fr_tr (M := [(56, 6), (56, 7), (56, 9), (56, 10), (56, 11), (56, 12), (60, (-1))]) fr_rf (hf1) (M1 := []) rfl rfl) (hf26) rfl rfl) (hf37) rfl rfl) ⟨(RM_e br37 (((by assumption : tmL T N (lvI T N x0) sg25 = tmX T N (lvI T N x0) sg).symm.trans (tmL_n (fun q => by have := gt.mpr q; omega))).trans (gEt_n (fun q => by have := gt.mpr q; omega)).symm)), (QR_le r37 (by decide)), by omega⟩)
        · skip
          have rc55 : RM g0 T N Z37 (gAd T N sg25) := RM_e br37 ((gEt_y (gt.mp (by omega))).symm)
          refine mx_J.step (sn_173 14) (fun _ _ => rfl) ?_
          refine mx_J.step (sn_173 15) (fun _ _ => rfl) ?_
          have eq57 : Z37 56 8 = Z 56 8 := ((hf37 56 8 rfl).trans ((hf26 56 8 rfl).trans (hf1 56 8 rfl)))
          have eq58 : Z37 56 11 = Z26 56 11 := (hf37 56 11 rfl)
          have eq59 : Z37 60 61 = Z26 60 61 := (hf37 60 61 rfl)
          have eq60 : Z37 60 0 = Z26 60 0 := (hf37 60 0 rfl)
          have eq61 : Z37 60 1 = Z26 60 1 := (hf37 60 1 rfl)
          have eq62 : Z37 60 2 = Z26 60 2 := (hf37 60 2 rfl)
          obtain ⟨Z56, h56, hc56, hx56, hG56, hf56, b56⟩ := ct_171_56_s (a0 := a0) (g0 := g0) (T := T) (N := N) (sg := gAd T N sg25) (d := d + 0) (l := l) (D := D) (b0 := b0) (ad := ad) (Hb := Hb) (tau := tau) hx37 hG37 (show 0 ≤ x0 ∧ x0 ≤ 6 by omega) (show (Z37 56 6 ≤ Z37 56 7 ∧ Z37 56 7 ≤ Z37 56 8 ∧ (Z37 56 9 = 24 ∨ Z37 56 6 < Z37 56 7)) by first | omega | (simp only [eq57, eq58, eq59, eq60, eq61, eq62]; omega)) (show Z37 60 61 ≤ Z37 56 6 by first | omega | (simp only [eq57, eq58, eq59, eq60, eq61, eq62]; omega)) (show a0 ≤ Z37 60 61 by first | omega | (simp only [eq57, eq58, eq59, eq60, eq61, eq62]; omega)) (show 0 ≤ a0 by first | omega | (simp only [eq57, eq58, eq59, eq60, eq61, eq62]; omega)) (show 0 ≤ g0 by first | omega | (simp only [eq57, eq58, eq59, eq60, eq61, eq62]; omega)) rc55 IH (by omega)
          try rw [eq57] at b56
          try rw [eq58] at b56
          try rw [eq59] at b56
          try rw [eq60] at b56
          try rw [eq61] at b56
          try rw [eq62] at b56
          obtain ⟨br56, b56⟩ := b56
          obtain ⟨bq56, b56⟩ := b56
          have b63 : 0 ≤ Z56 56 6 ∧ Z56 56 6 ≤ 900 := hG56.pr 56 6
          have b64 : 0 ≤ Z56 56 7 ∧ Z56 56 7 ≤ 900 := hG56.pr 56 7
          have b65 : 0 ≤ Z56 56 9 ∧ Z56 56 9 ≤ 100 := hG56.pr 56 9
          have b66 : 0 ≤ Z56 56 11 ∧ Z56 56 11 ≤ 4 := hG56.pr 56 11
          have b67 : 0 ≤ Z56 60 61 ∧ Z56 60 61 ≤ 900 := by have hq := GI_ex hG56 60 61; replace hq : f60 (61 % 962) (Z56 60 61) := hq; unfold f60 at hq; omega
          have b68 : (-2147483648) ≤ Z56 60 61 ∧ Z56 60 61 ≤ 2147483647 := hG56.pr 60 61
          have b69 : (-2147483648) ≤ Z56 60 0 ∧ Z56 60 0 ≤ 2147483647 := hG56.pr 60 0
          have b70 : 0 ≤ Z56 60 1 ∧ Z56 60 1 ≤ 18 := by have hq := GI_ex hG56 60 1; replace hq : f60 (1 % 962) (Z56 60 1) := hq; unfold f60 at hq; omega
          have b71 : (-2147483648) ≤ Z56 60 1 ∧ Z56 60 1 ≤ 2147483647 := hG56.pr 60 1
          have b72 : 0 ≤ Z56 60 2 ∧ Z56 60 2 ≤ 18 := by have hq := GI_ex hG56 60 2; replace hq : f60 (2 % 962) (Z56 60 2) := hq; unfold f60 at hq; omega
          have b73 : (-2147483648) ≤ Z56 60 2 ∧ Z56 60 2 ≤ 2147483647 := hG56.pr 60 2
          have r56 := QR_tr (d := 2) (c := 1) (rk37 (by omega)) bq56 (by decide) (by decide) (by decide)
          refine Jcv0 hx37 (show mx_Sn _ _ 16 (mx_callv 171 2 12 19) from sn_173 16) a56 s56 hc56 rfl rfl rfl ?_
          refine mx_J.step (sn_173 19) (fun _ _ => rfl) ?_
          refine JcI (z := 3002) (show mx_Sn _ _ 20 (mx_const (.int 3002) 23) from sn_173 20) rfl ?_
          have eq75 : Z56 56 8 = Z 56 8 := ((hf56 56 8 rfl).trans ((hf37 56 8 rfl).trans ((hf26 56 8 rfl).trans (hf1 56 8 rfl))))
          have rp74 := QR_n r56
          obtain ⟨Z74, h74, hc74, hx74, hG74, hf74, b74⟩ := ct_169_56_3002 (a0 := a0) (g0 := g0) (T := T) (N := N) (sg := atX T N (lvI T N x0) (gAd T N sg25)) (d := d + 8) (l := l) (D := D) (b0 := b0) (ad := ad) (Hb := Hb) (tau := tau) hx56 hG56  (show (Z56 56 11 = 0 → Z56 60 61 ≤ 899) by first | omega | (simp only [eq75]; omega)) (show a0 ≤ Z56 60 61 by first | omega | (simp only [eq75]; omega)) (show 0 ≤ a0 by first | omega | (simp only [eq75]; omega)) (show 0 ≤ g0 by first | omega | (simp only [eq75]; omega)) br56
          try rw [eq75] at b74
          obtain ⟨br74, b74⟩ := b74
          obtain ⟨bq74, b74⟩ := b74
          have b76 : 0 ≤ Z74 60 61 ∧ Z74 60 61 ≤ 900 := by have hq := GI_ex hG74 60 61; replace hq : f60 (61 % 962) (Z74 60 61) := hq; unfold f60 at hq; omega
          have b77 : (-2147483648) ≤ Z74 60 61 ∧ Z74 60 61 ≤ 2147483647 := hG74.pr 60 61
          have b78 : (-2147483648) ≤ Z74 60 0 ∧ Z74 60 0 ≤ 2147483647 := hG74.pr 60 0
          have b79 : 0 ≤ Z74 60 1 ∧ Z74 60 1 ≤ 18 := by have hq := GI_ex hG74 60 1; replace hq : f60 (1 % 962) (Z74 60 1) := hq; unfold f60 at hq; omega
          have b80 : (-2147483648) ≤ Z74 60 1 ∧ Z74 60 1 ≤ 2147483647 := hG74.pr 60 1
          have b81 : 0 ≤ Z74 60 2 ∧ Z74 60 2 ≤ 18 := by have hq := GI_ex hG74 60 2; replace hq : f60 (2 % 962) (Z74 60 2) := hq; unfold f60 at hq; omega
          have b82 : (-2147483648) ≤ Z74 60 2 ∧ Z74 60 2 ≤ 2147483647 := hG74.pr 60 2
          have rn74 := QR_n r56
          have r74 := QR_c (d2 := 1) (c2 := 0) r56 bq74 (by omega) (hf74 56 11 rfl) (hf74 56 6 rfl) (by decide) (by decide) (by decide)
          refine Jcv0 hx56 (show mx_Sn _ _ 23 (mx_callv 169 2 12 26) from sn_173 23) a56 s56 hc74 rfl rfl rfl ?_
          refine mx_J.step (sn_173 26) (fun _ _ => rfl) ?_
          have eq83 : Z74 56 6 = Z56 56 6 := (hf74 56 6 rfl)
          have eq84 : Z74 56 7 = Z56 56 7 := (hf74 56 7 rfl)
          have eq85 : Z74 56 6 = Z56 56 6 := (hf74 56 6 rfl)
          have eq86 : Z74 56 7 = Z56 56 7 := (hf74 56 7 rfl)
          have eq87 : Z74 56 9 = Z56 56 9 := (hf74 56 9 rfl)
          have eq88 : Z74 56 6 = Z56 56 6 := (hf74 56 6 rfl)
          have eq89 : Z74 56 6 = Z56 56 6 := (hf74 56 6 rfl)
          exact ih25 (gEm (1012) (atX T N (lvI T N x0) (gAd T N sg25))) Z74 h74 (by omega) br74 (by omega) (by omega) (by omega) (by omega) (QR_le r74 (by decide)) ((tmL_s (lvI_go _) gn (gt.mp (by omega))).symm.trans (by assumption)) hx74 hG74 (fr_tr (M := [(56, 6), (56, 7), (56, 9), (56, 10), (56, 11), (56, 12), (60, (-1))]) (fr_tr (M := [(56, 6), (56, 7), (56, 9), (56, 10), (56, 11), (56, 12), (60, (-1))]) (fr_tr (M := [(56, 6), (56, 7), (56, 9), (56, 10), (56, 11), (56, 12), (60, (-1))]) (fr_tr (M := [(56, 6), (56, 7), (56, 9), (56, 10), (56, 11), (56, 12), (60, (-1))]) fr_rf (hf26) (M1 := []) rfl rfl) (hf37) rfl rfl) (hf56) rfl rfl) (hf74) rfl rfl)
    exact c5 (Int.toNat ((((Z 56 8 - Z1 56 6).toNat : Nat) : Int)) + 1) (atX T N (lvI T N x0) sg) Z1 h1 (by omega) br1 (by omega) (by omega) (by omega) (by omega) (QR_le r1 (by decide)) (rfl) hx1 hG1 fr_rf
theorem ct_173_56_s {l : Launch} {D : va_G} {b0 : Nat} {ad : Nat → Nat} {Hb : Heap} {tau : Nat → Int64} {d n s : Nat} {S : Nat → xS} {Z : xZ} {h : mx_H} {a0 : Int} {g0 : Int} {T : Int → Int} {N : Int} {sg : SS} (hx : XH n s S Z h) (hG : GI n S Z)  {x0 : Int} (p0 : 0 ≤ x0 ∧ x0 ≤ 6) (k0 : (Z 56 6 ≤ Z 56 7 ∧ Z 56 7 ≤ Z 56 8 ∧ (Z 56 9 = 24 ∨ Z 56 6 < Z 56 7))) (k1 : Z 60 61 ≤ Z 56 6) (k2 : a0 ≤ Z 60 61) (k3 : 0 ≤ a0) (k4 : 0 ≤ g0) (hr : RM g0 T N Z sg) {kk : Nat} (IH : RBnh l D b0 ad Hb tau kk x0) (hd : kk ≤ d) : ∃ (Z' : xZ) (h' : mx_H), mx_Ca (tB l D b0 ad Hb tau) (d + 10) 173 [.ref 56, xI x0] h (none, h') ∧ XH n s S Z' h' ∧ GI n S Z' ∧ fr' [(56, 6), (56, 7), (56, 9), (56, 10), (56, 11), (56, 12), (60, (-1))] Z Z' ∧ (RM g0 T N Z' (tmX T N (lvI T N x0) sg) ∧ QR Z Z' a0 1 0 ∧ ((Z' 56 6 ≤ Z' 56 7 ∧ Z' 56 7 ≤ Z 56 8 ∧ (Z' 56 9 = 24 ∨ Z' 56 6 < Z' 56 7)) ∧ Z' 60 0 = Z 60 0 ∧ Z' 60 1 = Z 60 1 ∧ Z' 60 2 = Z 60 2 ∧ Z 56 6 ≤ Z' 56 6 ∧ Z 60 61 ≤ Z' 60 61 ∧ Z' 60 61 - Z 60 61 ≤ Z' 56 6 - Z 56 6)) := by
  obtain ⟨r, hca, Z', h', e, q⟩ := Jmt (B := tB l D b0 ad Hb tau) (M := mt_173) (mi := 173) (as := [.ref 56, xI x0]) (d := d + 9) (ls := [some (.ref 56), some (xI x0)]) rfl rfl rfl rfl rfl rfl (cw_173_56_s (l := l) (D := D) (b0 := b0) (ad := ad) (Hb := Hb) (tau := tau) (d := d) (Post := fun r => ∃ (Z' : xZ) (h' : mx_H), r = (none, h') ∧ XH n s S Z' h' ∧ GI n S Z' ∧ fr' [(56, 6), (56, 7), (56, 9), (56, 10), (56, 11), (56, 12), (60, (-1))] Z Z' ∧ (RM g0 T N Z' (tmX T N (lvI T N x0) sg) ∧ QR Z Z' a0 1 0 ∧ ((Z' 56 6 ≤ Z' 56 7 ∧ Z' 56 7 ≤ Z 56 8 ∧ (Z' 56 9 = 24 ∨ Z' 56 6 < Z' 56 7)) ∧ Z' 60 0 = Z 60 0 ∧ Z' 60 1 = Z 60 1 ∧ Z' 60 2 = Z 60 2 ∧ Z 56 6 ≤ Z' 56 6 ∧ Z 60 61 ≤ Z' 60 61 ∧ Z' 60 61 - Z 60 61 ≤ Z' 56 6 - Z 56 6))) hx hG p0 k0 k1 k2 k3 k4 hr IH hd (fun Z' h' q1 q2 q3 q4 => ⟨Z', h', rfl, q1, q2, q3, q4⟩))
  subst e; exact ⟨Z', h', hca, q⟩
