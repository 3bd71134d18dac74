set_option maxRecDepth 100000 in
theorem cw_221_56 {l : Launch} {D : va_G} {b0 : Nat} {ad : Nat → Nat} {Hb : Heap} {tau : Nat → Int64} {d n s : Nat} {S : Nat → xS} {Z : xZ} {h : mx_H} {Post : mx_R → Prop} (hx : XH n s S Z h) (hG : GI n S Z)  {x0 x1 : Int} (p0 : (-2147483648) ≤ x0 ∧ x0 ≤ 2147483647) (p1 : (-2147483648) ≤ x1 ∧ x1 ≤ 2147483647) (hP : ∀ (z : Int) (Z' : xZ) (h' : mx_H), XH n s S Z' h' → GI n S Z' → fr' [(56, 0), (56, 22), (57, (-1)), (62, (-1)), (64, (-1)), (65, (-1)), (66, (-1))] Z Z' → (-6) ≤ z ∧ z ≤ 384 ∧ (Z' 57 1 = Z 57 1 ∧ Z' 57 963 = Z 57 963 ∧ Z' 57 1925 = Z 57 1925) → Post (some (xI z), h')) : mx_J (tB l D b0 ad Hb tau) mt_221 (d + 8) 0 [some (.ref 56), some (xI x0), some (xI x1), none, none, none] [] h Post := by
    have a56 : 56 < n := lt83 (GI_n hG) rfl
    have s56 : S 56 = .inl (12, [0, 2, 2, 2, 2, 0, 0, 0, 0, 0, 0, 0, 0, 0, 0, 2, 2, 2, 0, 2, 2, 2, 0, 0, 2, 2, 2, 2, 2, 2, 0, 0, 2, 2, 2, 2, 2, 2, 2, 2, 2, 2]) := GI_s hG 56 rfl
    have a57 : 57 < n := lt83 (GI_n hG) rfl
    have s57 : S 57 = .inr (.int, 2886, 0) := GI_s hG 57 rfl
    refine mx_J.step (sn_221 0) (fun _ _ => rfl) ?_
    refine JcI (z := 0) (show mx_Sn _ _ 1 (mx_const (.int 0) 2) from sn_221 1) rfl ?_
    refine JputI (g := 0) hx (show mx_Sn _ _ 2 (mx_putf 1 12 0 (.int) 5) from sn_221 2) a56 s56 rfl rfl rfl rfl (fun Z1 h1 hx1 hE1 => ?_)
    have hG1 := GI_up hG hE1 (show (-2147483648) ≤ 0 ∧ 0 ≤ 2147483647 by omega) trivial rfl
    refine mx_J.step (sn_221 5) (fun _ _ => rfl) ?_
    refine Ji2l (show mx_Sn _ _ 6 (mx_i2l 7) from sn_221 6) (by omega) ?_
    refine JcL (z := 0) (show mx_Sn _ _ 7 (mx_const (.long 0) 8) from sn_221 7) rfl ?_
    refine JcL (z := 3) (show mx_Sn _ _ 8 (mx_const (.long 3) 11) from sn_221 8) rfl ?_
    obtain ⟨z2, hc2, b2⟩ := ct_154_ (d := d + 7) (l := l) (D := D) (b0 := b0) (ad := ad) (Hb := Hb) (tau := tau) hx1 hG1 (show (-9223372036854775808) ≤ x1 ∧ x1 ≤ 9223372036854775807 by omega) (show (-9223372036854775808) ≤ 0 ∧ 0 ≤ 9223372036854775807 by omega) (show (-9223372036854775808) ≤ 3 ∧ 3 ≤ 9223372036854775807 by omega)
    refine Jcs (show mx_Sn _ _ 11 (mx_calls 154 3 14) from sn_221 11) hc2 rfl rfl rfl ?_
    refine Jif_ne (show mx_Sn _ _ 14 (mx_if_ne 20 17) from sn_221 14) (by omega) (fun q3 => ?_) (fun q3 => ?_)
    · skip
      refine mx_J.step (sn_221 20) (fun _ _ => rfl) ?_
      refine mx_J.step (sn_221 21) (fun _ _ => rfl) ?_
      have eq5 : Z1 80 x0 = Z 80 x0 := (up_nk hE1 rfl)
      have b6 : (-1) ≤ Z 80 x0 ∧ Z 80 x0 ≤ 3 := hG.pr 80 x0
      obtain ⟨z4, hc4, b4⟩ := ct_220_56 (d := d + 6) (l := l) (D := D) (b0 := b0) (ad := ad) (Hb := Hb) (tau := tau) hx1 hG1 (show (-2147483648) ≤ x0 ∧ x0 ≤ 2147483647 by omega)
      try rw [eq5] at b4
      refine Jcv hx1 (show mx_Sn _ _ 22 (mx_callv 220 2 12 25) from sn_221 22) a56 s56 hc4 rfl rfl rfl ?_
      refine mx_J.step (ls2 := [some (.ref 56), some (xI x0), some (xI x1), some (xI z4), none, none]) (sn_221 25) (fun _ _ => rfl) ?_
      refine mx_J.step (sn_221 26) (fun _ _ => rfl) ?_
      refine Jif_eq (show mx_Sn _ _ 27 (mx_if_eq 32 30) from sn_221 27) (by omega) (fun q7 => ?_) (fun q7 => ?_)
      · skip
        refine mx_J.step (sn_221 32) (fun _ _ => rfl) ?_
        have eq9 : Z1 57 27 = Z 57 27 := (up_nk hE1 rfl)
        have b10 := GI_st hG 27
        have b11 : 0 ≤ Z 56 18 ∧ Z 56 18 ≤ 385 := hG.pr 56 18
        have b12 : 0 ≤ Z 57 27 ∧ Z 57 27 ≤ 384 := by have hq := GI_ex hG 57 27; replace hq : f57 (27 % 962) (Z 57 27) := hq; unfold f57 at hq; omega
        have b13 : (-2147483648) ≤ Z 57 27 ∧ Z 57 27 ≤ 2147483647 := hG.pr 57 27
        obtain ⟨Z8, h8, hc8, hx8, hG8, hf8, b8⟩ := ct_202_56 (d := d + 7) (l := l) (D := D) (b0 := b0) (ad := ad) (Hb := Hb) (tau := tau) hx1 hG1 
        try rw [eq9] at b8
        have b14 : (-2147483648) ≤ Z8 66 0 ∧ Z8 66 0 ≤ 2147483647 := hG8.pr 66 0
        have b15 : (((0 : Int) = 0 → 0 ≤ (Z8 66 0) ∧ (Z8 66 0) ≤ 384) ∧ ((0 : Int) = 1 → 0 ≤ (Z8 66 0) ∧ (Z8 66 0) ≤ 9)) := GI_ex hG8 66 0
        refine Jcv0 hx1 (show mx_Sn _ _ 33 (mx_callv 202 1 12 36) from sn_221 33) a56 s56 hc8 rfl rfl rfl ?_
        refine mx_J.step (sn_221 36) (fun _ _ => rfl) ?_
        refine mx_J.step (sn_221 37) (fun _ _ => rfl) ?_
        have eq17 : Z8 57 1 = Z 57 1 := ((hf8 57 1 rfl).trans (up_nk hE1 rfl))
        have b18 : 0 ≤ Z 57 1 ∧ Z 57 1 ≤ 18 := by have hq := GI_ex hG 57 1; replace hq : f57 (1 % 962) (Z 57 1) := hq; unfold f57 at hq; omega
        have b19 : (-2147483648) ≤ Z 57 1 ∧ Z 57 1 ≤ 2147483647 := hG.pr 57 1
        have eq20 : Z8 57 963 = Z 57 963 := ((hf8 57 963 rfl).trans (up_nk hE1 rfl))
        have b21 : 0 ≤ Z 57 963 ∧ Z 57 963 ≤ 18 := by have hq := GI_ex hG 57 963; replace hq : f57 (963 % 962) (Z 57 963) := hq; unfold f57 at hq; omega
        have b22 : (-2147483648) ≤ Z 57 963 ∧ Z 57 963 ≤ 2147483647 := hG.pr 57 963
        have eq23 : Z8 57 1925 = Z 57 1925 := ((hf8 57 1925 rfl).trans (up_nk hE1 rfl))
        have b24 : 0 ≤ Z 57 1925 ∧ Z 57 1925 ≤ 18 := by have hq := GI_ex hG 57 1925; replace hq : f57 (1925 % 962) (Z 57 1925) := hq; unfold f57 at hq; omega
        have b25 : (-2147483648) ≤ Z 57 1925 ∧ Z 57 1925 ≤ 2147483647 := hG.pr 57 1925
        obtain ⟨z16, Z16, h16, hc16, hx16, hG16, hf16, b16⟩ := ct_219_56 (d := d + 0) (l := l) (D := D) (b0 := b0) (ad := ad) (Hb := Hb) (tau := tau) hx8 hG8 (show 0 ≤ x0 ∧ x0 ≤ 3 by omega)
        try rw [eq17] at b16
        try rw [eq20] at b16
        try rw [eq23] at b16
        have b26 : 0 ≤ Z16 57 1 ∧ Z16 57 1 ≤ 18 := by have hq := GI_ex hG16 57 1; replace hq : f57 (1 % 962) (Z16 57 1) := hq; unfold f57 at hq; omega
        have b27 : (-2147483648) ≤ Z16 57 1 ∧ Z16 57 1 ≤ 2147483647 := hG16.pr 57 1
        have b28 : 0 ≤ Z16 57 963 ∧ Z16 57 963 ≤ 18 := by have hq := GI_ex hG16 57 963; replace hq : f57 (963 % 962) (Z16 57 963) := hq; unfold f57 at hq; omega
        have b29 : (-2147483648) ≤ Z16 57 963 ∧ Z16 57 963 ≤ 2147483647 := hG16.pr 57 963
        have b30 : 0 ≤ Z16 57 1925 ∧ Z16 57 1925 ≤ 18 := by have hq := GI_ex hG16 57 1925; replace hq : f57 (1925 % 962) (Z16 57 1925) := hq; unfold f57 at hq; omega
        have b31 : (-2147483648) ≤ Z16 57 1925 ∧ Z16 57 1925 ≤ 2147483647 := hG16.pr 57 1925
        refine Jcv hx8 (show mx_Sn _ _ 38 (mx_callv 219 2 12 41) from sn_221 38) a56 s56 hc16 rfl rfl rfl ?_
        refine mx_J.step (ls2 := [some (.ref 56), some (xI x0), some (xI x1), some (xI z4), some (xI z16), none]) (sn_221 41) (fun _ _ => rfl) ?_
        refine mx_J.step (sn_221 43) (fun _ _ => rfl) ?_
        refine JgetR (g := 1) (b := 57) hx16 (show mx_Sn _ _ 44 (mx_getf 12 1 47) from sn_221 44) a56 s56 rfl rfl (hG16.prr 56 1 rfl) ?_
        refine JcI (z := 27) (show mx_Sn _ _ 47 (mx_const (.int 27) 49) from sn_221 47) rfl ?_
        have b33 := GI_st hG16 27
        have eq34 : Z16 56 18 = Z 56 18 := ((hf16 56 18 rfl).trans ((hf8 56 18 rfl).trans (up_ni hE1 (by decide))))
        have b35 : 0 ≤ Z16 57 27 ∧ Z16 57 27 ≤ 384 := by have hq := GI_ex hG16 57 27; replace hq : f57 (27 % 962) (Z16 57 27) := hq; unfold f57 at hq; omega
        have b36 : (-2147483648) ≤ Z16 57 27 ∧ Z16 57 27 ≤ 2147483647 := hG16.pr 57 27
        refine JialdI (z := Z16 57 27) hx16 (show mx_Sn _ _ 49 (mx_iald 50) from sn_221 49) a57 s57 (by omega) rfl ?_
        refine mx_J.step (ls2 := [some (.ref 56), some (xI x0), some (xI x1), some (xI z4), some (xI z16), some (xI (Z16 57 27))]) (sn_221 50) (fun _ _ => rfl) ?_
        refine mx_J.step (sn_221 52) (fun _ _ => rfl) ?_
        have eq38 : Z16 66 0 = Z8 66 0 := (hf16 66 0 rfl)
        have eq39 : Z16 56 18 = Z 56 18 := ((hf16 56 18 rfl).trans ((hf8 56 18 rfl).trans (up_ni hE1 (by decide))))
        obtain ⟨Z37, h37, hc37, hx37, hG37, hf37, b37⟩ := ct_203_56 (d := d + 7) (l := l) (D := D) (b0 := b0) (ad := ad) (Hb := Hb) (tau := tau) hx16 hG16  (show Z16 66 0 < Z16 56 18 by first | omega | (simp only [eq38, eq39]; omega))
        try rw [eq38] at b37
        try rw [eq39] at b37
        have b40 : 0 ≤ Z37 57 1 ∧ Z37 57 1 ≤ 18 := by have hq := GI_ex hG37 57 1; replace hq : f57 (1 % 962) (Z37 57 1) := hq; unfold f57 at hq; omega
        have b41 : (-2147483648) ≤ Z37 57 1 ∧ Z37 57 1 ≤ 2147483647 := hG37.pr 57 1
        have b42 : 0 ≤ Z37 57 963 ∧ Z37 57 963 ≤ 18 := by have hq := GI_ex hG37 57 963; replace hq : f57 (963 % 962) (Z37 57 963) := hq; unfold f57 at hq; omega
        have b43 : (-2147483648) ≤ Z37 57 963 ∧ Z37 57 963 ≤ 2147483647 := hG37.pr 57 963
        have b44 : 0 ≤ Z37 57 1925 ∧ Z37 57 1925 ≤ 18 := by have hq := GI_ex hG37 57 1925; replace hq : f57 (1925 % 962) (Z37 57 1925) := hq; unfold f57 at hq; omega
        have b45 : (-2147483648) ≤ Z37 57 1925 ∧ Z37 57 1925 ≤ 2147483647 := hG37.pr 57 1925
        refine Jcv0 hx16 (show mx_Sn _ _ 53 (mx_callv 203 1 12 56) from sn_221 53) a56 s56 hc37 rfl rfl rfl ?_
        refine mx_J.step (sn_221 56) (fun _ _ => rfl) ?_
        have c104 : ∀ (k46_0 : Int), (-1) ≤ k46_0 ∧ k46_0 ≤ 384 → mx_J (tB l D b0 ad Hb tau) mt_221 (d + 8) 104 [some (.ref 56), some (xI x0), some (xI x1), some (xI z4), some (xI z16), some (xI (Z16 57 27))] [xI k46_0] h37 Post := by
          intro k46_0 f46_0
          exact mx_J.ret (sn_221 104) (fun _ _ => rfl) (hP k46_0 Z37 h37 hx37 hG37 (fr_tr (M := [(56, 0), (56, 22), (57, (-1)), (62, (-1)), (64, (-1)), (65, (-1)), (66, (-1))]) (fr_tr (M := [(56, 0), (56, 22), (57, (-1)), (62, (-1)), (64, (-1)), (65, (-1)), (66, (-1))]) (fr_tr (M := [(56, 0), (56, 22), (57, (-1)), (62, (-1)), (64, (-1)), (65, (-1)), (66, (-1))]) (fr_tr (M := [(56, 0), (56, 22), (57, (-1)), (62, (-1)), (64, (-1)), (65, (-1)), (66, (-1))]) fr_rf (fr_up hE1) (M1 := []) rfl rfl) (hf8) rfl rfl) (hf16) rfl rfl) (hf37) rfl rfl) (by omega))
        refine Jif_ne (show mx_Sn _ _ 57 (mx_if_ne 76 60) from sn_221 57) (by omega) (fun q47 => ?_) (fun q47 => ?_)
        · skip
          refine mx_J.step (sn_221 76) (fun _ _ => rfl) ?_
          refine JcI (z := 1) (show mx_Sn _ _ 77 (mx_const (.int 1) 78) from sn_221 77) rfl ?_
          refine Jicmp_ne (show mx_Sn _ _ 78 (mx_icmp_ne 88 81) from sn_221 78) (by omega) (by omega) (fun q48 => ?_) (fun q48 => ?_)
          · skip
            refine mx_J.step (sn_221 88) (fun _ _ => rfl) ?_
            refine JcI (z := 2) (show mx_Sn _ _ 89 (mx_const (.int 2) 90) from sn_221 89) rfl ?_
            refine Jicmp_ne (show mx_Sn _ _ 90 (mx_icmp_ne 102 93) from sn_221 90) (by omega) (by omega) (fun q49 => ?_) (fun q49 => ?_)
            · skip
              refine mx_J.step (sn_221 102) (fun _ _ => rfl) ?_
              exact c104 (Z16 57 27) (by omega)
            · skip
              refine mx_J.step (sn_221 93) (fun _ _ => rfl) ?_
              refine mx_J.step (sn_221 94) (fun _ _ => rfl) ?_
              have eq51 : mn Z37 (Z16 57 27) = mn Z (Z16 57 27) := ((mn_c (fun i => hf37 61 i rfl)).trans ((mn_c (fun i => hf16 61 i rfl)).trans ((mn_c (fun i => hf8 61 i rfl)).trans (mn_c (fun i => up_nk hE1 rfl)))))
              obtain ⟨z50, hc50, b50⟩ := ct_191_56 (d := d + 6) (l := l) (D := D) (b0 := b0) (ad := ad) (Hb := Hb) (tau := tau) hx37 hG37 (show 0 ≤ Z16 57 27 ∧ Z16 57 27 ≤ 384 by omega)
              refine Jcv hx37 (show mx_Sn _ _ 96 (mx_callv 191 2 12 99) from sn_221 96) a56 s56 hc50 rfl rfl rfl ?_
              refine mx_J.step (sn_221 99) (fun _ _ => rfl) ?_
              exact c104 z50 (by omega)
          · skip
            refine mx_J.step (sn_221 81) (fun _ _ => rfl) ?_
            have b53 : 0 ≤ Z16 56 22 ∧ Z16 56 22 ≤ 2 := hG16.pr 56 22
            refine JgetI (g := 22) (z := Z16 56 22) hx37 (show mx_Sn _ _ 82 (mx_getf 12 22 85) from sn_221 82) a56 s56 rfl rfl (hf37 56 22 rfl) ?_
            refine mx_J.step (sn_221 85) (fun _ _ => rfl) ?_
            exact c104 (Z16 56 22) (by omega)
        · skip
          refine mx_J.step (sn_221 60) (fun _ _ => rfl) ?_
          have b55 : 0 ≤ Z16 56 22 ∧ Z16 56 22 ≤ 2 := hG16.pr 56 22
          refine JgetI (g := 22) (z := Z16 56 22) hx37 (show mx_Sn _ _ 61 (mx_getf 12 22 64) from sn_221 61) a56 s56 rfl rfl (hf37 56 22 rfl) ?_
          refine Jif_ne (show mx_Sn _ _ 64 (mx_if_ne 71 67) from sn_221 64) (by omega) (fun q56 => ?_) (fun q56 => ?_)
          · skip
            refine mx_J.step (sn_221 71) (fun _ _ => rfl) ?_
            refine mx_J.step (sn_221 73) (fun _ _ => rfl) ?_
            exact c104 z16 (by omega)
          · skip
            refine JcI (z := (-1)) (show mx_Sn _ _ 67 (mx_const (.int (-1)) 68) from sn_221 67) rfl ?_
            refine mx_J.step (sn_221 68) (fun _ _ => rfl) ?_
            exact c104 (-1) (by omega)
      · skip
        refine mx_J.step (sn_221 30) (fun _ _ => rfl) ?_
        have eq57 : Z1 57 1 = Z 57 1 := (up_nk hE1 rfl)
        have b58 : 0 ≤ Z 57 1 ∧ Z 57 1 ≤ 18 := by have hq := GI_ex hG 57 1; replace hq : f57 (1 % 962) (Z 57 1) := hq; unfold f57 at hq; omega
        have b59 : (-2147483648) ≤ Z 57 1 ∧ Z 57 1 ≤ 2147483647 := hG.pr 57 1
        have eq60 : Z1 57 963 = Z 57 963 := (up_nk hE1 rfl)
        have b61 : 0 ≤ Z 57 963 ∧ Z 57 963 ≤ 18 := by have hq := GI_ex hG 57 963; replace hq : f57 (963 % 962) (Z 57 963) := hq; unfold f57 at hq; omega
        have b62 : (-2147483648) ≤ Z 57 963 ∧ Z 57 963 ≤ 2147483647 := hG.pr 57 963
        have eq63 : Z1 57 1925 = Z 57 1925 := (up_nk hE1 rfl)
        have b64 : 0 ≤ Z 57 1925 ∧ Z 57 1925 ≤ 18 := by have hq := GI_ex hG 57 1925; replace hq : f57 (1925 % 962) (Z 57 1925) := hq; unfold f57 at hq; omega
        have b65 : (-2147483648) ≤ Z 57 1925 ∧ Z 57 1925 ≤ 2147483647 := hG.pr 57 1925
        have eq66 : Z1 57 1 = Z 57 1 := (up_nk hE1 rfl)
        have eq67 : Z1 57 963 = Z 57 963 := (up_nk hE1 rfl)
        have eq68 : Z1 57 1925 = Z 57 1925 := (up_nk hE1 rfl)
        exact mx_J.ret (sn_221 31) (fun _ _ => rfl) (hP z4 Z1 h1 hx1 hG1 (fr_tr (M := [(56, 0), (56, 22), (57, (-1)), (62, (-1)), (64, (-1)), (65, (-1)), (66, (-1))]) fr_rf (fr_up hE1) (M1 := []) rfl rfl) (by omega))
    · skip
      refine JcI (z := (-2)) (show mx_Sn _ _ 17 (mx_const (.int (-2)) 19) from sn_221 17) rfl ?_
      have eq69 : Z1 57 1 = Z 57 1 := (up_nk hE1 rfl)
      have b70 : 0 ≤ Z 57 1 ∧ Z 57 1 ≤ 18 := by have hq := GI_ex hG 57 1; replace hq : f57 (1 % 962) (Z 57 1) := hq; unfold f57 at hq; omega
      have b71 : (-2147483648) ≤ Z 57 1 ∧ Z 57 1 ≤ 2147483647 := hG.pr 57 1
      have eq72 : Z1 57 963 = Z 57 963 := (up_nk hE1 rfl)
      have b73 : 0 ≤ Z 57 963 ∧ Z 57 963 ≤ 18 := by have hq := GI_ex hG 57 963; replace hq : f57 (963 % 962) (Z 57 963) := hq; unfold f57 at hq; omega
      have b74 : (-2147483648) ≤ Z 57 963 ∧ Z 57 963 ≤ 2147483647 := hG.pr 57 963
      have eq75 : Z1 57 1925 = Z 57 1925 := (up_nk hE1 rfl)
      have b76 : 0 ≤ Z 57 1925 ∧ Z 57 1925 ≤ 18 := by have hq := GI_ex hG 57 1925; replace hq : f57 (1925 % 962) (Z 57 1925) := hq; unfold f57 at hq; omega
      have b77 : (-2147483648) ≤ Z 57 1925 ∧ Z 57 1925 ≤ 2147483647 := hG.pr 57 1925
      have eq78 : Z1 57 1 = Z 57 1 := (up_nk hE1 rfl)
      have eq79 : Z1 57 963 = Z 57 963 := (up_nk hE1 rfl)
      have eq80 : Z1 57 1925 = Z 57 1925 := (up_nk hE1 rfl)
      exact mx_J.ret (sn_221 19) (fun _ _ => rfl) (hP (-2) Z1 h1 hx1 hG1 (fr_tr (M := [(56, 0), (56, 22), (57, (-1)), (62, (-1)), (64, (-1)), (65, (-1)), (66, (-1))]) fr_rf (fr_up hE1) (M1 := []) rfl rfl) (by omega))
theorem ct_221_56 {l : Launch} {D : va_G} {b0 : Nat} {ad : Nat → Nat} {Hb : Heap} {tau : Nat → Int64} {d n s : Nat} {S : Nat → xS} {Z : xZ} {h : mx_H} (hx : XH n s S Z h) (hG : GI n S Z)  {x0 x1 : Int} (p0 : (-2147483648) ≤ x0 ∧ x0 ≤ 2147483647) (p1 : (-2147483648) ≤ x1 ∧ x1 ≤ 2147483647) : ∃ (z : Int) (Z' : xZ) (h' : mx_H), mx_Ca (tB l D b0 ad Hb tau) (d + 9) 221 [.ref 56, xI x0, xI x1] h (some (xI z), h') ∧ XH n s S Z' h' ∧ GI n S Z' ∧ fr' [(56, 0), (56, 22), (57, (-1)), (62, (-1)), (64, (-1)), (65, (-1)), (66, (-1))] Z Z' ∧ ((-6) ≤ z ∧ z ≤ 384 ∧ (Z' 57 1 = Z 57 1 ∧ Z' 57 963 = Z 57 963 ∧ Z' 57 1925 = Z 57 1925)) := by
  obtain ⟨r, hca, z, Z', h', e, q⟩ := Jmt (B := tB l D b0 ad Hb tau) (M := mt_221) (mi := 221) (as := [.ref 56, xI x0, xI x1]) (d := d + 8) (ls := [some (.ref 56), some (xI x0), some (xI x1), none, none, none]) rfl rfl rfl rfl rfl rfl (cw_221_56 (l := l) (D := D) (b0 := b0) (ad := ad) (Hb := Hb) (tau := tau) (d := d) (Post := fun r => ∃ (z : Int) (Z' : xZ) (h' : mx_H), r = (some (xI z), h') ∧ XH n s S Z' h' ∧ GI n S Z' ∧ fr' [(56, 0), (56, 22), (57, (-1)), (62, (-1)), (64, (-1)), (65, (-1)), (66, (-1))] Z Z' ∧ ((-6) ≤ z ∧ z ≤ 384 ∧ (Z' 57 1 = Z 57 1 ∧ Z' 57 963 = Z 57 963 ∧ Z' 57 1925 = Z 57 1925))) hx hG p0 p1 (fun z Z' h' q1 q2 q3 q4 => ⟨z, Z', h', rfl, q1, q2, q3, q4⟩))
  subst e; exact ⟨z, Z', h', hca, q⟩
set_option maxRecDepth 100000 in
theorem cw_222_56 {l : Launch} {D : va_G} {b0 : Nat} {ad : Nat → Nat} {Hb : Heap} {tau : Nat → Int64} {d n s : Nat} {S : Nat → xS} {Z : xZ} {h : mx_H} {Post : mx_R → Prop} (hx : XH n s S Z h) (hG : GI n S Z)  {x0 : Int} (p0 : (-2147483648) ≤ x0 ∧ x0 ≤ 2147483647) (hP : ∀ (z : Int) (Z' : xZ) (h' : mx_H), XH n s S Z' h' → GI n S Z' → fr' [(56, 0), (56, 22), (57, (-1)), (62, (-1)), (64, (-1)), (65, (-1)), (66, (-1))] Z Z' → (-6) ≤ z ∧ z ≤ 40 ∧ (Z' 57 1 = Z 57 1 ∧ Z' 57 963 = Z 57 963 ∧ Z' 57 1925 = Z 57 1925) → Post (some (xI z), h')) : mx_J (tB l D b0 ad Hb tau) mt_222 (d + 8) 0 [some (.ref 56), some (xI x0), none, none] [] h Post := by
    have a56 : 56 < n := lt83 (GI_n hG) rfl
    have s56 : S 56 = .inl (12, [0, 2, 2, 2, 2, 0, 0, 0, 0, 0, 0, 0, 0, 0, 0, 2, 2, 2, 0, 2, 2, 2, 0, 0, 2, 2, 2, 2, 2, 2, 0, 0, 2, 2, 2, 2, 2, 2, 2, 2, 2, 2]) := GI_s hG 56 rfl
    refine mx_J.step (sn_222 0) (fun _ _ => rfl) ?_
    refine JcI (z := 0) (show mx_Sn _ _ 1 (mx_const (.int 0) 2) from sn_222 1) rfl ?_
    refine JputI (g := 0) hx (show mx_Sn _ _ 2 (mx_putf 1 12 0 (.int) 5) from sn_222 2) a56 s56 rfl rfl rfl rfl (fun Z1 h1 hx1 hE1 => ?_)
    have hG1 := GI_up hG hE1 (show (-2147483648) ≤ 0 ∧ 0 ≤ 2147483647 by omega) trivial rfl
    refine mx_J.step (sn_222 5) (fun _ _ => rfl) ?_
    refine mx_J.step (sn_222 6) (fun _ _ => rfl) ?_
    have eq3 : Z1 80 x0 = Z 80 x0 := (up_nk hE1 rfl)
    have b4 : (-1) ≤ Z 80 x0 ∧ Z 80 x0 ≤ 3 := hG.pr 80 x0
    obtain ⟨z2, hc2, b2⟩ := ct_220_56 (d := d + 6) (l := l) (D := D) (b0 := b0) (ad := ad) (Hb := Hb) (tau := tau) hx1 hG1 (show (-2147483648) ≤ x0 ∧ x0 ≤ 2147483647 by omega)
    try rw [eq3] at b2
    refine Jcv hx1 (show mx_Sn _ _ 7 (mx_callv 220 2 12 10) from sn_222 7) a56 s56 hc2 rfl rfl rfl ?_
    refine mx_J.step (ls2 := [some (.ref 56), some (xI x0), some (xI z2), none]) (sn_222 10) (fun _ _ => rfl) ?_
    refine mx_J.step (sn_222 11) (fun _ _ => rfl) ?_
    refine Jif_eq (show mx_Sn _ _ 12 (mx_if_eq 17 15) from sn_222 12) (by omega) (fun q5 => ?_) (fun q5 => ?_)
    · skip
      refine mx_J.step (sn_222 17) (fun _ _ => rfl) ?_
      have eq7 : Z1 57 27 = Z 57 27 := (up_nk hE1 rfl)
      have b8 := GI_st hG 27
      have b9 : 0 ≤ Z 56 18 ∧ Z 56 18 ≤ 385 := hG.pr 56 18
      have b10 : 0 ≤ Z 57 27 ∧ Z 57 27 ≤ 384 := by have hq := GI_ex hG 57 27; replace hq : f57 (27 % 962) (Z 57 27) := hq; unfold f57 at hq; omega
      have b11 : (-2147483648) ≤ Z 57 27 ∧ Z 57 27 ≤ 2147483647 := hG.pr 57 27
      obtain ⟨Z6, h6, hc6, hx6, hG6, hf6, b6⟩ := ct_202_56 (d := d + 7) (l := l) (D := D) (b0 := b0) (ad := ad) (Hb := Hb) (tau := tau) hx1 hG1 
      try rw [eq7] at b6
      have b12 : (-2147483648) ≤ Z6 66 0 ∧ Z6 66 0 ≤ 2147483647 := hG6.pr 66 0
      have b13 : (((0 : Int) = 0 → 0 ≤ (Z6 66 0) ∧ (Z6 66 0) ≤ 384) ∧ ((0 : Int) = 1 → 0 ≤ (Z6 66 0) ∧ (Z6 66 0) ≤ 9)) := GI_ex hG6 66 0
      refine Jcv0 hx1 (show mx_Sn _ _ 18 (mx_callv 202 1 12 21) from sn_222 18) a56 s56 hc6 rfl rfl rfl ?_
      refine mx_J.step (sn_222 21) (fun _ _ => rfl) ?_
      refine mx_J.step (sn_222 22) (fun _ _ => rfl) ?_
      have eq15 : Z6 57 1 = Z 57 1 := ((hf6 57 1 rfl).trans (up_nk hE1 rfl))
      have b16 : 0 ≤ Z 57 1 ∧ Z 57 1 ≤ 18 := by have hq := GI_ex hG 57 1; replace hq : f57 (1 % 962) (Z 57 1) := hq; unfold f57 at hq; omega
      have b17 : (-2147483648) ≤ Z 57 1 ∧ Z 57 1 ≤ 2147483647 := hG.pr 57 1
      have eq18 : Z6 57 963 = Z 57 963 := ((hf6 57 963 rfl).trans (up_nk hE1 rfl))
      have b19 : 0 ≤ Z 57 963 ∧ Z 57 963 ≤ 18 := by have hq := GI_ex hG 57 963; replace hq : f57 (963 % 962) (Z 57 963) := hq; unfold f57 at hq; omega
      have b20 : (-2147483648) ≤ Z 57 963 ∧ Z 57 963 ≤ 2147483647 := hG.pr 57 963
      have eq21 : Z6 57 1925 = Z 57 1925 := ((hf6 57 1925 rfl).trans (up_nk hE1 rfl))
      have b22 : 0 ≤ Z 57 1925 ∧ Z 57 1925 ≤ 18 := by have hq := GI_ex hG 57 1925; replace hq : f57 (1925 % 962) (Z 57 1925) := hq; unfold f57 at hq; omega
      have b23 : (-2147483648) ≤ Z 57 1925 ∧ Z 57 1925 ≤ 2147483647 := hG.pr 57 1925
      obtain ⟨z14, Z14, h14, hc14, hx14, hG14, hf14, b14⟩ := ct_219_56 (d := d + 0) (l := l) (D := D) (b0 := b0) (ad := ad) (Hb := Hb) (tau := tau) hx6 hG6 (show 0 ≤ x0 ∧ x0 ≤ 3 by omega)
      try rw [eq15] at b14
      try rw [eq18] at b14
      try rw [eq21] at b14
      have b24 : 0 ≤ Z14 57 1 ∧ Z14 57 1 ≤ 18 := by have hq := GI_ex hG14 57 1; replace hq : f57 (1 % 962) (Z14 57 1) := hq; unfold f57 at hq; omega
      have b25 : (-2147483648) ≤ Z14 57 1 ∧ Z14 57 1 ≤ 2147483647 := hG14.pr 57 1
      have b26 : 0 ≤ Z14 57 963 ∧ Z14 57 963 ≤ 18 := by have hq := GI_ex hG14 57 963; replace hq : f57 (963 % 962) (Z14 57 963) := hq; unfold f57 at hq; omega
      have b27 : (-2147483648) ≤ Z14 57 963 ∧ Z14 57 963 ≤ 2147483647 := hG14.pr 57 963
      have b28 : 0 ≤ Z14 57 1925 ∧ Z14 57 1925 ≤ 18 := by have hq := GI_ex hG14 57 1925; replace hq : f57 (1925 % 962) (Z14 57 1925) := hq; unfold f57 at hq; omega
      have b29 : (-2147483648) ≤ Z14 57 1925 ∧ Z14 57 1925 ≤ 2147483647 := hG14.pr 57 1925
      refine Jcv hx6 (show mx_Sn _ _ 23 (mx_callv 219 2 12 26) from sn_222 23) a56 s56 hc14 rfl rfl rfl ?_
      refine mx_J.step (ls2 := [some (.ref 56), some (xI x0), some (xI z2), some (xI z14)]) (sn_222 26) (fun _ _ => rfl) ?_
      refine mx_J.step (sn_222 27) (fun _ _ => rfl) ?_
      have c35 : ∀  (Z31 : xZ) (h31 : mx_H), (Z31 57 1 = Z 57 1 ∧ Z31 57 963 = Z 57 963 ∧ Z31 57 1925 = Z 57 1925) → XH n s S Z31 h31 → GI n S Z31 → fr' [(57, (-1))] Z14 Z31 → mx_J (tB l D b0 ad Hb tau) mt_222 (d + 8) 35 [some (.ref 56), some (xI x0), some (xI z2), some (xI z14)] [] h31 Post := by
        intro Z31 h31 f30_0 hx31 hG31 hf31
        have b32 : 0 ≤ Z31 57 1 ∧ Z31 57 1 ≤ 18 := by have hq := GI_ex hG31 57 1; replace hq : f57 (1 % 962) (Z31 57 1) := hq; unfold f57 at hq; omega
        have b33 : (-2147483648) ≤ Z31 57 1 ∧ Z31 57 1 ≤ 2147483647 := hG31.pr 57 1
        have b34 : 0 ≤ Z31 57 963 ∧ Z31 57 963 ≤ 18 := by have hq := GI_ex hG31 57 963; replace hq : f57 (963 % 962) (Z31 57 963) := hq; unfold f57 at hq; omega
        have b35 : (-2147483648) ≤ Z31 57 963 ∧ Z31 57 963 ≤ 2147483647 := hG31.pr 57 963
        have b36 : 0 ≤ Z31 57 1925 ∧ Z31 57 1925 ≤ 18 := by have hq := GI_ex hG31 57 1925; replace hq : f57 (1925 % 962) (Z31 57 1925) := hq; unfold f57 at hq; omega
        have b37 : (-2147483648) ≤ Z31 57 1925 ∧ Z31 57 1925 ≤ 2147483647 := hG31.pr 57 1925
        refine mx_J.step (sn_222 35) (fun _ _ => rfl) ?_
        exact mx_J.ret (sn_222 36) (fun _ _ => rfl) (hP z14 Z31 h31 hx31 hG31 (fr_tr (M := [(56, 0), (56, 22), (57, (-1)), (62, (-1)), (64, (-1)), (65, (-1)), (66, (-1))]) (fr_tr (M := [(56, 0), (56, 22), (57, (-1)), (62, (-1)), (64, (-1)), (65, (-1)), (66, (-1))]) (fr_tr (M := [(56, 0), (56, 22), (57, (-1)), (62, (-1)), (64, (-1)), (65, (-1)), (66, (-1))]) (fr_tr (M := [(56, 0), (56, 22), (57, (-1)), (62, (-1)), (64, (-1)), (65, (-1)), (66, (-1))]) fr_rf (fr_up hE1) (M1 := []) rfl rfl) (hf6) rfl rfl) (hf14) rfl rfl) (hf31) rfl rfl) (by omega))
      refine Jif_le (show mx_Sn _ _ 28 (mx_if_le 35 31) from sn_222 28) (by omega) (fun q38 => ?_) (fun q38 => ?_)
      · skip
        exact c35 Z14 h14 (by omega) hx14 hG14 fr_rf
      · skip
        refine mx_J.step (sn_222 31) (fun _ _ => rfl) ?_
        have eq40 : Z14 66 0 = Z6 66 0 := (hf14 66 0 rfl)
        have eq41 : Z14 56 18 = Z 56 18 := ((hf14 56 18 rfl).trans ((hf6 56 18 rfl).trans (up_ni hE1 (by decide))))
        obtain ⟨Z39, h39, hc39, hx39, hG39, hf39, b39⟩ := ct_204_56 (d := d + 7) (l := l) (D := D) (b0 := b0) (ad := ad) (Hb := Hb) (tau := tau) hx14 hG14  (show Z14 66 0 < Z14 56 18 by first | omega | (simp only [eq40, eq41]; omega))
        try rw [eq40] at b39
        try rw [eq41] at b39
        have b42 : 0 ≤ Z39 57 1 ∧ Z39 57 1 ≤ 18 := by have hq := GI_ex hG39 57 1; replace hq : f57 (1 % 962) (Z39 57 1) := hq; unfold f57 at hq; omega
        have b43 : (-2147483648) ≤ Z39 57 1 ∧ Z39 57 1 ≤ 2147483647 := hG39.pr 57 1
        have b44 : 0 ≤ Z39 57 963 ∧ Z39 57 963 ≤ 18 := by have hq := GI_ex hG39 57 963; replace hq : f57 (963 % 962) (Z39 57 963) := hq; unfold f57 at hq; omega
        have b45 : (-2147483648) ≤ Z39 57 963 ∧ Z39 57 963 ≤ 2147483647 := hG39.pr 57 963
        have b46 : 0 ≤ Z39 57 1925 ∧ Z39 57 1925 ≤ 18 := by have hq := GI_ex hG39 57 1925; replace hq : f57 (1925 % 962) (Z39 57 1925) := hq; unfold f57 at hq; omega
        have b47 : (-2147483648) ≤ Z39 57 1925 ∧ Z39 57 1925 ≤ 2147483647 := hG39.pr 57 1925
        refine Jcv0 hx14 (show mx_Sn _ _ 32 (mx_callv 204 1 12 35) from sn_222 32) a56 s56 hc39 rfl rfl rfl ?_
        exact c35 Z39 h39 (by omega) hx39 hG39 (fr_tr (M := [(57, (-1))]) fr_rf (hf39) (M1 := []) rfl rfl)
    · skip
      refine mx_J.step (sn_222 15) (fun _ _ => rfl) ?_
      have eq48 : Z1 57 1 = Z 57 1 := (up_nk hE1 rfl)
      have b49 : 0 ≤ Z 57 1 ∧ Z 57 1 ≤ 18 := by have hq := GI_ex hG 57 1; replace hq : f57 (1 % 962) (Z 57 1) := hq; unfold f57 at hq; omega
      have b50 : (-2147483648) ≤ Z 57 1 ∧ Z 57 1 ≤ 2147483647 := hG.pr 57 1
      have eq51 : Z1 57 963 = Z 57 963 := (up_nk hE1 rfl)
      have b52 : 0 ≤ Z 57 963 ∧ Z 57 963 ≤ 18 := by have hq := GI_ex hG 57 963; replace hq : f57 (963 % 962) (Z 57 963) := hq; unfold f57 at hq; omega
      have b53 : (-2147483648) ≤ Z 57 963 ∧ Z 57 963 ≤ 2147483647 := hG.pr 57 963
      have eq54 : Z1 57 1925 = Z 57 1925 := (up_nk hE1 rfl)
      have b55 : 0 ≤ Z 57 1925 ∧ Z 57 1925 ≤ 18 := by have hq := GI_ex hG 57 1925; replace hq : f57 (1925 % 962) (Z 57 1925) := hq; unfold f57 at hq; omega
      have b56 : (-2147483648) ≤ Z 57 1925 ∧ Z 57 1925 ≤ 2147483647 := hG.pr 57 1925
      have eq57 : Z1 57 1 = Z 57 1 := (up_nk hE1 rfl)
      have eq58 : Z1 57 963 = Z 57 963 := (up_nk hE1 rfl)
      have eq59 : Z1 57 1925 = Z 57 1925 := (up_nk hE1 rfl)
      exact mx_J.ret (sn_222 16) (fun _ _ => rfl) (hP z2 Z1 h1 hx1 hG1 (fr_tr (M := [(56, 0), (56, 22), (57, (-1)), (62, (-1)), (64, (-1)), (65, (-1)), (66, (-1))]) fr_rf (fr_up hE1) (M1 := []) rfl rfl) (by omega))
theorem ct_222_56 {l : Launch} {D : va_G} {b0 : Nat} {ad : Nat → Nat} {Hb : Heap} {tau : Nat → Int64} {d n s : Nat} {S : Nat → xS} {Z : xZ} {h : mx_H} (hx : XH n s S Z h) (hG : GI n S Z)  {x0 : Int} (p0 : (-2147483648) ≤ x0 ∧ x0 ≤ 2147483647) : ∃ (z : Int) (Z' : xZ) (h' : mx_H), mx_Ca (tB l D b0 ad Hb tau) (d + 9) 222 [.ref 56, xI x0] h (some (xI z), h') ∧ XH n s S Z' h' ∧ GI n S Z' ∧ fr' [(56, 0), (56, 22), (57, (-1)), (62, (-1)), (64, (-1)), (65, (-1)), (66, (-1))] Z Z' ∧ ((-6) ≤ z ∧ z ≤ 40 ∧ (Z' 57 1 = Z 57 1 ∧ Z' 57 963 = Z 57 963 ∧ Z' 57 1925 = Z 57 1925)) := by
  obtain ⟨r, hca, z, Z', h', e, q⟩ := Jmt (B := tB l D b0 ad Hb tau) (M := mt_222) (mi := 222) (as := [.ref 56, xI x0]) (d := d + 8) (ls := [some (.ref 56), some (xI x0), none, none]) rfl rfl rfl rfl rfl rfl (cw_222_56 (l := l) (D := D) (b0 := b0) (ad := ad) (Hb := Hb) (tau := tau) (d := d) (Post := fun r => ∃ (z : Int) (Z' : xZ) (h' : mx_H), r = (some (xI z), h') ∧ XH n s S Z' h' ∧ GI n S Z' ∧ fr' [(56, 0), (56, 22), (57, (-1)), (62, (-1)), (64, (-1)), (65, (-1)), (66, (-1))] Z Z' ∧ ((-6) ≤ z ∧ z ≤ 40 ∧ (Z' 57 1 = Z 57 1 ∧ Z' 57 963 = Z 57 963 ∧ Z' 57 1925 = Z 57 1925))) hx hG p0 (fun z Z' h' q1 q2 q3 q4 => ⟨z, Z', h', rfl, q1, q2, q3, q4⟩))
  subst e; exact ⟨z, Z', h', hca, q⟩
set_option maxRecDepth 100000 in
theorem cw_225_56 {l : Launch} {D : va_G} {b0 : Nat} {ad : Nat → Nat} {Hb : Heap} {tau : Nat → Int64} {d n s : Nat} {S : Nat → xS} {Z : xZ} {h : mx_H} {Post : mx_R → Prop} (hx : XH n s S Z h) (hG : GI n S Z)  {x0 x1 : Int} (p0 : (-2147483648) ≤ x0 ∧ x0 ≤ 2147483647) (p1 : (-2147483648) ≤ x1 ∧ x1 ≤ 2147483647) (hP : ∀ (z : Int) (Z' : xZ) (h' : mx_H), XH n s S Z' h' → GI n S Z' → fr' [(56, 0), (56, 23), (57, (-1)), (62, (-1)), (64, (-1)), (65, (-1)), (66, (-1))] Z Z' → (-2147483648) ≤ z ∧ z ≤ 2147483647 ∧ (Z' 57 1 = Z 57 1 ∧ Z' 57 963 = Z 57 963 ∧ Z' 57 1925 = Z 57 1925) → Post (some (xI z), h')) : mx_J (tB l D b0 ad Hb tau) mt_225 (d + 7) 0 [some (.ref 56), some (xI x0), some (xI x1), none, none, none] [] h Post := by
    have a56 : 56 < n := lt83 (GI_n hG) rfl
    have s56 : S 56 = .inl (12, [0, 2, 2, 2, 2, 0, 0, 0, 0, 0, 0, 0, 0, 0, 0, 2, 2, 2, 0, 2, 2, 2, 0, 0, 2, 2, 2, 2, 2, 2, 0, 0, 2, 2, 2, 2, 2, 2, 2, 2, 2, 2]) := GI_s hG 56 rfl
    refine mx_J.step (sn_225 0) (fun _ _ => rfl) ?_
    refine JcI (z := 0) (show mx_Sn _ _ 1 (mx_const (.int 0) 2) from sn_225 1) rfl ?_
    refine JputI (g := 0) hx (show mx_Sn _ _ 2 (mx_putf 1 12 0 (.int) 5) from sn_225 2) a56 s56 rfl rfl rfl rfl (fun Z1 h1 hx1 hE1 => ?_)
    have hG1 := GI_up hG hE1 (show (-2147483648) ≤ 0 ∧ 0 ≤ 2147483647 by omega) trivial rfl
    refine mx_J.step (sn_225 5) (fun _ _ => rfl) ?_
    refine Ji2l (show mx_Sn _ _ 6 (mx_i2l 7) from sn_225 6) (by omega) ?_
    refine JcL (z := 1) (show mx_Sn _ _ 7 (mx_const (.long 1) 8) from sn_225 7) rfl ?_
    refine JcL (z := 40) (show mx_Sn _ _ 8 (mx_const (.long 40) 11) from sn_225 8) rfl ?_
    obtain ⟨z2, hc2, b2⟩ := ct_154_ (d := d + 6) (l := l) (D := D) (b0 := b0) (ad := ad) (Hb := Hb) (tau := tau) hx1 hG1 (show (-9223372036854775808) ≤ x1 ∧ x1 ≤ 9223372036854775807 by omega) (show (-9223372036854775808) ≤ 1 ∧ 1 ≤ 9223372036854775807 by omega) (show (-9223372036854775808) ≤ 40 ∧ 40 ≤ 9223372036854775807 by omega)
    refine Jcs (show mx_Sn _ _ 11 (mx_calls 154 3 14) from sn_225 11) hc2 rfl rfl rfl ?_
    refine Jif_ne (show mx_Sn _ _ 14 (mx_if_ne 20 17) from sn_225 14) (by omega) (fun q3 => ?_) (fun q3 => ?_)
    · skip
      refine mx_J.step (sn_225 20) (fun _ _ => rfl) ?_
      have eq5 : Z1 57 27 = Z 57 27 := (up_nk hE1 rfl)
      have b6 := GI_st hG 27
      have b7 : 0 ≤ Z 56 18 ∧ Z 56 18 ≤ 385 := hG.pr 56 18
      have b8 : 0 ≤ Z 57 27 ∧ Z 57 27 ≤ 384 := by have hq := GI_ex hG 57 27; replace hq : f57 (27 % 962) (Z 57 27) := hq; unfold f57 at hq; omega
      have b9 : (-2147483648) ≤ Z 57 27 ∧ Z 57 27 ≤ 2147483647 := hG.pr 57 27
      obtain ⟨Z4, h4, hc4, hx4, hG4, hf4, b4⟩ := ct_202_56 (d := d + 6) (l := l) (D := D) (b0 := b0) (ad := ad) (Hb := Hb) (tau := tau) hx1 hG1 
      try rw [eq5] at b4
      have b10 : (-2147483648) ≤ Z4 66 0 ∧ Z4 66 0 ≤ 2147483647 := hG4.pr 66 0
      have b11 : (((0 : Int) = 0 → 0 ≤ (Z4 66 0) ∧ (Z4 66 0) ≤ 384) ∧ ((0 : Int) = 1 → 0 ≤ (Z4 66 0) ∧ (Z4 66 0) ≤ 9)) := GI_ex hG4 66 0
      refine Jcv0 hx1 (show mx_Sn _ _ 21 (mx_callv 202 1 12 24) from sn_225 21) a56 s56 hc4 rfl rfl rfl ?_
      refine mx_J.step (sn_225 24) (fun _ _ => rfl) ?_
      refine mx_J.step (sn_225 25) (fun _ _ => rfl) ?_
      refine JputI (g := 23) hx4 (show mx_Sn _ _ 26 (mx_putf 1 12 23 (.int) 29) from sn_225 26) a56 s56 rfl rfl rfl rfl (fun Z12 h12 hx12 hE12 => ?_)
      have hG12 := GI_up hG4 hE12 (show (-2147483648) ≤ x0 ∧ x0 ≤ 2147483647 by omega) trivial rfl
      refine JcI (z := 0) (show mx_Sn _ _ 29 (mx_const (.int 0) 30) from sn_225 29) rfl ?_
      refine mx_J.step (ls2 := [some (.ref 56), some (xI x0), some (xI x1), some (xI 0), none, none]) (sn_225 30) (fun _ _ => rfl) ?_
      refine JcI (z := 0) (show mx_Sn _ _ 31 (mx_const (.int 0) 32) from sn_225 31) rfl ?_
      refine mx_J.step (ls2 := [some (.ref 56), some (xI x0), some (xI x1), some (xI 0), some (xI 0), none]) (sn_225 32) (fun _ _ => rfl) ?_
      have c34 : ∀ (m13 : Nat) (w13_3 : Int) (w13_4 : Int) (u13_5 : Option Value) (Z14 : xZ) (h14 : mx_H), 40 - w13_4 < (m13 : Int) → (-2147483648) ≤ w13_3 ∧ w13_3 ≤ 2147483647 → 0 ≤ w13_4 ∧ w13_4 ≤ 40 → (Z14 57 1 = Z 57 1 ∧ Z14 57 963 = Z 57 963 ∧ Z14 57 1925 = Z 57 1925) → XH n s S Z14 h14 → GI n S Z14 → fr' [(56, 23), (57, (-1)), (62, (-1)), (64, (-1)), (65, (-1))] Z12 Z14 → mx_J (tB l D b0 ad Hb tau) mt_225 (d + 7) 34 [some (.ref 56), some (xI x0), some (xI x1), some (xI w13_3), some (xI w13_4), u13_5] [] h14 Post := by
        intro m13
        induction m13 with
        | zero => intro w13_3 w13_4 u13_5 Z14 h14 q13 f13_0 f13_1 f13_2 hx14 hG14 hf14; exact absurd q13 (by omega)
        | succ m13 ih13 =>
          intro w13_3 w13_4 u13_5 Z14 h14 q13 f13_0 f13_1 f13_2 hx14 hG14 hf14
          have b15 : 0 ≤ Z14 57 1 ∧ Z14 57 1 ≤ 18 := by have hq := GI_ex hG14 57 1; replace hq : f57 (1 % 962) (Z14 57 1) := hq; unfold f57 at hq; omega
          have b16 : (-2147483648) ≤ Z14 57 1 ∧ Z14 57 1 ≤ 2147483647 := hG14.pr 57 1
          have b17 : 0 ≤ Z14 57 963 ∧ Z14 57 963 ≤ 18 := by have hq := GI_ex hG14 57 963; replace hq : f57 (963 % 962) (Z14 57 963) := hq; unfold f57 at hq; omega
          have b18 : (-2147483648) ≤ Z14 57 963 ∧ Z14 57 963 ≤ 2147483647 := hG14.pr 57 963
          have b19 : 0 ≤ Z14 57 1925 ∧ Z14 57 1925 ≤ 18 := by have hq := GI_ex hG14 57 1925; replace hq : f57 (1925 % 962) (Z14 57 1925) := hq; unfold f57 at hq; omega
          have b20 : (-2147483648) ≤ Z14 57 1925 ∧ Z14 57 1925 ≤ 2147483647 := hG14.pr 57 1925
          refine mx_J.step (sn_225 34) (fun _ _ => rfl) ?_
          refine mx_J.step (sn_225 36) (fun _ _ => rfl) ?_
          refine Jicmp_ge (show mx_Sn _ _ 37 (mx_icmp_ge 74 40) from sn_225 37) (by omega) (by omega) (fun q21 => ?_) (fun q21 => ?_)
          · skip
            refine mx_J.step (sn_225 74) (fun _ _ => rfl) ?_
            have c82 : ∀  (Z23 : xZ) (h23 : mx_H), (Z23 57 1 = Z 57 1 ∧ Z23 57 963 = Z 57 963 ∧ Z23 57 1925 = Z 57 1925) → XH n s S Z23 h23 → GI n S Z23 → fr' [(57, (-1))] Z14 Z23 → mx_J (tB l D b0 ad Hb tau) mt_225 (d + 7) 82 [some (.ref 56), some (xI x0), some (xI x1), some (xI w13_3), some (xI w13_4), u13_5] [] h23 Post := by
              intro Z23 h23 f22_0 hx23 hG23 hf23
              have b24 : 0 ≤ Z23 57 1 ∧ Z23 57 1 ≤ 18 := by have hq := GI_ex hG23 57 1; replace hq : f57 (1 % 962) (Z23 57 1) := hq; unfold f57 at hq; omega
              have b25 : (-2147483648) ≤ Z23 57 1 ∧ Z23 57 1 ≤ 2147483647 := hG23.pr 57 1
              have b26 : 0 ≤ Z23 57 963 ∧ Z23 57 963 ≤ 18 := by have hq := GI_ex hG23 57 963; replace hq : f57 (963 % 962) (Z23 57 963) := hq; unfold f57 at hq; omega
              have b27 : (-2147483648) ≤ Z23 57 963 ∧ Z23 57 963 ≤ 2147483647 := hG23.pr 57 963
              have b28 : 0 ≤ Z23 57 1925 ∧ Z23 57 1925 ≤ 18 := by have hq := GI_ex hG23 57 1925; replace hq : f57 (1925 % 962) (Z23 57 1925) := hq; unfold f57 at hq; omega
              have b29 : (-2147483648) ≤ Z23 57 1925 ∧ Z23 57 1925 ≤ 2147483647 := hG23.pr 57 1925
              refine mx_J.step (sn_225 82) (fun _ _ => rfl) ?_
              exact mx_J.ret (sn_225 83) (fun _ _ => rfl) (hP w13_3 Z23 h23 hx23 hG23 (fr_tr (M := [(56, 0), (56, 23), (57, (-1)), (62, (-1)), (64, (-1)), (65, (-1)), (66, (-1))]) (fr_tr (M := [(56, 0), (56, 23), (57, (-1)), (62, (-1)), (64, (-1)), (65, (-1)), (66, (-1))]) (fr_tr (M := [(56, 0), (56, 23), (57, (-1)), (62, (-1)), (64, (-1)), (65, (-1)), (66, (-1))]) (fr_tr (M := [(56, 0), (56, 23), (57, (-1)), (62, (-1)), (64, (-1)), (65, (-1)), (66, (-1))]) (fr_tr (M := [(56, 0), (56, 23), (57, (-1)), (62, (-1)), (64, (-1)), (65, (-1)), (66, (-1))]) fr_rf (fr_up hE1) (M1 := []) rfl rfl) (hf4) rfl rfl) (fr_up hE12) rfl rfl) (hf14) rfl rfl) (hf23) rfl rfl) (by omega))
            refine Jif_le (show mx_Sn _ _ 75 (mx_if_le 82 78) from sn_225 75) (by omega) (fun q30 => ?_) (fun q30 => ?_)
            · skip
              exact c82 Z14 h14 (by omega) hx14 hG14 fr_rf
            · skip
              refine mx_J.step (sn_225 78) (fun _ _ => rfl) ?_
              have eq32 : Z14 66 0 = Z4 66 0 := ((hf14 66 0 rfl).trans (up_nk hE12 rfl))
              have eq33 : Z14 56 18 = Z 56 18 := ((hf14 56 18 rfl).trans ((up_ni hE12 (by decide)).trans ((hf4 56 18 rfl).trans (up_ni hE1 (by decide)))))
              obtain ⟨Z31, h31, hc31, hx31, hG31, hf31, b31⟩ := ct_204_56 (d := d + 6) (l := l) (D := D) (b0 := b0) (ad := ad) (Hb := Hb) (tau := tau) hx14 hG14  (show Z14 66 0 < Z14 56 18 by first | omega | (simp only [eq32, eq33]; omega))
              try rw [eq32] at b31
              try rw [eq33] at b31
              have b34 : 0 ≤ Z31 57 1 ∧ Z31 57 1 ≤ 18 := by have hq := GI_ex hG31 57 1; replace hq : f57 (1 % 962) (Z31 57 1) := hq; unfold f57 at hq; omega
              have b35 : (-2147483648) ≤ Z31 57 1 ∧ Z31 57 1 ≤ 2147483647 := hG31.pr 57 1
              have b36 : 0 ≤ Z31 57 963 ∧ Z31 57 963 ≤ 18 := by have hq := GI_ex hG31 57 963; replace hq : f57 (963 % 962) (Z31 57 963) := hq; unfold f57 at hq; omega
              have b37 : (-2147483648) ≤ Z31 57 963 ∧ Z31 57 963 ≤ 2147483647 := hG31.pr 57 963
              have b38 : 0 ≤ Z31 57 1925 ∧ Z31 57 1925 ≤ 18 := by have hq := GI_ex hG31 57 1925; replace hq : f57 (1925 % 962) (Z31 57 1925) := hq; unfold f57 at hq; omega
              have b39 : (-2147483648) ≤ Z31 57 1925 ∧ Z31 57 1925 ≤ 2147483647 := hG31.pr 57 1925
              refine Jcv0 hx14 (show mx_Sn _ _ 79 (mx_callv 204 1 12 82) from sn_225 79) a56 s56 hc31 rfl rfl rfl ?_
              exact c82 Z31 h31 (by omega) hx31 hG31 (fr_tr (M := [(57, (-1))]) fr_rf (hf31) (M1 := []) rfl rfl)
          · skip
            refine mx_J.step (sn_225 40) (fun _ _ => rfl) ?_
            obtain ⟨z40, Z40, h40, hc40, hx40, hG40, hf40, b40⟩ := ct_224_56 (d := d + 5) (l := l) (D := D) (b0 := b0) (ad := ad) (Hb := Hb) (tau := tau) hx14 hG14 
            refine Jcv hx14 (show mx_Sn _ _ 41 (mx_callv 224 1 12 44) from sn_225 41) a56 s56 hc40 rfl rfl rfl ?_
            refine mx_J.step (ls2 := [some (.ref 56), some (xI x0), some (xI x1), some (xI w13_3), some (xI w13_4), some (xI z40)]) (sn_225 44) (fun _ _ => rfl) ?_
            refine mx_J.step (sn_225 46) (fun _ _ => rfl) ?_
            refine mx_J.step (sn_225 47) (fun _ _ => rfl) ?_
            refine Ji2l (show mx_Sn _ _ 49 (mx_i2l 50) from sn_225 49) (by omega) ?_
            have eq42 : Z40 57 27 = Z14 57 27 := (hf40 57 27 rfl)
            have b43 := GI_st hG14 27
            have eq44 : Z14 56 18 = Z 56 18 := ((hf14 56 18 rfl).trans ((up_ni hE12 (by decide)).trans ((hf4 56 18 rfl).trans (up_ni hE1 (by decide)))))
            have b45 : 0 ≤ Z14 57 27 ∧ Z14 57 27 ≤ 384 := by have hq := GI_ex hG14 57 27; replace hq : f57 (27 % 962) (Z14 57 27) := hq; unfold f57 at hq; omega
            have b46 : (-2147483648) ≤ Z14 57 27 ∧ Z14 57 27 ≤ 2147483647 := hG14.pr 57 27
            have eq47 : hv Z40 (Z40 57 27) ((z40 - 1000) / 100) = hv Z (Z14 57 27) ((z40 - 1000) / 100) := by rw [(show Z40 57 27 = Z14 57 27 from (hf40 57 27 rfl))]; exact ((hv_c (fun i => hf40 61 i rfl)).trans ((hv_c (fun i => hf14 61 i rfl)).trans ((hv_c (fun i => up_nk hE12 rfl)).trans ((hv_c (fun i => hf4 61 i rfl)).trans (hv_c (fun i => up_nk hE1 rfl))))))
            have eq48 : hv Z40 (Z14 57 27) ((z40 - 1000) / 100) = hv Z (Z14 57 27) ((z40 - 1000) / 100) := ((hv_c (fun i => hf40 61 i rfl)).trans ((hv_c (fun i => hf14 61 i rfl)).trans ((hv_c (fun i => up_nk hE12 rfl)).trans ((hv_c (fun i => hf4 61 i rfl)).trans (hv_c (fun i => up_nk hE1 rfl))))))
            have eq49 : hv Z40 (Z40 57 27) ((z40 - 3000) / 100) = hv Z (Z14 57 27) ((z40 - 3000) / 100) := by rw [(show Z40 57 27 = Z14 57 27 from (hf40 57 27 rfl))]; exact ((hv_c (fun i => hf40 61 i rfl)).trans ((hv_c (fun i => hf14 61 i rfl)).trans ((hv_c (fun i => up_nk hE12 rfl)).trans ((hv_c (fun i => hf4 61 i rfl)).trans (hv_c (fun i => up_nk hE1 rfl))))))
            have eq50 : hv Z40 (Z14 57 27) ((z40 - 3000) / 100) = hv Z (Z14 57 27) ((z40 - 3000) / 100) := ((hv_c (fun i => hf40 61 i rfl)).trans ((hv_c (fun i => hf14 61 i rfl)).trans ((hv_c (fun i => up_nk hE12 rfl)).trans ((hv_c (fun i => hf4 61 i rfl)).trans (hv_c (fun i => up_nk hE1 rfl))))))
            have eq51 : hv Z40 (Z40 57 27) (z40 % 100) = hv Z (Z14 57 27) (z40 % 100) := by rw [(show Z40 57 27 = Z14 57 27 from (hf40 57 27 rfl))]; exact ((hv_c (fun i => hf40 61 i rfl)).trans ((hv_c (fun i => hf14 61 i rfl)).trans ((hv_c (fun i => up_nk hE12 rfl)).trans ((hv_c (fun i => hf4 61 i rfl)).trans (hv_c (fun i => up_nk hE1 rfl))))))
            have eq52 : hv Z40 (Z14 57 27) (z40 % 100) = hv Z (Z14 57 27) (z40 % 100) := ((hv_c (fun i => hf40 61 i rfl)).trans ((hv_c (fun i => hf14 61 i rfl)).trans ((hv_c (fun i => up_nk hE12 rfl)).trans ((hv_c (fun i => hf4 61 i rfl)).trans (hv_c (fun i => up_nk hE1 rfl))))))
            obtain ⟨z41, hc41, b41⟩ := ct_217_56 (d := d + 3) (l := l) (D := D) (b0 := b0) (ad := ad) (Hb := Hb) (tau := tau) hx40 hG40 (show (-9223372036854775808) ≤ z40 ∧ z40 ≤ 9223372036854775807 by omega)
            try rw [eq42] at b41
            refine Jcv hx40 (show mx_Sn _ _ 50 (mx_callv 217 2 12 53) from sn_225 50) a56 s56 hc41 rfl rfl rfl ?_
            have c68 : ∀ (w53_3 : Int) (Z54 : xZ) (h54 : mx_H), (-2147483648) ≤ w53_3 ∧ w53_3 ≤ 2147483647 → (Z54 57 1 = Z 57 1 ∧ Z54 57 963 = Z 57 963 ∧ Z54 57 1925 = Z 57 1925) → XH n s S Z54 h54 → GI n S Z54 → fr' [(57, (-1)), (62, (-1)), (64, (-1)), (65, (-1))] Z40 Z54 → mx_J (tB l D b0 ad Hb tau) mt_225 (d + 7) 68 [some (.ref 56), some (xI x0), some (xI x1), some (xI w53_3), some (xI w13_4), some (xI z40)] [] h54 Post := by
              intro w53_3 Z54 h54 f53_0 f53_1 hx54 hG54 hf54
              have b55 : 0 ≤ Z54 57 1 ∧ Z54 57 1 ≤ 18 := by have hq := GI_ex hG54 57 1; replace hq : f57 (1 % 962) (Z54 57 1) := hq; unfold f57 at hq; omega
              have b56 : (-2147483648) ≤ Z54 57 1 ∧ Z54 57 1 ≤ 2147483647 := hG54.pr 57 1
              have b57 : 0 ≤ Z54 57 963 ∧ Z54 57 963 ≤ 18 := by have hq := GI_ex hG54 57 963; replace hq : f57 (963 % 962) (Z54 57 963) := hq; unfold f57 at hq; omega
              have b58 : (-2147483648) ≤ Z54 57 963 ∧ Z54 57 963 ≤ 2147483647 := hG54.pr 57 963
              have b59 : 0 ≤ Z54 57 1925 ∧ Z54 57 1925 ≤ 18 := by have hq := GI_ex hG54 57 1925; replace hq : f57 (1925 % 962) (Z54 57 1925) := hq; unfold f57 at hq; omega
              have b60 : (-2147483648) ≤ Z54 57 1925 ∧ Z54 57 1925 ≤ 2147483647 := hG54.pr 57 1925
              refine Jiinc (z := w13_4) (cz := 1) (ls2 := [some (.ref 56), some (xI x0), some (xI x1), some (xI w53_3), some (xI (w13_4 + 1)), some (xI z40)]) (show mx_Sn _ _ 68 (mx_iinc 4 1 71) from sn_225 68) rfl rfl rfl rfl ?_
              refine mx_J.step (sn_225 71) (fun _ _ => rfl) ?_
              exact ih13 w53_3 (w13_4 + 1) (some (xI z40)) Z54 h54 (by omega) (by omega) (by omega) (by omega) hx54 hG54 (fr_tr (M := [(56, 23), (57, (-1)), (62, (-1)), (64, (-1)), (65, (-1))]) (fr_tr (M := [(56, 23), (57, (-1)), (62, (-1)), (64, (-1)), (65, (-1))]) (fr_tr (M := [(56, 23), (57, (-1)), (62, (-1)), (64, (-1)), (65, (-1))]) fr_rf (hf14) (M1 := []) rfl rfl) (hf40) rfl rfl) (hf54) rfl rfl)
            refine Jif_eq (show mx_Sn _ _ 53 (mx_if_eq 59 56) from sn_225 53) (by omega) (fun q61 => ?_) (fun q61 => ?_)
            · skip
              refine mx_J.step (sn_225 59) (fun _ _ => rfl) ?_
              refine mx_J.step (sn_225 60) (fun _ _ => rfl) ?_
              have eq63 : Z40 57 27 = Z14 57 27 := (hf40 57 27 rfl)
              have eq64 : hv Z40 (Z40 57 27) ((z40 - 1000) / 100) = hv Z (Z14 57 27) ((z40 - 1000) / 100) := by rw [(show Z40 57 27 = Z14 57 27 from (hf40 57 27 rfl))]; exact ((hv_c (fun i => hf40 61 i rfl)).trans ((hv_c (fun i => hf14 61 i rfl)).trans ((hv_c (fun i => up_nk hE12 rfl)).trans ((hv_c (fun i => hf4 61 i rfl)).trans (hv_c (fun i => up_nk hE1 rfl))))))
              have eq65 : hv Z40 (Z14 57 27) ((z40 - 1000) / 100) = hv Z (Z14 57 27) ((z40 - 1000) / 100) := ((hv_c (fun i => hf40 61 i rfl)).trans ((hv_c (fun i => hf14 61 i rfl)).trans ((hv_c (fun i => up_nk hE12 rfl)).trans ((hv_c (fun i => hf4 61 i rfl)).trans (hv_c (fun i => up_nk hE1 rfl))))))
              have eq66 : hv Z40 (Z40 57 27) ((z40 - 3000) / 100) = hv Z (Z14 57 27) ((z40 - 3000) / 100) := by rw [(show Z40 57 27 = Z14 57 27 from (hf40 57 27 rfl))]; exact ((hv_c (fun i => hf40 61 i rfl)).trans ((hv_c (fun i => hf14 61 i rfl)).trans ((hv_c (fun i => up_nk hE12 rfl)).trans ((hv_c (fun i => hf4 61 i rfl)).trans (hv_c (fun i => up_nk hE1 rfl))))))
              have eq67 : hv Z40 (Z14 57 27) ((z40 - 3000) / 100) = hv Z (Z14 57 27) ((z40 - 3000) / 100) := ((hv_c (fun i => hf40 61 i rfl)).trans ((hv_c (fun i => hf14 61 i rfl)).trans ((hv_c (fun i => up_nk hE12 rfl)).trans ((hv_c (fun i => hf4 61 i rfl)).trans (hv_c (fun i => up_nk hE1 rfl))))))
              have eq68 : hv Z40 (Z40 57 27) (z40 % 100) = hv Z (Z14 57 27) (z40 % 100) := by rw [(show Z40 57 27 = Z14 57 27 from (hf40 57 27 rfl))]; exact ((hv_c (fun i => hf40 61 i rfl)).trans ((hv_c (fun i => hf14 61 i rfl)).trans ((hv_c (fun i => up_nk hE12 rfl)).trans ((hv_c (fun i => hf4 61 i rfl)).trans (hv_c (fun i => up_nk hE1 rfl))))))
              have eq69 : hv Z40 (Z14 57 27) (z40 % 100) = hv Z (Z14 57 27) (z40 % 100) := ((hv_c (fun i => hf40 61 i rfl)).trans ((hv_c (fun i => hf14 61 i rfl)).trans ((hv_c (fun i => up_nk hE12 rfl)).trans ((hv_c (fun i => hf4 61 i rfl)).trans (hv_c (fun i => up_nk hE1 rfl))))))
              have eq70 : Z40 57 1 = Z14 57 1 := (hf40 57 1 rfl)
              have eq71 : Z40 57 963 = Z14 57 963 := (hf40 57 963 rfl)
              have eq72 : Z40 57 1925 = Z14 57 1925 := (hf40 57 1925 rfl)
              obtain ⟨Z62, h62, hc62, hx62, hG62, hf62, b62⟩ := ct_218_56 (d := d + 0) (l := l) (D := D) (b0 := b0) (ad := ad) (Hb := Hb) (tau := tau) hx40 hG40 (show 0 ≤ z40 ∧ z40 ≤ 4999 by omega) (show ((0 ≤ z40 ∧ z40 ≤ 18) ∨ (20 ≤ z40 ∧ z40 ≤ 29) ∨ (1000 ≤ z40 ∧ z40 ≤ 2999 ∧ 1 ≤ (z40 - 1000) / 100 ∧ 1 ≤ z40 % 100 ∧ z40 % 100 ≤ (z40 - 1000) / 100 - 1 ∧ (z40 - 1000) / 100 ≤ 18 ∧ hv Z40 (Z40 57 27) ((z40 - 1000) / 100) = 1) ∨ (3000 ≤ z40 ∧ z40 ≤ 4999 ∧ 1 ≤ (z40 - 3000) / 100 ∧ (z40 - 3000) / 100 ≤ 18 ∧ 1 ≤ z40 % 100 ∧ z40 % 100 ≤ 18 ∧ hv Z40 (Z40 57 27) ((z40 - 3000) / 100) = 1 ∧ hv Z40 (Z40 57 27) (z40 % 100) = 1)) by first | omega | (simp only [eq63, eq70, eq71, eq72]; omega))
              try rw [eq63] at b62
              try rw [eq70] at b62
              try rw [eq71] at b62
              try rw [eq72] at b62
              have b73 : 0 ≤ Z62 57 1 ∧ Z62 57 1 ≤ 18 := by have hq := GI_ex hG62 57 1; replace hq : f57 (1 % 962) (Z62 57 1) := hq; unfold f57 at hq; omega
              have b74 : (-2147483648) ≤ Z62 57 1 ∧ Z62 57 1 ≤ 2147483647 := hG62.pr 57 1
              have b75 : 0 ≤ Z62 57 963 ∧ Z62 57 963 ≤ 18 := by have hq := GI_ex hG62 57 963; replace hq : f57 (963 % 962) (Z62 57 963) := hq; unfold f57 at hq; omega
              have b76 : (-2147483648) ≤ Z62 57 963 ∧ Z62 57 963 ≤ 2147483647 := hG62.pr 57 963
              have b77 : 0 ≤ Z62 57 1925 ∧ Z62 57 1925 ≤ 18 := by have hq := GI_ex hG62 57 1925; replace hq : f57 (1925 % 962) (Z62 57 1925) := hq; unfold f57 at hq; omega
              have b78 : (-2147483648) ≤ Z62 57 1925 ∧ Z62 57 1925 ≤ 2147483647 := hG62.pr 57 1925
              refine Jcv0 hx40 (show mx_Sn _ _ 62 (mx_callv 218 2 12 65) from sn_225 62) a56 s56 hc62 rfl rfl rfl ?_
              refine JiincN (z := w13_3) (cz := 1) (show mx_Sn _ _ 65 (mx_iinc 3 1 68) from sn_225 65) rfl rfl rfl (fun y79 hy79 hq79 => ?_)
              show mx_J _ _ _ _ [some (.ref 56), some (xI x0), some (xI x1), some (xI y79), some (xI w13_4), some (xI z40)] _ _ _
              exact c68 y79 Z62 h62 (by omega) (by omega) hx62 hG62 (fr_tr (M := [(57, (-1)), (62, (-1)), (64, (-1)), (65, (-1))]) fr_rf (hf62) (M1 := []) rfl rfl)
            · skip
              refine mx_J.step (sn_225 56) (fun _ _ => rfl) ?_
              have eq80 : Z40 57 1 = Z14 57 1 := (hf40 57 1 rfl)
              have eq81 : Z40 57 963 = Z14 57 963 := (hf40 57 963 rfl)
              have eq82 : Z40 57 1925 = Z14 57 1925 := (hf40 57 1925 rfl)
              exact c68 w13_3 Z40 h40 (by omega) (by omega) hx40 hG40 fr_rf
      have eq83 : Z12 57 1 = Z 57 1 := ((up_nk hE12 rfl).trans ((hf4 57 1 rfl).trans (up_nk hE1 rfl)))
      have b84 : 0 ≤ Z 57 1 ∧ Z 57 1 ≤ 18 := by have hq := GI_ex hG 57 1; replace hq : f57 (1 % 962) (Z 57 1) := hq; unfold f57 at hq; omega
      have b85 : (-2147483648) ≤ Z 57 1 ∧ Z 57 1 ≤ 2147483647 := hG.pr 57 1
      have eq86 : Z12 57 963 = Z 57 963 := ((up_nk hE12 rfl).trans ((hf4 57 963 rfl).trans (up_nk hE1 rfl)))
      have b87 : 0 ≤ Z 57 963 ∧ Z 57 963 ≤ 18 := by have hq := GI_ex hG 57 963; replace hq : f57 (963 % 962) (Z 57 963) := hq; unfold f57 at hq; omega
      have b88 : (-2147483648) ≤ Z 57 963 ∧ Z 57 963 ≤ 2147483647 := hG.pr 57 963
      have eq89 : Z12 57 1925 = Z 57 1925 := ((up_nk hE12 rfl).trans ((hf4 57 1925 rfl).trans (up_nk hE1 rfl)))
      have b90 : 0 ≤ Z 57 1925 ∧ Z 57 1925 ≤ 18 := by have hq := GI_ex hG 57 1925; replace hq : f57 (1925 % 962) (Z 57 1925) := hq; unfold f57 at hq; omega
      have b91 : (-2147483648) ≤ Z 57 1925 ∧ Z 57 1925 ≤ 2147483647 := hG.pr 57 1925
      exact c34 (Int.toNat (40 - 0) + 1) 0 0 none Z12 h12 (by omega) (by omega) (by omega) (by omega) hx12 hG12 fr_rf
    · skip
      refine JcI (z := (-3)) (show mx_Sn _ _ 17 (mx_const (.int (-3)) 19) from sn_225 17) rfl ?_
      have eq92 : Z1 57 1 = Z 57 1 := (up_nk hE1 rfl)
      have b93 : 0 ≤ Z 57 1 ∧ Z 57 1 ≤ 18 := by have hq := GI_ex hG 57 1; replace hq : f57 (1 % 962) (Z 57 1) := hq; unfold f57 at hq; omega
      have b94 : (-2147483648) ≤ Z 57 1 ∧ Z 57 1 ≤ 2147483647 := hG.pr 57 1
      have eq95 : Z1 57 963 = Z 57 963 := (up_nk hE1 rfl)
      have b96 : 0 ≤ Z 57 963 ∧ Z 57 963 ≤ 18 := by have hq := GI_ex hG 57 963; replace hq : f57 (963 % 962) (Z 57 963) := hq; unfold f57 at hq; omega
      have b97 : (-2147483648) ≤ Z 57 963 ∧ Z 57 963 ≤ 2147483647 := hG.pr 57 963
      have eq98 : Z1 57 1925 = Z 57 1925 := (up_nk hE1 rfl)
      have b99 : 0 ≤ Z 57 1925 ∧ Z 57 1925 ≤ 18 := by have hq := GI_ex hG 57 1925; replace hq : f57 (1925 % 962) (Z 57 1925) := hq; unfold f57 at hq; omega
      have b100 : (-2147483648) ≤ Z 57 1925 ∧ Z 57 1925 ≤ 2147483647 := hG.pr 57 1925
      have eq101 : Z1 57 1 = Z 57 1 := (up_nk hE1 rfl)
      have eq102 : Z1 57 963 = Z 57 963 := (up_nk hE1 rfl)
      have eq103 : Z1 57 1925 = Z 57 1925 := (up_nk hE1 rfl)
      exact mx_J.ret (sn_225 19) (fun _ _ => rfl) (hP (-3) Z1 h1 hx1 hG1 (fr_tr (M := [(56, 0), (56, 23), (57, (-1)), (62, (-1)), (64, (-1)), (65, (-1)), (66, (-1))]) fr_rf (fr_up hE1) (M1 := []) rfl rfl) (by omega))
theorem ct_225_56 {l : Launch} {D : va_G} {b0 : Nat} {ad : Nat → Nat} {Hb : Heap} {tau : Nat → Int64} {d n s : Nat} {S : Nat → xS} {Z : xZ} {h : mx_H} (hx : XH n s S Z h) (hG : GI n S Z)  {x0 x1 : Int} (p0 : (-2147483648) ≤ x0 ∧ x0 ≤ 2147483647) (p1 : (-2147483648) ≤ x1 ∧ x1 ≤ 2147483647) : ∃ (z : Int) (Z' : xZ) (h' : mx_H), mx_Ca (tB l D b0 ad Hb tau) (d + 8) 225 [.ref 56, xI x0, xI x1] h (some (xI z), h') ∧ XH n s S Z' h' ∧ GI n S Z' ∧ fr' [(56, 0), (56, 23), (57, (-1)), (62, (-1)), (64, (-1)), (65, (-1)), (66, (-1))] Z Z' ∧ ((-2147483648) ≤ z ∧ z ≤ 2147483647 ∧ (Z' 57 1 = Z 57 1 ∧ Z' 57 963 = Z 57 963 ∧ Z' 57 1925 = Z 57 1925)) := by
  obtain ⟨r, hca, z, Z', h', e, q⟩ := Jmt (B := tB l D b0 ad Hb tau) (M := mt_225) (mi := 225) (as := [.ref 56, xI x0, xI x1]) (d := d + 7) (ls := [some (.ref 56), some (xI x0), some (xI x1), none, none, none]) rfl rfl rfl rfl rfl rfl (cw_225_56 (l := l) (D := D) (b0 := b0) (ad := ad) (Hb := Hb) (tau := tau) (d := d) (Post := fun r => ∃ (z : Int) (Z' : xZ) (h' : mx_H), r = (some (xI z), h') ∧ XH n s S Z' h' ∧ GI n S Z' ∧ fr' [(56, 0), (56, 23), (57, (-1)), (62, (-1)), (64, (-1)), (65, (-1)), (66, (-1))] Z Z' ∧ ((-2147483648) ≤ z ∧ z ≤ 2147483647 ∧ (Z' 57 1 = Z 57 1 ∧ Z' 57 963 = Z 57 963 ∧ Z' 57 1925 = Z 57 1925))) hx hG p0 p1 (fun z Z' h' q1 q2 q3 q4 => ⟨z, Z', h', rfl, q1, q2, q3, q4⟩))
  subst e; exact ⟨z, Z', h', hca, q⟩
set_option maxRecDepth 100000 in
theorem cw_226_56 {l : Launch} {D : va_G} {b0 : Nat} {ad : Nat → Nat} {Hb : Heap} {tau : Nat → Int64} {d n s : Nat} {S : Nat → xS} {Z : xZ} {h : mx_H} {Post : mx_R → Prop} (hx : XH n s S Z h) (hG : GI n S Z)   (hP : ∀ (Z' : xZ) (h' : mx_H), XH n s S Z' h' → GI n S Z' → fr' [(62, (-1)), (64, (-1)), (65, (-1)), (67, (-1))] Z Z' → (ai 67 Z' (Z 56 18) 0 (Z 56 18 - 1) = 1) → Post (none, h')) : mx_J (tB l D b0 ad Hb tau) mt_226 (d + 5) 0 [some (.ref 56), none] [] h Post := by
    have a56 : 56 < n := lt83 (GI_n hG) rfl
    have s56 : S 56 = .inl (12, [0, 2, 2, 2, 2, 0, 0, 0, 0, 0, 0, 0, 0, 0, 0, 2, 2, 2, 0, 2, 2, 2, 0, 0, 2, 2, 2, 2, 2, 2, 0, 0, 2, 2, 2, 2, 2, 2, 2, 2, 2, 2]) := GI_s hG 56 rfl
    have a57 : 57 < n := lt83 (GI_n hG) rfl
    have s57 : S 57 = .inr (.int, 2886, 0) := GI_s hG 57 rfl
    have a67 : 67 < n := lt83 (GI_n hG) rfl
    have s67 : S 67 = .inr (.int, 385, 0) := GI_s hG 67 rfl
    refine JcI (z := 0) (show mx_Sn _ _ 0 (mx_const (.int 0) 1) from sn_226 0) rfl ?_
    refine mx_J.step (ls2 := [some (.ref 56), some (xI 0)]) (sn_226 1) (fun _ _ => rfl) ?_
    have c2 : ∀ (m1 : Nat) (w1_1 : Int) (Z2 : xZ) (h2 : mx_H), 385 - w1_1 < (m1 : Int) → 0 ≤ w1_1 ∧ w1_1 ≤ 385 → ai 67 Z2 w1_1 0 (Z 56 18 - 1) = 1 → XH n s S Z2 h2 → GI n S Z2 → fr' [(62, (-1)), (64, (-1)), (65, (-1)), (67, (-1))] Z Z2 → mx_J (tB l D b0 ad Hb tau) mt_226 (d + 5) 2 [some (.ref 56), some (xI w1_1)] [] h2 Post := by
      intro m1
      induction m1 with
      | zero => intro w1_1 Z2 h2 q1 f1_0 f1_1 hx2 hG2 hf2; exact absurd q1 (by omega)
      | succ m1 ih1 =>
        intro w1_1 Z2 h2 q1 f1_0 f1_1 hx2 hG2 hf2
        refine mx_J.step (sn_226 2) (fun _ _ => rfl) ?_
        refine mx_J.step (sn_226 3) (fun _ _ => rfl) ?_
        have b4 : 0 ≤ Z 56 18 ∧ Z 56 18 ≤ 385 := hG.pr 56 18
        refine JgetI (g := 18) (z := Z 56 18) hx2 (show mx_Sn _ _ 4 (mx_getf 12 18 7) from sn_226 4) a56 s56 rfl rfl (hf2 56 18 rfl) ?_
        refine Jicmp_ge (show mx_Sn _ _ 7 (mx_icmp_ge 35 10) from sn_226 7) (by omega) (by omega) (fun q5 => ?_) (fun q5 => ?_)
        · skip
          have af : ai 67 Z2 (Z 56 18) 0 (Z 56 18 - 1) = 1 := ai_m (len := w1_1) (by assumption) (by omega) (by omega) (by omega)
          have eq6 : Z2 56 18 = Z 56 18 := (hf2 56 18 rfl)
          exact mx_J.ret (sn_226 35) (fun _ _ => rfl) (hP Z2 h2 hx2 hG2 (fr_tr (M := [(62, (-1)), (64, (-1)), (65, (-1)), (67, (-1))]) fr_rf (hf2) (M1 := []) rfl rfl) (by omega))
        · skip
          refine mx_J.step (sn_226 10) (fun _ _ => rfl) ?_
          refine JgetR (g := 24) (b := 67) hx2 (show mx_Sn _ _ 11 (mx_getf 12 24 14) from sn_226 11) a56 s56 rfl rfl (hG2.prr 56 24 rfl) ?_
          refine mx_J.step (sn_226 14) (fun _ _ => rfl) ?_
          refine mx_J.step (sn_226 15) (fun _ _ => rfl) ?_
          refine mx_J.step (sn_226 16) (fun _ _ => rfl) ?_
          refine JcI (z := 0) (show mx_Sn _ _ 17 (mx_const (.int 0) 18) from sn_226 17) rfl ?_
          refine mx_J.step (sn_226 18) (fun _ _ => rfl) ?_
          refine JgetR (g := 1) (b := 57) hx2 (show mx_Sn _ _ 19 (mx_getf 12 1 22) from sn_226 19) a56 s56 rfl rfl (hG2.prr 56 1 rfl) ?_
          refine JcI (z := 28) (show mx_Sn _ _ 22 (mx_const (.int 28) 24) from sn_226 22) rfl ?_
          have b9 : 0 ≤ Z 57 28 ∧ Z 57 28 ≤ 9 := by have hq := GI_ex hG 57 28; replace hq : f57 (28 % 962) (Z 57 28) := hq; unfold f57 at hq; omega
          have b10 : (-2147483648) ≤ Z 57 28 ∧ Z 57 28 ≤ 2147483647 := hG.pr 57 28
          refine JialdI (z := Z 57 28) hx2 (show mx_Sn _ _ 24 (mx_iald 25) from sn_226 24) a57 s57 (by omega) (hf2 57 28 rfl) ?_
          have eq12 : Z2 56 18 = Z 56 18 := (hf2 56 18 rfl)
          obtain ⟨z11, Z11, h11, hc11, hx11, hG11, hf11, b11⟩ := ct_198_56 (d := d + 0) (l := l) (D := D) (b0 := b0) (ad := ad) (Hb := Hb) (tau := tau) hx2 hG2 (show 0 ≤ w1_1 ∧ w1_1 ≤ 384 by omega) (show (-2147483648) ≤ 0 ∧ 0 ≤ 2147483647 by omega) (show 0 ≤ Z 57 28 ∧ Z 57 28 ≤ 9 by omega)
          try rw [eq12] at b11
          refine Jcv hx2 (show mx_Sn _ _ 25 (mx_callv 198 4 12 28) from sn_226 25) a56 s56 hc11 rfl rfl rfl ?_
          have eq13 : (ai 67) Z11 w1_1 0 (Z 56 18 - 1) = (ai 67) Z2 w1_1 0 (Z 56 18 - 1) := (ai_c (fun i => hf11 67 i rfl))
          refine JiastI hx11 (show mx_Sn _ _ 28 (mx_iast 1 29) from sn_226 28) a67 s67 rfl (by omega) (fun Z14 h14 hx14 hE14 => ?_)
          have hG14 := GI_up hG11 hE14 (show 0 ≤ z11 ∧ z11 ≤ 384 by omega) trivial rfl
          have as1 : ai 67 Z14 (w1_1 + 1) 0 (Z 56 18 - 1) = 1 := ai_s (Z := Z11) (len := w1_1) (by omega) hE14 rfl (by omega) rfl
          refine Jiinc (z := w1_1) (cz := 1) (ls2 := [some (.ref 56), some (xI (w1_1 + 1))]) (show mx_Sn _ _ 29 (mx_iinc 1 1 32) from sn_226 29) rfl rfl rfl rfl ?_
          refine mx_J.step (sn_226 32) (fun _ _ => rfl) ?_
          exact ih1 (w1_1 + 1) Z14 h14 (by omega) (by omega) (by first | exact ai_0 (by omega) | assumption) hx14 hG14 (fr_tr (M := [(62, (-1)), (64, (-1)), (65, (-1)), (67, (-1))]) (fr_tr (M := [(62, (-1)), (64, (-1)), (65, (-1)), (67, (-1))]) (fr_tr (M := [(62, (-1)), (64, (-1)), (65, (-1)), (67, (-1))]) fr_rf (hf2) (M1 := []) rfl rfl) (hf11) rfl rfl) (fr_ua hE14) rfl rfl)
    exact c2 (Int.toNat (385 - 0) + 1) 0 Z h (by omega) (by omega) (by first | exact ai_0 (by omega) | assumption) hx hG fr_rf
theorem ct_226_56 {l : Launch} {D : va_G} {b0 : Nat} {ad : Nat → Nat} {Hb : Heap} {tau : Nat → Int64} {d n s : Nat} {S : Nat → xS} {Z : xZ} {h : mx_H} (hx : XH n s S Z h) (hG : GI n S Z)   : ∃ (Z' : xZ) (h' : mx_H), mx_Ca (tB l D b0 ad Hb tau) (d + 6) 226 [.ref 56] h (none, h') ∧ XH n s S Z' h' ∧ GI n S Z' ∧ fr' [(62, (-1)), (64, (-1)), (65, (-1)), (67, (-1))] Z Z' ∧ ((ai 67 Z' (Z 56 18) 0 (Z 56 18 - 1) = 1)) := by
  obtain ⟨r, hca, Z', h', e, q⟩ := Jmt (B := tB l D b0 ad Hb tau) (M := mt_226) (mi := 226) (as := [.ref 56]) (d := d + 5) (ls := [some (.ref 56), none]) rfl rfl rfl rfl rfl rfl (cw_226_56 (l := l) (D := D) (b0 := b0) (ad := ad) (Hb := Hb) (tau := tau) (d := d) (Post := fun r => ∃ (Z' : xZ) (h' : mx_H), r = (none, h') ∧ XH n s S Z' h' ∧ GI n S Z' ∧ fr' [(62, (-1)), (64, (-1)), (65, (-1)), (67, (-1))] Z Z' ∧ ((ai 67 Z' (Z 56 18) 0 (Z 56 18 - 1) = 1))) hx hG  (fun Z' h' q1 q2 q3 q4 => ⟨Z', h', rfl, q1, q2, q3, q4⟩))
  subst e; exact ⟨Z', h', hca, q⟩
set_option maxRecDepth 100000 in
theorem cw_227_56 {l : Launch} {D : va_G} {b0 : Nat} {ad : Nat → Nat} {Hb : Heap} {tau : Nat → Int64} {d n s : Nat} {S : Nat → xS} {Z : xZ} {h : mx_H} {Post : mx_R → Prop} (hx : XH n s S Z h) (hG : GI n S Z)  {x0 : Int} (p0 : 0 ≤ x0 ∧ x0 ≤ 384) (k0 : ai 67 Z (Z 56 18) 0 (Z 56 18 - 1) = 1) (k1 : x0 < Z 56 18) (hP : ∀ (Z' : xZ) (h' : mx_H), XH n s S Z' h' → GI n S Z' → fr' [(56, 30), (56, 31), (68, (-1)), (69, (-1))] Z Z' → (1 ≤ Z' 56 30 ∧ Z' 56 30 ≤ 385 ∧ 0 ≤ Z' 56 31 ∧ Z' 56 31 < Z' 56 30) → Post (none, h')) : mx_J (tB l D b0 ad Hb tau) mt_227 (d + 0) 0 [some (.ref 56), some (xI x0), none] [] h Post := by
    have a56 : 56 < n := lt83 (GI_n hG) rfl
    have s56 : S 56 = .inl (12, [0, 2, 2, 2, 2, 0, 0, 0, 0, 0, 0, 0, 0, 0, 0, 2, 2, 2, 0, 2, 2, 2, 0, 0, 2, 2, 2, 2, 2, 2, 0, 0, 2, 2, 2, 2, 2, 2, 2, 2, 2, 2]) := GI_s hG 56 rfl
    have a67 : 67 < n := lt83 (GI_n hG) rfl
    have s67 : S 67 = .inr (.int, 385, 0) := GI_s hG 67 rfl
    have a68 : 68 < n := lt83 (GI_n hG) rfl
    have s68 : S 68 = .inr (.int, 385, 0) := GI_s hG 68 rfl
    have a69 : 69 < n := lt83 (GI_n hG) rfl
    have s69 : S 69 = .inr (.int, 386, 0) := GI_s hG 69 rfl
    refine JcI (z := 0) (show mx_Sn _ _ 0 (mx_const (.int 0) 1) from sn_227 0) rfl ?_
    refine mx_J.step (ls2 := [some (.ref 56), some (xI x0), some (xI 0)]) (sn_227 1) (fun _ _ => rfl) ?_
    have c2 : ∀ (m1 : Nat) (w1_2 : Int) (Z2 : xZ) (h2 : mx_H), 385 - w1_2 < (m1 : Int) → 0 ≤ w1_2 ∧ w1_2 ≤ 385 → AB Z2 68 (w1_2) ((-1)) ((-1)) → XH n s S Z2 h2 → GI n S Z2 → fr' [(68, (-1))] Z Z2 → mx_J (tB l D b0 ad Hb tau) mt_227 (d + 0) 2 [some (.ref 56), some (xI x0), some (xI w1_2)] [] h2 Post := by
      intro m1
      induction m1 with
      | zero => intro w1_2 Z2 h2 q1 f1_0 f1_1 hx2 hG2 hf2; exact absurd q1 (by omega)
      | succ m1 ih1 =>
        intro w1_2 Z2 h2 q1 f1_0 f1_1 hx2 hG2 hf2
        refine mx_J.step (sn_227 2) (fun _ _ => rfl) ?_
        refine mx_J.step (sn_227 3) (fun _ _ => rfl) ?_
        have b4 : 0 ≤ Z 56 18 ∧ Z 56 18 ≤ 385 := hG.pr 56 18
        refine JgetI (g := 18) (z := Z 56 18) hx2 (show mx_Sn _ _ 4 (mx_getf 12 18 7) from sn_227 4) a56 s56 rfl rfl (hf2 56 18 rfl) ?_
        refine Jicmp_ge (show mx_Sn _ _ 7 (mx_icmp_ge 23 10) from sn_227 7) (by omega) (by omega) (fun q5 => ?_) (fun q5 => ?_)
        · skip
          have l0 : ai 68 Z2 (Z 56 18) (-1) (-1) = 1 := ai_y (ab_mono (show AB Z2 68 (w1_2) (-1) (-1) from by assumption) (by omega) (by omega) (by omega))
          have l1 : cn 68 (-1) Z2 (Z 56 18) = Z 56 18 := cn_a l0 (by omega)
          refine mx_J.step (sn_227 23) (fun _ _ => rfl) ?_
          refine mx_J.step (ls2 := [some (.ref 56), some (xI x0), some (xI x0)]) (sn_227 24) (fun _ _ => rfl) ?_
          refine mx_J.step (sn_227 25) (fun _ _ => rfl) ?_
          refine JcI (z := 0) (show mx_Sn _ _ 26 (mx_const (.int 0) 27) from sn_227 26) rfl ?_
          refine JputI (g := 30) hx2 (show mx_Sn _ _ 27 (mx_putf 1 12 30 (.int) 30) from sn_227 27) a56 s56 rfl rfl rfl rfl (fun Z6 h6 hx6 hE6 => ?_)
          have hG6 := GI_up hG2 hE6 (show 0 ≤ 0 ∧ 0 ≤ 386 by omega) trivial rfl
          have c30 : ∀ (m7 : Nat) (w7_2 : Int) (Z8 : xZ) (h8 : mx_H), (((cn 68 (-1) Z8 (Z 56 18)).toNat : Nat) : Int) < (m7 : Int) → 0 ≤ w7_2 ∧ w7_2 ≤ 384 → cn 68 (-1) Z8 (Z 56 18) = Z 56 18 - Z8 56 30 → ai 68 Z8 (Z 56 18) (-1) (Z8 56 30 - 1) = 1 → w7_2 < Z 56 18 → XH n s S Z8 h8 → GI n S Z8 → fr' [(56, 30), (68, (-1)), (69, (-1))] Z6 Z8 → mx_J (tB l D b0 ad Hb tau) mt_227 (d + 0) 30 [some (.ref 56), some (xI x0), some (xI w7_2)] [] h8 Post := by
            intro m7
            induction m7 with
            | zero => intro w7_2 Z8 h8 q7 f7_0 f7_1 f7_2 f7_3 hx8 hG8 hf8; exact absurd q7 (by omega)
            | succ m7 ih7 =>
              intro w7_2 Z8 h8 q7 f7_0 f7_1 f7_2 f7_3 hx8 hG8 hf8
              have b9 : 0 ≤ Z8 56 30 ∧ Z8 56 30 ≤ 386 := hG8.pr 56 30
              refine mx_J.step (sn_227 30) (fun _ _ => rfl) ?_
              refine JgetR (g := 25) (b := 68) hx8 (show mx_Sn _ _ 31 (mx_getf 12 25 34) from sn_227 31) a56 s56 rfl rfl (hG8.prr 56 25 rfl) ?_
              refine mx_J.step (sn_227 34) (fun _ _ => rfl) ?_
              have b11 : (-1) ≤ Z8 68 w7_2 ∧ Z8 68 w7_2 ≤ 385 := hG8.pr 68 w7_2
              refine JialdI (z := Z8 68 w7_2) hx8 (show mx_Sn _ _ 35 (mx_iald 36) from sn_227 35) a68 s68 (by omega) rfl ?_
              refine JcI (z := (-1)) (show mx_Sn _ _ 36 (mx_const (.int (-1)) 37) from sn_227 36) rfl ?_
              refine Jicmp_ne (show mx_Sn _ _ 37 (mx_icmp_ne 80 40) from sn_227 37) (by omega) (by omega) (fun q12 => ?_) (fun q12 => ?_)
              · skip
                have cb8 := cn_b (Z := Z8) (c := 68) (v := -1) (m := Z 56 18) (by omega)
                have av := ai_at (Z := Z8) (c := 68) (i := w7_2) (by assumption) (by omega)
                refine mx_J.step (sn_227 80) (fun _ _ => rfl) ?_
                refine mx_J.step (sn_227 81) (fun _ _ => rfl) ?_
                refine JgetR (g := 25) (b := 68) hx8 (show mx_Sn _ _ 82 (mx_getf 12 25 85) from sn_227 82) a56 s56 rfl rfl (hG8.prr 56 25 rfl) ?_
                refine mx_J.step (sn_227 85) (fun _ _ => rfl) ?_
                refine JialdI (z := Z8 68 w7_2) hx8 (show mx_Sn _ _ 86 (mx_iald 87) from sn_227 86) a68 s68 (by omega) rfl ?_
                refine JputI (g := 31) hx8 (show mx_Sn _ _ 87 (mx_putf 1 12 31 (.int) 90) from sn_227 87) a56 s56 rfl rfl rfl rfl (fun Z14 h14 hx14 hE14 => ?_)
                have hG14 := GI_up hG8 hE14 (show 0 ≤ Z8 68 w7_2 ∧ Z8 68 w7_2 ≤ 385 by omega) trivial rfl
                have eq15 : Z14 56 30 = Z8 56 30 := (up_ni hE14 (by decide))
                have eq16 : Z14 56 31 = Z8 68 w7_2 := (up_at hE14)
                have eq17 : Z14 56 18 = Z 56 18 := ((up_ni hE14 (by decide)).trans ((hf8 56 18 rfl).trans ((up_ni hE6 (by decide)).trans (hf2 56 18 rfl))))
                have eq18 : (ai 67) Z14 (Z 56 18) 0 (Z 56 18 - 1) = (ai 67) Z (Z 56 18) 0 (Z 56 18 - 1) := ((ai_c (fun i => up_nk hE14 rfl)).trans ((ai_c (fun i => hf8 67 i rfl)).trans ((ai_c (fun i => up_nk hE6 rfl)).trans (ai_c (fun i => hf2 67 i rfl)))))
                exact mx_J.ret (sn_227 90) (fun _ _ => rfl) (hP Z14 h14 hx14 hG14 (fr_tr (M := [(56, 30), (56, 31), (68, (-1)), (69, (-1))]) (fr_tr (M := [(56, 30), (56, 31), (68, (-1)), (69, (-1))]) (fr_tr (M := [(56, 30), (56, 31), (68, (-1)), (69, (-1))]) (fr_tr (M := [(56, 30), (56, 31), (68, (-1)), (69, (-1))]) fr_rf (hf2) (M1 := []) rfl rfl) (fr_up hE6) rfl rfl) (hf8) rfl rfl) (fr_up hE14) rfl rfl) (by omega))
              · skip
                have cp := cn_p (Z := Z8) (c := 68) (v := -1) (g := w7_2) (m := Z 56 18) (by omega) (by omega)
                have ca := (cn_b (Z := Z8) (c := 68) (v := -1) (m := Z 56 18) (by omega))
                refine mx_J.step (sn_227 40) (fun _ _ => rfl) ?_
                refine JgetR (g := 25) (b := 68) hx8 (show mx_Sn _ _ 41 (mx_getf 12 25 44) from sn_227 41) a56 s56 rfl rfl (hG8.prr 56 25 rfl) ?_
                refine mx_J.step (sn_227 44) (fun _ _ => rfl) ?_
                refine mx_J.step (sn_227 45) (fun _ _ => rfl) ?_
                refine JgetI (g := 30) (z := Z8 56 30) hx8 (show mx_Sn _ _ 46 (mx_getf 12 30 49) from sn_227 46) a56 s56 rfl rfl rfl ?_
                refine JiastI hx8 (show mx_Sn _ _ 49 (mx_iast 1 50) from sn_227 49) a68 s68 rfl (by omega) (fun Z21 h21 hx21 hE21 => ?_)
                have hG21 := GI_up hG8 hE21 (show (-1) ≤ Z8 56 30 ∧ Z8 56 30 ≤ 385 by omega) trivial rfl
                have cu := cn_u (v := -1) (m := Z 56 18) hE21 (by omega) (by omega) (by omega)
                have au : ai 68 Z21 (Z 56 18) (-1) ((Z8 56 30 + 1) - 1) = 1 := ai_u (ai_m (Z := Z8) (by assumption) (by omega) (by omega) (by omega)) hE21 (by omega)
                refine mx_J.step (sn_227 50) (fun _ _ => rfl) ?_
                refine JgetR (g := 26) (b := 69) hx21 (show mx_Sn _ _ 51 (mx_getf 12 26 54) from sn_227 51) a56 s56 rfl rfl (hG21.prr 56 26 rfl) ?_
                refine mx_J.step (sn_227 54) (fun _ _ => rfl) ?_
                refine JgetI (g := 30) (z := Z8 56 30) hx21 (show mx_Sn _ _ 55 (mx_getf 12 30 58) from sn_227 55) a56 s56 rfl rfl (up_nk hE21 rfl) ?_
                refine mx_J.step (sn_227 58) (fun _ _ => rfl) ?_
                refine JiastI hx21 (show mx_Sn _ _ 59 (mx_iast 1 60) from sn_227 59) a69 s69 rfl (by omega) (fun Z24 h24 hx24 hE24 => ?_)
                have hG24 := GI_up hG21 hE24 (show 0 ≤ w7_2 ∧ w7_2 ≤ 384 by omega) trivial rfl
                refine mx_J.step (sn_227 60) (fun _ _ => rfl) ?_
                refine mx_J.step (sn_227 61) (fun _ _ => rfl) ?_
                refine JgetI (g := 30) (z := Z8 56 30) hx24 (show mx_Sn _ _ 62 (mx_getf 12 30 65) from sn_227 62) a56 s56 rfl rfl ((up_nk hE24 rfl).trans (up_nk hE21 rfl)) ?_
                refine JcI (z := 1) (show mx_Sn _ _ 65 (mx_const (.int 1) 66) from sn_227 65) rfl ?_
                refine Jiadd (show mx_Sn _ _ 66 (mx_iadd 67) from sn_227 66) ?_
                refine JputI (g := 30) hx24 (show mx_Sn _ _ 67 (mx_putf 1 12 30 (.int) 70) from sn_227 67) a56 s56 rfl rfl rfl rfl (fun Z26 h26 hx26 hE26 => ?_)
                have hG26 := GI_up hG24 hE26 (show 0 ≤ (Z8 56 30) + 1 ∧ (Z8 56 30) + 1 ≤ 386 by omega) trivial rfl
                refine mx_J.step (sn_227 70) (fun _ _ => rfl) ?_
                refine JgetR (g := 24) (b := 67) hx26 (show mx_Sn _ _ 71 (mx_getf 12 24 74) from sn_227 71) a56 s56 rfl rfl (hG26.prr 56 24 rfl) ?_
                refine mx_J.step (sn_227 74) (fun _ _ => rfl) ?_
                have b28 : 0 ≤ Z 67 w7_2 ∧ Z 67 w7_2 ≤ 384 := hG.pr 67 w7_2
                refine JialdI (z := Z 67 w7_2) hx26 (show mx_Sn _ _ 75 (mx_iald 76) from sn_227 75) a67 s67 (by omega) ((up_nk hE26 rfl).trans ((up_nk hE24 rfl).trans ((up_nk hE21 rfl).trans ((hf8 67 w7_2 rfl).trans ((up_nk hE6 rfl).trans (hf2 67 w7_2 rfl)))))) ?_
                have gg := ai_at (i := w7_2) k0 (by omega)
                refine mx_J.step (ls2 := [some (.ref 56), some (xI x0), some (xI (Z 67 w7_2))]) (sn_227 76) (fun _ _ => rfl) ?_
                refine mx_J.step (sn_227 77) (fun _ _ => rfl) ?_
                have eq29 : (cn 68 (-1)) Z26 (Z 56 18) = (cn 68 (-1)) Z21 (Z 56 18) := ((cn_c (fun i => up_nk hE26 rfl)).trans (cn_c (fun i => up_nk hE24 rfl)))
                have eq30 : Z26 56 30 = (Z8 56 30) + 1 := (up_at hE26)
                have eq31 : (ai 68) Z26 (Z 56 18) (-1) ((Z26 56 30) - 1) = (ai 68) Z21 (Z 56 18) (-1) (((Z8 56 30) + 1) - 1) := by rw [(show Z26 56 30 = (Z8 56 30) + 1 from (up_at hE26))]; exact ((ai_c (fun i => up_nk hE26 rfl)).trans (ai_c (fun i => up_nk hE24 rfl)))
                have eq32 : (ai 68) Z26 (Z 56 18) (-1) (((Z8 56 30) + 1) - 1) = (ai 68) Z21 (Z 56 18) (-1) (((Z8 56 30) + 1) - 1) := ((ai_c (fun i => up_nk hE26 rfl)).trans (ai_c (fun i => up_nk hE24 rfl)))
                have eq33 : (ai 68) Z26 (Z 56 18) (-1) (-1) = (ai 68) Z21 (Z 56 18) (-1) (-1) := ((ai_c (fun i => up_nk hE26 rfl)).trans (ai_c (fun i => up_nk hE24 rfl)))
                have eq34 : (cn 68 (-1)) Z26 (Z 56 18) = (cn 68 (-1)) Z21 (Z 56 18) := ((cn_c (fun i => up_nk hE26 rfl)).trans (cn_c (fun i => up_nk hE24 rfl)))
                exact ih7 (Z 67 w7_2) Z26 h26 (by omega) (by omega) (by omega) (by first | omega | (rw [show (Z26 56 30 - 1 : Int) = -1 by omega]; omega)) (by omega) hx26 hG26 (fr_tr (M := [(56, 30), (68, (-1)), (69, (-1))]) (fr_tr (M := [(56, 30), (68, (-1)), (69, (-1))]) (fr_tr (M := [(56, 30), (68, (-1)), (69, (-1))]) (fr_tr (M := [(56, 30), (68, (-1)), (69, (-1))]) fr_rf (hf8) (M1 := []) rfl rfl) (fr_ua hE21) rfl rfl) (fr_ua hE24) rfl rfl) (fr_up hE26) rfl rfl)
          have eq35 : (cn 68 (-1)) Z6 (Z 56 18) = (cn 68 (-1)) Z2 (Z 56 18) := (cn_c (fun i => up_nk hE6 rfl))
          have eq36 : Z6 56 30 = 0 := (up_at hE6)
          have eq37 : (ai 68) Z6 (Z 56 18) (-1) ((Z6 56 30) - 1) = (ai 68) Z2 (Z 56 18) (-1) (0 - 1) := by rw [(show Z6 56 30 = 0 from (up_at hE6))]; exact (ai_c (fun i => up_nk hE6 rfl))
          have eq38 : (ai 68) Z6 (Z 56 18) (-1) (0 - 1) = (ai 68) Z2 (Z 56 18) (-1) (0 - 1) := (ai_c (fun i => up_nk hE6 rfl))
          have eq39 : (ai 68) Z6 (Z 56 18) (-1) (-1) = (ai 68) Z2 (Z 56 18) (-1) (-1) := (ai_c (fun i => up_nk hE6 rfl))
          have eq40 : (cn 68 (-1)) Z6 (Z 56 18) = (cn 68 (-1)) Z2 (Z 56 18) := (cn_c (fun i => up_nk hE6 rfl))
          exact c30 (Int.toNat ((((cn 68 (-1) Z6 (Z 56 18)).toNat : Nat) : Int)) + 1) x0 Z6 h6 (by omega) (by omega) (by omega) (by first | omega | (rw [show (Z6 56 30 - 1 : Int) = -1 by omega]; omega)) (by omega) hx6 hG6 fr_rf
        · skip
          refine mx_J.step (sn_227 10) (fun _ _ => rfl) ?_
          refine JgetR (g := 25) (b := 68) hx2 (show mx_Sn _ _ 11 (mx_getf 12 25 14) from sn_227 11) a56 s56 rfl rfl (hG2.prr 56 25 rfl) ?_
          refine mx_J.step (sn_227 14) (fun _ _ => rfl) ?_
          refine JcI (z := (-1)) (show mx_Sn _ _ 15 (mx_const (.int (-1)) 16) from sn_227 15) rfl ?_
          refine JiastI hx2 (show mx_Sn _ _ 16 (mx_iast 1 17) from sn_227 16) a68 s68 rfl (by omega) (fun Z42 h42 hx42 hE42 => ?_)
          have hG42 := GI_up hG2 hE42 (show (-1) ≤ (-1) ∧ (-1) ≤ 385 by omega) trivial rfl
          have m42 := fill_up hE42 f1_1 (by omega)
          refine Jiinc (z := w1_2) (cz := 1) (ls2 := [some (.ref 56), some (xI x0), some (xI (w1_2 + 1))]) (show mx_Sn _ _ 17 (mx_iinc 2 1 20) from sn_227 17) rfl rfl rfl rfl ?_
          refine mx_J.step (sn_227 20) (fun _ _ => rfl) ?_
          exact ih1 (w1_2 + 1) Z42 h42 (by omega) (by omega) (ab_mono m42 (by omega) (by omega) (by omega)) hx42 hG42 (fr_tr (M := [(68, (-1))]) (fr_tr (M := [(68, (-1))]) fr_rf (hf2) (M1 := []) rfl rfl) (fr_ua hE42) rfl rfl)
    exact c2 (Int.toNat (385 - 0) + 1) 0 Z h (by omega) (by omega) (ab_nil (by omega)) hx hG fr_rf
theorem ct_227_56 {l : Launch} {D : va_G} {b0 : Nat} {ad : Nat → Nat} {Hb : Heap} {tau : Nat → Int64} {d n s : Nat} {S : Nat → xS} {Z : xZ} {h : mx_H} (hx : XH n s S Z h) (hG : GI n S Z)  {x0 : Int} (p0 : 0 ≤ x0 ∧ x0 ≤ 384) (k0 : ai 67 Z (Z 56 18) 0 (Z 56 18 - 1) = 1) (k1 : x0 < Z 56 18) : ∃ (Z' : xZ) (h' : mx_H), mx_Ca (tB l D b0 ad Hb tau) (d + 1) 227 [.ref 56, xI x0] h (none, h') ∧ XH n s S Z' h' ∧ GI n S Z' ∧ fr' [(56, 30), (56, 31), (68, (-1)), (69, (-1))] Z Z' ∧ ((1 ≤ Z' 56 30 ∧ Z' 56 30 ≤ 385 ∧ 0 ≤ Z' 56 31 ∧ Z' 56 31 < Z' 56 30)) := by
  obtain ⟨r, hca, Z', h', e, q⟩ := Jmt (B := tB l D b0 ad Hb tau) (M := mt_227) (mi := 227) (as := [.ref 56, xI x0]) (d := d + 0) (ls := [some (.ref 56), some (xI x0), none]) rfl rfl rfl rfl rfl rfl (cw_227_56 (l := l) (D := D) (b0 := b0) (ad := ad) (Hb := Hb) (tau := tau) (d := d) (Post := fun r => ∃ (Z' : xZ) (h' : mx_H), r = (none, h') ∧ XH n s S Z' h' ∧ GI n S Z' ∧ fr' [(56, 30), (56, 31), (68, (-1)), (69, (-1))] Z Z' ∧ ((1 ≤ Z' 56 30 ∧ Z' 56 30 ≤ 385 ∧ 0 ≤ Z' 56 31 ∧ Z' 56 31 < Z' 56 30))) hx hG p0 k0 k1 (fun Z' h' q1 q2 q3 q4 => ⟨Z', h', rfl, q1, q2, q3, q4⟩))
  subst e; exact ⟨Z', h', hca, q⟩
set_option maxRecDepth 100000 in
theorem cw_228_56 {l : Launch} {D : va_G} {b0 : Nat} {ad : Nat → Nat} {Hb : Heap} {tau : Nat → Int64} {d n s : Nat} {S : Nat → xS} {Z : xZ} {h : mx_H} {Post : mx_R → Prop} (hx : XH n s S Z h) (hG : GI n S Z)  {x0 : Int} (p0 : (-9223372036854775808) ≤ x0 ∧ x0 ≤ 9223372036854775807) (hP : ∀ (z : Int) (Z' : xZ) (h' : mx_H), XH n s S Z' h' → GI n S Z' → fr' [(56, 0), (56, 30), (56, 31), (62, (-1)), (64, (-1)), (65, (-1)), (67, (-1)), (68, (-1)), (69, (-1))] Z Z' → (-3) ≤ z ∧ z ≤ 384 → Post (some (xI z), h')) : mx_J (tB l D b0 ad Hb tau) mt_228 (d + 6) 0 [some (.ref 56), some (xL x0), none] [] h Post := by
    have a56 : 56 < n := lt83 (GI_n hG) rfl
    have s56 : S 56 = .inl (12, [0, 2, 2, 2, 2, 0, 0, 0, 0, 0, 0, 0, 0, 0, 0, 2, 2, 2, 0, 2, 2, 2, 0, 0, 2, 2, 2, 2, 2, 2, 0, 0, 2, 2, 2, 2, 2, 2, 2, 2, 2, 2]) := GI_s hG 56 rfl
    have a57 : 57 < n := lt83 (GI_n hG) rfl
    have s57 : S 57 = .inr (.int, 2886, 0) := GI_s hG 57 rfl
    have a69 : 69 < n := lt83 (GI_n hG) rfl
    have s69 : S 69 = .inr (.int, 386, 0) := GI_s hG 69 rfl
    refine mx_J.step (sn_228 0) (fun _ _ => rfl) ?_
    refine JcI (z := 0) (show mx_Sn _ _ 1 (mx_const (.int 0) 2) from sn_228 1) rfl ?_
    refine JputI (g := 0) hx (show mx_Sn _ _ 2 (mx_putf 1 12 0 (.int) 5) from sn_228 2) a56 s56 rfl rfl rfl rfl (fun Z1 h1 hx1 hE1 => ?_)
    have hG1 := GI_up hG hE1 (show (-2147483648) ≤ 0 ∧ 0 ≤ 2147483647 by omega) trivial rfl
    refine mx_J.step (sn_228 5) (fun _ _ => rfl) ?_
    refine JcL (z := 0) (show mx_Sn _ _ 6 (mx_const (.long 0) 7) from sn_228 6) rfl ?_
    refine JcL (z := 1000000000000000) (show mx_Sn _ _ 7 (mx_const (.long 1000000000000000) 10) from sn_228 7) rfl ?_
    obtain ⟨z2, hc2, b2⟩ := ct_154_ (d := d + 5) (l := l) (D := D) (b0 := b0) (ad := ad) (Hb := Hb) (tau := tau) hx1 hG1 (show (-9223372036854775808) ≤ x0 ∧ x0 ≤ 9223372036854775807 by omega) (show (-9223372036854775808) ≤ 0 ∧ 0 ≤ 9223372036854775807 by omega) (show (-9223372036854775808) ≤ 1000000000000000 ∧ 1000000000000000 ≤ 9223372036854775807 by omega)
    refine Jcs (show mx_Sn _ _ 10 (mx_calls 154 3 13) from sn_228 10) hc2 rfl rfl rfl ?_
    refine Jif_ne (show mx_Sn _ _ 13 (mx_if_ne 19 16) from sn_228 13) (by omega) (fun q3 => ?_) (fun q3 => ?_)
    · skip
      refine mx_J.step (sn_228 19) (fun _ _ => rfl) ?_
      have eq5 : Z1 56 18 = Z 56 18 := (up_ni hE1 (by decide))
      have b6 : 0 ≤ Z 56 18 ∧ Z 56 18 ≤ 385 := hG.pr 56 18
      obtain ⟨Z4, h4, hc4, hx4, hG4, hf4, b4⟩ := ct_226_56 (d := d + 0) (l := l) (D := D) (b0 := b0) (ad := ad) (Hb := Hb) (tau := tau) hx1 hG1 
      try rw [eq5] at b4
      refine Jcv0 hx1 (show mx_Sn _ _ 20 (mx_callv 226 1 12 23) from sn_228 20) a56 s56 hc4 rfl rfl rfl ?_
      refine mx_J.step (sn_228 23) (fun _ _ => rfl) ?_
      refine mx_J.step (sn_228 24) (fun _ _ => rfl) ?_
      refine JgetR (g := 1) (b := 57) hx4 (show mx_Sn _ _ 25 (mx_getf 12 1 28) from sn_228 25) a56 s56 rfl rfl (hG4.prr 56 1 rfl) ?_
      refine JcI (z := 27) (show mx_Sn _ _ 28 (mx_const (.int 27) 30) from sn_228 28) rfl ?_
      have b8 := GI_st hG 27
      have b9 : 0 ≤ Z 57 27 ∧ Z 57 27 ≤ 384 := by have hq := GI_ex hG 57 27; replace hq : f57 (27 % 962) (Z 57 27) := hq; unfold f57 at hq; omega
      have b10 : (-2147483648) ≤ Z 57 27 ∧ Z 57 27 ≤ 2147483647 := hG.pr 57 27
      refine JialdI (z := Z 57 27) hx4 (show mx_Sn _ _ 30 (mx_iald 31) from sn_228 30) a57 s57 (by omega) ((hf4 57 27 rfl).trans (up_nk hE1 rfl)) ?_
      have eq12 : Z4 56 18 = Z 56 18 := ((hf4 56 18 rfl).trans (up_ni hE1 (by decide)))
      obtain ⟨Z11, h11, hc11, hx11, hG11, hf11, b11⟩ := ct_227_56 (d := d + 5) (l := l) (D := D) (b0 := b0) (ad := ad) (Hb := Hb) (tau := tau) hx4 hG4 (show 0 ≤ Z 57 27 ∧ Z 57 27 ≤ 384 by omega) (show ai 67 Z4 (Z4 56 18) 0 (Z4 56 18 - 1) = 1 by first | omega | (simp only [eq12]; omega)) (show (Z 57 27) < Z4 56 18 by first | omega | (simp only [eq12]; omega))
      try rw [eq12] at b11
      have b13 : 0 ≤ Z11 56 30 ∧ Z11 56 30 ≤ 386 := hG11.pr 56 30
      have b14 : 0 ≤ Z11 56 31 ∧ Z11 56 31 ≤ 385 := hG11.pr 56 31
      refine Jcv0 hx4 (show mx_Sn _ _ 31 (mx_callv 227 2 12 34) from sn_228 31) a56 s56 hc11 rfl rfl rfl ?_
      refine mx_J.step (sn_228 34) (fun _ _ => rfl) ?_
      refine JgetR (g := 26) (b := 69) hx11 (show mx_Sn _ _ 35 (mx_getf 12 26 38) from sn_228 35) a56 s56 rfl rfl (hG11.prr 56 26 rfl) ?_
      refine mx_J.step (sn_228 38) (fun _ _ => rfl) ?_
      refine mx_J.step (sn_228 39) (fun _ _ => rfl) ?_
      refine JgetI (g := 30) (z := Z11 56 30) hx11 (show mx_Sn _ _ 40 (mx_getf 12 30 43) from sn_228 40) a56 s56 rfl rfl rfl ?_
      refine Ji2l (show mx_Sn _ _ 43 (mx_i2l 44) from sn_228 43) (by omega) ?_
      have c77 : ∀ (k17_1 : Int), 0 ≤ k17_1 ∧ k17_1 ≤ 385 → mx_J (tB l D b0 ad Hb tau) mt_228 (d + 6) 77 [some (.ref 56), some (xL x0), none] [xI k17_1, .ref 69] h11 Post := by
        intro k17_1 f17_0
        have b18 : 0 ≤ Z11 69 k17_1 ∧ Z11 69 k17_1 ≤ 384 := hG11.pr 69 k17_1
        refine JialdI (z := Z11 69 k17_1) hx11 (show mx_Sn _ _ 77 (mx_iald 78) from sn_228 77) a69 s69 (by omega) rfl ?_
        exact mx_J.ret (sn_228 78) (fun _ _ => rfl) (hP (Z11 69 k17_1) Z11 h11 hx11 hG11 (fr_tr (M := [(56, 0), (56, 30), (56, 31), (62, (-1)), (64, (-1)), (65, (-1)), (67, (-1)), (68, (-1)), (69, (-1))]) (fr_tr (M := [(56, 0), (56, 30), (56, 31), (62, (-1)), (64, (-1)), (65, (-1)), (67, (-1)), (68, (-1)), (69, (-1))]) (fr_tr (M := [(56, 0), (56, 30), (56, 31), (62, (-1)), (64, (-1)), (65, (-1)), (67, (-1)), (68, (-1)), (69, (-1))]) fr_rf (fr_up hE1) (M1 := []) rfl rfl) (hf4) rfl rfl) (hf11) rfl rfl) (by omega))
      refine Jlif_ge (show mx_Sn _ _ 44 (mx_lif_ge 53 48) from sn_228 44) (by omega) (by omega) (fun q19 => ?_) (fun q19 => ?_)
      · skip
        refine mx_J.step (sn_228 53) (fun _ _ => rfl) ?_
        refine JgetI (g := 31) (z := Z11 56 31) hx11 (show mx_Sn _ _ 54 (mx_getf 12 31 57) from sn_228 54) a56 s56 rfl rfl rfl ?_
        refine mx_J.step (sn_228 57) (fun _ _ => rfl) ?_
        refine mx_J.step (sn_228 58) (fun _ _ => rfl) ?_
        refine JgetI (g := 31) (z := Z11 56 31) hx11 (show mx_Sn _ _ 59 (mx_getf 12 31 62) from sn_228 59) a56 s56 rfl rfl rfl ?_
        refine Ji2l (show mx_Sn _ _ 62 (mx_i2l 63) from sn_228 62) (by omega) ?_
        refine Jlsub (show mx_Sn _ _ 63 (mx_lsub 64) from sn_228 63) ?_
        refine mx_J.step (sn_228 64) (fun _ _ => rfl) ?_
        refine JgetI (g := 30) (z := Z11 56 30) hx11 (show mx_Sn _ _ 65 (mx_getf 12 30 68) from sn_228 65) a56 s56 rfl rfl rfl ?_
        refine mx_J.step (sn_228 68) (fun _ _ => rfl) ?_
        refine JgetI (g := 31) (z := Z11 56 31) hx11 (show mx_Sn _ _ 69 (mx_getf 12 31 72) from sn_228 69) a56 s56 rfl rfl rfl ?_
        refine Jisub (show mx_Sn _ _ 72 (mx_isub 73) from sn_228 72) ?_
        refine Ji2l (show mx_Sn _ _ 73 (mx_i2l 74) from sn_228 73) (by omega) ?_
        refine JlremX (show mx_Sn _ _ 74 (mx_lrem 75) from sn_228 74) (by omega) (by omega) (by omega) (fun y24 hy24 => ?_)
        refine Jl2i (show mx_Sn _ _ 75 (mx_l2i 76) from sn_228 75) ?_
        refine Jiadd (show mx_Sn _ _ 76 (mx_iadd 77) from sn_228 76) ?_
        exact c77 ((Z11 56 31) + y24) (by omega)
      · skip
        refine mx_J.step (sn_228 48) (fun _ _ => rfl) ?_
        refine Jl2i (show mx_Sn _ _ 49 (mx_l2i 50) from sn_228 49) ?_
        refine mx_J.step (sn_228 50) (fun _ _ => rfl) ?_
        exact c77 x0 (by omega)
    · skip
      refine JcI (z := (-3)) (show mx_Sn _ _ 16 (mx_const (.int (-3)) 18) from sn_228 16) rfl ?_
      exact mx_J.ret (sn_228 18) (fun _ _ => rfl) (hP (-3) Z1 h1 hx1 hG1 (fr_tr (M := [(56, 0), (56, 30), (56, 31), (62, (-1)), (64, (-1)), (65, (-1)), (67, (-1)), (68, (-1)), (69, (-1))]) fr_rf (fr_up hE1) (M1 := []) rfl rfl) (by omega))
theorem ct_228_56 {l : Launch} {D : va_G} {b0 : Nat} {ad : Nat → Nat} {Hb : Heap} {tau : Nat → Int64} {d n s : Nat} {S : Nat → xS} {Z : xZ} {h : mx_H} (hx : XH n s S Z h) (hG : GI n S Z)  {x0 : Int} (p0 : (-9223372036854775808) ≤ x0 ∧ x0 ≤ 9223372036854775807) : ∃ (z : Int) (Z' : xZ) (h' : mx_H), mx_Ca (tB l D b0 ad Hb tau) (d + 7) 228 [.ref 56, xL x0] h (some (xI z), h') ∧ XH n s S Z' h' ∧ GI n S Z' ∧ fr' [(56, 0), (56, 30), (56, 31), (62, (-1)), (64, (-1)), (65, (-1)), (67, (-1)), (68, (-1)), (69, (-1))] Z Z' ∧ ((-3) ≤ z ∧ z ≤ 384) := by
  obtain ⟨r, hca, z, Z', h', e, q⟩ := Jmt (B := tB l D b0 ad Hb tau) (M := mt_228) (mi := 228) (as := [.ref 56, xL x0]) (d := d + 6) (ls := [some (.ref 56), some (xL x0), none]) rfl rfl rfl rfl rfl rfl (cw_228_56 (l := l) (D := D) (b0 := b0) (ad := ad) (Hb := Hb) (tau := tau) (d := d) (Post := fun r => ∃ (z : Int) (Z' : xZ) (h' : mx_H), r = (some (xI z), h') ∧ XH n s S Z' h' ∧ GI n S Z' ∧ fr' [(56, 0), (56, 30), (56, 31), (62, (-1)), (64, (-1)), (65, (-1)), (67, (-1)), (68, (-1)), (69, (-1))] Z Z' ∧ ((-3) ≤ z ∧ z ≤ 384)) hx hG p0 (fun z Z' h' q1 q2 q3 q4 => ⟨z, Z', h', rfl, q1, q2, q3, q4⟩))
  subst e; exact ⟨z, Z', h', hca, q⟩
set_option maxRecDepth 100000 in
theorem cw_229_56 {l : Launch} {D : va_G} {b0 : Nat} {ad : Nat → Nat} {Hb : Heap} {tau : Nat → Int64} {d n s : Nat} {S : Nat → xS} {Z : xZ} {h : mx_H} {Post : mx_R → Prop} (hx : XH n s S Z h) (hG : GI n S Z)  {x0 : Int} (p0 : (-2147483648) ≤ x0 ∧ x0 ≤ 2147483647) (hP : ∀ (z : Int) (Z' : xZ) (h' : mx_H), XH n s S Z' h' → GI n S Z' → fr' [(56, 0), (56, 30), (56, 31), (62, (-1)), (64, (-1)), (65, (-1)), (67, (-1)), (68, (-1)), (69, (-1))] Z Z' → (-385) ≤ z ∧ z ≤ 386 → Post (some (xI z), h')) : mx_J (tB l D b0 ad Hb tau) mt_229 (d + 6) 0 [some (.ref 56), some (xI x0)] [] h Post := by
    have a56 : 56 < n := lt83 (GI_n hG) rfl
    have s56 : S 56 = .inl (12, [0, 2, 2, 2, 2, 0, 0, 0, 0, 0, 0, 0, 0, 0, 0, 2, 2, 2, 0, 2, 2, 2, 0, 0, 2, 2, 2, 2, 2, 2, 0, 0, 2, 2, 2, 2, 2, 2, 2, 2, 2, 2]) := GI_s hG 56 rfl
    have a57 : 57 < n := lt83 (GI_n hG) rfl
    have s57 : S 57 = .inr (.int, 2886, 0) := GI_s hG 57 rfl
    refine mx_J.step (sn_229 0) (fun _ _ => rfl) ?_
    refine JcI (z := 0) (show mx_Sn _ _ 1 (mx_const (.int 0) 2) from sn_229 1) rfl ?_
    refine JputI (g := 0) hx (show mx_Sn _ _ 2 (mx_putf 1 12 0 (.int) 5) from sn_229 2) a56 s56 rfl rfl rfl rfl (fun Z1 h1 hx1 hE1 => ?_)
    have hG1 := GI_up hG hE1 (show (-2147483648) ≤ 0 ∧ 0 ≤ 2147483647 by omega) trivial rfl
    refine mx_J.step (sn_229 5) (fun _ _ => rfl) ?_
    refine Ji2l (show mx_Sn _ _ 6 (mx_i2l 7) from sn_229 6) (by omega) ?_
    refine JcL (z := 0) (show mx_Sn _ _ 7 (mx_const (.long 0) 8) from sn_229 7) rfl ?_
    refine JcL (z := 1) (show mx_Sn _ _ 8 (mx_const (.long 1) 9) from sn_229 8) rfl ?_
    obtain ⟨z2, hc2, b2⟩ := ct_154_ (d := d + 5) (l := l) (D := D) (b0 := b0) (ad := ad) (Hb := Hb) (tau := tau) hx1 hG1 (show (-9223372036854775808) ≤ x0 ∧ x0 ≤ 9223372036854775807 by omega) (show (-9223372036854775808) ≤ 0 ∧ 0 ≤ 9223372036854775807 by omega) (show (-9223372036854775808) ≤ 1 ∧ 1 ≤ 9223372036854775807 by omega)
    refine Jcs (show mx_Sn _ _ 9 (mx_calls 154 3 12) from sn_229 9) hc2 rfl rfl rfl ?_
    refine Jif_ne (show mx_Sn _ _ 12 (mx_if_ne 18 15) from sn_229 12) (by omega) (fun q3 => ?_) (fun q3 => ?_)
    · skip
      refine mx_J.step (sn_229 18) (fun _ _ => rfl) ?_
      have eq5 : Z1 56 18 = Z 56 18 := (up_ni hE1 (by decide))
      have b6 : 0 ≤ Z 56 18 ∧ Z 56 18 ≤ 385 := hG.pr 56 18
      obtain ⟨Z4, h4, hc4, hx4, hG4, hf4, b4⟩ := ct_226_56 (d := d + 0) (l := l) (D := D) (b0 := b0) (ad := ad) (Hb := Hb) (tau := tau) hx1 hG1 
      try rw [eq5] at b4
      refine Jcv0 hx1 (show mx_Sn _ _ 19 (mx_callv 226 1 12 22) from sn_229 19) a56 s56 hc4 rfl rfl rfl ?_
      refine mx_J.step (sn_229 22) (fun _ _ => rfl) ?_
      refine mx_J.step (sn_229 23) (fun _ _ => rfl) ?_
      refine JgetR (g := 1) (b := 57) hx4 (show mx_Sn _ _ 24 (mx_getf 12 1 27) from sn_229 24) a56 s56 rfl rfl (hG4.prr 56 1 rfl) ?_
      refine JcI (z := 27) (show mx_Sn _ _ 27 (mx_const (.int 27) 29) from sn_229 27) rfl ?_
      have b8 := GI_st hG 27
      have b9 : 0 ≤ Z 57 27 ∧ Z 57 27 ≤ 384 := by have hq := GI_ex hG 57 27; replace hq : f57 (27 % 962) (Z 57 27) := hq; unfold f57 at hq; omega
      have b10 : (-2147483648) ≤ Z 57 27 ∧ Z 57 27 ≤ 2147483647 := hG.pr 57 27
      refine JialdI (z := Z 57 27) hx4 (show mx_Sn _ _ 29 (mx_iald 30) from sn_229 29) a57 s57 (by omega) ((hf4 57 27 rfl).trans (up_nk hE1 rfl)) ?_
      have eq12 : Z4 56 18 = Z 56 18 := ((hf4 56 18 rfl).trans (up_ni hE1 (by decide)))
      obtain ⟨Z11, h11, hc11, hx11, hG11, hf11, b11⟩ := ct_227_56 (d := d + 5) (l := l) (D := D) (b0 := b0) (ad := ad) (Hb := Hb) (tau := tau) hx4 hG4 (show 0 ≤ Z 57 27 ∧ Z 57 27 ≤ 384 by omega) (show ai 67 Z4 (Z4 56 18) 0 (Z4 56 18 - 1) = 1 by first | omega | (simp only [eq12]; omega)) (show (Z 57 27) < Z4 56 18 by first | omega | (simp only [eq12]; omega))
      try rw [eq12] at b11
      have b13 : 0 ≤ Z11 56 30 ∧ Z11 56 30 ≤ 386 := hG11.pr 56 30
      have b14 : 0 ≤ Z11 56 31 ∧ Z11 56 31 ≤ 385 := hG11.pr 56 31
      refine Jcv0 hx4 (show mx_Sn _ _ 30 (mx_callv 227 2 12 33) from sn_229 30) a56 s56 hc11 rfl rfl rfl ?_
      refine mx_J.step (sn_229 33) (fun _ _ => rfl) ?_
      have c53 : ∀ (k15_0 : Int), (-385) ≤ k15_0 ∧ k15_0 ≤ 386 → mx_J (tB l D b0 ad Hb tau) mt_229 (d + 6) 53 [some (.ref 56), some (xI x0)] [xI k15_0] h11 Post := by
        intro k15_0 f15_0
        exact mx_J.ret (sn_229 53) (fun _ _ => rfl) (hP k15_0 Z11 h11 hx11 hG11 (fr_tr (M := [(56, 0), (56, 30), (56, 31), (62, (-1)), (64, (-1)), (65, (-1)), (67, (-1)), (68, (-1)), (69, (-1))]) (fr_tr (M := [(56, 0), (56, 30), (56, 31), (62, (-1)), (64, (-1)), (65, (-1)), (67, (-1)), (68, (-1)), (69, (-1))]) (fr_tr (M := [(56, 0), (56, 30), (56, 31), (62, (-1)), (64, (-1)), (65, (-1)), (67, (-1)), (68, (-1)), (69, (-1))]) fr_rf (fr_up hE1) (M1 := []) rfl rfl) (hf4) rfl rfl) (hf11) rfl rfl) (by omega))
      refine Jif_ne (show mx_Sn _ _ 34 (mx_if_ne 44 37) from sn_229 34) (by omega) (fun q16 => ?_) (fun q16 => ?_)
      · skip
        refine mx_J.step (sn_229 44) (fun _ _ => rfl) ?_
        refine JgetI (g := 30) (z := Z11 56 30) hx11 (show mx_Sn _ _ 45 (mx_getf 12 30 48) from sn_229 45) a56 s56 rfl rfl rfl ?_
        refine mx_J.step (sn_229 48) (fun _ _ => rfl) ?_
        refine JgetI (g := 31) (z := Z11 56 31) hx11 (show mx_Sn _ _ 49 (mx_getf 12 31 52) from sn_229 49) a56 s56 rfl rfl rfl ?_
        refine Jisub (show mx_Sn _ _ 52 (mx_isub 53) from sn_229 52) ?_
        exact c53 ((Z11 56 30) - (Z11 56 31)) (by omega)
      · skip
        refine mx_J.step (sn_229 37) (fun _ _ => rfl) ?_
        refine JgetI (g := 31) (z := Z11 56 31) hx11 (show mx_Sn _ _ 38 (mx_getf 12 31 41) from sn_229 38) a56 s56 rfl rfl rfl ?_
        refine mx_J.step (sn_229 41) (fun _ _ => rfl) ?_
        exact c53 (Z11 56 31) (by omega)
    · skip
      refine JcI (z := (-2)) (show mx_Sn _ _ 15 (mx_const (.int (-2)) 17) from sn_229 15) rfl ?_
      exact mx_J.ret (sn_229 17) (fun _ _ => rfl) (hP (-2) Z1 h1 hx1 hG1 (fr_tr (M := [(56, 0), (56, 30), (56, 31), (62, (-1)), (64, (-1)), (65, (-1)), (67, (-1)), (68, (-1)), (69, (-1))]) fr_rf (fr_up hE1) (M1 := []) rfl rfl) (by omega))
theorem ct_229_56 {l : Launch} {D : va_G} {b0 : Nat} {ad : Nat → Nat} {Hb : Heap} {tau : Nat → Int64} {d n s : Nat} {S : Nat → xS} {Z : xZ} {h : mx_H} (hx : XH n s S Z h) (hG : GI n S Z)  {x0 : Int} (p0 : (-2147483648) ≤ x0 ∧ x0 ≤ 2147483647) : ∃ (z : Int) (Z' : xZ) (h' : mx_H), mx_Ca (tB l D b0 ad Hb tau) (d + 7) 229 [.ref 56, xI x0] h (some (xI z), h') ∧ XH n s S Z' h' ∧ GI n S Z' ∧ fr' [(56, 0), (56, 30), (56, 31), (62, (-1)), (64, (-1)), (65, (-1)), (67, (-1)), (68, (-1)), (69, (-1))] Z Z' ∧ ((-385) ≤ z ∧ z ≤ 386) := by
  obtain ⟨r, hca, z, Z', h', e, q⟩ := Jmt (B := tB l D b0 ad Hb tau) (M := mt_229) (mi := 229) (as := [.ref 56, xI x0]) (d := d + 6) (ls := [some (.ref 56), some (xI x0)]) rfl rfl rfl rfl rfl rfl (cw_229_56 (l := l) (D := D) (b0 := b0) (ad := ad) (Hb := Hb) (tau := tau) (d := d) (Post := fun r => ∃ (z : Int) (Z' : xZ) (h' : mx_H), r = (some (xI z), h') ∧ XH n s S Z' h' ∧ GI n S Z' ∧ fr' [(56, 0), (56, 30), (56, 31), (62, (-1)), (64, (-1)), (65, (-1)), (67, (-1)), (68, (-1)), (69, (-1))] Z Z' ∧ ((-385) ≤ z ∧ z ≤ 386)) hx hG p0 (fun z Z' h' q1 q2 q3 q4 => ⟨z, Z', h', rfl, q1, q2, q3, q4⟩))
  subst e; exact ⟨z, Z', h', hca, q⟩
set_option maxRecDepth 100000 in
theorem cw_230_56 {l : Launch} {D : va_G} {b0 : Nat} {ad : Nat → Nat} {Hb : Heap} {tau : Nat → Int64} {d n s : Nat} {S : Nat → xS} {Z : xZ} {h : mx_H} {Post : mx_R → Prop} (hx : XH n s S Z h) (hG : GI n S Z)   (hP : ∀ (Z' : xZ) (h' : mx_H), XH n s S Z' h' → GI n S Z' → fr' [(56, 30), (56, 31), (62, (-1)), (64, (-1)), (65, (-1)), (67, (-1)), (68, (-1)), (69, (-1)), (70, (-1))] Z Z' → (ai 67 Z' (Z 56 18) 0 (Z 56 18 - 1) = 1) → Post (none, h')) : mx_J (tB l D b0 ad Hb tau) mt_230 (d + 6) 0 [some (.ref 56), none] [] h Post := by
    have a56 : 56 < n := lt83 (GI_n hG) rfl
    have s56 : S 56 = .inl (12, [0, 2, 2, 2, 2, 0, 0, 0, 0, 0, 0, 0, 0, 0, 0, 2, 2, 2, 0, 2, 2, 2, 0, 0, 2, 2, 2, 2, 2, 2, 0, 0, 2, 2, 2, 2, 2, 2, 2, 2, 2, 2]) := GI_s hG 56 rfl
    have a70 : 70 < n := lt83 (GI_n hG) rfl
    have s70 : S 70 = .inr (.boolean, 385, 0) := GI_s hG 70 rfl
    refine mx_J.step (sn_230 0) (fun _ _ => rfl) ?_
    have b2 : 0 ≤ Z 56 18 ∧ Z 56 18 ≤ 385 := hG.pr 56 18
    obtain ⟨Z1, h1, hc1, hx1, hG1, hf1, b1⟩ := ct_226_56 (d := d + 0) (l := l) (D := D) (b0 := b0) (ad := ad) (Hb := Hb) (tau := tau) hx hG 
    refine Jcv0 hx (show mx_Sn _ _ 1 (mx_callv 226 1 12 4) from sn_230 1) a56 s56 hc1 rfl rfl rfl ?_
    refine JcI (z := 0) (show mx_Sn _ _ 4 (mx_const (.int 0) 5) from sn_230 4) rfl ?_
    refine mx_J.step (ls2 := [some (.ref 56), some (xI 0)]) (sn_230 5) (fun _ _ => rfl) ?_
    have c6 : ∀ (m3 : Nat) (w3_1 : Int) (Z4 : xZ) (h4 : mx_H), 385 - w3_1 < (m3 : Int) → 0 ≤ w3_1 ∧ w3_1 ≤ 385 → XH n s S Z4 h4 → GI n S Z4 → fr' [(56, 30), (56, 31), (68, (-1)), (69, (-1)), (70, (-1))] Z1 Z4 → mx_J (tB l D b0 ad Hb tau) mt_230 (d + 6) 6 [some (.ref 56), some (xI w3_1)] [] h4 Post := by
      intro m3
      induction m3 with
      | zero => intro w3_1 Z4 h4 q3 f3_0 hx4 hG4 hf4; exact absurd q3 (by omega)
      | succ m3 ih3 =>
        intro w3_1 Z4 h4 q3 f3_0 hx4 hG4 hf4
        refine mx_J.step (sn_230 6) (fun _ _ => rfl) ?_
        refine mx_J.step (sn_230 7) (fun _ _ => rfl) ?_
        refine JgetI (g := 18) (z := Z 56 18) hx4 (show mx_Sn _ _ 8 (mx_getf 12 18 11) from sn_230 8) a56 s56 rfl rfl ((hf4 56 18 rfl).trans (hf1 56 18 rfl)) ?_
        refine Jicmp_ge (show mx_Sn _ _ 11 (mx_icmp_ge 43 14) from sn_230 11) (by omega) (by omega) (fun q6 => ?_) (fun q6 => ?_)
        · skip
          have eq7 : (ai 67) Z4 (Z 56 18) 0 (Z 56 18 - 1) = (ai 67) Z1 (Z 56 18) 0 (Z 56 18 - 1) := (ai_c (fun i => hf4 67 i rfl))
          have eq8 : Z4 56 18 = Z 56 18 := ((hf4 56 18 rfl).trans (hf1 56 18 rfl))
          exact mx_J.ret (sn_230 43) (fun _ _ => rfl) (hP Z4 h4 hx4 hG4 (fr_tr (M := [(56, 30), (56, 31), (62, (-1)), (64, (-1)), (65, (-1)), (67, (-1)), (68, (-1)), (69, (-1)), (70, (-1))]) (fr_tr (M := [(56, 30), (56, 31), (62, (-1)), (64, (-1)), (65, (-1)), (67, (-1)), (68, (-1)), (69, (-1)), (70, (-1))]) fr_rf (hf1) (M1 := []) rfl rfl) (hf4) rfl rfl) (by omega))
        · skip
          refine mx_J.step (sn_230 14) (fun _ _ => rfl) ?_
          refine mx_J.step (sn_230 15) (fun _ _ => rfl) ?_
          have eq10 : Z4 56 18 = Z 56 18 := ((hf4 56 18 rfl).trans (hf1 56 18 rfl))
          have eq11 : (ai 67) Z4 (Z 56 18) 0 (Z 56 18 - 1) = (ai 67) Z1 (Z 56 18) 0 (Z 56 18 - 1) := (ai_c (fun i => hf4 67 i rfl))
          obtain ⟨Z9, h9, hc9, hx9, hG9, hf9, b9⟩ := ct_227_56 (d := d + 5) (l := l) (D := D) (b0 := b0) (ad := ad) (Hb := Hb) (tau := tau) hx4 hG4 (show 0 ≤ w3_1 ∧ w3_1 ≤ 384 by omega) (show ai 67 Z4 (Z4 56 18) 0 (Z4 56 18 - 1) = 1 by first | omega | (simp only [eq10]; omega)) (show w3_1 < Z4 56 18 by first | omega | (simp only [eq10]; omega))
          try rw [eq10] at b9
          have b12 : 0 ≤ Z9 56 30 ∧ Z9 56 30 ≤ 386 := hG9.pr 56 30
          have b13 : 0 ≤ Z9 56 31 ∧ Z9 56 31 ≤ 385 := hG9.pr 56 31
          refine Jcv0 hx4 (show mx_Sn _ _ 16 (mx_callv 227 2 12 19) from sn_230 16) a56 s56 hc9 rfl rfl rfl ?_
          refine mx_J.step (sn_230 19) (fun _ _ => rfl) ?_
          refine JgetR (g := 27) (b := 70) hx9 (show mx_Sn _ _ 20 (mx_getf 12 27 23) from sn_230 20) a56 s56 rfl rfl (hG9.prr 56 27 rfl) ?_
          refine mx_J.step (sn_230 23) (fun _ _ => rfl) ?_
          refine mx_J.step (sn_230 24) (fun _ _ => rfl) ?_
          refine JgetI (g := 31) (z := Z9 56 31) hx9 (show mx_Sn _ _ 25 (mx_getf 12 31 28) from sn_230 25) a56 s56 rfl rfl rfl ?_
          have c36 : ∀ (k16_2 : Int), 0 ≤ k16_2 ∧ k16_2 ≤ 1 → mx_J (tB l D b0 ad Hb tau) mt_230 (d + 6) 36 [some (.ref 56), some (xI w3_1)] [xI k16_2, xI w3_1, .ref 70] h9 Post := by
            intro k16_2 f16_0
            refine JzastI hx9 (show mx_Sn _ _ 36 (mx_zast 1 37) from sn_230 36) a70 s70 rfl (by omega) (by omega) (fun Z17 h17 hx17 hE17 => ?_)
            have hG17 := GI_up hG9 hE17 (show 0 ≤ k16_2 ∧ k16_2 ≤ 1 by omega) trivial rfl
            refine Jiinc (z := w3_1) (cz := 1) (ls2 := [some (.ref 56), some (xI (w3_1 + 1))]) (show mx_Sn _ _ 37 (mx_iinc 1 1 40) from sn_230 37) rfl rfl rfl rfl ?_
            refine mx_J.step (sn_230 40) (fun _ _ => rfl) ?_
            exact ih3 (w3_1 + 1) Z17 h17 (by omega) (by omega) hx17 hG17 (fr_tr (M := [(56, 30), (56, 31), (68, (-1)), (69, (-1)), (70, (-1))]) (fr_tr (M := [(56, 30), (56, 31), (68, (-1)), (69, (-1)), (70, (-1))]) (fr_tr (M := [(56, 30), (56, 31), (68, (-1)), (69, (-1)), (70, (-1))]) fr_rf (hf4) (M1 := []) rfl rfl) (hf9) rfl rfl) (fr_ua hE17) rfl rfl)
          refine Jif_ne (show mx_Sn _ _ 28 (mx_if_ne 35 31) from sn_230 28) (by omega) (fun q18 => ?_) (fun q18 => ?_)
          · skip
            refine JcI (z := 0) (show mx_Sn _ _ 35 (mx_const (.int 0) 36) from sn_230 35) rfl ?_
            exact c36 0 (by omega)
          · skip
            refine JcI (z := 1) (show mx_Sn _ _ 31 (mx_const (.int 1) 32) from sn_230 31) rfl ?_
            refine mx_J.step (sn_230 32) (fun _ _ => rfl) ?_
            exact c36 1 (by omega)
    exact c6 (Int.toNat (385 - 0) + 1) 0 Z1 h1 (by omega) (by omega) hx1 hG1 fr_rf
theorem ct_230_56 {l : Launch} {D : va_G} {b0 : Nat} {ad : Nat → Nat} {Hb : Heap} {tau : Nat → Int64} {d n s : Nat} {S : Nat → xS} {Z : xZ} {h : mx_H} (hx : XH n s S Z h) (hG : GI n S Z)   : ∃ (Z' : xZ) (h' : mx_H), mx_Ca (tB l D b0 ad Hb tau) (d + 7) 230 [.ref 56] h (none, h') ∧ XH n s S Z' h' ∧ GI n S Z' ∧ fr' [(56, 30), (56, 31), (62, (-1)), (64, (-1)), (65, (-1)), (67, (-1)), (68, (-1)), (69, (-1)), (70, (-1))] Z Z' ∧ ((ai 67 Z' (Z 56 18) 0 (Z 56 18 - 1) = 1)) := by
  obtain ⟨r, hca, Z', h', e, q⟩ := Jmt (B := tB l D b0 ad Hb tau) (M := mt_230) (mi := 230) (as := [.ref 56]) (d := d + 6) (ls := [some (.ref 56), none]) rfl rfl rfl rfl rfl rfl (cw_230_56 (l := l) (D := D) (b0 := b0) (ad := ad) (Hb := Hb) (tau := tau) (d := d) (Post := fun r => ∃ (Z' : xZ) (h' : mx_H), r = (none, h') ∧ XH n s S Z' h' ∧ GI n S Z' ∧ fr' [(56, 30), (56, 31), (62, (-1)), (64, (-1)), (65, (-1)), (67, (-1)), (68, (-1)), (69, (-1)), (70, (-1))] Z Z' ∧ ((ai 67 Z' (Z 56 18) 0 (Z 56 18 - 1) = 1))) hx hG  (fun Z' h' q1 q2 q3 q4 => ⟨Z', h', rfl, q1, q2, q3, q4⟩))
  subst e; exact ⟨Z', h', hca, q⟩
set_option maxRecDepth 100000 in
theorem cw_231_56 {l : Launch} {D : va_G} {b0 : Nat} {ad : Nat → Nat} {Hb : Heap} {tau : Nat → Int64} {d n s : Nat} {S : Nat → xS} {Z : xZ} {h : mx_H} {Post : mx_R → Prop} (hx : XH n s S Z h) (hG : GI n S Z)   (hP : ∀ (z : Int) (Z' : xZ) (h' : mx_H), XH n s S Z' h' → GI n S Z' → fr' [(71, (-1))] Z Z' → (-2147483648) ≤ z ∧ z ≤ 2147483647 → Post (some (xI z), h')) : mx_J (tB l D b0 ad Hb tau) mt_231 (d + 0) 0 [some (.ref 56), none, none] [] h Post := by
    have a56 : 56 < n := lt83 (GI_n hG) rfl
    have s56 : S 56 = .inl (12, [0, 2, 2, 2, 2, 0, 0, 0, 0, 0, 0, 0, 0, 0, 0, 2, 2, 2, 0, 2, 2, 2, 0, 0, 2, 2, 2, 2, 2, 2, 0, 0, 2, 2, 2, 2, 2, 2, 2, 2, 2, 2]) := GI_s hG 56 rfl
    have a67 : 67 < n := lt83 (GI_n hG) rfl
    have s67 : S 67 = .inr (.int, 385, 0) := GI_s hG 67 rfl
    have a71 : 71 < n := lt83 (GI_n hG) rfl
    have s71 : S 71 = .inr (.boolean, 385, 0) := GI_s hG 71 rfl
    refine JcI (z := 0) (show mx_Sn _ _ 0 (mx_const (.int 0) 1) from sn_231 0) rfl ?_
    refine mx_J.step (ls2 := [some (.ref 56), some (xI 0), none]) (sn_231 1) (fun _ _ => rfl) ?_
    have c2 : ∀ (m1 : Nat) (w1_1 : Int) (Z2 : xZ) (h2 : mx_H), 385 - w1_1 < (m1 : Int) → 0 ≤ w1_1 ∧ w1_1 ≤ 385 → XH n s S Z2 h2 → GI n S Z2 → fr' [(71, (-1))] Z Z2 → mx_J (tB l D b0 ad Hb tau) mt_231 (d + 0) 2 [some (.ref 56), some (xI w1_1), none] [] h2 Post := by
      intro m1
      induction m1 with
      | zero => intro w1_1 Z2 h2 q1 f1_0 hx2 hG2 hf2; exact absurd q1 (by omega)
      | succ m1 ih1 =>
        intro w1_1 Z2 h2 q1 f1_0 hx2 hG2 hf2
        refine mx_J.step (sn_231 2) (fun _ _ => rfl) ?_
        refine mx_J.step (sn_231 3) (fun _ _ => rfl) ?_
        have b4 : 0 ≤ Z 56 18 ∧ Z 56 18 ≤ 385 := hG.pr 56 18
        refine JgetI (g := 18) (z := Z 56 18) hx2 (show mx_Sn _ _ 4 (mx_getf 12 18 7) from sn_231 4) a56 s56 rfl rfl (hf2 56 18 rfl) ?_
        refine Jicmp_ge (show mx_Sn _ _ 7 (mx_icmp_ge 23 10) from sn_231 7) (by omega) (by omega) (fun q5 => ?_) (fun q5 => ?_)
        · skip
          refine JcI (z := 0) (show mx_Sn _ _ 23 (mx_const (.int 0) 24) from sn_231 23) rfl ?_
          refine mx_J.step (ls2 := [some (.ref 56), some (xI 0), none]) (sn_231 24) (fun _ _ => rfl) ?_
          have c25 : ∀ (m6 : Nat) (w6_1 : Int) (Z7 : xZ) (h7 : mx_H), 385 - w6_1 < (m6 : Int) → 0 ≤ w6_1 ∧ w6_1 ≤ 385 → XH n s S Z7 h7 → GI n S Z7 → fr' [(71, (-1))] Z2 Z7 → mx_J (tB l D b0 ad Hb tau) mt_231 (d + 0) 25 [some (.ref 56), some (xI w6_1), none] [] h7 Post := by
            intro m6
            induction m6 with
            | zero => intro w6_1 Z7 h7 q6 f6_0 hx7 hG7 hf7; exact absurd q6 (by omega)
            | succ m6 ih6 =>
              intro w6_1 Z7 h7 q6 f6_0 hx7 hG7 hf7
              refine mx_J.step (sn_231 25) (fun _ _ => rfl) ?_
              refine mx_J.step (sn_231 26) (fun _ _ => rfl) ?_
              refine JgetI (g := 18) (z := Z 56 18) hx7 (show mx_Sn _ _ 27 (mx_getf 12 18 30) from sn_231 27) a56 s56 rfl rfl ((hf7 56 18 rfl).trans (hf2 56 18 rfl)) ?_
              refine Jicmp_ge (show mx_Sn _ _ 30 (mx_icmp_ge 51 33) from sn_231 30) (by omega) (by omega) (fun q9 => ?_) (fun q9 => ?_)
              · skip
                refine JcI (z := 0) (show mx_Sn _ _ 51 (mx_const (.int 0) 52) from sn_231 51) rfl ?_
                refine mx_J.step (ls2 := [some (.ref 56), some (xI 0), none]) (sn_231 52) (fun _ _ => rfl) ?_
                refine JcI (z := 0) (show mx_Sn _ _ 53 (mx_const (.int 0) 54) from sn_231 53) rfl ?_
                refine mx_J.step (ls2 := [some (.ref 56), some (xI 0), some (xI 0)]) (sn_231 54) (fun _ _ => rfl) ?_
                have c55 : ∀ (m10 : Nat) (w10_1 : Int) (w10_2 : Int), 385 - w10_2 < (m10 : Int) → (-2147483648) ≤ w10_1 ∧ w10_1 ≤ 2147483647 → 0 ≤ w10_2 ∧ w10_2 ≤ 385 → mx_J (tB l D b0 ad Hb tau) mt_231 (d + 0) 55 [some (.ref 56), some (xI w10_1), some (xI w10_2)] [] h7 Post := by
                  intro m10
                  induction m10 with
                  | zero => intro w10_1 w10_2 q10 f10_0 f10_1; exact absurd q10 (by omega)
                  | succ m10 ih10 =>
                    intro w10_1 w10_2 q10 f10_0 f10_1
                    refine mx_J.step (sn_231 55) (fun _ _ => rfl) ?_
                    refine mx_J.step (sn_231 56) (fun _ _ => rfl) ?_
                    refine JgetI (g := 18) (z := Z 56 18) hx7 (show mx_Sn _ _ 57 (mx_getf 12 18 60) from sn_231 57) a56 s56 rfl rfl ((hf7 56 18 rfl).trans (hf2 56 18 rfl)) ?_
                    refine Jicmp_ge (show mx_Sn _ _ 60 (mx_icmp_ge 86 63) from sn_231 60) (by omega) (by omega) (fun q12 => ?_) (fun q12 => ?_)
                    · skip
                      refine mx_J.step (sn_231 86) (fun _ _ => rfl) ?_
                      exact mx_J.ret (sn_231 87) (fun _ _ => rfl) (hP w10_1 Z7 h7 hx7 hG7 (fr_tr (M := [(71, (-1))]) (fr_tr (M := [(71, (-1))]) fr_rf (hf2) (M1 := []) rfl rfl) (hf7) rfl rfl) (by omega))
                    · skip
                      refine mx_J.step (sn_231 63) (fun _ _ => rfl) ?_
                      refine mx_J.step (sn_231 64) (fun _ _ => rfl) ?_
                      refine JgetR (g := 28) (b := 71) hx7 (show mx_Sn _ _ 65 (mx_getf 12 28 68) from sn_231 65) a56 s56 rfl rfl (hG7.prr 56 28 rfl) ?_
                      refine mx_J.step (sn_231 68) (fun _ _ => rfl) ?_
                      have b14 : 0 ≤ Z7 71 w10_2 ∧ Z7 71 w10_2 ≤ 1 := hG7.pr 71 w10_2
                      refine JzaldI (z := Z7 71 w10_2) hx7 (show mx_Sn _ _ 69 (mx_zald 70) from sn_231 69) a71 s71 (by omega) rfl ?_
                      have c78 : ∀ (k15_1 : Int), 0 ≤ k15_1 ∧ k15_1 ≤ 1 → mx_J (tB l D b0 ad Hb tau) mt_231 (d + 0) 78 [some (.ref 56), some (xI w10_1), some (xI w10_2)] [xI k15_1, xI w10_1] h7 Post := by
                        intro k15_1 f15_0
                        refine JiaddN (show mx_Sn _ _ 78 (mx_iadd 79) from sn_231 78) (fun y16 hy16 hq16 => ?_)
                        refine mx_J.step (ls2 := [some (.ref 56), some (xI y16), some (xI w10_2)]) (sn_231 79) (fun _ _ => rfl) ?_
                        refine Jiinc (z := w10_2) (cz := 1) (ls2 := [some (.ref 56), some (xI y16), some (xI (w10_2 + 1))]) (show mx_Sn _ _ 80 (mx_iinc 2 1 83) from sn_231 80) rfl rfl rfl rfl ?_
                        refine mx_J.step (sn_231 83) (fun _ _ => rfl) ?_
                        exact ih10 y16 (w10_2 + 1) (by omega) (by omega) (by omega)
                      refine Jif_eq (show mx_Sn _ _ 70 (mx_if_eq 77 73) from sn_231 70) (by omega) (fun q17 => ?_) (fun q17 => ?_)
                      · skip
                        refine JcI (z := 1) (show mx_Sn _ _ 77 (mx_const (.int 1) 78) from sn_231 77) rfl ?_
                        exact c78 1 (by omega)
                      · skip
                        refine JcI (z := 0) (show mx_Sn _ _ 73 (mx_const (.int 0) 74) from sn_231 73) rfl ?_
                        refine mx_J.step (sn_231 74) (fun _ _ => rfl) ?_
                        exact c78 0 (by omega)
                exact c55 (Int.toNat (385 - 0) + 1) 0 0 (by omega) (by omega) (by omega)
              · skip
                refine mx_J.step (sn_231 33) (fun _ _ => rfl) ?_
                refine JgetR (g := 28) (b := 71) hx7 (show mx_Sn _ _ 34 (mx_getf 12 28 37) from sn_231 34) a56 s56 rfl rfl (hG7.prr 56 28 rfl) ?_
                refine mx_J.step (sn_231 37) (fun _ _ => rfl) ?_
                refine JgetR (g := 24) (b := 67) hx7 (show mx_Sn _ _ 38 (mx_getf 12 24 41) from sn_231 38) a56 s56 rfl rfl (hG7.prr 56 24 rfl) ?_
                refine mx_J.step (sn_231 41) (fun _ _ => rfl) ?_
                have b20 : 0 ≤ Z 67 w6_1 ∧ Z 67 w6_1 ≤ 384 := hG.pr 67 w6_1
                refine JialdI (z := Z 67 w6_1) hx7 (show mx_Sn _ _ 42 (mx_iald 43) from sn_231 42) a67 s67 (by omega) ((hf7 67 w6_1 rfl).trans (hf2 67 w6_1 rfl)) ?_
                refine JcI (z := 1) (show mx_Sn _ _ 43 (mx_const (.int 1) 44) from sn_231 43) rfl ?_
                refine JzastI hx7 (show mx_Sn _ _ 44 (mx_zast 1 45) from sn_231 44) a71 s71 rfl (by omega) (by omega) (fun Z21 h21 hx21 hE21 => ?_)
                have hG21 := GI_up hG7 hE21 (show 0 ≤ 1 ∧ 1 ≤ 1 by omega) trivial rfl
                refine Jiinc (z := w6_1) (cz := 1) (ls2 := [some (.ref 56), some (xI (w6_1 + 1)), none]) (show mx_Sn _ _ 45 (mx_iinc 1 1 48) from sn_231 45) rfl rfl rfl rfl ?_
                refine mx_J.step (sn_231 48) (fun _ _ => rfl) ?_
                exact ih6 (w6_1 + 1) Z21 h21 (by omega) (by omega) hx21 hG21 (fr_tr (M := [(71, (-1))]) (fr_tr (M := [(71, (-1))]) fr_rf (hf7) (M1 := []) rfl rfl) (fr_ua hE21) rfl rfl)
          exact c25 (Int.toNat (385 - 0) + 1) 0 Z2 h2 (by omega) (by omega) hx2 hG2 fr_rf
        · skip
          refine mx_J.step (sn_231 10) (fun _ _ => rfl) ?_
          refine JgetR (g := 28) (b := 71) hx2 (show mx_Sn _ _ 11 (mx_getf 12 28 14) from sn_231 11) a56 s56 rfl rfl (hG2.prr 56 28 rfl) ?_
          refine mx_J.step (sn_231 14) (fun _ _ => rfl) ?_
          refine JcI (z := 0) (show mx_Sn _ _ 15 (mx_const (.int 0) 16) from sn_231 15) rfl ?_
          refine JzastI hx2 (show mx_Sn _ _ 16 (mx_zast 1 17) from sn_231 16) a71 s71 rfl (by omega) (by omega) (fun Z23 h23 hx23 hE23 => ?_)
          have hG23 := GI_up hG2 hE23 (show 0 ≤ 0 ∧ 0 ≤ 1 by omega) trivial rfl
          refine Jiinc (z := w1_1) (cz := 1) (ls2 := [some (.ref 56), some (xI (w1_1 + 1)), none]) (show mx_Sn _ _ 17 (mx_iinc 1 1 20) from sn_231 17) rfl rfl rfl rfl ?_
          refine mx_J.step (sn_231 20) (fun _ _ => rfl) ?_
          exact ih1 (w1_1 + 1) Z23 h23 (by omega) (by omega) hx23 hG23 (fr_tr (M := [(71, (-1))]) (fr_tr (M := [(71, (-1))]) fr_rf (hf2) (M1 := []) rfl rfl) (fr_ua hE23) rfl rfl)
    exact c2 (Int.toNat (385 - 0) + 1) 0 Z h (by omega) (by omega) hx hG fr_rf
theorem ct_231_56 {l : Launch} {D : va_G} {b0 : Nat} {ad : Nat → Nat} {Hb : Heap} {tau : Nat → Int64} {d n s : Nat} {S : Nat → xS} {Z : xZ} {h : mx_H} (hx : XH n s S Z h) (hG : GI n S Z)   : ∃ (z : Int) (Z' : xZ) (h' : mx_H), mx_Ca (tB l D b0 ad Hb tau) (d + 1) 231 [.ref 56] h (some (xI z), h') ∧ XH n s S Z' h' ∧ GI n S Z' ∧ fr' [(71, (-1))] Z Z' ∧ ((-2147483648) ≤ z ∧ z ≤ 2147483647) := by
  obtain ⟨r, hca, z, Z', h', e, q⟩ := Jmt (B := tB l D b0 ad Hb tau) (M := mt_231) (mi := 231) (as := [.ref 56]) (d := d + 0) (ls := [some (.ref 56), none, none]) rfl rfl rfl rfl rfl rfl (cw_231_56 (l := l) (D := D) (b0 := b0) (ad := ad) (Hb := Hb) (tau := tau) (d := d) (Post := fun r => ∃ (z : Int) (Z' : xZ) (h' : mx_H), r = (some (xI z), h') ∧ XH n s S Z' h' ∧ GI n S Z' ∧ fr' [(71, (-1))] Z Z' ∧ ((-2147483648) ≤ z ∧ z ≤ 2147483647)) hx hG  (fun z Z' h' q1 q2 q3 q4 => ⟨z, Z', h', rfl, q1, q2, q3, q4⟩))
  subst e; exact ⟨z, Z', h', hca, q⟩
set_option maxRecDepth 100000 in
theorem cw_232_56 {l : Launch} {D : va_G} {b0 : Nat} {ad : Nat → Nat} {Hb : Heap} {tau : Nat → Int64} {d n s : Nat} {S : Nat → xS} {Z : xZ} {h : mx_H} {Post : mx_R → Prop} (hx : XH n s S Z h) (hG : GI n S Z)  {x0 : Int} (p0 : 0 ≤ x0 ∧ x0 ≤ 384) (k0 : ai 67 Z (Z 56 18) 0 (Z 56 18 - 1) = 1) (k1 : x0 < Z 56 18) (hP : ∀ (z : Int) (Z' : xZ) (h' : mx_H), XH n s S Z' h' → GI n S Z' → fr' [(56, 30), (56, 31), (68, (-1)), (69, (-1))] Z Z' → 0 ≤ z ∧ z ≤ 384 → Post (some (xI z), h')) : mx_J (tB l D b0 ad Hb tau) mt_232 (d + 1) 0 [some (.ref 56), some (xI x0), none, none] [] h Post := by
    have a56 : 56 < n := lt83 (GI_n hG) rfl
    have s56 : S 56 = .inl (12, [0, 2, 2, 2, 2, 0, 0, 0, 0, 0, 0, 0, 0, 0, 0, 2, 2, 2, 0, 2, 2, 2, 0, 0, 2, 2, 2, 2, 2, 2, 0, 0, 2, 2, 2, 2, 2, 2, 2, 2, 2, 2]) := GI_s hG 56 rfl
    have a69 : 69 < n := lt83 (GI_n hG) rfl
    have s69 : S 69 = .inr (.int, 386, 0) := GI_s hG 69 rfl
    refine mx_J.step (sn_232 0) (fun _ _ => rfl) ?_
    refine mx_J.step (sn_232 1) (fun _ _ => rfl) ?_
    have b2 : 0 ≤ Z 56 18 ∧ Z 56 18 ≤ 385 := hG.pr 56 18
    obtain ⟨Z1, h1, hc1, hx1, hG1, hf1, b1⟩ := ct_227_56 (d := d + 0) (l := l) (D := D) (b0 := b0) (ad := ad) (Hb := Hb) (tau := tau) hx hG (show 0 ≤ x0 ∧ x0 ≤ 384 by omega) (show ai 67 Z (Z 56 18) 0 (Z 56 18 - 1) = 1 by omega) (show x0 < Z 56 18 by omega)
    have b3 : 0 ≤ Z1 56 30 ∧ Z1 56 30 ≤ 386 := hG1.pr 56 30
    have b4 : 0 ≤ Z1 56 31 ∧ Z1 56 31 ≤ 385 := hG1.pr 56 31
    refine Jcv0 hx (show mx_Sn _ _ 2 (mx_callv 227 2 12 5) from sn_232 2) a56 s56 hc1 rfl rfl rfl ?_
    refine mx_J.step (sn_232 5) (fun _ _ => rfl) ?_
    refine JgetR (g := 26) (b := 69) hx1 (show mx_Sn _ _ 6 (mx_getf 12 26 9) from sn_232 6) a56 s56 rfl rfl (hG1.prr 56 26 rfl) ?_
    refine mx_J.step (sn_232 9) (fun _ _ => rfl) ?_
    refine JgetI (g := 31) (z := Z1 56 31) hx1 (show mx_Sn _ _ 10 (mx_getf 12 31 13) from sn_232 10) a56 s56 rfl rfl rfl ?_
    have b7 : 0 ≤ Z1 69 (Z1 56 31) ∧ Z1 69 (Z1 56 31) ≤ 384 := hG1.pr 69 (Z1 56 31)
    refine JialdI (z := Z1 69 (Z1 56 31)) hx1 (show mx_Sn _ _ 13 (mx_iald 14) from sn_232 13) a69 s69 (by omega) rfl ?_
    refine mx_J.step (ls2 := [some (.ref 56), some (xI x0), some (xI (Z1 69 (Z1 56 31))), none]) (sn_232 14) (fun _ _ => rfl) ?_
    refine mx_J.step (sn_232 15) (fun _ _ => rfl) ?_
    refine JgetI (g := 31) (z := Z1 56 31) hx1 (show mx_Sn _ _ 16 (mx_getf 12 31 19) from sn_232 16) a56 s56 rfl rfl rfl ?_
    refine mx_J.step (ls2 := [some (.ref 56), some (xI x0), some (xI (Z1 69 (Z1 56 31))), some (xI (Z1 56 31))]) (sn_232 19) (fun _ _ => rfl) ?_
    have c20 : ∀ (m9 : Nat) (w9_2 : Int) (w9_3 : Int), 386 - w9_3 < (m9 : Int) → 0 ≤ w9_2 ∧ w9_2 ≤ 384 → 0 ≤ w9_3 ∧ w9_3 ≤ 386 → mx_J (tB l D b0 ad Hb tau) mt_232 (d + 1) 20 [some (.ref 56), some (xI x0), some (xI w9_2), some (xI w9_3)] [] h1 Post := by
      intro m9
      induction m9 with
      | zero => intro w9_2 w9_3 q9 f9_0 f9_1; exact absurd q9 (by omega)
      | succ m9 ih9 =>
        intro w9_2 w9_3 q9 f9_0 f9_1
        refine mx_J.step (sn_232 20) (fun _ _ => rfl) ?_
        refine mx_J.step (sn_232 21) (fun _ _ => rfl) ?_
        refine JgetI (g := 30) (z := Z1 56 30) hx1 (show mx_Sn _ _ 22 (mx_getf 12 30 25) from sn_232 22) a56 s56 rfl rfl rfl ?_
        refine Jicmp_ge (show mx_Sn _ _ 25 (mx_icmp_ge 55 28) from sn_232 25) (by omega) (by omega) (fun q11 => ?_) (fun q11 => ?_)
        · skip
          refine mx_J.step (sn_232 55) (fun _ _ => rfl) ?_
          have eq12 : Z1 56 18 = Z 56 18 := (hf1 56 18 rfl)
          have eq13 : (ai 67) Z1 (Z 56 18) 0 (Z 56 18 - 1) = (ai 67) Z (Z 56 18) 0 (Z 56 18 - 1) := (ai_c (fun i => hf1 67 i rfl))
          exact mx_J.ret (sn_232 56) (fun _ _ => rfl) (hP w9_2 Z1 h1 hx1 hG1 (fr_tr (M := [(56, 30), (56, 31), (68, (-1)), (69, (-1))]) fr_rf (hf1) (M1 := []) rfl rfl) (by omega))
        · skip
          refine mx_J.step (sn_232 28) (fun _ _ => rfl) ?_
          refine JgetR (g := 26) (b := 69) hx1 (show mx_Sn _ _ 29 (mx_getf 12 26 32) from sn_232 29) a56 s56 rfl rfl (hG1.prr 56 26 rfl) ?_
          refine mx_J.step (sn_232 32) (fun _ _ => rfl) ?_
          have b15 : 0 ≤ Z1 69 w9_3 ∧ Z1 69 w9_3 ≤ 384 := hG1.pr 69 w9_3
          refine JialdI (z := Z1 69 w9_3) hx1 (show mx_Sn _ _ 33 (mx_iald 34) from sn_232 33) a69 s69 (by omega) rfl ?_
          refine mx_J.step (sn_232 34) (fun _ _ => rfl) ?_
          have c48 : ∀ (k16_0 : Int), 0 ≤ k16_0 ∧ k16_0 ≤ 384 → mx_J (tB l D b0 ad Hb tau) mt_232 (d + 1) 48 [some (.ref 56), some (xI x0), some (xI w9_2), some (xI w9_3)] [xI k16_0] h1 Post := by
            intro k16_0 f16_0
            refine mx_J.step (ls2 := [some (.ref 56), some (xI x0), some (xI k16_0), some (xI w9_3)]) (sn_232 48) (fun _ _ => rfl) ?_
            refine Jiinc (z := w9_3) (cz := 1) (ls2 := [some (.ref 56), some (xI x0), some (xI k16_0), some (xI (w9_3 + 1))]) (show mx_Sn _ _ 49 (mx_iinc 3 1 52) from sn_232 49) rfl rfl rfl rfl ?_
            refine mx_J.step (sn_232 52) (fun _ _ => rfl) ?_
            exact ih9 k16_0 (w9_3 + 1) (by omega) (by omega) (by omega)
          refine Jicmp_ge (show mx_Sn _ _ 35 (mx_icmp_ge 47 38) from sn_232 35) (by omega) (by omega) (fun q17 => ?_) (fun q17 => ?_)
          · skip
            refine mx_J.step (sn_232 47) (fun _ _ => rfl) ?_
            exact c48 w9_2 (by omega)
          · skip
            refine mx_J.step (sn_232 38) (fun _ _ => rfl) ?_
            refine JgetR (g := 26) (b := 69) hx1 (show mx_Sn _ _ 39 (mx_getf 12 26 42) from sn_232 39) a56 s56 rfl rfl (hG1.prr 56 26 rfl) ?_
            refine mx_J.step (sn_232 42) (fun _ _ => rfl) ?_
            refine JialdI (z := Z1 69 w9_3) hx1 (show mx_Sn _ _ 43 (mx_iald 44) from sn_232 43) a69 s69 (by omega) rfl ?_
            refine mx_J.step (sn_232 44) (fun _ _ => rfl) ?_
            exact c48 (Z1 69 w9_3) (by omega)
    exact c20 (Int.toNat (386 - (Z1 56 31)) + 1) (Z1 69 (Z1 56 31)) (Z1 56 31) (by omega) (by omega) (by omega)
theorem ct_232_56 {l : Launch} {D : va_G} {b0 : Nat} {ad : Nat → Nat} {Hb : Heap} {tau : Nat → Int64} {d n s : Nat} {S : Nat → xS} {Z : xZ} {h : mx_H} (hx : XH n s S Z h) (hG : GI n S Z)  {x0 : Int} (p0 : 0 ≤ x0 ∧ x0 ≤ 384) (k0 : ai 67 Z (Z 56 18) 0 (Z 56 18 - 1) = 1) (k1 : x0 < Z 56 18) : ∃ (z : Int) (Z' : xZ) (h' : mx_H), mx_Ca (tB l D b0 ad Hb tau) (d + 2) 232 [.ref 56, xI x0] h (some (xI z), h') ∧ XH n s S Z' h' ∧ GI n S Z' ∧ fr' [(56, 30), (56, 31), (68, (-1)), (69, (-1))] Z Z' ∧ (0 ≤ z ∧ z ≤ 384) := by
  obtain ⟨r, hca, z, Z', h', e, q⟩ := Jmt (B := tB l D b0 ad Hb tau) (M := mt_232) (mi := 232) (as := [.ref 56, xI x0]) (d := d + 1) (ls := [some (.ref 56), some (xI x0), none, none]) rfl rfl rfl rfl rfl rfl (cw_232_56 (l := l) (D := D) (b0 := b0) (ad := ad) (Hb := Hb) (tau := tau) (d := d) (Post := fun r => ∃ (z : Int) (Z' : xZ) (h' : mx_H), r = (some (xI z), h') ∧ XH n s S Z' h' ∧ GI n S Z' ∧ fr' [(56, 30), (56, 31), (68, (-1)), (69, (-1))] Z Z' ∧ (0 ≤ z ∧ z ≤ 384)) hx hG p0 k0 k1 (fun z Z' h' q1 q2 q3 q4 => ⟨z, Z', h', rfl, q1, q2, q3, q4⟩))
  subst e; exact ⟨z, Z', h', hca, q⟩
set_option maxRecDepth 100000 in
theorem cw_233_56 {l : Launch} {D : va_G} {b0 : Nat} {ad : Nat → Nat} {Hb : Heap} {tau : Nat → Int64} {d n s : Nat} {S : Nat → xS} {Z : xZ} {h : mx_H} {Post : mx_R → Prop} (hx : XH n s S Z h) (hG : GI n S Z)  {x0 : Int} (p0 : (-2147483648) ≤ x0 ∧ x0 ≤ 2147483647) (hP : ∀ (z : Int) (Z' : xZ) (h' : mx_H), XH n s S Z' h' → GI n S Z' → fr' [(56, 0), (56, 30), (56, 31), (62, (-1)), (64, (-1)), (65, (-1)), (67, (-1)), (68, (-1)), (69, (-1)), (70, (-1)), (71, (-1))] Z Z' → (-2147483648) ≤ z ∧ z ≤ 2147483647 → Post (some (xI z), h')) : mx_J (tB l D b0 ad Hb tau) mt_233 (d + 7) 0 [some (.ref 56), some (xI x0), none, none, none, none] [] h Post := by
    have a56 : 56 < n := lt83 (GI_n hG) rfl
    have s56 : S 56 = .inl (12, [0, 2, 2, 2, 2, 0, 0, 0, 0, 0, 0, 0, 0, 0, 0, 2, 2, 2, 0, 2, 2, 2, 0, 0, 2, 2, 2, 2, 2, 2, 0, 0, 2, 2, 2, 2, 2, 2, 2, 2, 2, 2]) := GI_s hG 56 rfl
    have a57 : 57 < n := lt83 (GI_n hG) rfl
    have s57 : S 57 = .inr (.int, 2886, 0) := GI_s hG 57 rfl
    have a70 : 70 < n := lt83 (GI_n hG) rfl
    have s70 : S 70 = .inr (.boolean, 385, 0) := GI_s hG 70 rfl
    refine mx_J.step (sn_233 0) (fun _ _ => rfl) ?_
    refine JcI (z := 0) (show mx_Sn _ _ 1 (mx_const (.int 0) 2) from sn_233 1) rfl ?_
    refine JputI (g := 0) hx (show mx_Sn _ _ 2 (mx_putf 1 12 0 (.int) 5) from sn_233 2) a56 s56 rfl rfl rfl rfl (fun Z1 h1 hx1 hE1 => ?_)
    have hG1 := GI_up hG hE1 (show (-2147483648) ≤ 0 ∧ 0 ≤ 2147483647 by omega) trivial rfl
    refine mx_J.step (sn_233 5) (fun _ _ => rfl) ?_
    refine Ji2l (show mx_Sn _ _ 6 (mx_i2l 7) from sn_233 6) (by omega) ?_
    refine JcL (z := 0) (show mx_Sn _ _ 7 (mx_const (.long 0) 8) from sn_233 7) rfl ?_
    refine JcL (z := 5) (show mx_Sn _ _ 8 (mx_const (.long 5) 11) from sn_233 8) rfl ?_
    obtain ⟨z2, hc2, b2⟩ := ct_154_ (d := d + 6) (l := l) (D := D) (b0 := b0) (ad := ad) (Hb := Hb) (tau := tau) hx1 hG1 (show (-9223372036854775808) ≤ x0 ∧ x0 ≤ 9223372036854775807 by omega) (show (-9223372036854775808) ≤ 0 ∧ 0 ≤ 9223372036854775807 by omega) (show (-9223372036854775808) ≤ 5 ∧ 5 ≤ 9223372036854775807 by omega)
    refine Jcs (show mx_Sn _ _ 11 (mx_calls 154 3 14) from sn_233 11) hc2 rfl rfl rfl ?_
    refine Jif_ne (show mx_Sn _ _ 14 (mx_if_ne 20 17) from sn_233 14) (by omega) (fun q3 => ?_) (fun q3 => ?_)
    · skip
      refine mx_J.step (sn_233 20) (fun _ _ => rfl) ?_
      refine Jif_ne (show mx_Sn _ _ 21 (mx_if_ne 29 24) from sn_233 21) (by omega) (fun q4 => ?_) (fun q4 => ?_)
      · skip
        refine mx_J.step (sn_233 29) (fun _ _ => rfl) ?_
        have eq6 : Z1 56 18 = Z 56 18 := (up_ni hE1 (by decide))
        have b7 : 0 ≤ Z 56 18 ∧ Z 56 18 ≤ 385 := hG.pr 56 18
        obtain ⟨Z5, h5, hc5, hx5, hG5, hf5, b5⟩ := ct_230_56 (d := d + 0) (l := l) (D := D) (b0 := b0) (ad := ad) (Hb := Hb) (tau := tau) hx1 hG1 
        try rw [eq6] at b5
        refine Jcv0 hx1 (show mx_Sn _ _ 30 (mx_callv 230 1 12 33) from sn_233 30) a56 s56 hc5 rfl rfl rfl ?_
        refine mx_J.step (sn_233 33) (fun _ _ => rfl) ?_
        refine JcI (z := 1) (show mx_Sn _ _ 34 (mx_const (.int 1) 35) from sn_233 34) rfl ?_
        refine Jicmp_ne (show mx_Sn _ _ 35 (mx_icmp_ne 43 38) from sn_233 35) (by omega) (by omega) (fun q8 => ?_) (fun q8 => ?_)
        · skip
          refine mx_J.step (sn_233 43) (fun _ _ => rfl) ?_
          refine mx_J.step (sn_233 44) (fun _ _ => rfl) ?_
          refine JgetR (g := 1) (b := 57) hx5 (show mx_Sn _ _ 45 (mx_getf 12 1 48) from sn_233 45) a56 s56 rfl rfl (hG5.prr 56 1 rfl) ?_
          refine JcI (z := 27) (show mx_Sn _ _ 48 (mx_const (.int 27) 50) from sn_233 48) rfl ?_
          have b10 := GI_st hG 27
          have b11 : 0 ≤ Z 57 27 ∧ Z 57 27 ≤ 384 := by have hq := GI_ex hG 57 27; replace hq : f57 (27 % 962) (Z 57 27) := hq; unfold f57 at hq; omega
          have b12 : (-2147483648) ≤ Z 57 27 ∧ Z 57 27 ≤ 2147483647 := hG.pr 57 27
          refine JialdI (z := Z 57 27) hx5 (show mx_Sn _ _ 50 (mx_iald 51) from sn_233 50) a57 s57 (by omega) ((hf5 57 27 rfl).trans (up_nk hE1 rfl)) ?_
          have eq14 : Z5 56 18 = Z 56 18 := ((hf5 56 18 rfl).trans (up_ni hE1 (by decide)))
          obtain ⟨z13, Z13, h13, hc13, hx13, hG13, hf13, b13⟩ := ct_232_56 (d := d + 5) (l := l) (D := D) (b0 := b0) (ad := ad) (Hb := Hb) (tau := tau) hx5 hG5 (show 0 ≤ Z 57 27 ∧ Z 57 27 ≤ 384 by omega) (show ai 67 Z5 (Z5 56 18) 0 (Z5 56 18 - 1) = 1 by first | omega | (simp only [eq14]; omega)) (show (Z 57 27) < Z5 56 18 by first | omega | (simp only [eq14]; omega))
          try rw [eq14] at b13
          refine Jcv hx5 (show mx_Sn _ _ 51 (mx_callv 232 2 12 54) from sn_233 51) a56 s56 hc13 rfl rfl rfl ?_
          refine mx_J.step (ls2 := [some (.ref 56), some (xI x0), some (xI z13), none, none, none]) (sn_233 54) (fun _ _ => rfl) ?_
          refine JcI (z := 0) (show mx_Sn _ _ 55 (mx_const (.int 0) 56) from sn_233 55) rfl ?_
          refine mx_J.step (ls2 := [some (.ref 56), some (xI x0), some (xI z13), some (xI 0), none, none]) (sn_233 56) (fun _ _ => rfl) ?_
          refine JcI (z := 0) (show mx_Sn _ _ 57 (mx_const (.int 0) 58) from sn_233 57) rfl ?_
          refine mx_J.step (ls2 := [some (.ref 56), some (xI x0), some (xI z13), some (xI 0), some (xI 0), none]) (sn_233 58) (fun _ _ => rfl) ?_
          have c60 : ∀ (m15 : Nat) (w15_3 : Int) (w15_4 : Int) (u15_5 : Option Value) (Z16 : xZ) (h16 : mx_H), 385 - w15_4 < (m15 : Int) → (-2147483648) ≤ w15_3 ∧ w15_3 ≤ 2147483647 → 0 ≤ w15_4 ∧ w15_4 ≤ 385 → XH n s S Z16 h16 → GI n S Z16 → fr' [(56, 30), (56, 31), (68, (-1)), (69, (-1))] Z13 Z16 → mx_J (tB l D b0 ad Hb tau) mt_233 (d + 7) 60 [some (.ref 56), some (xI x0), some (xI z13), some (xI w15_3), some (xI w15_4), u15_5] [] h16 Post := by
            intro m15
            induction m15 with
            | zero => intro w15_3 w15_4 u15_5 Z16 h16 q15 f15_0 f15_1 hx16 hG16 hf16; exact absurd q15 (by omega)
            | succ m15 ih15 =>
              intro w15_3 w15_4 u15_5 Z16 h16 q15 f15_0 f15_1 hx16 hG16 hf16
              refine mx_J.step (sn_233 60) (fun _ _ => rfl) ?_
              refine mx_J.step (sn_233 62) (fun _ _ => rfl) ?_
              refine JgetI (g := 18) (z := Z 56 18) hx16 (show mx_Sn _ _ 63 (mx_getf 12 18 66) from sn_233 63) a56 s56 rfl rfl ((hf16 56 18 rfl).trans ((hf13 56 18 rfl).trans ((hf5 56 18 rfl).trans (up_ni hE1 (by decide))))) ?_
              refine Jicmp_ge (show mx_Sn _ _ 66 (mx_icmp_ge 171 69) from sn_233 66) (by omega) (by omega) (fun q18 => ?_) (fun q18 => ?_)
              · skip
                refine mx_J.step (sn_233 171) (fun _ _ => rfl) ?_
                exact mx_J.ret (sn_233 172) (fun _ _ => rfl) (hP w15_3 Z16 h16 hx16 hG16 (fr_tr (M := [(56, 0), (56, 30), (56, 31), (62, (-1)), (64, (-1)), (65, (-1)), (67, (-1)), (68, (-1)), (69, (-1)), (70, (-1)), (71, (-1))]) (fr_tr (M := [(56, 0), (56, 30), (56, 31), (62, (-1)), (64, (-1)), (65, (-1)), (67, (-1)), (68, (-1)), (69, (-1)), (70, (-1)), (71, (-1))]) (fr_tr (M := [(56, 0), (56, 30), (56, 31), (62, (-1)), (64, (-1)), (65, (-1)), (67, (-1)), (68, (-1)), (69, (-1)), (70, (-1)), (71, (-1))]) (fr_tr (M := [(56, 0), (56, 30), (56, 31), (62, (-1)), (64, (-1)), (65, (-1)), (67, (-1)), (68, (-1)), (69, (-1)), (70, (-1)), (71, (-1))]) fr_rf (fr_up hE1) (M1 := []) rfl rfl) (hf5) rfl rfl) (hf13) rfl rfl) (hf16) rfl rfl) (by omega))
              · skip
                refine mx_J.step (sn_233 69) (fun _ _ => rfl) ?_
                refine mx_J.step (sn_233 70) (fun _ _ => rfl) ?_
                have eq20 : Z16 56 18 = Z 56 18 := ((hf16 56 18 rfl).trans ((hf13 56 18 rfl).trans ((hf5 56 18 rfl).trans (up_ni hE1 (by decide)))))
                have eq21 : (ai 67) Z16 (Z 56 18) 0 (Z 56 18 - 1) = (ai 67) Z5 (Z 56 18) 0 (Z 56 18 - 1) := ((ai_c (fun i => hf16 67 i rfl)).trans (ai_c (fun i => hf13 67 i rfl)))
                obtain ⟨z19, Z19, h19, hc19, hx19, hG19, hf19, b19⟩ := ct_232_56 (d := d + 5) (l := l) (D := D) (b0 := b0) (ad := ad) (Hb := Hb) (tau := tau) hx16 hG16 (show 0 ≤ w15_4 ∧ w15_4 ≤ 384 by omega) (show ai 67 Z16 (Z16 56 18) 0 (Z16 56 18 - 1) = 1 by first | omega | (simp only [eq20]; omega)) (show w15_4 < Z16 56 18 by first | omega | (simp only [eq20]; omega))
                try rw [eq20] at b19
                refine Jcv hx16 (show mx_Sn _ _ 72 (mx_callv 232 2 12 75) from sn_233 72) a56 s56 hc19 rfl rfl rfl ?_
                refine mx_J.step (ls2 := [some (.ref 56), some (xI x0), some (xI z13), some (xI w15_3), some (xI w15_4), some (xI z19)]) (sn_233 75) (fun _ _ => rfl) ?_
                refine mx_J.step (sn_233 77) (fun _ _ => rfl) ?_
                refine JcI (z := 2) (show mx_Sn _ _ 78 (mx_const (.int 2) 79) from sn_233 78) rfl ?_
                have c165 : ∀ (w22_3 : Int), (-2147483648) ≤ w22_3 ∧ w22_3 ≤ 2147483647 → mx_J (tB l D b0 ad Hb tau) mt_233 (d + 7) 165 [some (.ref 56), some (xI x0), some (xI z13), some (xI w22_3), some (xI w15_4), some (xI z19)] [] h19 Post := by
                  intro w22_3 f22_0
                  refine Jiinc (z := w15_4) (cz := 1) (ls2 := [some (.ref 56), some (xI x0), some (xI z13), some (xI w22_3), some (xI (w15_4 + 1)), some (xI z19)]) (show mx_Sn _ _ 165 (mx_iinc 4 1 168) from sn_233 165) rfl rfl rfl rfl ?_
                  refine mx_J.step (sn_233 168) (fun _ _ => rfl) ?_
                  exact ih15 w22_3 (w15_4 + 1) (some (xI z19)) Z19 h19 (by omega) (by omega) (by omega) hx19 hG19 (fr_tr (M := [(56, 30), (56, 31), (68, (-1)), (69, (-1))]) (fr_tr (M := [(56, 30), (56, 31), (68, (-1)), (69, (-1))]) fr_rf (hf16) (M1 := []) rfl rfl) (hf19) rfl rfl)
                refine Jicmp_ne (show mx_Sn _ _ 79 (mx_icmp_ne 103 82) from sn_233 79) (by omega) (by omega) (fun q23 => ?_) (fun q23 => ?_)
                · skip
                  refine mx_J.step (sn_233 103) (fun _ _ => rfl) ?_
                  refine JcI (z := 3) (show mx_Sn _ _ 104 (mx_const (.int 3) 105) from sn_233 104) rfl ?_
                  refine Jicmp_ne (show mx_Sn _ _ 105 (mx_icmp_ne 126 108) from sn_233 105) (by omega) (by omega) (fun q24 => ?_) (fun q24 => ?_)
                  · skip
                    refine mx_J.step (sn_233 126) (fun _ _ => rfl) ?_
                    refine JcI (z := 4) (show mx_Sn _ _ 127 (mx_const (.int 4) 128) from sn_233 127) rfl ?_
                    refine Jicmp_ne (show mx_Sn _ _ 128 (mx_icmp_ne 151 131) from sn_233 128) (by omega) (by omega) (fun q25 => ?_) (fun q25 => ?_)
                    · skip
                      refine mx_J.step (sn_233 151) (fun _ _ => rfl) ?_
                      refine mx_J.step (sn_233 152) (fun _ _ => rfl) ?_
                      refine mx_J.step (sn_233 154) (fun _ _ => rfl) ?_
                      have c163 : ∀ (k26_1 : Int), 0 ≤ k26_1 ∧ k26_1 ≤ 1 → mx_J (tB l D b0 ad Hb tau) mt_233 (d + 7) 163 [some (.ref 56), some (xI x0), some (xI z13), some (xI w15_3), some (xI w15_4), some (xI z19)] [xI k26_1, xI w15_3] h19 Post := by
                        intro k26_1 f26_0
                        refine JiaddN (show mx_Sn _ _ 163 (mx_iadd 164) from sn_233 163) (fun y27 hy27 hq27 => ?_)
                        refine mx_J.step (ls2 := [some (.ref 56), some (xI x0), some (xI z13), some (xI y27), some (xI w15_4), some (xI z19)]) (sn_233 164) (fun _ _ => rfl) ?_
                        exact c165 y27 (by omega)
                      refine Jicmp_ne (show mx_Sn _ _ 155 (mx_icmp_ne 162 158) from sn_233 155) (by omega) (by omega) (fun q28 => ?_) (fun q28 => ?_)
                      · skip
                        refine JcI (z := 0) (show mx_Sn _ _ 162 (mx_const (.int 0) 163) from sn_233 162) rfl ?_
                        exact c163 0 (by omega)
                      · skip
                        refine JcI (z := 1) (show mx_Sn _ _ 158 (mx_const (.int 1) 159) from sn_233 158) rfl ?_
                        refine mx_J.step (sn_233 159) (fun _ _ => rfl) ?_
                        exact c163 1 (by omega)
                    · skip
                      refine mx_J.step (sn_233 131) (fun _ _ => rfl) ?_
                      have b30 : 0 ≤ Z19 56 31 ∧ Z19 56 31 ≤ 385 := hG19.pr 56 31
                      refine JgetI (g := 31) (z := Z19 56 31) hx19 (show mx_Sn _ _ 132 (mx_getf 12 31 135) from sn_233 132) a56 s56 rfl rfl rfl ?_
                      refine mx_J.step (sn_233 135) (fun _ _ => rfl) ?_
                      have c147 : ∀ (k31_0 : Int), 0 ≤ k31_0 ∧ k31_0 ≤ 2147483647 → mx_J (tB l D b0 ad Hb tau) mt_233 (d + 7) 147 [some (.ref 56), some (xI x0), some (xI z13), some (xI w15_3), some (xI w15_4), some (xI z19)] [xI k31_0] h19 Post := by
                        intro k31_0 f31_0
                        refine mx_J.step (ls2 := [some (.ref 56), some (xI x0), some (xI z13), some (xI k31_0), some (xI w15_4), some (xI z19)]) (sn_233 147) (fun _ _ => rfl) ?_
                        refine mx_J.step (sn_233 148) (fun _ _ => rfl) ?_
                        exact c165 k31_0 (by omega)
                      refine Jicmp_le (show mx_Sn _ _ 136 (mx_icmp_le 146 139) from sn_233 136) (by omega) (by omega) (fun q32 => ?_) (fun q32 => ?_)
                      · skip
                        refine mx_J.step (sn_233 146) (fun _ _ => rfl) ?_
                        exact c147 w15_3 (by omega)
                      · skip
                        refine mx_J.step (sn_233 139) (fun _ _ => rfl) ?_
                        refine JgetI (g := 31) (z := Z19 56 31) hx19 (show mx_Sn _ _ 140 (mx_getf 12 31 143) from sn_233 140) a56 s56 rfl rfl rfl ?_
                        refine mx_J.step (sn_233 143) (fun _ _ => rfl) ?_
                        exact c147 (Z19 56 31) (by omega)
                  · skip
                    refine mx_J.step (sn_233 108) (fun _ _ => rfl) ?_
                    refine mx_J.step (sn_233 109) (fun _ _ => rfl) ?_
                    refine mx_J.step (sn_233 111) (fun _ _ => rfl) ?_
                    have c121 : ∀ (k34_1 : Int), 0 ≤ k34_1 ∧ k34_1 ≤ 1 → mx_J (tB l D b0 ad Hb tau) mt_233 (d + 7) 121 [some (.ref 56), some (xI x0), some (xI z13), some (xI w15_3), some (xI w15_4), some (xI z19)] [xI k34_1, xI w15_3] h19 Post := by
                      intro k34_1 f34_0
                      refine JiaddN (show mx_Sn _ _ 121 (mx_iadd 122) from sn_233 121) (fun y35 hy35 hq35 => ?_)
                      refine mx_J.step (ls2 := [some (.ref 56), some (xI x0), some (xI z13), some (xI y35), some (xI w15_4), some (xI z19)]) (sn_233 122) (fun _ _ => rfl) ?_
                      refine mx_J.step (sn_233 123) (fun _ _ => rfl) ?_
                      exact c165 y35 (by omega)
                    refine Jicmp_ne (show mx_Sn _ _ 113 (mx_icmp_ne 120 116) from sn_233 113) (by omega) (by omega) (fun q36 => ?_) (fun q36 => ?_)
                    · skip
                      refine JcI (z := 0) (show mx_Sn _ _ 120 (mx_const (.int 0) 121) from sn_233 120) rfl ?_
                      exact c121 0 (by omega)
                    · skip
                      refine JcI (z := 1) (show mx_Sn _ _ 116 (mx_const (.int 1) 117) from sn_233 116) rfl ?_
                      refine mx_J.step (sn_233 117) (fun _ _ => rfl) ?_
                      exact c121 1 (by omega)
                · skip
                  refine mx_J.step (sn_233 82) (fun _ _ => rfl) ?_
                  refine mx_J.step (sn_233 83) (fun _ _ => rfl) ?_
                  refine JgetR (g := 27) (b := 70) hx19 (show mx_Sn _ _ 84 (mx_getf 12 27 87) from sn_233 84) a56 s56 rfl rfl (hG19.prr 56 27 rfl) ?_
                  refine mx_J.step (sn_233 87) (fun _ _ => rfl) ?_
                  have b38 : 0 ≤ Z5 70 w15_4 ∧ Z5 70 w15_4 ≤ 1 := hG5.pr 70 w15_4
                  refine JzaldI (z := Z5 70 w15_4) hx19 (show mx_Sn _ _ 89 (mx_zald 90) from sn_233 89) a70 s70 (by omega) ((hf19 70 w15_4 rfl).trans ((hf16 70 w15_4 rfl).trans (hf13 70 w15_4 rfl))) ?_
                  have c98 : ∀ (k39_1 : Int), 0 ≤ k39_1 ∧ k39_1 ≤ 1 → mx_J (tB l D b0 ad Hb tau) mt_233 (d + 7) 98 [some (.ref 56), some (xI x0), some (xI z13), some (xI w15_3), some (xI w15_4), some (xI z19)] [xI k39_1, xI w15_3] h19 Post := by
                    intro k39_1 f39_0
                    refine JiaddN (show mx_Sn _ _ 98 (mx_iadd 99) from sn_233 98) (fun y40 hy40 hq40 => ?_)
                    refine mx_J.step (ls2 := [some (.ref 56), some (xI x0), some (xI z13), some (xI y40), some (xI w15_4), some (xI z19)]) (sn_233 99) (fun _ _ => rfl) ?_
                    refine mx_J.step (sn_233 100) (fun _ _ => rfl) ?_
                    exact c165 y40 (by omega)
                  refine Jif_eq (show mx_Sn _ _ 90 (mx_if_eq 97 93) from sn_233 90) (by omega) (fun q41 => ?_) (fun q41 => ?_)
                  · skip
                    refine JcI (z := 0) (show mx_Sn _ _ 97 (mx_const (.int 0) 98) from sn_233 97) rfl ?_
                    exact c98 0 (by omega)
                  · skip
                    refine JcI (z := 1) (show mx_Sn _ _ 93 (mx_const (.int 1) 94) from sn_233 93) rfl ?_
                    refine mx_J.step (sn_233 94) (fun _ _ => rfl) ?_
                    exact c98 1 (by omega)
          exact c60 (Int.toNat (385 - 0) + 1) 0 0 none Z13 h13 (by omega) (by omega) (by omega) hx13 hG13 fr_rf
        · skip
          refine mx_J.step (sn_233 38) (fun _ _ => rfl) ?_
          obtain ⟨z42, Z42, h42, hc42, hx42, hG42, hf42, b42⟩ := ct_231_56 (d := d + 6) (l := l) (D := D) (b0 := b0) (ad := ad) (Hb := Hb) (tau := tau) hx5 hG5 
          refine Jcv hx5 (show mx_Sn _ _ 39 (mx_callv 231 1 12 42) from sn_233 39) a56 s56 hc42 rfl rfl rfl ?_
          exact mx_J.ret (sn_233 42) (fun _ _ => rfl) (hP z42 Z42 h42 hx42 hG42 (fr_tr (M := [(56, 0), (56, 30), (56, 31), (62, (-1)), (64, (-1)), (65, (-1)), (67, (-1)), (68, (-1)), (69, (-1)), (70, (-1)), (71, (-1))]) (fr_tr (M := [(56, 0), (56, 30), (56, 31), (62, (-1)), (64, (-1)), (65, (-1)), (67, (-1)), (68, (-1)), (69, (-1)), (70, (-1)), (71, (-1))]) (fr_tr (M := [(56, 0), (56, 30), (56, 31), (62, (-1)), (64, (-1)), (65, (-1)), (67, (-1)), (68, (-1)), (69, (-1)), (70, (-1)), (71, (-1))]) fr_rf (fr_up hE1) (M1 := []) rfl rfl) (hf5) rfl rfl) (hf42) rfl rfl) (by omega))
      · skip
        refine mx_J.step (sn_233 24) (fun _ _ => rfl) ?_
        have b44 : 0 ≤ Z 56 18 ∧ Z 56 18 ≤ 385 := hG.pr 56 18
        refine JgetI (g := 18) (z := Z 56 18) hx1 (show mx_Sn _ _ 25 (mx_getf 12 18 28) from sn_233 25) a56 s56 rfl rfl (up_ni hE1 (by decide)) ?_
        exact mx_J.ret (sn_233 28) (fun _ _ => rfl) (hP (Z 56 18) Z1 h1 hx1 hG1 (fr_tr (M := [(56, 0), (56, 30), (56, 31), (62, (-1)), (64, (-1)), (65, (-1)), (67, (-1)), (68, (-1)), (69, (-1)), (70, (-1)), (71, (-1))]) fr_rf (fr_up hE1) (M1 := []) rfl rfl) (by omega))
    · skip
      refine JcI (z := (-2)) (show mx_Sn _ _ 17 (mx_const (.int (-2)) 19) from sn_233 17) rfl ?_
      exact mx_J.ret (sn_233 19) (fun _ _ => rfl) (hP (-2) Z1 h1 hx1 hG1 (fr_tr (M := [(56, 0), (56, 30), (56, 31), (62, (-1)), (64, (-1)), (65, (-1)), (67, (-1)), (68, (-1)), (69, (-1)), (70, (-1)), (71, (-1))]) fr_rf (fr_up hE1) (M1 := []) rfl rfl) (by omega))
theorem ct_233_56 {l : Launch} {D : va_G} {b0 : Nat} {ad : Nat → Nat} {Hb : Heap} {tau : Nat → Int64} {d n s : Nat} {S : Nat → xS} {Z : xZ} {h : mx_H} (hx : XH n s S Z h) (hG : GI n S Z)  {x0 : Int} (p0 : (-2147483648) ≤ x0 ∧ x0 ≤ 2147483647) : ∃ (z : Int) (Z' : xZ) (h' : mx_H), mx_Ca (tB l D b0 ad Hb tau) (d + 8) 233 [.ref 56, xI x0] h (some (xI z), h') ∧ XH n s S Z' h' ∧ GI n S Z' ∧ fr' [(56, 0), (56, 30), (56, 31), (62, (-1)), (64, (-1)), (65, (-1)), (67, (-1)), (68, (-1)), (69, (-1)), (70, (-1)), (71, (-1))] Z Z' ∧ ((-2147483648) ≤ z ∧ z ≤ 2147483647) := by
  obtain ⟨r, hca, z, Z', h', e, q⟩ := Jmt (B := tB l D b0 ad Hb tau) (M := mt_233) (mi := 233) (as := [.ref 56, xI x0]) (d := d + 7) (ls := [some (.ref 56), some (xI x0), none, none, none, none]) rfl rfl rfl rfl rfl rfl (cw_233_56 (l := l) (D := D) (b0 := b0) (ad := ad) (Hb := Hb) (tau := tau) (d := d) (Post := fun r => ∃ (z : Int) (Z' : xZ) (h' : mx_H), r = (some (xI z), h') ∧ XH n s S Z' h' ∧ GI n S Z' ∧ fr' [(56, 0), (56, 30), (56, 31), (62, (-1)), (64, (-1)), (65, (-1)), (67, (-1)), (68, (-1)), (69, (-1)), (70, (-1)), (71, (-1))] Z Z' ∧ ((-2147483648) ≤ z ∧ z ≤ 2147483647)) hx hG p0 (fun z Z' h' q1 q2 q3 q4 => ⟨z, Z', h', rfl, q1, q2, q3, q4⟩))
  subst e; exact ⟨z, Z', h', hca, q⟩
set_option maxRecDepth 100000 in
theorem cw_234_56 {l : Launch} {D : va_G} {b0 : Nat} {ad : Nat → Nat} {Hb : Heap} {tau : Nat → Int64} {d n s : Nat} {S : Nat → xS} {Z : xZ} {h : mx_H} {Post : mx_R → Prop} (hx : XH n s S Z h) (hG : GI n S Z)  {x0 : Int} (p0 : (-2147483648) ≤ x0 ∧ x0 ≤ 2147483647) (hP : ∀ (z : Int) (Z' : xZ) (h' : mx_H), XH n s S Z' h' → GI n S Z' → fr' [(56, 0), (62, (-1)), (64, (-1)), (65, (-1)), (67, (-1)), (71, (-1)), (72, (-1))] Z Z' → (-2147483648) ≤ z ∧ z ≤ 2147483647 → Post (some (xI z), h')) : mx_J (tB l D b0 ad Hb tau) mt_234 (d + 6) 0 [some (.ref 56), some (xI x0), none, none] [] h Post := by
    have a56 : 56 < n := lt83 (GI_n hG) rfl
    have s56 : S 56 = .inl (12, [0, 2, 2, 2, 2, 0, 0, 0, 0, 0, 0, 0, 0, 0, 0, 2, 2, 2, 0, 2, 2, 2, 0, 0, 2, 2, 2, 2, 2, 2, 0, 0, 2, 2, 2, 2, 2, 2, 2, 2, 2, 2]) := GI_s hG 56 rfl
    have a57 : 57 < n := lt83 (GI_n hG) rfl
    have s57 : S 57 = .inr (.int, 2886, 0) := GI_s hG 57 rfl
    have a67 : 67 < n := lt83 (GI_n hG) rfl
    have s67 : S 67 = .inr (.int, 385, 0) := GI_s hG 67 rfl
    have a71 : 71 < n := lt83 (GI_n hG) rfl
    have s71 : S 71 = .inr (.boolean, 385, 0) := GI_s hG 71 rfl
    have a72 : 72 < n := lt83 (GI_n hG) rfl
    have s72 : S 72 = .inr (.boolean, 385, 0) := GI_s hG 72 rfl
    refine mx_J.step (sn_234 0) (fun _ _ => rfl) ?_
    refine JcI (z := 0) (show mx_Sn _ _ 1 (mx_const (.int 0) 2) from sn_234 1) rfl ?_
    refine JputI (g := 0) hx (show mx_Sn _ _ 2 (mx_putf 1 12 0 (.int) 5) from sn_234 2) a56 s56 rfl rfl rfl rfl (fun Z1 h1 hx1 hE1 => ?_)
    have hG1 := GI_up hG hE1 (show (-2147483648) ≤ 0 ∧ 0 ≤ 2147483647 by omega) trivial rfl
    refine mx_J.step (sn_234 5) (fun _ _ => rfl) ?_
    refine Ji2l (show mx_Sn _ _ 6 (mx_i2l 7) from sn_234 6) (by omega) ?_
    refine JcL (z := 0) (show mx_Sn _ _ 7 (mx_const (.long 0) 8) from sn_234 7) rfl ?_
    refine JcL (z := 9) (show mx_Sn _ _ 8 (mx_const (.long 9) 11) from sn_234 8) rfl ?_
    obtain ⟨z2, hc2, b2⟩ := ct_154_ (d := d + 5) (l := l) (D := D) (b0 := b0) (ad := ad) (Hb := Hb) (tau := tau) hx1 hG1 (show (-9223372036854775808) ≤ x0 ∧ x0 ≤ 9223372036854775807 by omega) (show (-9223372036854775808) ≤ 0 ∧ 0 ≤ 9223372036854775807 by omega) (show (-9223372036854775808) ≤ 9 ∧ 9 ≤ 9223372036854775807 by omega)
    refine Jcs (show mx_Sn _ _ 11 (mx_calls 154 3 14) from sn_234 11) hc2 rfl rfl rfl ?_
    refine Jif_ne (show mx_Sn _ _ 14 (mx_if_ne 20 17) from sn_234 14) (by omega) (fun q3 => ?_) (fun q3 => ?_)
    · skip
      refine mx_J.step (sn_234 20) (fun _ _ => rfl) ?_
      have eq5 : Z1 56 18 = Z 56 18 := (up_ni hE1 (by decide))
      have b6 : 0 ≤ Z 56 18 ∧ Z 56 18 ≤ 385 := hG.pr 56 18
      obtain ⟨Z4, h4, hc4, hx4, hG4, hf4, b4⟩ := ct_226_56 (d := d + 0) (l := l) (D := D) (b0 := b0) (ad := ad) (Hb := Hb) (tau := tau) hx1 hG1 
      try rw [eq5] at b4
      refine Jcv0 hx1 (show mx_Sn _ _ 21 (mx_callv 226 1 12 24) from sn_234 21) a56 s56 hc4 rfl rfl rfl ?_
      refine JcI (z := 0) (show mx_Sn _ _ 24 (mx_const (.int 0) 25) from sn_234 24) rfl ?_
      refine mx_J.step (ls2 := [some (.ref 56), some (xI x0), some (xI 0), none]) (sn_234 25) (fun _ _ => rfl) ?_
      have c26 : ∀ (m7 : Nat) (w7_2 : Int) (Z8 : xZ) (h8 : mx_H), 385 - w7_2 < (m7 : Int) → 0 ≤ w7_2 ∧ w7_2 ≤ 385 → XH n s S Z8 h8 → GI n S Z8 → fr' [(71, (-1))] Z4 Z8 → mx_J (tB l D b0 ad Hb tau) mt_234 (d + 6) 26 [some (.ref 56), some (xI x0), some (xI w7_2), none] [] h8 Post := by
        intro m7
        induction m7 with
        | zero => intro w7_2 Z8 h8 q7 f7_0 hx8 hG8 hf8; exact absurd q7 (by omega)
        | succ m7 ih7 =>
          intro w7_2 Z8 h8 q7 f7_0 hx8 hG8 hf8
          refine mx_J.step (sn_234 26) (fun _ _ => rfl) ?_
          refine mx_J.step (sn_234 27) (fun _ _ => rfl) ?_
          refine JgetI (g := 18) (z := Z 56 18) hx8 (show mx_Sn _ _ 28 (mx_getf 12 18 31) from sn_234 28) a56 s56 rfl rfl ((hf8 56 18 rfl).trans ((hf4 56 18 rfl).trans (up_ni hE1 (by decide)))) ?_
          refine Jicmp_ge (show mx_Sn _ _ 31 (mx_icmp_ge 62 34) from sn_234 31) (by omega) (by omega) (fun q10 => ?_) (fun q10 => ?_)
          · skip
            refine JcI (z := 0) (show mx_Sn _ _ 62 (mx_const (.int 0) 63) from sn_234 62) rfl ?_
            refine mx_J.step (ls2 := [some (.ref 56), some (xI x0), some (xI 0), none]) (sn_234 63) (fun _ _ => rfl) ?_
            have c64 : ∀ (m11 : Nat) (w11_2 : Int) (u11_3 : Option Value) (Z12 : xZ) (h12 : mx_H), 9 - w11_2 < (m11 : Int) → 0 ≤ w11_2 ∧ w11_2 ≤ 9 → XH n s S Z12 h12 → GI n S Z12 → fr' [(71, (-1)), (72, (-1))] Z8 Z12 → mx_J (tB l D b0 ad Hb tau) mt_234 (d + 6) 64 [some (.ref 56), some (xI x0), some (xI w11_2), u11_3] [] h12 Post := by
              intro m11
              induction m11 with
              | zero => intro w11_2 u11_3 Z12 h12 q11 f11_0 hx12 hG12 hf12; exact absurd q11 (by omega)
              | succ m11 ih11 =>
                intro w11_2 u11_3 Z12 h12 q11 f11_0 hx12 hG12 hf12
                refine mx_J.step (sn_234 64) (fun _ _ => rfl) ?_
                refine mx_J.step (sn_234 65) (fun _ _ => rfl) ?_
                refine Jicmp_ge (show mx_Sn _ _ 66 (mx_icmp_ge 136 69) from sn_234 66) (by omega) (by omega) (fun q13 => ?_) (fun q13 => ?_)
                · skip
                  refine JcI (z := 0) (show mx_Sn _ _ 136 (mx_const (.int 0) 137) from sn_234 136) rfl ?_
                  refine mx_J.step (ls2 := [some (.ref 56), some (xI x0), some (xI 0), u11_3]) (sn_234 137) (fun _ _ => rfl) ?_
                  refine JcI (z := 0) (show mx_Sn _ _ 138 (mx_const (.int 0) 139) from sn_234 138) rfl ?_
                  refine mx_J.step (ls2 := [some (.ref 56), some (xI x0), some (xI 0), some (xI 0)]) (sn_234 139) (fun _ _ => rfl) ?_
                  have c140 : ∀ (m14 : Nat) (w14_2 : Int) (w14_3 : Int), 385 - w14_3 < (m14 : Int) → (-2147483648) ≤ w14_2 ∧ w14_2 ≤ 2147483647 → 0 ≤ w14_3 ∧ w14_3 ≤ 385 → mx_J (tB l D b0 ad Hb tau) mt_234 (d + 6) 140 [some (.ref 56), some (xI x0), some (xI w14_2), some (xI w14_3)] [] h12 Post := by
                    intro m14
                    induction m14 with
                    | zero => intro w14_2 w14_3 q14 f14_0 f14_1; exact absurd q14 (by omega)
                    | succ m14 ih14 =>
                      intro w14_2 w14_3 q14 f14_0 f14_1
                      refine mx_J.step (sn_234 140) (fun _ _ => rfl) ?_
                      refine mx_J.step (sn_234 141) (fun _ _ => rfl) ?_
                      refine JgetI (g := 18) (z := Z 56 18) hx12 (show mx_Sn _ _ 142 (mx_getf 12 18 145) from sn_234 142) a56 s56 rfl rfl ((hf12 56 18 rfl).trans ((hf8 56 18 rfl).trans ((hf4 56 18 rfl).trans (up_ni hE1 (by decide))))) ?_
                      refine Jicmp_ge (show mx_Sn _ _ 145 (mx_icmp_ge 171 148) from sn_234 145) (by omega) (by omega) (fun q16 => ?_) (fun q16 => ?_)
                      · skip
                        refine mx_J.step (sn_234 171) (fun _ _ => rfl) ?_
                        exact mx_J.ret (sn_234 172) (fun _ _ => rfl) (hP w14_2 Z12 h12 hx12 hG12 (fr_tr (M := [(56, 0), (62, (-1)), (64, (-1)), (65, (-1)), (67, (-1)), (71, (-1)), (72, (-1))]) (fr_tr (M := [(56, 0), (62, (-1)), (64, (-1)), (65, (-1)), (67, (-1)), (71, (-1)), (72, (-1))]) (fr_tr (M := [(56, 0), (62, (-1)), (64, (-1)), (65, (-1)), (67, (-1)), (71, (-1)), (72, (-1))]) (fr_tr (M := [(56, 0), (62, (-1)), (64, (-1)), (65, (-1)), (67, (-1)), (71, (-1)), (72, (-1))]) fr_rf (fr_up hE1) (M1 := []) rfl rfl) (hf4) rfl rfl) (hf8) rfl rfl) (hf12) rfl rfl) (by omega))
                      · skip
                        refine mx_J.step (sn_234 148) (fun _ _ => rfl) ?_
                        refine mx_J.step (sn_234 149) (fun _ _ => rfl) ?_
                        refine JgetR (g := 28) (b := 71) hx12 (show mx_Sn _ _ 150 (mx_getf 12 28 153) from sn_234 150) a56 s56 rfl rfl (hG12.prr 56 28 rfl) ?_
                        refine mx_J.step (sn_234 153) (fun _ _ => rfl) ?_
                        have b18 : 0 ≤ Z12 71 w14_3 ∧ Z12 71 w14_3 ≤ 1 := hG12.pr 71 w14_3
                        refine JzaldI (z := Z12 71 w14_3) hx12 (show mx_Sn _ _ 154 (mx_zald 155) from sn_234 154) a71 s71 (by omega) rfl ?_
                        have c163 : ∀ (k19_1 : Int), 0 ≤ k19_1 ∧ k19_1 ≤ 1 → mx_J (tB l D b0 ad Hb tau) mt_234 (d + 6) 163 [some (.ref 56), some (xI x0), some (xI w14_2), some (xI w14_3)] [xI k19_1, xI w14_2] h12 Post := by
                          intro k19_1 f19_0
                          refine JiaddN (show mx_Sn _ _ 163 (mx_iadd 164) from sn_234 163) (fun y20 hy20 hq20 => ?_)
                          refine mx_J.step (ls2 := [some (.ref 56), some (xI x0), some (xI y20), some (xI w14_3)]) (sn_234 164) (fun _ _ => rfl) ?_
                          refine Jiinc (z := w14_3) (cz := 1) (ls2 := [some (.ref 56), some (xI x0), some (xI y20), some (xI (w14_3 + 1))]) (show mx_Sn _ _ 165 (mx_iinc 3 1 168) from sn_234 165) rfl rfl rfl rfl ?_
                          refine mx_J.step (sn_234 168) (fun _ _ => rfl) ?_
                          exact ih14 y20 (w14_3 + 1) (by omega) (by omega) (by omega)
                        refine Jif_eq (show mx_Sn _ _ 155 (mx_if_eq 162 158) from sn_234 155) (by omega) (fun q21 => ?_) (fun q21 => ?_)
                        · skip
                          refine JcI (z := 0) (show mx_Sn _ _ 162 (mx_const (.int 0) 163) from sn_234 162) rfl ?_
                          exact c163 0 (by omega)
                        · skip
                          refine JcI (z := 1) (show mx_Sn _ _ 158 (mx_const (.int 1) 159) from sn_234 158) rfl ?_
                          refine mx_J.step (sn_234 159) (fun _ _ => rfl) ?_
                          exact c163 1 (by omega)
                  exact c140 (Int.toNat (385 - 0) + 1) 0 0 (by omega) (by omega) (by omega)
                · skip
                  refine JcI (z := 0) (show mx_Sn _ _ 69 (mx_const (.int 0) 70) from sn_234 69) rfl ?_
                  refine mx_J.step (ls2 := [some (.ref 56), some (xI x0), some (xI w11_2), some (xI 0)]) (sn_234 70) (fun _ _ => rfl) ?_
                  have c71 : ∀ (m22 : Nat) (w22_3 : Int) (Z23 : xZ) (h23 : mx_H), 385 - w22_3 < (m22 : Int) → 0 ≤ w22_3 ∧ w22_3 ≤ 385 → XH n s S Z23 h23 → GI n S Z23 → fr' [(72, (-1))] Z12 Z23 → mx_J (tB l D b0 ad Hb tau) mt_234 (d + 6) 71 [some (.ref 56), some (xI x0), some (xI w11_2), some (xI w22_3)] [] h23 Post := by
                    intro m22
                    induction m22 with
                    | zero => intro w22_3 Z23 h23 q22 f22_0 hx23 hG23 hf23; exact absurd q22 (by omega)
                    | succ m22 ih22 =>
                      intro w22_3 Z23 h23 q22 f22_0 hx23 hG23 hf23
                      refine mx_J.step (sn_234 71) (fun _ _ => rfl) ?_
                      refine mx_J.step (sn_234 72) (fun _ _ => rfl) ?_
                      refine JgetI (g := 18) (z := Z 56 18) hx23 (show mx_Sn _ _ 73 (mx_getf 12 18 76) from sn_234 73) a56 s56 rfl rfl ((hf23 56 18 rfl).trans ((hf12 56 18 rfl).trans ((hf8 56 18 rfl).trans ((hf4 56 18 rfl).trans (up_ni hE1 (by decide)))))) ?_
                      refine Jicmp_ge (show mx_Sn _ _ 76 (mx_icmp_ge 102 79) from sn_234 76) (by omega) (by omega) (fun q25 => ?_) (fun q25 => ?_)
                      · skip
                        refine JcI (z := 0) (show mx_Sn _ _ 102 (mx_const (.int 0) 103) from sn_234 102) rfl ?_
                        refine mx_J.step (ls2 := [some (.ref 56), some (xI x0), some (xI w11_2), some (xI 0)]) (sn_234 103) (fun _ _ => rfl) ?_
                        have c104 : ∀ (m26 : Nat) (w26_3 : Int) (Z27 : xZ) (h27 : mx_H), 385 - w26_3 < (m26 : Int) → 0 ≤ w26_3 ∧ w26_3 ≤ 385 → XH n s S Z27 h27 → GI n S Z27 → fr' [(71, (-1))] Z23 Z27 → mx_J (tB l D b0 ad Hb tau) mt_234 (d + 6) 104 [some (.ref 56), some (xI x0), some (xI w11_2), some (xI w26_3)] [] h27 Post := by
                          intro m26
                          induction m26 with
                          | zero => intro w26_3 Z27 h27 q26 f26_0 hx27 hG27 hf27; exact absurd q26 (by omega)
                          | succ m26 ih26 =>
                            intro w26_3 Z27 h27 q26 f26_0 hx27 hG27 hf27
                            refine mx_J.step (sn_234 104) (fun _ _ => rfl) ?_
                            refine mx_J.step (sn_234 105) (fun _ _ => rfl) ?_
                            refine JgetI (g := 18) (z := Z 56 18) hx27 (show mx_Sn _ _ 106 (mx_getf 12 18 109) from sn_234 106) a56 s56 rfl rfl ((hf27 56 18 rfl).trans ((hf23 56 18 rfl).trans ((hf12 56 18 rfl).trans ((hf8 56 18 rfl).trans ((hf4 56 18 rfl).trans (up_ni hE1 (by decide))))))) ?_
                            refine Jicmp_ge (show mx_Sn _ _ 109 (mx_icmp_ge 130 112) from sn_234 109) (by omega) (by omega) (fun q29 => ?_) (fun q29 => ?_)
                            · skip
                              refine Jiinc (z := w11_2) (cz := 1) (ls2 := [some (.ref 56), some (xI x0), some (xI (w11_2 + 1)), some (xI w26_3)]) (show mx_Sn _ _ 130 (mx_iinc 2 1 133) from sn_234 130) rfl rfl rfl rfl ?_
                              refine mx_J.step (sn_234 133) (fun _ _ => rfl) ?_
                              exact ih11 (w11_2 + 1) (some (xI w26_3)) Z27 h27 (by omega) (by omega) hx27 hG27 (fr_tr (M := [(71, (-1)), (72, (-1))]) (fr_tr (M := [(71, (-1)), (72, (-1))]) (fr_tr (M := [(71, (-1)), (72, (-1))]) fr_rf (hf12) (M1 := []) rfl rfl) (hf23) rfl rfl) (hf27) rfl rfl)
                            · skip
                              refine mx_J.step (sn_234 112) (fun _ _ => rfl) ?_
                              refine JgetR (g := 28) (b := 71) hx27 (show mx_Sn _ _ 113 (mx_getf 12 28 116) from sn_234 113) a56 s56 rfl rfl (hG27.prr 56 28 rfl) ?_
                              refine mx_J.step (sn_234 116) (fun _ _ => rfl) ?_
                              refine mx_J.step (sn_234 117) (fun _ _ => rfl) ?_
                              refine JgetR (g := 29) (b := 72) hx27 (show mx_Sn _ _ 118 (mx_getf 12 29 121) from sn_234 118) a56 s56 rfl rfl (hG27.prr 56 29 rfl) ?_
                              refine mx_J.step (sn_234 121) (fun _ _ => rfl) ?_
                              have b32 : 0 ≤ Z23 72 w26_3 ∧ Z23 72 w26_3 ≤ 1 := hG23.pr 72 w26_3
                              refine JzaldI (z := Z23 72 w26_3) hx27 (show mx_Sn _ _ 122 (mx_zald 123) from sn_234 122) a72 s72 (by omega) (hf27 72 w26_3 rfl) ?_
                              refine JzastI hx27 (show mx_Sn _ _ 123 (mx_zast 1 124) from sn_234 123) a71 s71 rfl (by omega) (by omega) (fun Z33 h33 hx33 hE33 => ?_)
                              have hG33 := GI_up hG27 hE33 (show 0 ≤ Z23 72 w26_3 ∧ Z23 72 w26_3 ≤ 1 by omega) trivial rfl
                              refine Jiinc (z := w26_3) (cz := 1) (ls2 := [some (.ref 56), some (xI x0), some (xI w11_2), some (xI (w26_3 + 1))]) (show mx_Sn _ _ 124 (mx_iinc 3 1 127) from sn_234 124) rfl rfl rfl rfl ?_
                              refine mx_J.step (sn_234 127) (fun _ _ => rfl) ?_
                              exact ih26 (w26_3 + 1) Z33 h33 (by omega) (by omega) hx33 hG33 (fr_tr (M := [(71, (-1))]) (fr_tr (M := [(71, (-1))]) fr_rf (hf27) (M1 := []) rfl rfl) (fr_ua hE33) rfl rfl)
                        exact c104 (Int.toNat (385 - 0) + 1) 0 Z23 h23 (by omega) (by omega) hx23 hG23 fr_rf
                      · skip
                        refine mx_J.step (sn_234 79) (fun _ _ => rfl) ?_
                        refine JgetR (g := 29) (b := 72) hx23 (show mx_Sn _ _ 80 (mx_getf 12 29 83) from sn_234 80) a56 s56 rfl rfl (hG23.prr 56 29 rfl) ?_
                        refine mx_J.step (sn_234 83) (fun _ _ => rfl) ?_
                        refine mx_J.step (sn_234 84) (fun _ _ => rfl) ?_
                        refine JgetR (g := 28) (b := 71) hx23 (show mx_Sn _ _ 85 (mx_getf 12 28 88) from sn_234 85) a56 s56 rfl rfl (hG23.prr 56 28 rfl) ?_
                        refine mx_J.step (sn_234 88) (fun _ _ => rfl) ?_
                        refine JgetR (g := 24) (b := 67) hx23 (show mx_Sn _ _ 89 (mx_getf 12 24 92) from sn_234 89) a56 s56 rfl rfl (hG23.prr 56 24 rfl) ?_
                        refine mx_J.step (sn_234 92) (fun _ _ => rfl) ?_
                        have b37 : 0 ≤ Z4 67 w22_3 ∧ Z4 67 w22_3 ≤ 384 := hG4.pr 67 w22_3
                        refine JialdI (z := Z4 67 w22_3) hx23 (show mx_Sn _ _ 93 (mx_iald 94) from sn_234 93) a67 s67 (by omega) ((hf23 67 w22_3 rfl).trans ((hf12 67 w22_3 rfl).trans (hf8 67 w22_3 rfl))) ?_
                        have b38 : 0 ≤ Z12 71 (Z4 67 w22_3) ∧ Z12 71 (Z4 67 w22_3) ≤ 1 := hG12.pr 71 (Z4 67 w22_3)
                        refine JzaldI (z := Z12 71 (Z4 67 w22_3)) hx23 (show mx_Sn _ _ 94 (mx_zald 95) from sn_234 94) a71 s71 (by omega) (hf23 71 (Z4 67 w22_3) rfl) ?_
                        refine JzastI hx23 (show mx_Sn _ _ 95 (mx_zast 1 96) from sn_234 95) a72 s72 rfl (by omega) (by omega) (fun Z39 h39 hx39 hE39 => ?_)
                        have hG39 := GI_up hG23 hE39 (show 0 ≤ Z12 71 (Z4 67 w22_3) ∧ Z12 71 (Z4 67 w22_3) ≤ 1 by omega) trivial rfl
                        refine Jiinc (z := w22_3) (cz := 1) (ls2 := [some (.ref 56), some (xI x0), some (xI w11_2), some (xI (w22_3 + 1))]) (show mx_Sn _ _ 96 (mx_iinc 3 1 99) from sn_234 96) rfl rfl rfl rfl ?_
                        refine mx_J.step (sn_234 99) (fun _ _ => rfl) ?_
                        exact ih22 (w22_3 + 1) Z39 h39 (by omega) (by omega) hx39 hG39 (fr_tr (M := [(72, (-1))]) (fr_tr (M := [(72, (-1))]) fr_rf (hf23) (M1 := []) rfl rfl) (fr_ua hE39) rfl rfl)
                  exact c71 (Int.toNat (385 - 0) + 1) 0 Z12 h12 (by omega) (by omega) hx12 hG12 fr_rf
            exact c64 (Int.toNat (9 - 0) + 1) 0 none Z8 h8 (by omega) (by omega) hx8 hG8 fr_rf
          · skip
            refine mx_J.step (sn_234 34) (fun _ _ => rfl) ?_
            refine JgetR (g := 28) (b := 71) hx8 (show mx_Sn _ _ 35 (mx_getf 12 28 38) from sn_234 35) a56 s56 rfl rfl (hG8.prr 56 28 rfl) ?_
            refine mx_J.step (sn_234 38) (fun _ _ => rfl) ?_
            refine mx_J.step (sn_234 39) (fun _ _ => rfl) ?_
            refine mx_J.step (sn_234 40) (fun _ _ => rfl) ?_
            refine JgetR (g := 1) (b := 57) hx8 (show mx_Sn _ _ 41 (mx_getf 12 1 44) from sn_234 41) a56 s56 rfl rfl (hG8.prr 56 1 rfl) ?_
            refine JcI (z := 27) (show mx_Sn _ _ 44 (mx_const (.int 27) 46) from sn_234 44) rfl ?_
            have b42 := GI_st hG 27
            have b43 : 0 ≤ Z 57 27 ∧ Z 57 27 ≤ 384 := by have hq := GI_ex hG 57 27; replace hq : f57 (27 % 962) (Z 57 27) := hq; unfold f57 at hq; omega
            have b44 : (-2147483648) ≤ Z 57 27 ∧ Z 57 27 ≤ 2147483647 := hG.pr 57 27
            refine JialdI (z := Z 57 27) hx8 (show mx_Sn _ _ 46 (mx_iald 47) from sn_234 46) a57 s57 (by omega) ((hf8 57 27 rfl).trans ((hf4 57 27 rfl).trans (up_nk hE1 rfl))) ?_
            have c55 : ∀ (k45_2 : Int), 0 ≤ k45_2 ∧ k45_2 ≤ 1 → mx_J (tB l D b0 ad Hb tau) mt_234 (d + 6) 55 [some (.ref 56), some (xI x0), some (xI w7_2), none] [xI k45_2, xI w7_2, .ref 71] h8 Post := by
              intro k45_2 f45_0
              refine JzastI hx8 (show mx_Sn _ _ 55 (mx_zast 1 56) from sn_234 55) a71 s71 rfl (by omega) (by omega) (fun Z46 h46 hx46 hE46 => ?_)
              have hG46 := GI_up hG8 hE46 (show 0 ≤ k45_2 ∧ k45_2 ≤ 1 by omega) trivial rfl
              refine Jiinc (z := w7_2) (cz := 1) (ls2 := [some (.ref 56), some (xI x0), some (xI (w7_2 + 1)), none]) (show mx_Sn _ _ 56 (mx_iinc 2 1 59) from sn_234 56) rfl rfl rfl rfl ?_
              refine mx_J.step (sn_234 59) (fun _ _ => rfl) ?_
              exact ih7 (w7_2 + 1) Z46 h46 (by omega) (by omega) hx46 hG46 (fr_tr (M := [(71, (-1))]) (fr_tr (M := [(71, (-1))]) fr_rf (hf8) (M1 := []) rfl rfl) (fr_ua hE46) rfl rfl)
            refine Jicmp_ne (show mx_Sn _ _ 47 (mx_icmp_ne 54 50) from sn_234 47) (by omega) (by omega) (fun q47 => ?_) (fun q47 => ?_)
            · skip
              refine JcI (z := 0) (show mx_Sn _ _ 54 (mx_const (.int 0) 55) from sn_234 54) rfl ?_
              exact c55 0 (by omega)
            · skip
              refine JcI (z := 1) (show mx_Sn _ _ 50 (mx_const (.int 1) 51) from sn_234 50) rfl ?_
              refine mx_J.step (sn_234 51) (fun _ _ => rfl) ?_
              exact c55 1 (by omega)
      exact c26 (Int.toNat (385 - 0) + 1) 0 Z4 h4 (by omega) (by omega) hx4 hG4 fr_rf
    · skip
      refine JcI (z := (-3)) (show mx_Sn _ _ 17 (mx_const (.int (-3)) 19) from sn_234 17) rfl ?_
      exact mx_J.ret (sn_234 19) (fun _ _ => rfl) (hP (-3) Z1 h1 hx1 hG1 (fr_tr (M := [(56, 0), (62, (-1)), (64, (-1)), (65, (-1)), (67, (-1)), (71, (-1)), (72, (-1))]) fr_rf (fr_up hE1) (M1 := []) rfl rfl) (by omega))
theorem ct_234_56 {l : Launch} {D : va_G} {b0 : Nat} {ad : Nat → Nat} {Hb : Heap} {tau : Nat → Int64} {d n s : Nat} {S : Nat → xS} {Z : xZ} {h : mx_H} (hx : XH n s S Z h) (hG : GI n S Z)  {x0 : Int} (p0 : (-2147483648) ≤ x0 ∧ x0 ≤ 2147483647) : ∃ (z : Int) (Z' : xZ) (h' : mx_H), mx_Ca (tB l D b0 ad Hb tau) (d + 7) 234 [.ref 56, xI x0] h (some (xI z), h') ∧ XH n s S Z' h' ∧ GI n S Z' ∧ fr' [(56, 0), (62, (-1)), (64, (-1)), (65, (-1)), (67, (-1)), (71, (-1)), (72, (-1))] Z Z' ∧ ((-2147483648) ≤ z ∧ z ≤ 2147483647) := by
  obtain ⟨r, hca, z, Z', h', e, q⟩ := Jmt (B := tB l D b0 ad Hb tau) (M := mt_234) (mi := 234) (as := [.ref 56, xI x0]) (d := d + 6) (ls := [some (.ref 56), some (xI x0), none, none]) rfl rfl rfl rfl rfl rfl (cw_234_56 (l := l) (D := D) (b0 := b0) (ad := ad) (Hb := Hb) (tau := tau) (d := d) (Post := fun r => ∃ (z : Int) (Z' : xZ) (h' : mx_H), r = (some (xI z), h') ∧ XH n s S Z' h' ∧ GI n S Z' ∧ fr' [(56, 0), (62, (-1)), (64, (-1)), (65, (-1)), (67, (-1)), (71, (-1)), (72, (-1))] Z Z' ∧ ((-2147483648) ≤ z ∧ z ≤ 2147483647)) hx hG p0 (fun z Z' h' q1 q2 q3 q4 => ⟨z, Z', h', rfl, q1, q2, q3, q4⟩))
  subst e; exact ⟨z, Z', h', hca, q⟩
set_option maxRecDepth 100000 in
theorem cw_235_56 {l : Launch} {D : va_G} {b0 : Nat} {ad : Nat → Nat} {Hb : Heap} {tau : Nat → Int64} {d n s : Nat} {S : Nat → xS} {Z : xZ} {h : mx_H} {Post : mx_R → Prop} (hx : XH n s S Z h) (hG : GI n S Z)   (hP : ∀ (Z' : xZ) (h' : mx_H), XH n s S Z' h' → GI n S Z' → fr' [(62, (-1)), (64, (-1)), (65, (-1)), (73, (-1))] Z Z' → (ai 73 Z' (19 * Z 56 18) (-1) (Z 56 18 - 1) = 1) → Post (none, h')) : mx_J (tB l D b0 ad Hb tau) mt_235 (d + 5) 0 [some (.ref 56), none, none] [] h Post := by
    have a56 : 56 < n := lt83 (GI_n hG) rfl
    have s56 : S 56 = .inl (12, [0, 2, 2, 2, 2, 0, 0, 0, 0, 0, 0, 0, 0, 0, 0, 2, 2, 2, 0, 2, 2, 2, 0, 0, 2, 2, 2, 2, 2, 2, 0, 0, 2, 2, 2, 2, 2, 2, 2, 2, 2, 2]) := GI_s hG 56 rfl
    have a57 : 57 < n := lt83 (GI_n hG) rfl
    have s57 : S 57 = .inr (.int, 2886, 0) := GI_s hG 57 rfl
    have a73 : 73 < n := lt83 (GI_n hG) rfl
    have s73 : S 73 = .inr (.int, 7315, 0) := GI_s hG 73 rfl
    refine JcI (z := 0) (show mx_Sn _ _ 0 (mx_const (.int 0) 1) from sn_235 0) rfl ?_
    refine mx_J.step (ls2 := [some (.ref 56), some (xI 0), none]) (sn_235 1) (fun _ _ => rfl) ?_
    have c2 : ∀ (m1 : Nat) (w1_1 : Int) (u1_2 : Option Value) (Z2 : xZ) (h2 : mx_H), 385 - w1_1 < (m1 : Int) → 0 ≤ w1_1 ∧ w1_1 ≤ 385 → ai 73 Z2 (19 * w1_1) (-1) (Z 56 18 - 1) = 1 → XH n s S Z2 h2 → GI n S Z2 → fr' [(62, (-1)), (64, (-1)), (65, (-1)), (73, (-1))] Z Z2 → mx_J (tB l D b0 ad Hb tau) mt_235 (d + 5) 2 [some (.ref 56), some (xI w1_1), u1_2] [] h2 Post := by
      intro m1
      induction m1 with
      | zero => intro w1_1 u1_2 Z2 h2 q1 f1_0 f1_1 hx2 hG2 hf2; exact absurd q1 (by omega)
      | succ m1 ih1 =>
        intro w1_1 u1_2 Z2 h2 q1 f1_0 f1_1 hx2 hG2 hf2
        refine mx_J.step (sn_235 2) (fun _ _ => rfl) ?_
        refine mx_J.step (sn_235 3) (fun _ _ => rfl) ?_
        have b4 : 0 ≤ Z 56 18 ∧ Z 56 18 ≤ 385 := hG.pr 56 18
        refine JgetI (g := 18) (z := Z 56 18) hx2 (show mx_Sn _ _ 4 (mx_getf 12 18 7) from sn_235 4) a56 s56 rfl rfl (hf2 56 18 rfl) ?_
        refine Jicmp_ge (show mx_Sn _ _ 7 (mx_icmp_ge 67 10) from sn_235 7) (by omega) (by omega) (fun q5 => ?_) (fun q5 => ?_)
        · skip
          have af : ai 73 Z2 (19 * Z 56 18) (-1) (Z 56 18 - 1) = 1 := ai_m (len := 19 * w1_1) (by assumption) (by omega) (by omega) (by omega)
          have eq6 : Z2 56 18 = Z 56 18 := (hf2 56 18 rfl)
          exact mx_J.ret (sn_235 67) (fun _ _ => rfl) (hP Z2 h2 hx2 hG2 (fr_tr (M := [(62, (-1)), (64, (-1)), (65, (-1)), (73, (-1))]) fr_rf (hf2) (M1 := []) rfl rfl) (by omega))
        · skip
          refine JcI (z := 0) (show mx_Sn _ _ 10 (mx_const (.int 0) 11) from sn_235 10) rfl ?_
          refine mx_J.step (ls2 := [some (.ref 56), some (xI w1_1), some (xI 0)]) (sn_235 11) (fun _ _ => rfl) ?_
          have c12 : ∀ (m7 : Nat) (w7_2 : Int) (Z8 : xZ) (h8 : mx_H), 19 - w7_2 < (m7 : Int) → 0 ≤ w7_2 ∧ w7_2 ≤ 19 → ai 73 Z8 (19 * w1_1 + w7_2) (-1) (Z 56 18 - 1) = 1 → XH n s S Z8 h8 → GI n S Z8 → fr' [(62, (-1)), (64, (-1)), (65, (-1)), (73, (-1))] Z2 Z8 → mx_J (tB l D b0 ad Hb tau) mt_235 (d + 5) 12 [some (.ref 56), some (xI w1_1), some (xI w7_2)] [] h8 Post := by
            intro m7
            induction m7 with
            | zero => intro w7_2 Z8 h8 q7 f7_0 f7_1 hx8 hG8 hf8; exact absurd q7 (by omega)
            | succ m7 ih7 =>
              intro w7_2 Z8 h8 q7 f7_0 f7_1 hx8 hG8 hf8
              refine mx_J.step (sn_235 12) (fun _ _ => rfl) ?_
              refine JcI (z := 19) (show mx_Sn _ _ 13 (mx_const (.int 19) 15) from sn_235 13) rfl ?_
              refine Jicmp_ge (show mx_Sn _ _ 15 (mx_icmp_ge 61 18) from sn_235 15) (by omega) (by omega) (fun q9 => ?_) (fun q9 => ?_)
              · skip
                have as2 : ai 73 Z8 (19 * (w1_1 + 1)) (-1) (Z 56 18 - 1) = 1 := ai_m (len := 19 * w1_1 + w7_2) (by assumption) (by omega) (by omega) (by omega)
                refine Jiinc (z := w1_1) (cz := 1) (ls2 := [some (.ref 56), some (xI (w1_1 + 1)), some (xI w7_2)]) (show mx_Sn _ _ 61 (mx_iinc 1 1 64) from sn_235 61) rfl rfl rfl rfl ?_
                refine mx_J.step (sn_235 64) (fun _ _ => rfl) ?_
                exact ih1 (w1_1 + 1) (some (xI w7_2)) Z8 h8 (by omega) (by omega) (by first | exact ai_0 (by omega) | assumption) hx8 hG8 (fr_tr (M := [(62, (-1)), (64, (-1)), (65, (-1)), (73, (-1))]) (fr_tr (M := [(62, (-1)), (64, (-1)), (65, (-1)), (73, (-1))]) fr_rf (hf2) (M1 := []) rfl rfl) (hf8) rfl rfl)
              · skip
                refine mx_J.step (sn_235 18) (fun _ _ => rfl) ?_
                refine JgetR (g := 32) (b := 73) hx8 (show mx_Sn _ _ 19 (mx_getf 12 32 22) from sn_235 19) a56 s56 rfl rfl (hG8.prr 56 32 rfl) ?_
                refine JcI (z := 19) (show mx_Sn _ _ 22 (mx_const (.int 19) 24) from sn_235 22) rfl ?_
                refine mx_J.step (sn_235 24) (fun _ _ => rfl) ?_
                refine Jimul (show mx_Sn _ _ 25 (mx_imul 26) from sn_235 25) ?_
                refine mx_J.step (sn_235 26) (fun _ _ => rfl) ?_
                refine Jiadd (show mx_Sn _ _ 27 (mx_iadd 28) from sn_235 27) ?_
                refine mx_J.step (sn_235 28) (fun _ _ => rfl) ?_
                refine mx_J.step (sn_235 29) (fun _ _ => rfl) ?_
                refine mx_J.step (sn_235 30) (fun _ _ => rfl) ?_
                have eq12 : hv Z8 w1_1 w7_2 = hv Z w1_1 w7_2 := ((hv_c (fun i => hf8 61 i rfl)).trans (hv_c (fun i => hf2 61 i rfl)))
                obtain ⟨z11, hc11, b11⟩ := ct_197_56 (d := d + 2) (l := l) (D := D) (b0 := b0) (ad := ad) (Hb := Hb) (tau := tau) hx8 hG8 (show 0 ≤ w1_1 ∧ w1_1 ≤ 384 by omega) (show (-2147483648) ≤ w7_2 ∧ w7_2 ≤ 2147483647 by omega)
                refine Jcv hx8 (show mx_Sn _ _ 31 (mx_callv 197 3 12 34) from sn_235 31) a56 s56 hc11 rfl rfl rfl ?_
                have c54 : ∀ (k13_2 : Int) (Z14 : xZ) (h14 : mx_H), (-1) ≤ k13_2 ∧ k13_2 ≤ 384 → k13_2 < Z 56 18 → XH n s S Z14 h14 → GI n S Z14 → fr' [(62, (-1)), (64, (-1)), (65, (-1))] Z8 Z14 → mx_J (tB l D b0 ad Hb tau) mt_235 (d + 5) 54 [some (.ref 56), some (xI w1_1), some (xI w7_2)] [xI k13_2, xI ((19 * w1_1) + w7_2), .ref 73] h14 Post := by
                  intro k13_2 Z14 h14 f13_0 f13_1 hx14 hG14 hf14
                  have eq15 : (ai 73) Z14 (19 * w1_1 + w7_2) (-1) (Z 56 18 - 1) = (ai 73) Z8 (19 * w1_1 + w7_2) (-1) (Z 56 18 - 1) := (ai_c (fun i => hf14 73 i rfl))
                  refine JiastI hx14 (show mx_Sn _ _ 54 (mx_iast 1 55) from sn_235 54) a73 s73 rfl (by omega) (fun Z16 h16 hx16 hE16 => ?_)
                  have hG16 := GI_up hG14 hE16 (show (-1) ≤ k13_2 ∧ k13_2 ≤ 384 by omega) trivial rfl
                  have as1 : ai 73 Z16 (19 * w1_1 + (w7_2 + 1)) (-1) (Z 56 18 - 1) = 1 := ai_s (Z := Z14) (len := 19 * w1_1 + w7_2) (by omega) hE16 rfl (by omega) (by omega)
                  refine Jiinc (z := w7_2) (cz := 1) (ls2 := [some (.ref 56), some (xI w1_1), some (xI (w7_2 + 1))]) (show mx_Sn _ _ 55 (mx_iinc 2 1 58) from sn_235 55) rfl rfl rfl rfl ?_
                  refine mx_J.step (sn_235 58) (fun _ _ => rfl) ?_
                  exact ih7 (w7_2 + 1) Z16 h16 (by omega) (by omega) (by first | assumption | exact ai_m (len := 19 * w1_1) (by assumption) (by omega) (by omega) (by omega)) hx16 hG16 (fr_tr (M := [(62, (-1)), (64, (-1)), (65, (-1)), (73, (-1))]) (fr_tr (M := [(62, (-1)), (64, (-1)), (65, (-1)), (73, (-1))]) (fr_tr (M := [(62, (-1)), (64, (-1)), (65, (-1)), (73, (-1))]) fr_rf (hf8) (M1 := []) rfl rfl) (hf14) rfl rfl) (fr_ua hE16) rfl rfl)
                refine Jif_eq (show mx_Sn _ _ 34 (mx_if_eq 53 37) from sn_235 34) (by omega) (fun q17 => ?_) (fun q17 => ?_)
                · skip
                  refine JcI (z := (-1)) (show mx_Sn _ _ 53 (mx_const (.int (-1)) 54) from sn_235 53) rfl ?_
                  exact c54 (-1) Z8 h8 (by omega) (by omega) hx8 hG8 fr_rf
                · skip
                  refine mx_J.step (sn_235 37) (fun _ _ => rfl) ?_
                  refine mx_J.step (sn_235 38) (fun _ _ => rfl) ?_
                  refine mx_J.step (sn_235 39) (fun _ _ => rfl) ?_
                  refine mx_J.step (sn_235 40) (fun _ _ => rfl) ?_
                  refine JgetR (g := 1) (b := 57) hx8 (show mx_Sn _ _ 41 (mx_getf 12 1 44) from sn_235 41) a56 s56 rfl rfl (hG8.prr 56 1 rfl) ?_
                  refine JcI (z := 28) (show mx_Sn _ _ 44 (mx_const (.int 28) 46) from sn_235 44) rfl ?_
                  have b19 : 0 ≤ Z 57 28 ∧ Z 57 28 ≤ 9 := by have hq := GI_ex hG 57 28; replace hq : f57 (28 % 962) (Z 57 28) := hq; unfold f57 at hq; omega
                  have b20 : (-2147483648) ≤ Z 57 28 ∧ Z 57 28 ≤ 2147483647 := hG.pr 57 28
                  refine JialdI (z := Z 57 28) hx8 (show mx_Sn _ _ 46 (mx_iald 47) from sn_235 46) a57 s57 (by omega) ((hf8 57 28 rfl).trans (hf2 57 28 rfl)) ?_
                  have eq22 : Z8 56 18 = Z 56 18 := ((hf8 56 18 rfl).trans (hf2 56 18 rfl))
                  obtain ⟨z21, Z21, h21, hc21, hx21, hG21, hf21, b21⟩ := ct_198_56 (d := d + 0) (l := l) (D := D) (b0 := b0) (ad := ad) (Hb := Hb) (tau := tau) hx8 hG8 (show 0 ≤ w1_1 ∧ w1_1 ≤ 384 by omega) (show (-2147483648) ≤ w7_2 ∧ w7_2 ≤ 2147483647 by omega) (show 0 ≤ Z 57 28 ∧ Z 57 28 ≤ 9 by omega)
                  try rw [eq22] at b21
                  refine Jcv hx8 (show mx_Sn _ _ 47 (mx_callv 198 4 12 50) from sn_235 47) a56 s56 hc21 rfl rfl rfl ?_
                  refine mx_J.step (sn_235 50) (fun _ _ => rfl) ?_
                  exact c54 z21 Z21 h21 (by omega) (by omega) hx21 hG21 (fr_tr (M := [(62, (-1)), (64, (-1)), (65, (-1))]) fr_rf (hf21) (M1 := []) rfl rfl)
          exact c12 (Int.toNat (19 - 0) + 1) 0 Z2 h2 (by omega) (by omega) (by first | assumption | exact ai_m (len := 19 * w1_1) (by assumption) (by omega) (by omega) (by omega)) hx2 hG2 fr_rf
    exact c2 (Int.toNat (385 - 0) + 1) 0 none Z h (by omega) (by omega) (by first | exact ai_0 (by omega) | assumption) hx hG fr_rf
theorem ct_235_56 {l : Launch} {D : va_G} {b0 : Nat} {ad : Nat → Nat} {Hb : Heap} {tau : Nat → Int64} {d n s : Nat} {S : Nat → xS} {Z : xZ} {h : mx_H} (hx : XH n s S Z h) (hG : GI n S Z)   : ∃ (Z' : xZ) (h' : mx_H), mx_Ca (tB l D b0 ad Hb tau) (d + 6) 235 [.ref 56] h (none, h') ∧ XH n s S Z' h' ∧ GI n S Z' ∧ fr' [(62, (-1)), (64, (-1)), (65, (-1)), (73, (-1))] Z Z' ∧ ((ai 73 Z' (19 * Z 56 18) (-1) (Z 56 18 - 1) = 1)) := by
  obtain ⟨r, hca, Z', h', e, q⟩ := Jmt (B := tB l D b0 ad Hb tau) (M := mt_235) (mi := 235) (as := [.ref 56]) (d := d + 5) (ls := [some (.ref 56), none, none]) rfl rfl rfl rfl rfl rfl (cw_235_56 (l := l) (D := D) (b0 := b0) (ad := ad) (Hb := Hb) (tau := tau) (d := d) (Post := fun r => ∃ (Z' : xZ) (h' : mx_H), r = (none, h') ∧ XH n s S Z' h' ∧ GI n S Z' ∧ fr' [(62, (-1)), (64, (-1)), (65, (-1)), (73, (-1))] Z Z' ∧ ((ai 73 Z' (19 * Z 56 18) (-1) (Z 56 18 - 1) = 1))) hx hG  (fun Z' h' q1 q2 q3 q4 => ⟨Z', h', rfl, q1, q2, q3, q4⟩))
  subst e; exact ⟨Z', h', hca, q⟩
set_option maxRecDepth 100000 in
theorem cw_237_56 {l : Launch} {D : va_G} {b0 : Nat} {ad : Nat → Nat} {Hb : Heap} {tau : Nat → Int64} {d n s : Nat} {S : Nat → xS} {Z : xZ} {h : mx_H} {Post : mx_R → Prop} (hx : XH n s S Z h) (hG : GI n S Z)  {x0 : Int} (p0 : 0 ≤ x0 ∧ x0 ≤ 384) (hP : ∀ (z : Int) (Z' : xZ) (h' : mx_H), XH n s S Z' h' → GI n S Z' → fr' [(62, (-1)), (64, (-1)), (65, (-1)), (73, (-1)), (74, (-1))] Z Z' → 0 ≤ z ∧ z ≤ 268435456 ∧ (fu Z' (Z 56 18) = 1 ∧ fl' Z' (Z 56 18) 0 = 1 ∧ ai 73 Z' (19 * Z 56 18) (-1) (Z 56 18 - 1) = 1) → Post (some (xI z), h')) : mx_J (tB l D b0 ad Hb tau) mt_237 (d + 6) 0 [some (.ref 56), some (xI x0), none, none, none] [] h Post := by
    have a56 : 56 < n := lt83 (GI_n hG) rfl
    have s56 : S 56 = .inl (12, [0, 2, 2, 2, 2, 0, 0, 0, 0, 0, 0, 0, 0, 0, 0, 2, 2, 2, 0, 2, 2, 2, 0, 0, 2, 2, 2, 2, 2, 2, 0, 0, 2, 2, 2, 2, 2, 2, 2, 2, 2, 2]) := GI_s hG 56 rfl
    have a57 : 57 < n := lt83 (GI_n hG) rfl
    have s57 : S 57 = .inr (.int, 2886, 0) := GI_s hG 57 rfl
    have a74 : 74 < n := lt83 (GI_n hG) rfl
    have s74 : S 74 = .inr (.int, 385, 0) := GI_s hG 74 rfl
    refine mx_J.step (sn_237 0) (fun _ _ => rfl) ?_
    have b2 : 0 ≤ Z 56 18 ∧ Z 56 18 ≤ 385 := hG.pr 56 18
    obtain ⟨Z1, h1, hc1, hx1, hG1, hf1, b1⟩ := ct_235_56 (d := d + 0) (l := l) (D := D) (b0 := b0) (ad := ad) (Hb := Hb) (tau := tau) hx hG 
    refine Jcv0 hx (show mx_Sn _ _ 1 (mx_callv 235 1 12 4) from sn_237 1) a56 s56 hc1 rfl rfl rfl ?_
    refine JcI (z := 0) (show mx_Sn _ _ 4 (mx_const (.int 0) 5) from sn_237 4) rfl ?_
    refine mx_J.step (ls2 := [some (.ref 56), some (xI x0), some (xI 0), none, none]) (sn_237 5) (fun _ _ => rfl) ?_
    have c6 : ∀ (m3 : Nat) (w3_2 : Int) (Z4 : xZ) (h4 : mx_H), 385 - w3_2 < (m3 : Int) → 0 ≤ w3_2 ∧ w3_2 ≤ 385 → (∀ i, 0 ≤ i → i < w3_2 → (Z4 74 i = 0 ∨ Z4 74 i = 268435456)) → XH n s S Z4 h4 → GI n S Z4 → fr' [(74, (-1))] Z1 Z4 → mx_J (tB l D b0 ad Hb tau) mt_237 (d + 6) 6 [some (.ref 56), some (xI x0), some (xI w3_2), none, none] [] h4 Post := by
      intro m3
      induction m3 with
      | zero => intro w3_2 Z4 h4 q3 f3_0 f3_1 hx4 hG4 hf4; exact absurd q3 (by omega)
      | succ m3 ih3 =>
        intro w3_2 Z4 h4 q3 f3_0 f3_1 hx4 hG4 hf4
        refine mx_J.step (sn_237 6) (fun _ _ => rfl) ?_
        refine mx_J.step (sn_237 7) (fun _ _ => rfl) ?_
        refine JgetI (g := 18) (z := Z 56 18) hx4 (show mx_Sn _ _ 8 (mx_getf 12 18 11) from sn_237 8) a56 s56 rfl rfl ((hf4 56 18 rfl).trans (hf1 56 18 rfl)) ?_
        refine Jicmp_ge (show mx_Sn _ _ 11 (mx_icmp_ge 38 14) from sn_237 11) (by omega) (by omega) (fun q6 => ?_) (fun q6 => ?_)
        · skip
          have fz : fu Z4 (Z 56 18) = 1 := fu_0 (len := w3_2) (by omega) (by assumption)
          refine JcI (z := 1) (show mx_Sn _ _ 38 (mx_const (.int 1) 39) from sn_237 38) rfl ?_
          refine mx_J.step (ls2 := [some (.ref 56), some (xI x0), some (xI 1), none, none]) (sn_237 39) (fun _ _ => rfl) ?_
          have c40 : ∀ (m7 : Nat) (w7_2 : Int) (u7_3 : Option Value) (u7_4 : Option Value) (Z8 : xZ) (h8 : mx_H), (((sn 74 Z8 (Z 56 18) + w7_2).toNat : Nat) : Int) < (m7 : Int) → 0 ≤ w7_2 ∧ w7_2 ≤ 1 → fu Z8 (Z 56 18) = 1 → (w7_2 = 0 → fl' Z8 (Z 56 18) 0 = 1) → XH n s S Z8 h8 → GI n S Z8 → fr' [(74, (-1))] Z4 Z8 → mx_J (tB l D b0 ad Hb tau) mt_237 (d + 6) 40 [some (.ref 56), some (xI x0), some (xI w7_2), u7_3, u7_4] [] h8 Post := by
            intro m7
            induction m7 with
            | zero => intro w7_2 u7_3 u7_4 Z8 h8 q7 f7_0 f7_1 f7_2 hx8 hG8 hf8; exact absurd q7 (by omega)
            | succ m7 ih7 =>
              intro w7_2 u7_3 u7_4 Z8 h8 q7 f7_0 f7_1 f7_2 hx8 hG8 hf8
              have sp := sn_p (Z := Z8) (c := 74) (m := Z 56 18) (fun i => (hG8.pr 74 i).1)
              refine mx_J.step (sn_237 40) (fun _ _ => rfl) ?_
              refine Jif_eq (show mx_Sn _ _ 41 (mx_if_eq 115 44) from sn_237 41) (by omega) (fun q9 => ?_) (fun q9 => ?_)
              · skip
                refine mx_J.step (sn_237 115) (fun _ _ => rfl) ?_
                refine JgetR (g := 33) (b := 74) hx8 (show mx_Sn _ _ 116 (mx_getf 12 33 119) from sn_237 116) a56 s56 rfl rfl (hG8.prr 56 33 rfl) ?_
                refine mx_J.step (sn_237 119) (fun _ _ => rfl) ?_
                refine JgetR (g := 1) (b := 57) hx8 (show mx_Sn _ _ 120 (mx_getf 12 1 123) from sn_237 120) a56 s56 rfl rfl (hG8.prr 56 1 rfl) ?_
                refine JcI (z := 27) (show mx_Sn _ _ 123 (mx_const (.int 27) 125) from sn_237 123) rfl ?_
                have b12 := GI_st hG 27
                have b13 : 0 ≤ Z 57 27 ∧ Z 57 27 ≤ 384 := by have hq := GI_ex hG 57 27; replace hq : f57 (27 % 962) (Z 57 27) := hq; unfold f57 at hq; omega
                have b14 : (-2147483648) ≤ Z 57 27 ∧ Z 57 27 ≤ 2147483647 := hG.pr 57 27
                refine JialdI (z := Z 57 27) hx8 (show mx_Sn _ _ 125 (mx_iald 126) from sn_237 125) a57 s57 (by omega) ((hf8 57 27 rfl).trans ((hf4 57 27 rfl).trans (hf1 57 27 rfl))) ?_
                have b15 : 0 ≤ Z8 74 (Z 57 27) ∧ Z8 74 (Z 57 27) ≤ 268435456 := hG8.pr 74 (Z 57 27)
                refine JialdI (z := Z8 74 (Z 57 27)) hx8 (show mx_Sn _ _ 126 (mx_iald 127) from sn_237 126) a74 s74 (by omega) rfl ?_
                have eq16 : (ai 73) Z8 (19 * Z 56 18) (-1) (Z 56 18 - 1) = (ai 73) Z1 (19 * Z 56 18) (-1) (Z 56 18 - 1) := ((ai_c (fun i => hf8 73 i rfl)).trans (ai_c (fun i => hf4 73 i rfl)))
                have eq17 : Z8 56 18 = Z 56 18 := ((hf8 56 18 rfl).trans ((hf4 56 18 rfl).trans (hf1 56 18 rfl)))
                exact mx_J.ret (sn_237 127) (fun _ _ => rfl) (hP (Z8 74 (Z 57 27)) Z8 h8 hx8 hG8 (fr_tr (M := [(62, (-1)), (64, (-1)), (65, (-1)), (73, (-1)), (74, (-1))]) (fr_tr (M := [(62, (-1)), (64, (-1)), (65, (-1)), (73, (-1)), (74, (-1))]) (fr_tr (M := [(62, (-1)), (64, (-1)), (65, (-1)), (73, (-1)), (74, (-1))]) fr_rf (hf1) (M1 := []) rfl rfl) (hf4) rfl rfl) (hf8) rfl rfl) (by omega))
              · skip
                refine JcI (z := 0) (show mx_Sn _ _ 44 (mx_const (.int 0) 45) from sn_237 44) rfl ?_
                refine mx_J.step (ls2 := [some (.ref 56), some (xI x0), some (xI 0), u7_3, u7_4]) (sn_237 45) (fun _ _ => rfl) ?_
                refine JcI (z := 0) (show mx_Sn _ _ 46 (mx_const (.int 0) 47) from sn_237 46) rfl ?_
                refine mx_J.step (ls2 := [some (.ref 56), some (xI x0), some (xI 0), some (xI 0), u7_4]) (sn_237 47) (fun _ _ => rfl) ?_
                have c48 : ∀ (m18 : Nat) (w18_2 : Int) (w18_3 : Int) (u18_4 : Option Value) (Z19 : xZ) (h19 : mx_H), 385 - w18_3 < (m18 : Int) → 0 ≤ w18_2 ∧ w18_2 ≤ 1 → 0 ≤ w18_3 ∧ w18_3 ≤ 385 → fu Z19 (Z 56 18) = 1 → (sn 74 Z19 (Z 56 18) ≤ sn 74 Z8 (Z 56 18) ∧ (w18_2 = 1 → sn 74 Z19 (Z 56 18) < sn 74 Z8 (Z 56 18))) → (w18_2 = 0 → fl' Z19 w18_3 0 = 1) → XH n s S Z19 h19 → GI n S Z19 → fr' [(74, (-1))] Z8 Z19 → mx_J (tB l D b0 ad Hb tau) mt_237 (d + 6) 48 [some (.ref 56), some (xI x0), some (xI w18_2), some (xI w18_3), u18_4] [] h19 Post := by
                  intro m18
                  induction m18 with
                  | zero => intro w18_2 w18_3 u18_4 Z19 h19 q18 f18_0 f18_1 f18_2 f18_3 f18_4 hx19 hG19 hf19; exact absurd q18 (by omega)
                  | succ m18 ih18 =>
                    intro w18_2 w18_3 u18_4 Z19 h19 q18 f18_0 f18_1 f18_2 f18_3 f18_4 hx19 hG19 hf19
                    refine mx_J.step (sn_237 48) (fun _ _ => rfl) ?_
                    refine mx_J.step (sn_237 49) (fun _ _ => rfl) ?_
                    refine JgetI (g := 18) (z := Z 56 18) hx19 (show mx_Sn _ _ 50 (mx_getf 12 18 53) from sn_237 50) a56 s56 rfl rfl ((hf19 56 18 rfl).trans ((hf8 56 18 rfl).trans ((hf4 56 18 rfl).trans (hf1 56 18 rfl)))) ?_
                    refine Jicmp_ge (show mx_Sn _ _ 53 (mx_icmp_ge 112 56) from sn_237 53) (by omega) (by omega) (fun q21 => ?_) (fun q21 => ?_)
                    · skip
                      have fm : w18_2 = 0 → fl' Z19 (Z 56 18) 0 = 1 := fun e => fl_m (s := w18_3) (d := 0) (by omega) (by omega) (by omega)
                      refine mx_J.step (sn_237 112) (fun _ _ => rfl) ?_
                      exact ih7 w18_2 (some (xI w18_3)) u18_4 Z19 h19 (by omega) (by omega) (by omega) (by omega) hx19 hG19 (fr_tr (M := [(74, (-1))]) (fr_tr (M := [(74, (-1))]) fr_rf (hf8) (M1 := []) rfl rfl) (hf19) rfl rfl)
                    · skip
                      refine JcI (z := 0) (show mx_Sn _ _ 56 (mx_const (.int 0) 57) from sn_237 56) rfl ?_
                      refine mx_J.step (ls2 := [some (.ref 56), some (xI x0), some (xI w18_2), some (xI w18_3), some (xI 0)]) (sn_237 57) (fun _ _ => rfl) ?_
                      have c59 : ∀ (m22 : Nat) (w22_2 : Int) (w22_4 : Int) (Z23 : xZ) (h23 : mx_H), 19 - w22_4 < (m22 : Int) → 0 ≤ w22_2 ∧ w22_2 ≤ 1 → 0 ≤ w22_4 ∧ w22_4 ≤ 19 → fu Z23 (Z 56 18) = 1 → (sn 74 Z23 (Z 56 18) ≤ sn 74 Z8 (Z 56 18) ∧ (w22_2 = 1 → sn 74 Z23 (Z 56 18) < sn 74 Z8 (Z 56 18))) → (w22_2 = 0 → fl' Z23 w18_3 w22_4 = 1) → XH n s S Z23 h23 → GI n S Z23 → fr' [(74, (-1))] Z19 Z23 → mx_J (tB l D b0 ad Hb tau) mt_237 (d + 6) 59 [some (.ref 56), some (xI x0), some (xI w22_2), some (xI w18_3), some (xI w22_4)] [] h23 Post := by
                        intro m22
                        induction m22 with
                        | zero => intro w22_2 w22_4 Z23 h23 q22 f22_0 f22_1 f22_2 f22_3 f22_4 hx23 hG23 hf23; exact absurd q22 (by omega)
                        | succ m22 ih22 =>
                          intro w22_2 w22_4 Z23 h23 q22 f22_0 f22_1 f22_2 f22_3 f22_4 hx23 hG23 hf23
                          refine mx_J.step (sn_237 59) (fun _ _ => rfl) ?_
                          refine JcI (z := 19) (show mx_Sn _ _ 61 (mx_const (.int 19) 63) from sn_237 61) rfl ?_
                          refine Jicmp_ge (show mx_Sn _ _ 63 (mx_icmp_ge 106 66) from sn_237 63) (by omega) (by omega) (fun q24 => ?_) (fun q24 => ?_)
                          · skip
                            have fn : w22_2 = 0 → fl' Z23 (w18_3 + 1) 0 = 1 := fun e => fl_n (d := w22_4) (by omega) (by omega) rfl
                            refine Jiinc (z := w18_3) (cz := 1) (ls2 := [some (.ref 56), some (xI x0), some (xI w22_2), some (xI (w18_3 + 1)), some (xI w22_4)]) (show mx_Sn _ _ 106 (mx_iinc 3 1 109) from sn_237 106) rfl rfl rfl rfl ?_
                            refine mx_J.step (sn_237 109) (fun _ _ => rfl) ?_
                            exact ih18 w22_2 (w18_3 + 1) (some (xI w22_4)) Z23 h23 (by omega) (by omega) (by omega) (by omega) (by omega) (by first | exact (fun _ => fl_0 (by omega) (by omega)) | omega) hx23 hG23 (fr_tr (M := [(74, (-1))]) (fr_tr (M := [(74, (-1))]) fr_rf (hf19) (M1 := []) rfl rfl) (hf23) rfl rfl)
                          · skip
                            refine mx_J.step (sn_237 66) (fun _ _ => rfl) ?_
                            refine mx_J.step (sn_237 67) (fun _ _ => rfl) ?_
                            refine mx_J.step (sn_237 68) (fun _ _ => rfl) ?_
                            obtain ⟨z25, hc25, b25⟩ := ct_236_56 (d := d + 5) (l := l) (D := D) (b0 := b0) (ad := ad) (Hb := Hb) (tau := tau) hx23 hG23 (show 0 ≤ w18_3 ∧ w18_3 ≤ 384 by omega) (show 0 ≤ w22_4 ∧ w22_4 ≤ 18 by omega)
                            refine Jcv hx23 (show mx_Sn _ _ 70 (mx_callv 236 3 12 73) from sn_237 70) a56 s56 hc25 rfl rfl rfl ?_
                            refine mx_J.step (sn_237 73) (fun _ _ => rfl) ?_
                            refine JgetR (g := 33) (b := 74) hx23 (show mx_Sn _ _ 74 (mx_getf 12 33 77) from sn_237 74) a56 s56 rfl rfl (hG23.prr 56 33 rfl) ?_
                            refine mx_J.step (sn_237 77) (fun _ _ => rfl) ?_
                            have b27 : 0 ≤ Z23 74 w18_3 ∧ Z23 74 w18_3 ≤ 268435456 := hG23.pr 74 w18_3
                            refine JialdI (z := Z23 74 w18_3) hx23 (show mx_Sn _ _ 78 (mx_iald 79) from sn_237 78) a74 s74 (by omega) rfl ?_
                            have c100 : ∀ (w28_2 : Int) (Z29 : xZ) (h29 : mx_H), 0 ≤ w28_2 ∧ w28_2 ≤ 1 → fu Z29 (Z 56 18) = 1 → (sn 74 Z29 (Z 56 18) ≤ sn 74 Z8 (Z 56 18) ∧ (w28_2 = 1 → sn 74 Z29 (Z 56 18) < sn 74 Z8 (Z 56 18))) → (w28_2 = 0 → fl' Z29 w18_3 (w22_4 + 1) = 1) → XH n s S Z29 h29 → GI n S Z29 → fr' [(74, (-1))] Z23 Z29 → mx_J (tB l D b0 ad Hb tau) mt_237 (d + 6) 100 [some (.ref 56), some (xI x0), some (xI w28_2), some (xI w18_3), some (xI w22_4)] [] h29 Post := by
                              intro w28_2 Z29 h29 f28_0 f28_1 f28_2 f28_3 hx29 hG29 hf29
                              refine Jiinc (z := w22_4) (cz := 1) (ls2 := [some (.ref 56), some (xI x0), some (xI w28_2), some (xI w18_3), some (xI (w22_4 + 1))]) (show mx_Sn _ _ 100 (mx_iinc 4 1 103) from sn_237 100) rfl rfl rfl rfl ?_
                              refine mx_J.step (sn_237 103) (fun _ _ => rfl) ?_
                              exact ih22 w28_2 (w22_4 + 1) Z29 h29 (by omega) (by omega) (by omega) (by omega) (by omega) (by omega) hx29 hG29 (fr_tr (M := [(74, (-1))]) (fr_tr (M := [(74, (-1))]) fr_rf (hf23) (M1 := []) rfl rfl) (hf29) rfl rfl)
                            refine Jicmp_lt (show mx_Sn _ _ 79 (mx_icmp_lt 85 82) from sn_237 79) (by omega) (by omega) (fun q30 => ?_) (fun q30 => ?_)
                            · skip
                              refine mx_J.step (sn_237 85) (fun _ _ => rfl) ?_
                              refine JgetR (g := 33) (b := 74) hx23 (show mx_Sn _ _ 86 (mx_getf 12 33 89) from sn_237 86) a56 s56 rfl rfl (hG23.prr 56 33 rfl) ?_
                              refine mx_J.step (sn_237 89) (fun _ _ => rfl) ?_
                              refine mx_J.step (sn_237 90) (fun _ _ => rfl) ?_
                              refine mx_J.step (sn_237 91) (fun _ _ => rfl) ?_
                              refine mx_J.step (sn_237 92) (fun _ _ => rfl) ?_
                              obtain ⟨z32, hc32, b32⟩ := ct_236_56 (d := d + 5) (l := l) (D := D) (b0 := b0) (ad := ad) (Hb := Hb) (tau := tau) hx23 hG23 (show 0 ≤ w18_3 ∧ w18_3 ≤ 384 by omega) (show 0 ≤ w22_4 ∧ w22_4 ≤ 18 by omega)
                              refine Jcv hx23 (show mx_Sn _ _ 94 (mx_callv 236 3 12 97) from sn_237 94) a56 s56 hc32 rfl rfl rfl ?_
                              refine JiastI hx23 (show mx_Sn _ _ 97 (mx_iast 1 98) from sn_237 97) a74 s74 rfl (by omega) (fun Z33 h33 hx33 hE33 => ?_)
                              have hG33 := GI_up hG23 hE33 (show 0 ≤ z32 ∧ z32 ≤ 268435456 by omega) trivial rfl
                              have fq := fu_u (Z := Z23) (Z2 := Z33) (m := Z 56 18) (s := w18_3) (d := w22_4) (by omega) (by have e9 : fb Z23 w18_3 w22_4 = z32 := (by omega); rw [e9]; first | done | exact hE33) (by omega) (by omega) (by omega) (fun i => hG23.pr 74 i)
                              have sq := sn_u (m := Z 56 18) hE33 (by omega)
                              refine JcI (z := 1) (show mx_Sn _ _ 98 (mx_const (.int 1) 99) from sn_237 98) rfl ?_
                              refine mx_J.step (ls2 := [some (.ref 56), some (xI x0), some (xI 1), some (xI w18_3), some (xI w22_4)]) (sn_237 99) (fun _ _ => rfl) ?_
                              exact c100 1 Z33 h33 (by omega) (by omega) (by omega) (by omega) hx33 hG33 (fr_tr (M := [(74, (-1))]) fr_rf (fr_ua hE33) (M1 := []) rfl rfl)
                            · skip
                              have fs : w22_2 = 0 → fl' Z23 w18_3 (w22_4 + 1) = 1 := fun e => fl_s (d := w22_4) (by omega) (by omega) rfl
                              refine mx_J.step (sn_237 82) (fun _ _ => rfl) ?_
                              exact c100 w22_2 Z23 h23 (by omega) (by omega) (by omega) (by omega) hx23 hG23 fr_rf
                      exact c59 (Int.toNat (19 - 0) + 1) w18_2 0 Z19 h19 (by omega) (by omega) (by omega) (by omega) (by omega) (by omega) hx19 hG19 fr_rf
                exact c48 (Int.toNat (385 - 0) + 1) 0 0 u7_4 Z8 h8 (by omega) (by omega) (by omega) (by omega) (by omega) (by first | exact (fun _ => fl_0 (by omega) (by omega)) | omega) hx8 hG8 fr_rf
          exact c40 (Int.toNat ((((sn 74 Z4 (Z 56 18) + 1).toNat : Nat) : Int)) + 1) 1 none none Z4 h4 (by omega) (by omega) (by omega) (by omega) hx4 hG4 fr_rf
        · skip
          refine mx_J.step (sn_237 14) (fun _ _ => rfl) ?_
          refine JgetR (g := 33) (b := 74) hx4 (show mx_Sn _ _ 15 (mx_getf 12 33 18) from sn_237 15) a56 s56 rfl rfl (hG4.prr 56 33 rfl) ?_
          refine mx_J.step (sn_237 18) (fun _ _ => rfl) ?_
          refine mx_J.step (sn_237 19) (fun _ _ => rfl) ?_
          refine mx_J.step (sn_237 20) (fun _ _ => rfl) ?_
          have c31 : ∀ (k35_2 : Int), 0 ≤ k35_2 ∧ k35_2 ≤ 268435456 → (k35_2 = 0 ∨ k35_2 = 268435456) → mx_J (tB l D b0 ad Hb tau) mt_237 (d + 6) 31 [some (.ref 56), some (xI x0), some (xI w3_2), none, none] [xI k35_2, xI w3_2, .ref 74] h4 Post := by
            intro k35_2 f35_0 f35_1
            refine JiastI hx4 (show mx_Sn _ _ 31 (mx_iast 1 32) from sn_237 31) a74 s74 rfl (by omega) (fun Z36 h36 hx36 hE36 => ?_)
            have hG36 := GI_up hG4 hE36 (show 0 ≤ k35_2 ∧ k35_2 ≤ 268435456 by omega) trivial rfl
            have f0 : (∀ i, 0 ≤ i → i < (w3_2 + 1) → (Z36 74 i = 0 ∨ Z36 74 i = 268435456)) := fun i i0 i1 => if hi : i = w3_2 then (by rw [hi, up_at hE36]; omega) else (by rw [up_ni hE36 hi]; exact (by assumption : (∀ i, 0 ≤ i → i < w3_2 → (Z4 74 i = 0 ∨ Z4 74 i = 268435456))) i i0 (by omega))
            refine Jiinc (z := w3_2) (cz := 1) (ls2 := [some (.ref 56), some (xI x0), some (xI (w3_2 + 1)), none, none]) (show mx_Sn _ _ 32 (mx_iinc 2 1 35) from sn_237 32) rfl rfl rfl rfl ?_
            refine mx_J.step (sn_237 35) (fun _ _ => rfl) ?_
            exact ih3 (w3_2 + 1) Z36 h36 (by omega) (by omega) (by first | exact (fun i i0 i1 => absurd i1 (by omega)) | assumption) hx36 hG36 (fr_tr (M := [(74, (-1))]) (fr_tr (M := [(74, (-1))]) fr_rf (hf4) (M1 := []) rfl rfl) (fr_ua hE36) rfl rfl)
          refine Jicmp_ne (show mx_Sn _ _ 21 (mx_icmp_ne 28 24) from sn_237 21) (by omega) (by omega) (fun q37 => ?_) (fun q37 => ?_)
          · skip
            refine JcI (z := 268435456) (show mx_Sn _ _ 28 (mx_const (.int 268435456) 31) from sn_237 28) rfl ?_
            exact c31 268435456 (by omega) (by omega)
          · skip
            refine JcI (z := 0) (show mx_Sn _ _ 24 (mx_const (.int 0) 25) from sn_237 24) rfl ?_
            refine mx_J.step (sn_237 25) (fun _ _ => rfl) ?_
            exact c31 0 (by omega) (by omega)
    exact c6 (Int.toNat (385 - 0) + 1) 0 Z1 h1 (by omega) (by omega) (by first | exact (fun i i0 i1 => absurd i1 (by omega)) | assumption) hx1 hG1 fr_rf
theorem ct_237_56 {l : Launch} {D : va_G} {b0 : Nat} {ad : Nat → Nat} {Hb : Heap} {tau : Nat → Int64} {d n s : Nat} {S : Nat → xS} {Z : xZ} {h : mx_H} (hx : XH n s S Z h) (hG : GI n S Z)  {x0 : Int} (p0 : 0 ≤ x0 ∧ x0 ≤ 384) : ∃ (z : Int) (Z' : xZ) (h' : mx_H), mx_Ca (tB l D b0 ad Hb tau) (d + 7) 237 [.ref 56, xI x0] h (some (xI z), h') ∧ XH n s S Z' h' ∧ GI n S Z' ∧ fr' [(62, (-1)), (64, (-1)), (65, (-1)), (73, (-1)), (74, (-1))] Z Z' ∧ (0 ≤ z ∧ z ≤ 268435456 ∧ (fu Z' (Z 56 18) = 1 ∧ fl' Z' (Z 56 18) 0 = 1 ∧ ai 73 Z' (19 * Z 56 18) (-1) (Z 56 18 - 1) = 1)) := by
  obtain ⟨r, hca, z, Z', h', e, q⟩ := Jmt (B := tB l D b0 ad Hb tau) (M := mt_237) (mi := 237) (as := [.ref 56, xI x0]) (d := d + 6) (ls := [some (.ref 56), some (xI x0), none, none, none]) rfl rfl rfl rfl rfl rfl (cw_237_56 (l := l) (D := D) (b0 := b0) (ad := ad) (Hb := Hb) (tau := tau) (d := d) (Post := fun r => ∃ (z : Int) (Z' : xZ) (h' : mx_H), r = (some (xI z), h') ∧ XH n s S Z' h' ∧ GI n S Z' ∧ fr' [(62, (-1)), (64, (-1)), (65, (-1)), (73, (-1)), (74, (-1))] Z Z' ∧ (0 ≤ z ∧ z ≤ 268435456 ∧ (fu Z' (Z 56 18) = 1 ∧ fl' Z' (Z 56 18) 0 = 1 ∧ ai 73 Z' (19 * Z 56 18) (-1) (Z 56 18 - 1) = 1))) hx hG p0 (fun z Z' h' q1 q2 q3 q4 => ⟨z, Z', h', rfl, q1, q2, q3, q4⟩))
  subst e; exact ⟨z, Z', h', hca, q⟩
set_option maxRecDepth 100000 in
theorem cw_239_56 {l : Launch} {D : va_G} {b0 : Nat} {ad : Nat → Nat} {Hb : Heap} {tau : Nat → Int64} {d n s : Nat} {S : Nat → xS} {Z : xZ} {h : mx_H} {Post : mx_R → Prop} (hx : XH n s S Z h) (hG : GI n S Z)  {x0 : Int} (p0 : (-2147483648) ≤ x0 ∧ x0 ≤ 2147483647) (hP : ∀ z : Int, (-6) ≤ z ∧ z ≤ 0 ∧ (z = 0 → (0 ≤ x0 ∧ x0 ≤ 3 ∧ 1 ≤ Z 81 x0 ∧ Z 81 x0 ≤ 18)) → Post (some (xI z), h)) : mx_J (tB l D b0 ad Hb tau) mt_239 (d + 2) 0 [some (.ref 56), some (xI x0), none, none, none] [] h Post := by
    have a56 : 56 < n := lt83 (GI_n hG) rfl
    have s56 : S 56 = .inl (12, [0, 2, 2, 2, 2, 0, 0, 0, 0, 0, 0, 0, 0, 0, 0, 2, 2, 2, 0, 2, 2, 2, 0, 0, 2, 2, 2, 2, 2, 2, 0, 0, 2, 2, 2, 2, 2, 2, 2, 2, 2, 2]) := GI_s hG 56 rfl
    have a57 : 57 < n := lt83 (GI_n hG) rfl
    have s57 : S 57 = .inr (.int, 2886, 0) := GI_s hG 57 rfl
    have a81 : 81 < n := lt83 (GI_n hG) rfl
    have s81 : S 81 = .inr (.int, 4, 0) := GI_s hG 81 rfl
    have a82 : 82 < n := lt83 (GI_n hG) rfl
    have s82 : S 82 = .inr (.long, 160, 1) := GI_s hG 82 rfl
    refine mx_J.step (sn_239 0) (fun _ _ => rfl) ?_
    refine mx_J.step (sn_239 1) (fun _ _ => rfl) ?_
    have b2 : (-1) ≤ Z 80 x0 ∧ Z 80 x0 ≤ 3 := hG.pr 80 x0
    obtain ⟨z1, hc1, b1⟩ := ct_220_56 (d := d + 0) (l := l) (D := D) (b0 := b0) (ad := ad) (Hb := Hb) (tau := tau) hx hG (show (-2147483648) ≤ x0 ∧ x0 ≤ 2147483647 by omega)
    refine Jcv hx (show mx_Sn _ _ 2 (mx_callv 220 2 12 5) from sn_239 2) a56 s56 hc1 rfl rfl rfl ?_
    refine mx_J.step (ls2 := [some (.ref 56), some (xI x0), some (xI z1), none, none]) (sn_239 5) (fun _ _ => rfl) ?_
    refine mx_J.step (sn_239 6) (fun _ _ => rfl) ?_
    refine Jif_eq (show mx_Sn _ _ 7 (mx_if_eq 12 10) from sn_239 7) (by omega) (fun q3 => ?_) (fun q3 => ?_)
    · skip
      refine mx_J.step (sn_239 12) (fun _ _ => rfl) ?_
      refine JgetR (g := 40) (b := 81) hx (show mx_Sn _ _ 13 (mx_getf 12 40 16) from sn_239 13) a56 s56 rfl rfl (hG.prr 56 40 rfl) ?_
      refine mx_J.step (sn_239 16) (fun _ _ => rfl) ?_
      have b5 : 0 ≤ Z 81 x0 ∧ Z 81 x0 ≤ 40 := hG.pr 81 x0
      refine JialdI (z := Z 81 x0) hx (show mx_Sn _ _ 17 (mx_iald 18) from sn_239 17) a81 s81 (by omega) rfl ?_
      refine Ji2l (show mx_Sn _ _ 18 (mx_i2l 19) from sn_239 18) (by omega) ?_
      refine JcL (z := 1) (show mx_Sn _ _ 19 (mx_const (.long 1) 20) from sn_239 19) rfl ?_
      refine JcL (z := 18) (show mx_Sn _ _ 20 (mx_const (.long 18) 23) from sn_239 20) rfl ?_
      obtain ⟨z6, hc6, b6⟩ := ct_154_ (d := d + 1) (l := l) (D := D) (b0 := b0) (ad := ad) (Hb := Hb) (tau := tau) hx hG (show (-9223372036854775808) ≤ Z 81 x0 ∧ Z 81 x0 ≤ 9223372036854775807 by omega) (show (-9223372036854775808) ≤ 1 ∧ 1 ≤ 9223372036854775807 by omega) (show (-9223372036854775808) ≤ 18 ∧ 18 ≤ 9223372036854775807 by omega)
      refine Jcs (show mx_Sn _ _ 23 (mx_calls 154 3 26) from sn_239 23) hc6 rfl rfl rfl ?_
      refine Jif_ne (show mx_Sn _ _ 26 (mx_if_ne 32 29) from sn_239 26) (by omega) (fun q7 => ?_) (fun q7 => ?_)
      · skip
        refine JcI (z := 0) (show mx_Sn _ _ 32 (mx_const (.int 0) 33) from sn_239 32) rfl ?_
        refine mx_J.step (ls2 := [some (.ref 56), some (xI x0), some (xI z1), some (xI 0), none]) (sn_239 33) (fun _ _ => rfl) ?_
        refine JcI (z := 0) (show mx_Sn _ _ 34 (mx_const (.int 0) 35) from sn_239 34) rfl ?_
        refine mx_J.step (ls2 := [some (.ref 56), some (xI x0), some (xI z1), some (xI 0), some (xI 0)]) (sn_239 35) (fun _ _ => rfl) ?_
        have c37 : ∀ (m8 : Nat) (w8_3 : Int) (w8_4 : Int), 40 - w8_4 < (m8 : Int) → (-2147483648) ≤ w8_3 ∧ w8_3 ≤ 2147483647 → 0 ≤ w8_4 ∧ w8_4 ≤ 40 → mx_J (tB l D b0 ad Hb tau) mt_239 (d + 2) 37 [some (.ref 56), some (xI x0), some (xI z1), some (xI w8_3), some (xI w8_4)] [] h Post := by
          intro m8
          induction m8 with
          | zero => intro w8_3 w8_4 q8 f8_0 f8_1; exact absurd q8 (by omega)
          | succ m8 ih8 =>
            intro w8_3 w8_4 q8 f8_0 f8_1
            refine mx_J.step (sn_239 37) (fun _ _ => rfl) ?_
            refine mx_J.step (sn_239 39) (fun _ _ => rfl) ?_
            refine JgetR (g := 40) (b := 81) hx (show mx_Sn _ _ 40 (mx_getf 12 40 43) from sn_239 40) a56 s56 rfl rfl (hG.prr 56 40 rfl) ?_
            refine mx_J.step (sn_239 43) (fun _ _ => rfl) ?_
            refine JialdI (z := Z 81 x0) hx (show mx_Sn _ _ 44 (mx_iald 45) from sn_239 44) a81 s81 (by omega) rfl ?_
            refine Jicmp_ge (show mx_Sn _ _ 45 (mx_icmp_ge 91 48) from sn_239 45) (by omega) (by omega) (fun q10 => ?_) (fun q10 => ?_)
            · skip
              refine mx_J.step (sn_239 91) (fun _ _ => rfl) ?_
              refine mx_J.step (sn_239 92) (fun _ _ => rfl) ?_
              refine JgetR (g := 1) (b := 57) hx (show mx_Sn _ _ 93 (mx_getf 12 1 96) from sn_239 93) a56 s56 rfl rfl (hG.prr 56 1 rfl) ?_
              refine JcI (z := 1) (show mx_Sn _ _ 96 (mx_const (.int 1) 97) from sn_239 96) rfl ?_
              have b12 : 0 ≤ Z 57 1 ∧ Z 57 1 ≤ 18 := by have hq := GI_ex hG 57 1; replace hq : f57 (1 % 962) (Z 57 1) := hq; unfold f57 at hq; omega
              have b13 : (-2147483648) ≤ Z 57 1 ∧ Z 57 1 ≤ 2147483647 := hG.pr 57 1
              refine JialdI (z := Z 57 1) hx (show mx_Sn _ _ 97 (mx_iald 98) from sn_239 97) a57 s57 (by omega) rfl ?_
              have c107 : ∀ (k14_0 : Int), (-5) ≤ k14_0 ∧ k14_0 ≤ 0 → mx_J (tB l D b0 ad Hb tau) mt_239 (d + 2) 107 [some (.ref 56), some (xI x0), some (xI z1), some (xI w8_3), some (xI w8_4)] [xI k14_0] h Post := by
                intro k14_0 f14_0
                exact mx_J.ret (sn_239 107) (fun _ _ => rfl) (hP k14_0 (by omega))
              refine Jicmp_ne (show mx_Sn _ _ 98 (mx_icmp_ne 105 101) from sn_239 98) (by omega) (by omega) (fun q15 => ?_) (fun q15 => ?_)
              · skip
                refine JcI (z := (-5)) (show mx_Sn _ _ 105 (mx_const (.int (-5)) 107) from sn_239 105) rfl ?_
                exact c107 (-5) (by omega)
              · skip
                refine JcI (z := 0) (show mx_Sn _ _ 101 (mx_const (.int 0) 102) from sn_239 101) rfl ?_
                refine mx_J.step (sn_239 102) (fun _ _ => rfl) ?_
                exact c107 0 (by omega)
            · skip
              refine mx_J.step (sn_239 48) (fun _ _ => rfl) ?_
              refine JgetR (g := 41) (b := 82) hx (show mx_Sn _ _ 49 (mx_getf 12 41 52) from sn_239 49) a56 s56 rfl rfl (hG.prr 56 41 rfl) ?_
              refine JcI (z := 40) (show mx_Sn _ _ 52 (mx_const (.int 40) 54) from sn_239 52) rfl ?_
              refine mx_J.step (sn_239 54) (fun _ _ => rfl) ?_
              refine Jimul (show mx_Sn _ _ 55 (mx_imul 56) from sn_239 55) ?_
              refine mx_J.step (sn_239 56) (fun _ _ => rfl) ?_
              refine Jiadd (show mx_Sn _ _ 58 (mx_iadd 59) from sn_239 58) ?_
              have b17 : (-9223372036854775808) ≤ Z 82 ((40 * x0) + w8_4) ∧ Z 82 ((40 * x0) + w8_4) ≤ 9223372036854775807 := hG.pr 82 ((40 * x0) + w8_4)
              refine JlaldL (z := Z 82 ((40 * x0) + w8_4)) hx (show mx_Sn _ _ 59 (mx_lald 60) from sn_239 59) a82 s82 (by omega) rfl ?_
              obtain ⟨z18, hc18, b18⟩ := ct_208_ (d := d + 0) (l := l) (D := D) (b0 := b0) (ad := ad) (Hb := Hb) (tau := tau) hx hG (show (-9223372036854775808) ≤ Z 82 ((40 * x0) + w8_4) ∧ Z 82 ((40 * x0) + w8_4) ≤ 9223372036854775807 by omega)
              refine Jcs (show mx_Sn _ _ 60 (mx_calls 208 1 63) from sn_239 60) hc18 rfl rfl rfl ?_
              refine Jif_ne (show mx_Sn _ _ 63 (mx_if_ne 69 66) from sn_239 63) (by omega) (fun q19 => ?_) (fun q19 => ?_)
              · skip
                refine mx_J.step (sn_239 69) (fun _ _ => rfl) ?_
                refine mx_J.step (sn_239 70) (fun _ _ => rfl) ?_
                refine JgetR (g := 41) (b := 82) hx (show mx_Sn _ _ 71 (mx_getf 12 41 74) from sn_239 71) a56 s56 rfl rfl (hG.prr 56 41 rfl) ?_
                refine JcI (z := 40) (show mx_Sn _ _ 74 (mx_const (.int 40) 76) from sn_239 74) rfl ?_
                refine mx_J.step (sn_239 76) (fun _ _ => rfl) ?_
                refine Jimul (show mx_Sn _ _ 77 (mx_imul 78) from sn_239 77) ?_
                refine mx_J.step (sn_239 78) (fun _ _ => rfl) ?_
                refine Jiadd (show mx_Sn _ _ 80 (mx_iadd 81) from sn_239 80) ?_
                refine JlaldL (z := Z 82 ((40 * x0) + w8_4)) hx (show mx_Sn _ _ 81 (mx_lald 82) from sn_239 81) a82 s82 (by omega) rfl ?_
                refine Jl2i (show mx_Sn _ _ 82 (mx_l2i 83) from sn_239 82) (Jnorm fun y21 hy21 hq21 => ?_)
                refine JiaddN (show mx_Sn _ _ 83 (mx_iadd 84) from sn_239 83) (fun y22 hy22 hq22 => ?_)
                refine mx_J.step (ls2 := [some (.ref 56), some (xI x0), some (xI z1), some (xI y22), some (xI w8_4)]) (sn_239 84) (fun _ _ => rfl) ?_
                refine Jiinc (z := w8_4) (cz := 1) (ls2 := [some (.ref 56), some (xI x0), some (xI z1), some (xI y22), some (xI (w8_4 + 1))]) (show mx_Sn _ _ 85 (mx_iinc 4 1 88) from sn_239 85) rfl rfl rfl rfl ?_
                refine mx_J.step (sn_239 88) (fun _ _ => rfl) ?_
                exact ih8 y22 (w8_4 + 1) (by omega) (by omega) (by omega)
              · skip
                refine JcI (z := (-3)) (show mx_Sn _ _ 66 (mx_const (.int (-3)) 68) from sn_239 66) rfl ?_
                exact mx_J.ret (sn_239 68) (fun _ _ => rfl) (hP (-3) (by omega))
        exact c37 (Int.toNat (40 - 0) + 1) 0 0 (by omega) (by omega) (by omega)
      · skip
        refine JcI (z := (-4)) (show mx_Sn _ _ 29 (mx_const (.int (-4)) 31) from sn_239 29) rfl ?_
        exact mx_J.ret (sn_239 31) (fun _ _ => rfl) (hP (-4) (by omega))
    · skip
      refine mx_J.step (sn_239 10) (fun _ _ => rfl) ?_
      have b23 : 0 ≤ Z 81 x0 ∧ Z 81 x0 ≤ 40 := hG.pr 81 x0
      exact mx_J.ret (sn_239 11) (fun _ _ => rfl) (hP z1 (by omega))
theorem ct_239_56 {l : Launch} {D : va_G} {b0 : Nat} {ad : Nat → Nat} {Hb : Heap} {tau : Nat → Int64} {d n s : Nat} {S : Nat → xS} {Z : xZ} {h : mx_H} (hx : XH n s S Z h) (hG : GI n S Z)  {x0 : Int} (p0 : (-2147483648) ≤ x0 ∧ x0 ≤ 2147483647) : ∃ z : Int, mx_Ca (tB l D b0 ad Hb tau) (d + 3) 239 [.ref 56, xI x0] h (some (xI z), h) ∧ ((-6) ≤ z ∧ z ≤ 0 ∧ (z = 0 → (0 ≤ x0 ∧ x0 ≤ 3 ∧ 1 ≤ Z 81 x0 ∧ Z 81 x0 ≤ 18))) := by
  obtain ⟨r, hca, z, e, hp⟩ := Jmt (B := tB l D b0 ad Hb tau) (M := mt_239) (mi := 239) (as := [.ref 56, xI x0]) (d := d + 2) (ls := [some (.ref 56), some (xI x0), none, none, none]) rfl rfl rfl rfl rfl rfl (cw_239_56 (l := l) (D := D) (b0 := b0) (ad := ad) (Hb := Hb) (tau := tau) (d := d) (Post := fun r => ∃ z : Int, r = (some (xI z), h) ∧ ((-6) ≤ z ∧ z ≤ 0 ∧ (z = 0 → (0 ≤ x0 ∧ x0 ≤ 3 ∧ 1 ≤ Z 81 x0 ∧ Z 81 x0 ≤ 18)))) hx hG p0 (fun z hz => ⟨z, rfl, hz⟩))
  subst e; exact ⟨z, hca, hp⟩
set_option maxRecDepth 100000 in
theorem cw_240_56 {l : Launch} {D : va_G} {b0 : Nat} {ad : Nat → Nat} {Hb : Heap} {tau : Nat → Int64} {d n s : Nat} {S : Nat → xS} {Z : xZ} {h : mx_H} {Post : mx_R → Prop} (hx : XH n s S Z h) (hG : GI n S Z)  {x0 : Int} (p0 : 0 ≤ x0 ∧ x0 ≤ 3) (k0 : Z 81 x0 ≤ 18) (hP : ∀ (z : Int) (Z' : xZ) (h' : mx_H), XH n s S Z' h' → GI n S Z' → fr' [(62, (-1))] Z Z' → 0 ≤ z ∧ z ≤ 384 → Post (some (xI z), h')) : mx_J (tB l D b0 ad Hb tau) mt_240 (d + 2) 0 [some (.ref 56), some (xI x0), none] [] h Post := by
    have a56 : 56 < n := lt83 (GI_n hG) rfl
    have s56 : S 56 = .inl (12, [0, 2, 2, 2, 2, 0, 0, 0, 0, 0, 0, 0, 0, 0, 0, 2, 2, 2, 0, 2, 2, 2, 0, 0, 2, 2, 2, 2, 2, 2, 0, 0, 2, 2, 2, 2, 2, 2, 2, 2, 2, 2]) := GI_s hG 56 rfl
    have a62 : 62 < n := lt83 (GI_n hG) rfl
    have s62 : S 62 = .inr (.int, 20, 0) := GI_s hG 62 rfl
    have a81 : 81 < n := lt83 (GI_n hG) rfl
    have s81 : S 81 = .inr (.int, 4, 0) := GI_s hG 81 rfl
    have a82 : 82 < n := lt83 (GI_n hG) rfl
    have s82 : S 82 = .inr (.long, 160, 1) := GI_s hG 82 rfl
    refine mx_J.step (sn_240 0) (fun _ _ => rfl) ?_
    obtain ⟨Z1, h1, hc1, hx1, hG1, hf1, b1⟩ := ct_186_56 (d := d + 1) (l := l) (D := D) (b0 := b0) (ad := ad) (Hb := Hb) (tau := tau) hx hG 
    have bs1_0 := b1
    clear b1
    refine Jcv0 hx (show mx_Sn _ _ 1 (mx_callv 186 1 12 4) from sn_240 1) a56 s56 hc1 rfl rfl rfl ?_
    refine JcI (z := 0) (show mx_Sn _ _ 4 (mx_const (.int 0) 5) from sn_240 4) rfl ?_
    refine mx_J.step (ls2 := [some (.ref 56), some (xI x0), some (xI 0)]) (sn_240 5) (fun _ _ => rfl) ?_
    have c6 : ∀ (m2 : Nat) (w2_2 : Int) (Z3 : xZ) (h3 : mx_H), 40 - w2_2 < (m2 : Int) → 0 ≤ w2_2 ∧ w2_2 ≤ 40 → XH n s S Z3 h3 → GI n S Z3 → fr' [(62, (-1))] Z1 Z3 → mx_J (tB l D b0 ad Hb tau) mt_240 (d + 2) 6 [some (.ref 56), some (xI x0), some (xI w2_2)] [] h3 Post := by
      intro m2
      induction m2 with
      | zero => intro w2_2 Z3 h3 q2 f2_0 hx3 hG3 hf3; exact absurd q2 (by omega)
      | succ m2 ih2 =>
        intro w2_2 Z3 h3 q2 f2_0 hx3 hG3 hf3
        refine mx_J.step (sn_240 6) (fun _ _ => rfl) ?_
        refine mx_J.step (sn_240 7) (fun _ _ => rfl) ?_
        refine JgetR (g := 40) (b := 81) hx3 (show mx_Sn _ _ 8 (mx_getf 12 40 11) from sn_240 8) a56 s56 rfl rfl (hG3.prr 56 40 rfl) ?_
        refine mx_J.step (sn_240 11) (fun _ _ => rfl) ?_
        have b5 : 0 ≤ Z 81 x0 ∧ Z 81 x0 ≤ 40 := hG.pr 81 x0
        refine JialdI (z := Z 81 x0) hx3 (show mx_Sn _ _ 12 (mx_iald 13) from sn_240 12) a81 s81 (by omega) ((hf3 81 x0 rfl).trans (hf1 81 x0 rfl)) ?_
        refine Jicmp_ge (show mx_Sn _ _ 13 (mx_icmp_ge 40 16) from sn_240 13) (by omega) (by omega) (fun q6 => ?_) (fun q6 => ?_)
        · skip
          refine mx_J.step (sn_240 40) (fun _ _ => rfl) ?_
          have eq8 : Z3 56 18 = Z 56 18 := ((hf3 56 18 rfl).trans (hf1 56 18 rfl))
          have b9 : 0 ≤ Z 56 18 ∧ Z 56 18 ≤ 385 := hG.pr 56 18
          obtain ⟨z7, Z7, h7, hc7, hx7, hG7, hf7, b7⟩ := ct_188_56 (d := d + 0) (l := l) (D := D) (b0 := b0) (ad := ad) (Hb := Hb) (tau := tau) hx3 hG3 
          try rw [eq8] at b7
          refine Jcv hx3 (show mx_Sn _ _ 41 (mx_callv 188 1 12 44) from sn_240 41) a56 s56 hc7 rfl rfl rfl ?_
          have eq10 : Z7 81 x0 = Z 81 x0 := ((hf7 81 x0 rfl).trans ((hf3 81 x0 rfl).trans (hf1 81 x0 rfl)))
          exact mx_J.ret (sn_240 44) (fun _ _ => rfl) (hP z7 Z7 h7 hx7 hG7 (fr_tr (M := [(62, (-1))]) (fr_tr (M := [(62, (-1))]) (fr_tr (M := [(62, (-1))]) fr_rf (hf1) (M1 := []) rfl rfl) (hf3) rfl rfl) (hf7) rfl rfl) (by omega))
        · skip
          refine mx_J.step (sn_240 16) (fun _ _ => rfl) ?_
          refine JgetR (g := 16) (b := 62) hx3 (show mx_Sn _ _ 17 (mx_getf 12 16 20) from sn_240 17) a56 s56 rfl rfl (hG3.prr 56 16 rfl) ?_
          refine mx_J.step (sn_240 20) (fun _ _ => rfl) ?_
          refine mx_J.step (sn_240 21) (fun _ _ => rfl) ?_
          refine JgetR (g := 41) (b := 82) hx3 (show mx_Sn _ _ 22 (mx_getf 12 41 25) from sn_240 22) a56 s56 rfl rfl (hG3.prr 56 41 rfl) ?_
          refine JcI (z := 40) (show mx_Sn _ _ 25 (mx_const (.int 40) 27) from sn_240 25) rfl ?_
          refine mx_J.step (sn_240 27) (fun _ _ => rfl) ?_
          refine Jimul (show mx_Sn _ _ 28 (mx_imul 29) from sn_240 28) ?_
          refine mx_J.step (sn_240 29) (fun _ _ => rfl) ?_
          refine Jiadd (show mx_Sn _ _ 30 (mx_iadd 31) from sn_240 30) ?_
          have b13 : (-9223372036854775808) ≤ Z 82 ((40 * x0) + w2_2) ∧ Z 82 ((40 * x0) + w2_2) ≤ 9223372036854775807 := hG.pr 82 ((40 * x0) + w2_2)
          refine JlaldL (z := Z 82 ((40 * x0) + w2_2)) hx3 (show mx_Sn _ _ 31 (mx_lald 32) from sn_240 31) a82 s82 (by omega) ((hf3 82 ((40 * x0) + w2_2) rfl).trans (hf1 82 ((40 * x0) + w2_2) rfl)) ?_
          refine Jl2i (show mx_Sn _ _ 32 (mx_l2i 33) from sn_240 32) (Jnorm fun y14 hy14 hq14 => ?_)
          refine JiastI hx3 (show mx_Sn _ _ 33 (mx_iast 1 34) from sn_240 33) a62 s62 rfl (by omega) (fun Z15 h15 hx15 hE15 => ?_)
          have hG15 := GI_up hG3 hE15 (show (-2147483648) ≤ y14 ∧ y14 ≤ 2147483647 by omega) trivial rfl
          refine Jiinc (z := w2_2) (cz := 1) (ls2 := [some (.ref 56), some (xI x0), some (xI (w2_2 + 1))]) (show mx_Sn _ _ 34 (mx_iinc 2 1 37) from sn_240 34) rfl rfl rfl rfl ?_
          refine mx_J.step (sn_240 37) (fun _ _ => rfl) ?_
          exact ih2 (w2_2 + 1) Z15 h15 (by omega) (by omega) hx15 hG15 (fr_tr (M := [(62, (-1))]) (fr_tr (M := [(62, (-1))]) fr_rf (hf3) (M1 := []) rfl rfl) (fr_ua hE15) rfl rfl)
    exact c6 (Int.toNat (40 - 0) + 1) 0 Z1 h1 (by omega) (by omega) hx1 hG1 fr_rf
theorem ct_240_56 {l : Launch} {D : va_G} {b0 : Nat} {ad : Nat → Nat} {Hb : Heap} {tau : Nat → Int64} {d n s : Nat} {S : Nat → xS} {Z : xZ} {h : mx_H} (hx : XH n s S Z h) (hG : GI n S Z)  {x0 : Int} (p0 : 0 ≤ x0 ∧ x0 ≤ 3) (k0 : Z 81 x0 ≤ 18) : ∃ (z : Int) (Z' : xZ) (h' : mx_H), mx_Ca (tB l D b0 ad Hb tau) (d + 3) 240 [.ref 56, xI x0] h (some (xI z), h') ∧ XH n s S Z' h' ∧ GI n S Z' ∧ fr' [(62, (-1))] Z Z' ∧ (0 ≤ z ∧ z ≤ 384) := by
  obtain ⟨r, hca, z, Z', h', e, q⟩ := Jmt (B := tB l D b0 ad Hb tau) (M := mt_240) (mi := 240) (as := [.ref 56, xI x0]) (d := d + 2) (ls := [some (.ref 56), some (xI x0), none]) rfl rfl rfl rfl rfl rfl (cw_240_56 (l := l) (D := D) (b0 := b0) (ad := ad) (Hb := Hb) (tau := tau) (d := d) (Post := fun r => ∃ (z : Int) (Z' : xZ) (h' : mx_H), r = (some (xI z), h') ∧ XH n s S Z' h' ∧ GI n S Z' ∧ fr' [(62, (-1))] Z Z' ∧ (0 ≤ z ∧ z ≤ 384)) hx hG p0 k0 (fun z Z' h' q1 q2 q3 q4 => ⟨z, Z', h', rfl, q1, q2, q3, q4⟩))
  subst e; exact ⟨z, Z', h', hca, q⟩
set_option maxRecDepth 100000 in
theorem cw_241_56 {l : Launch} {D : va_G} {b0 : Nat} {ad : Nat → Nat} {Hb : Heap} {tau : Nat → Int64} {d n s : Nat} {S : Nat → xS} {Z : xZ} {h : mx_H} {Post : mx_R → Prop} (hx : XH n s S Z h) (hG : GI n S Z)  {x0 : Int} (p0 : (-2147483648) ≤ x0 ∧ x0 ≤ 2147483647) (hP : ∀ (z : Int) (Z' : xZ) (h' : mx_H), XH n s S Z' h' → GI n S Z' → fr' [(56, 0), (62, (-1)), (64, (-1)), (65, (-1)), (73, (-1)), (74, (-1))] Z Z' → (-6) ≤ z ∧ z ≤ 268435455 → Post (some (xI z), h')) : mx_J (tB l D b0 ad Hb tau) mt_241 (d + 7) 0 [some (.ref 56), some (xI x0), none] [] h Post := by
    have a56 : 56 < n := lt83 (GI_n hG) rfl
    have s56 : S 56 = .inl (12, [0, 2, 2, 2, 2, 0, 0, 0, 0, 0, 0, 0, 0, 0, 0, 2, 2, 2, 0, 2, 2, 2, 0, 0, 2, 2, 2, 2, 2, 2, 0, 0, 2, 2, 2, 2, 2, 2, 2, 2, 2, 2]) := GI_s hG 56 rfl
    refine mx_J.step (sn_241 0) (fun _ _ => rfl) ?_
    refine JcI (z := 0) (show mx_Sn _ _ 1 (mx_const (.int 0) 2) from sn_241 1) rfl ?_
    refine JputI (g := 0) hx (show mx_Sn _ _ 2 (mx_putf 1 12 0 (.int) 5) from sn_241 2) a56 s56 rfl rfl rfl rfl (fun Z1 h1 hx1 hE1 => ?_)
    have hG1 := GI_up hG hE1 (show (-2147483648) ≤ 0 ∧ 0 ≤ 2147483647 by omega) trivial rfl
    refine mx_J.step (sn_241 5) (fun _ _ => rfl) ?_
    refine mx_J.step (sn_241 6) (fun _ _ => rfl) ?_
    have eq3 : Z1 81 x0 = Z 81 x0 := (up_nk hE1 rfl)
    have b4 : 0 ≤ Z 81 x0 ∧ Z 81 x0 ≤ 40 := hG.pr 81 x0
    obtain ⟨z2, hc2, b2⟩ := ct_239_56 (d := d + 4) (l := l) (D := D) (b0 := b0) (ad := ad) (Hb := Hb) (tau := tau) hx1 hG1 (show (-2147483648) ≤ x0 ∧ x0 ≤ 2147483647 by omega)
    try rw [eq3] at b2
    refine Jcv hx1 (show mx_Sn _ _ 7 (mx_callv 239 2 12 10) from sn_241 7) a56 s56 hc2 rfl rfl rfl ?_
    refine mx_J.step (ls2 := [some (.ref 56), some (xI x0), some (xI z2)]) (sn_241 10) (fun _ _ => rfl) ?_
    refine mx_J.step (sn_241 11) (fun _ _ => rfl) ?_
    have c31 : ∀ (k5_0 : Int) (Z6 : xZ) (h6 : mx_H), (-6) ≤ k5_0 ∧ k5_0 ≤ 268435455 → XH n s S Z6 h6 → GI n S Z6 → fr' [(62, (-1)), (64, (-1)), (65, (-1)), (73, (-1)), (74, (-1))] Z1 Z6 → mx_J (tB l D b0 ad Hb tau) mt_241 (d + 7) 31 [some (.ref 56), some (xI x0), some (xI z2)] [xI k5_0] h6 Post := by
      intro k5_0 Z6 h6 f5_0 hx6 hG6 hf6
      exact mx_J.ret (sn_241 31) (fun _ _ => rfl) (hP k5_0 Z6 h6 hx6 hG6 (fr_tr (M := [(56, 0), (62, (-1)), (64, (-1)), (65, (-1)), (73, (-1)), (74, (-1))]) (fr_tr (M := [(56, 0), (62, (-1)), (64, (-1)), (65, (-1)), (73, (-1)), (74, (-1))]) fr_rf (fr_up hE1) (M1 := []) rfl rfl) (hf6) rfl rfl) (by omega))
    refine Jif_eq (show mx_Sn _ _ 12 (mx_if_eq 19 15) from sn_241 12) (by omega) (fun q7 => ?_) (fun q7 => ?_)
    · skip
      refine mx_J.step (sn_241 19) (fun _ _ => rfl) ?_
      refine mx_J.step (sn_241 20) (fun _ _ => rfl) ?_
      refine mx_J.step (sn_241 21) (fun _ _ => rfl) ?_
      have eq9 : Z1 81 x0 = Z 81 x0 := (up_nk hE1 rfl)
      obtain ⟨z8, Z8, h8, hc8, hx8, hG8, hf8, b8⟩ := ct_240_56 (d := d + 4) (l := l) (D := D) (b0 := b0) (ad := ad) (Hb := Hb) (tau := tau) hx1 hG1 (show 0 ≤ x0 ∧ x0 ≤ 3 by omega) (show Z1 81 x0 ≤ 18 by first | omega | (simp only [eq9]; omega))
      try rw [eq9] at b8
      refine Jcv hx1 (show mx_Sn _ _ 22 (mx_callv 240 2 12 25) from sn_241 22) a56 s56 hc8 rfl rfl rfl ?_
      have eq11 : Z8 56 18 = Z 56 18 := ((hf8 56 18 rfl).trans (up_ni hE1 (by decide)))
      have b12 : 0 ≤ Z 56 18 ∧ Z 56 18 ≤ 385 := hG.pr 56 18
      obtain ⟨z10, Z10, h10, hc10, hx10, hG10, hf10, b10⟩ := ct_237_56 (d := d + 0) (l := l) (D := D) (b0 := b0) (ad := ad) (Hb := Hb) (tau := tau) hx8 hG8 (show 0 ≤ z8 ∧ z8 ≤ 384 by omega)
      try rw [eq11] at b10
      refine Jcv hx8 (show mx_Sn _ _ 25 (mx_callv 237 2 12 28) from sn_241 25) a56 s56 hc10 rfl rfl rfl ?_
      obtain ⟨z13, hc13, b13⟩ := ct_238_ (d := d + 6) (l := l) (D := D) (b0 := b0) (ad := ad) (Hb := Hb) (tau := tau) hx10 hG10 (show 0 ≤ z10 ∧ z10 ≤ 268435456 by omega)
      refine Jcs (show mx_Sn _ _ 28 (mx_calls 238 1 31) from sn_241 28) hc13 rfl rfl rfl ?_
      exact c31 z13 Z10 h10 (by omega) hx10 hG10 (fr_tr (M := [(62, (-1)), (64, (-1)), (65, (-1)), (73, (-1)), (74, (-1))]) (fr_tr (M := [(62, (-1)), (64, (-1)), (65, (-1)), (73, (-1)), (74, (-1))]) fr_rf (hf8) (M1 := []) rfl rfl) (hf10) rfl rfl)
    · skip
      refine mx_J.step (sn_241 15) (fun _ _ => rfl) ?_
      refine mx_J.step (sn_241 16) (fun _ _ => rfl) ?_
      exact c31 z2 Z1 h1 (by omega) hx1 hG1 fr_rf
theorem ct_241_56 {l : Launch} {D : va_G} {b0 : Nat} {ad : Nat → Nat} {Hb : Heap} {tau : Nat → Int64} {d n s : Nat} {S : Nat → xS} {Z : xZ} {h : mx_H} (hx : XH n s S Z h) (hG : GI n S Z)  {x0 : Int} (p0 : (-2147483648) ≤ x0 ∧ x0 ≤ 2147483647) : ∃ (z : Int) (Z' : xZ) (h' : mx_H), mx_Ca (tB l D b0 ad Hb tau) (d + 8) 241 [.ref 56, xI x0] h (some (xI z), h') ∧ XH n s S Z' h' ∧ GI n S Z' ∧ fr' [(56, 0), (62, (-1)), (64, (-1)), (65, (-1)), (73, (-1)), (74, (-1))] Z Z' ∧ ((-6) ≤ z ∧ z ≤ 268435455) := by
  obtain ⟨r, hca, z, Z', h', e, q⟩ := Jmt (B := tB l D b0 ad Hb tau) (M := mt_241) (mi := 241) (as := [.ref 56, xI x0]) (d := d + 7) (ls := [some (.ref 56), some (xI x0), none]) rfl rfl rfl rfl rfl rfl (cw_241_56 (l := l) (D := D) (b0 := b0) (ad := ad) (Hb := Hb) (tau := tau) (d := d) (Post := fun r => ∃ (z : Int) (Z' : xZ) (h' : mx_H), r = (some (xI z), h') ∧ XH n s S Z' h' ∧ GI n S Z' ∧ fr' [(56, 0), (62, (-1)), (64, (-1)), (65, (-1)), (73, (-1)), (74, (-1))] Z Z' ∧ ((-6) ≤ z ∧ z ≤ 268435455)) hx hG p0 (fun z Z' h' q1 q2 q3 q4 => ⟨z, Z', h', rfl, q1, q2, q3, q4⟩))
  subst e; exact ⟨z, Z', h', hca, q⟩
set_option maxRecDepth 100000 in
theorem cw_239_56_n {l : Launch} {D : va_G} {b0 : Nat} {ad : Nat → Nat} {Hb : Heap} {tau : Nat → Int64} {d n s : Nat} {S : Nat → xS} {Z : xZ} {h : mx_H} {Post : mx_R → Prop} {T : Int → Int} {g1 : Int} {g2 : Int} (hx : XH n s S Z h) (hG : GI n S Z)  {x0 : Int} (p0 : (-2147483648) ≤ x0 ∧ x0 ≤ 2147483647) (k0 : (0 ≤ x0 → x0 ≤ 3 → ∀ j : Int, 0 ≤ j → Z 82 (40 * x0 + j) = T j)) (k1 : (0 ≤ x0 → x0 ≤ 3 → Z 81 x0 = g1)) (k2 : Z 57 1 = g2) (hP : ∀ z : Int, (0 ≤ x0 → x0 ≤ 3 → ¬ Z 80 x0 = -1 → TN T g1 g2 z) ∧ (-6) ≤ z ∧ z ≤ 0 ∧ (((x0 < 0 ∨ 3 < x0) → z = -2) ∧ (0 ≤ x0 → x0 ≤ 3 → Z 80 x0 = -1 → z = -6) ∧ (z = 0 → 0 ≤ x0 ∧ x0 ≤ 3 ∧ 1 ≤ Z 81 x0 ∧ Z 81 x0 ≤ 18 ∧ ¬ Z 80 x0 = -1)) → Post (some (xI z), h)) : mx_J (tB l D b0 ad Hb tau) mt_239 (d + 2) 0 [some (.ref 56), some (xI x0), none, none, none] [] h Post := by
    have a56 : 56 < n := lt83 (GI_n hG) rfl
    have s56 : S 56 = .inl (12, [0, 2, 2, 2, 2, 0, 0, 0, 0, 0, 0, 0, 0, 0, 0, 2, 2, 2, 0, 2, 2, 2, 0, 0, 2, 2, 2, 2, 2, 2, 0, 0, 2, 2, 2, 2, 2, 2, 2, 2, 2, 2]) := GI_s hG 56 rfl
    have a57 : 57 < n := lt83 (GI_n hG) rfl
    have s57 : S 57 = .inr (.int, 2886, 0) := GI_s hG 57 rfl
    have a81 : 81 < n := lt83 (GI_n hG) rfl
    have s81 : S 81 = .inr (.int, 4, 0) := GI_s hG 81 rfl
    have a82 : 82 < n := lt83 (GI_n hG) rfl
    have s82 : S 82 = .inr (.long, 160, 1) := GI_s hG 82 rfl
    refine mx_J.step (sn_239 0) (fun _ _ => rfl) ?_
    refine mx_J.step (sn_239 1) (fun _ _ => rfl) ?_
    have b2 : (-1) ≤ Z 80 x0 ∧ Z 80 x0 ≤ 3 := hG.pr 80 x0
    obtain ⟨z1, hc1, b1⟩ := ct_220_56 (d := d + 0) (l := l) (D := D) (b0 := b0) (ad := ad) (Hb := Hb) (tau := tau) hx hG (show (-2147483648) ≤ x0 ∧ x0 ≤ 2147483647 by omega)
    refine Jcv hx (show mx_Sn _ _ 2 (mx_callv 220 2 12 5) from sn_239 2) a56 s56 hc1 rfl rfl rfl ?_
    refine mx_J.step (ls2 := [some (.ref 56), some (xI x0), some (xI z1), none, none]) (sn_239 5) (fun _ _ => rfl) ?_
    refine mx_J.step (sn_239 6) (fun _ _ => rfl) ?_
    refine Jif_eq (show mx_Sn _ _ 7 (mx_if_eq 12 10) from sn_239 7) (by omega) (fun q3 => ?_) (fun q3 => ?_)
    · skip
      have kj := k0 (by omega) (by omega)
      have kn := k1 (by omega) (by omega)
      refine mx_J.step (sn_239 12) (fun _ _ => rfl) ?_
      refine JgetR (g := 40) (b := 81) hx (show mx_Sn _ _ 13 (mx_getf 12 40 16) from sn_239 13) a56 s56 rfl rfl (hG.prr 56 40 rfl) ?_
      refine mx_J.step (sn_239 16) (fun _ _ => rfl) ?_
      have b5 : 0 ≤ Z 81 x0 ∧ Z 81 x0 ≤ 40 := hG.pr 81 x0
      refine JialdI (z := Z 81 x0) hx (show mx_Sn _ _ 17 (mx_iald 18) from sn_239 17) a81 s81 (by omega) rfl ?_
      refine Ji2l (show mx_Sn _ _ 18 (mx_i2l 19) from sn_239 18) (by omega) ?_
      refine JcL (z := 1) (show mx_Sn _ _ 19 (mx_const (.long 1) 20) from sn_239 19) rfl ?_
      refine JcL (z := 18) (show mx_Sn _ _ 20 (mx_const (.long 18) 23) from sn_239 20) rfl ?_
      obtain ⟨z6, hc6, b6⟩ := ct_154_ (d := d + 1) (l := l) (D := D) (b0 := b0) (ad := ad) (Hb := Hb) (tau := tau) hx hG (show (-9223372036854775808) ≤ Z 81 x0 ∧ Z 81 x0 ≤ 9223372036854775807 by omega) (show (-9223372036854775808) ≤ 1 ∧ 1 ≤ 9223372036854775807 by omega) (show (-9223372036854775808) ≤ 18 ∧ 18 ≤ 9223372036854775807 by omega)
      refine Jcs (show mx_Sn _ _ 23 (mx_calls 154 3 26) from sn_239 23) hc6 rfl rfl rfl ?_
      refine Jif_ne (show mx_Sn _ _ 26 (mx_if_ne 32 29) from sn_239 26) (by omega) (fun q7 => ?_) (fun q7 => ?_)
      · skip
        refine JcI (z := 0) (show mx_Sn _ _ 32 (mx_const (.int 0) 33) from sn_239 32) rfl ?_
        refine mx_J.step (ls2 := [some (.ref 56), some (xI x0), some (xI z1), some (xI 0), none]) (sn_239 33) (fun _ _ => rfl) ?_
        refine JcI (z := 0) (show mx_Sn _ _ 34 (mx_const (.int 0) 35) from sn_239 34) rfl ?_
        refine mx_J.step (ls2 := [some (.ref 56), some (xI x0), some (xI z1), some (xI 0), some (xI 0)]) (sn_239 35) (fun _ _ => rfl) ?_
        have c37 : ∀ (m8 : Nat) (w8_3 : Int) (w8_4 : Int), 40 - w8_4 < (m8 : Int) → 0 ≤ w8_3 ∧ w8_3 ≤ 720 → 0 ≤ w8_4 ∧ w8_4 ≤ 40 → INR T w8_4 → w8_3 = lsm (pfx T (w8_4).toNat) → (w8_4 ≤ Z 81 x0 ∧ 0 ≤ w8_3 ∧ w8_3 ≤ 18 * w8_4) → mx_J (tB l D b0 ad Hb tau) mt_239 (d + 2) 37 [some (.ref 56), some (xI x0), some (xI z1), some (xI w8_3), some (xI w8_4)] [] h Post := by
          intro m8
          induction m8 with
          | zero => intro w8_3 w8_4 q8 f8_0 f8_1 f8_2 f8_3 f8_4; exact absurd q8 (by omega)
          | succ m8 ih8 =>
            intro w8_3 w8_4 q8 f8_0 f8_1 f8_2 f8_3 f8_4
            refine mx_J.step (sn_239 37) (fun _ _ => rfl) ?_
            refine mx_J.step (sn_239 39) (fun _ _ => rfl) ?_
            refine JgetR (g := 40) (b := 81) hx (show mx_Sn _ _ 40 (mx_getf 12 40 43) from sn_239 40) a56 s56 rfl rfl (hG.prr 56 40 rfl) ?_
            refine mx_J.step (sn_239 43) (fun _ _ => rfl) ?_
            refine JialdI (z := Z 81 x0) hx (show mx_Sn _ _ 44 (mx_iald 45) from sn_239 44) a81 s81 (by omega) rfl ?_
            refine Jicmp_ge (show mx_Sn _ _ 45 (mx_icmp_ge 91 48) from sn_239 45) (by omega) (by omega) (fun q10 => ?_) (fun q10 => ?_)
            · skip
              refine mx_J.step (sn_239 91) (fun _ _ => rfl) ?_
              refine mx_J.step (sn_239 92) (fun _ _ => rfl) ?_
              refine JgetR (g := 1) (b := 57) hx (show mx_Sn _ _ 93 (mx_getf 12 1 96) from sn_239 93) a56 s56 rfl rfl (hG.prr 56 1 rfl) ?_
              refine JcI (z := 1) (show mx_Sn _ _ 96 (mx_const (.int 1) 97) from sn_239 96) rfl ?_
              have b12 : 0 ≤ Z 57 1 ∧ Z 57 1 ≤ 18 := by have hq := GI_ex hG 57 1; replace hq : f57 (1 % 962) (Z 57 1) := hq; unfold f57 at hq; omega
              have b13 : (-2147483648) ≤ Z 57 1 ∧ Z 57 1 ≤ 2147483647 := hG.pr 57 1
              refine JialdI (z := Z 57 1) hx (show mx_Sn _ _ 97 (mx_iald 98) from sn_239 97) a57 s57 (by omega) rfl ?_
              have c107 : ∀ (k14_0 : Int), (-5) ≤ k14_0 ∧ k14_0 ≤ 0 → ((w8_3 = Z 57 1 → k14_0 = 0) ∧ (¬ w8_3 = Z 57 1 → k14_0 = -5)) → mx_J (tB l D b0 ad Hb tau) mt_239 (d + 2) 107 [some (.ref 56), some (xI x0), some (xI z1), some (xI w8_3), some (xI w8_4)] [xI k14_0] h Post := by
                intro k14_0 f14_0 f14_1
                exact mx_J.ret (sn_239 107) (fun _ _ => rfl) (hP k14_0 ⟨(fun _ _ _ => TN_e (t := w8_3) (by omega) (by omega) (inr_m (by assumption) (by omega)) (lsp_m (by assumption) (by omega)) (by omega)), by omega⟩)
              refine Jicmp_ne (show mx_Sn _ _ 98 (mx_icmp_ne 105 101) from sn_239 98) (by omega) (by omega) (fun q15 => ?_) (fun q15 => ?_)
              · skip
                refine JcI (z := (-5)) (show mx_Sn _ _ 105 (mx_const (.int (-5)) 107) from sn_239 105) rfl ?_
                exact c107 (-5) (by omega) (by omega)
              · skip
                refine JcI (z := 0) (show mx_Sn _ _ 101 (mx_const (.int 0) 102) from sn_239 101) rfl ?_
                refine mx_J.step (sn_239 102) (fun _ _ => rfl) ?_
                exact c107 0 (by omega) (by omega)
            · skip
              refine mx_J.step (sn_239 48) (fun _ _ => rfl) ?_
              refine JgetR (g := 41) (b := 82) hx (show mx_Sn _ _ 49 (mx_getf 12 41 52) from sn_239 49) a56 s56 rfl rfl (hG.prr 56 41 rfl) ?_
              refine JcI (z := 40) (show mx_Sn _ _ 52 (mx_const (.int 40) 54) from sn_239 52) rfl ?_
              refine mx_J.step (sn_239 54) (fun _ _ => rfl) ?_
              refine Jimul (show mx_Sn _ _ 55 (mx_imul 56) from sn_239 55) ?_
              refine mx_J.step (sn_239 56) (fun _ _ => rfl) ?_
              refine Jiadd (show mx_Sn _ _ 58 (mx_iadd 59) from sn_239 58) ?_
              have b17 : (-9223372036854775808) ≤ Z 82 ((40 * x0) + w8_4) ∧ Z 82 ((40 * x0) + w8_4) ≤ 9223372036854775807 := hG.pr 82 ((40 * x0) + w8_4)
              refine JlaldL (z := Z 82 ((40 * x0) + w8_4)) hx (show mx_Sn _ _ 59 (mx_lald 60) from sn_239 59) a82 s82 (by omega) rfl ?_
              obtain ⟨z18, hc18, b18⟩ := ct_208_ (d := d + 0) (l := l) (D := D) (b0 := b0) (ad := ad) (Hb := Hb) (tau := tau) hx hG (show (-9223372036854775808) ≤ Z 82 ((40 * x0) + w8_4) ∧ Z 82 ((40 * x0) + w8_4) ≤ 9223372036854775807 by omega)
              refine Jcs (show mx_Sn _ _ 60 (mx_calls 208 1 63) from sn_239 60) hc18 rfl rfl rfl ?_
              refine Jif_ne (show mx_Sn _ _ 63 (mx_if_ne 69 66) from sn_239 63) (by omega) (fun q19 => ?_) (fun q19 => ?_)
              · skip
                refine mx_J.step (sn_239 69) (fun _ _ => rfl) ?_
                refine mx_J.step (sn_239 70) (fun _ _ => rfl) ?_
                refine JgetR (g := 41) (b := 82) hx (show mx_Sn _ _ 71 (mx_getf 12 41 74) from sn_239 71) a56 s56 rfl rfl (hG.prr 56 41 rfl) ?_
                refine JcI (z := 40) (show mx_Sn _ _ 74 (mx_const (.int 40) 76) from sn_239 74) rfl ?_
                refine mx_J.step (sn_239 76) (fun _ _ => rfl) ?_
                refine Jimul (show mx_Sn _ _ 77 (mx_imul 78) from sn_239 77) ?_
                refine mx_J.step (sn_239 78) (fun _ _ => rfl) ?_
                refine Jiadd (show mx_Sn _ _ 80 (mx_iadd 81) from sn_239 80) ?_
                refine JlaldL (z := Z 82 ((40 * x0) + w8_4)) hx (show mx_Sn _ _ 81 (mx_lald 82) from sn_239 81) a82 s82 (by omega) rfl ?_
                refine Jl2i (show mx_Sn _ _ 82 (mx_l2i 83) from sn_239 82) ?_
                refine Jiadd (show mx_Sn _ _ 83 (mx_iadd 84) from sn_239 83) ?_
                refine mx_J.step (ls2 := [some (.ref 56), some (xI x0), some (xI z1), some (xI (w8_3 + (Z 82 ((40 * x0) + w8_4)))), some (xI w8_4)]) (sn_239 84) (fun _ _ => rfl) ?_
                have q9 := kj w8_4 (by omega)
                refine Jiinc (z := w8_4) (cz := 1) (ls2 := [some (.ref 56), some (xI x0), some (xI z1), some (xI (w8_3 + (Z 82 ((40 * x0) + w8_4)))), some (xI (w8_4 + 1))]) (show mx_Sn _ _ 85 (mx_iinc 4 1 88) from sn_239 85) rfl rfl rfl rfl ?_
                refine mx_J.step (sn_239 88) (fun _ _ => rfl) ?_
                exact ih8 (w8_3 + (Z 82 ((40 * x0) + w8_4))) (w8_4 + 1) (by omega) (by omega) (by omega) (inr_s (by assumption) (by omega)) (lsp_s (by assumption) (by omega) (by omega)) (by omega)
              · skip
                refine JcI (z := (-3)) (show mx_Sn _ _ 66 (mx_const (.int (-3)) 68) from sn_239 66) rfl ?_
                have b21 : 0 ≤ Z 57 1 ∧ Z 57 1 ≤ 18 := by have hq := GI_ex hG 57 1; replace hq : f57 (1 % 962) (Z 57 1) := hq; unfold f57 at hq; omega
                have b22 : (-2147483648) ≤ Z 57 1 ∧ Z 57 1 ≤ 2147483647 := hG.pr 57 1
                exact mx_J.ret (sn_239 68) (fun _ _ => rfl) (hP (-3) ⟨(fun _ _ _ => TN_3 (j := w8_4) (by omega) (by omega) (by omega) (by omega) (by have q := kj w8_4 (by omega); omega) rfl), by omega⟩)
        exact c37 (Int.toNat (40 - 0) + 1) 0 0 (by omega) (by omega) (by omega) (inr_0) (lsp_0) (by omega)
      · skip
        refine JcI (z := (-4)) (show mx_Sn _ _ 29 (mx_const (.int (-4)) 31) from sn_239 29) rfl ?_
        have b23 : 0 ≤ Z 57 1 ∧ Z 57 1 ≤ 18 := by have hq := GI_ex hG 57 1; replace hq : f57 (1 % 962) (Z 57 1) := hq; unfold f57 at hq; omega
        have b24 : (-2147483648) ≤ Z 57 1 ∧ Z 57 1 ≤ 2147483647 := hG.pr 57 1
        exact mx_J.ret (sn_239 31) (fun _ _ => rfl) (hP (-4) ⟨(fun _ _ _ => TN_4 (by omega) rfl), by omega⟩)
    · skip
      refine mx_J.step (sn_239 10) (fun _ _ => rfl) ?_
      have b25 : 0 ≤ Z 81 x0 ∧ Z 81 x0 ≤ 40 := hG.pr 81 x0
      have b26 : 0 ≤ Z 57 1 ∧ Z 57 1 ≤ 18 := by have hq := GI_ex hG 57 1; replace hq : f57 (1 % 962) (Z 57 1) := hq; unfold f57 at hq; omega
      have b27 : (-2147483648) ≤ Z 57 1 ∧ Z 57 1 ≤ 2147483647 := hG.pr 57 1
      exact mx_J.ret (sn_239 11) (fun _ _ => rfl) (hP z1 ⟨(fun _ _ _ => False.elim (by omega)), by omega⟩)
theorem ct_239_56_n {l : Launch} {D : va_G} {b0 : Nat} {ad : Nat → Nat} {Hb : Heap} {tau : Nat → Int64} {d n s : Nat} {S : Nat → xS} {Z : xZ} {h : mx_H} {T : Int → Int} {g1 : Int} {g2 : Int} (hx : XH n s S Z h) (hG : GI n S Z)  {x0 : Int} (p0 : (-2147483648) ≤ x0 ∧ x0 ≤ 2147483647) (k0 : (0 ≤ x0 → x0 ≤ 3 → ∀ j : Int, 0 ≤ j → Z 82 (40 * x0 + j) = T j)) (k1 : (0 ≤ x0 → x0 ≤ 3 → Z 81 x0 = g1)) (k2 : Z 57 1 = g2) : ∃ z : Int, mx_Ca (tB l D b0 ad Hb tau) (d + 3) 239 [.ref 56, xI x0] h (some (xI z), h) ∧ ((0 ≤ x0 → x0 ≤ 3 → ¬ Z 80 x0 = -1 → TN T g1 g2 z) ∧ (-6) ≤ z ∧ z ≤ 0 ∧ (((x0 < 0 ∨ 3 < x0) → z = -2) ∧ (0 ≤ x0 → x0 ≤ 3 → Z 80 x0 = -1 → z = -6) ∧ (z = 0 → 0 ≤ x0 ∧ x0 ≤ 3 ∧ 1 ≤ Z 81 x0 ∧ Z 81 x0 ≤ 18 ∧ ¬ Z 80 x0 = -1))) := by
  obtain ⟨r, hca, z, e, hp⟩ := Jmt (B := tB l D b0 ad Hb tau) (M := mt_239) (mi := 239) (as := [.ref 56, xI x0]) (d := d + 2) (ls := [some (.ref 56), some (xI x0), none, none, none]) rfl rfl rfl rfl rfl rfl (cw_239_56_n (l := l) (D := D) (b0 := b0) (ad := ad) (Hb := Hb) (tau := tau) (d := d) (Post := fun r => ∃ z : Int, r = (some (xI z), h) ∧ ((0 ≤ x0 → x0 ≤ 3 → ¬ Z 80 x0 = -1 → TN T g1 g2 z) ∧ (-6) ≤ z ∧ z ≤ 0 ∧ (((x0 < 0 ∨ 3 < x0) → z = -2) ∧ (0 ≤ x0 → x0 ≤ 3 → Z 80 x0 = -1 → z = -6) ∧ (z = 0 → 0 ≤ x0 ∧ x0 ≤ 3 ∧ 1 ≤ Z 81 x0 ∧ Z 81 x0 ≤ 18 ∧ ¬ Z 80 x0 = -1)))) hx hG p0 k0 k1 k2 (fun z hz => ⟨z, rfl, hz⟩))
  subst e; exact ⟨z, hca, hp⟩
set_option maxRecDepth 100000 in
theorem cw_240_56_n {l : Launch} {D : va_G} {b0 : Nat} {ad : Nat → Nat} {Hb : Heap} {tau : Nat → Int64} {d n s : Nat} {S : Nat → xS} {Z : xZ} {h : mx_H} {Post : mx_R → Prop} {T : Int → Int} {g1 : Int} {g2 : Int} (hx : XH n s S Z h) (hG : GI n S Z)  {x0 : Int} (p0 : 0 ≤ x0 ∧ x0 ≤ 3) (k0 : (∀ j : Int, 0 ≤ j → Z 82 (40 * x0 + j) = T j)) (k1 : Z 81 x0 = g1) (k2 : Z 57 1 = g2) (k3 : INR T g1) (k4 : lsm (pfx T g1.toNat) = g2) (k5 : RTB Z g2) (k6 : (1 ≤ g2 ∧ g2 ≤ 18)) (k7 : (1 ≤ g1 ∧ g1 ≤ 18)) (hP : ∀ (z : Int) (Z' : xZ) (h' : mx_H), XH n s S Z' h' → GI n S Z' → fr' [(62, (-1))] Z Z' → z = nmN g2 (fun v => ctl v (pfx T g1.toNat)) ∧ 0 ≤ z ∧ z ≤ 384 → Post (some (xI z), h')) : mx_J (tB l D b0 ad Hb tau) mt_240 (d + 2) 0 [some (.ref 56), some (xI x0), none] [] h Post := by
    have a56 : 56 < n := lt83 (GI_n hG) rfl
    have s56 : S 56 = .inl (12, [0, 2, 2, 2, 2, 0, 0, 0, 0, 0, 0, 0, 0, 0, 0, 2, 2, 2, 0, 2, 2, 2, 0, 0, 2, 2, 2, 2, 2, 2, 0, 0, 2, 2, 2, 2, 2, 2, 2, 2, 2, 2]) := GI_s hG 56 rfl
    have a62 : 62 < n := lt83 (GI_n hG) rfl
    have s62 : S 62 = .inr (.int, 20, 0) := GI_s hG 62 rfl
    have a81 : 81 < n := lt83 (GI_n hG) rfl
    have s81 : S 81 = .inr (.int, 4, 0) := GI_s hG 81 rfl
    have a82 : 82 < n := lt83 (GI_n hG) rfl
    have s82 : S 82 = .inr (.long, 160, 1) := GI_s hG 82 rfl
    refine mx_J.step (sn_240 0) (fun _ _ => rfl) ?_
    obtain ⟨Z1, h1, hc1, hx1, hG1, hf1, b1⟩ := ct_186_56 (d := d + 1) (l := l) (D := D) (b0 := b0) (ad := ad) (Hb := Hb) (tau := tau) hx hG 
    have bs1_0 := b1
    clear b1
    refine Jcv0 hx (show mx_Sn _ _ 1 (mx_callv 186 1 12 4) from sn_240 1) a56 s56 hc1 rfl rfl rfl ?_
    refine JcI (z := 0) (show mx_Sn _ _ 4 (mx_const (.int 0) 5) from sn_240 4) rfl ?_
    refine mx_J.step (ls2 := [some (.ref 56), some (xI x0), some (xI 0)]) (sn_240 5) (fun _ _ => rfl) ?_
    have c6 : ∀ (m2 : Nat) (w2_2 : Int) (Z3 : xZ) (h3 : mx_H), 40 - w2_2 < (m2 : Int) → 0 ≤ w2_2 ∧ w2_2 ≤ 40 → HPF Z3 T w2_2 → w2_2 ≤ Z 81 x0 → XH n s S Z3 h3 → GI n S Z3 → fr' [(62, (-1))] Z1 Z3 → mx_J (tB l D b0 ad Hb tau) mt_240 (d + 2) 6 [some (.ref 56), some (xI x0), some (xI w2_2)] [] h3 Post := by
      intro m2
      induction m2 with
      | zero => intro w2_2 Z3 h3 q2 f2_0 f2_1 f2_2 hx3 hG3 hf3; exact absurd q2 (by omega)
      | succ m2 ih2 =>
        intro w2_2 Z3 h3 q2 f2_0 f2_1 f2_2 hx3 hG3 hf3
        refine mx_J.step (sn_240 6) (fun _ _ => rfl) ?_
        refine mx_J.step (sn_240 7) (fun _ _ => rfl) ?_
        refine JgetR (g := 40) (b := 81) hx3 (show mx_Sn _ _ 8 (mx_getf 12 40 11) from sn_240 8) a56 s56 rfl rfl (hG3.prr 56 40 rfl) ?_
        refine mx_J.step (sn_240 11) (fun _ _ => rfl) ?_
        have b5 : 0 ≤ Z 81 x0 ∧ Z 81 x0 ≤ 40 := hG.pr 81 x0
        refine JialdI (z := Z 81 x0) hx3 (show mx_Sn _ _ 12 (mx_iald 13) from sn_240 12) a81 s81 (by omega) ((hf3 81 x0 rfl).trans (hf1 81 x0 rfl)) ?_
        refine Jicmp_ge (show mx_Sn _ _ 13 (mx_icmp_ge 40 16) from sn_240 13) (by omega) (by omega) (fun q6 => ?_) (fun q6 => ?_)
        · skip
          refine mx_J.step (sn_240 40) (fun _ _ => rfl) ?_
          have eq8 : Z3 56 18 = Z 56 18 := ((hf3 56 18 rfl).trans (hf1 56 18 rfl))
          have b9 : 0 ≤ Z 56 18 ∧ Z 56 18 ≤ 385 := hG.pr 56 18
          obtain ⟨z7, Z7, h7, hc7, hx7, hG7, hf7, b7⟩ := ct_188_56_n (g0 := (nmN g2 (fun v => ctl v (pfx T g1.toNat)))) (g2 := g2) (d := d + 0) (l := l) (D := D) (b0 := b0) (ad := ad) (Hb := Hb) (tau := tau) hx3 hG3  (RTB_c k5 (fun i => ((hf3 61 i rfl).trans (hf1 61 i rfl)))) (npr_t (k := w2_2) (by assumption) (by omega) k6 k7 k3 k4) (((hf3 57 1 rfl).trans (hf1 57 1 rfl)).trans k2)
          try rw [eq8] at b7
          obtain ⟨bs7_0, b7⟩ := b7
          refine Jcv hx3 (show mx_Sn _ _ 41 (mx_callv 188 1 12 44) from sn_240 41) a56 s56 hc7 rfl rfl rfl ?_
          have eq10 : Z7 81 x0 = Z 81 x0 := ((hf7 81 x0 rfl).trans ((hf3 81 x0 rfl).trans (hf1 81 x0 rfl)))
          have eq11 : Z7 57 1 = Z 57 1 := ((hf7 57 1 rfl).trans ((hf3 57 1 rfl).trans (hf1 57 1 rfl)))
          have b12 : 0 ≤ Z 57 1 ∧ Z 57 1 ≤ 18 := by have hq := GI_ex hG 57 1; replace hq : f57 (1 % 962) (Z 57 1) := hq; unfold f57 at hq; omega
          have b13 : (-2147483648) ≤ Z 57 1 ∧ Z 57 1 ≤ 2147483647 := hG.pr 57 1
          exact mx_J.ret (sn_240 44) (fun _ _ => rfl) (hP z7 Z7 h7 hx7 hG7 (fr_tr (M := [(62, (-1))]) (fr_tr (M := [(62, (-1))]) (fr_tr (M := [(62, (-1))]) fr_rf (hf1) (M1 := []) rfl rfl) (hf3) rfl rfl) (hf7) rfl rfl) ⟨(bs7_0), by omega⟩)
        · skip
          refine mx_J.step (sn_240 16) (fun _ _ => rfl) ?_
          refine JgetR (g := 16) (b := 62) hx3 (show mx_Sn _ _ 17 (mx_getf 12 16 20) from sn_240 17) a56 s56 rfl rfl (hG3.prr 56 16 rfl) ?_
          refine mx_J.step (sn_240 20) (fun _ _ => rfl) ?_
          refine mx_J.step (sn_240 21) (fun _ _ => rfl) ?_
          refine JgetR (g := 41) (b := 82) hx3 (show mx_Sn _ _ 22 (mx_getf 12 41 25) from sn_240 22) a56 s56 rfl rfl (hG3.prr 56 41 rfl) ?_
          refine JcI (z := 40) (show mx_Sn _ _ 25 (mx_const (.int 40) 27) from sn_240 25) rfl ?_
          refine mx_J.step (sn_240 27) (fun _ _ => rfl) ?_
          refine Jimul (show mx_Sn _ _ 28 (mx_imul 29) from sn_240 28) ?_
          refine mx_J.step (sn_240 29) (fun _ _ => rfl) ?_
          refine Jiadd (show mx_Sn _ _ 30 (mx_iadd 31) from sn_240 30) ?_
          have b16 : (-9223372036854775808) ≤ Z 82 ((40 * x0) + w2_2) ∧ Z 82 ((40 * x0) + w2_2) ≤ 9223372036854775807 := hG.pr 82 ((40 * x0) + w2_2)
          refine JlaldL (z := Z 82 ((40 * x0) + w2_2)) hx3 (show mx_Sn _ _ 31 (mx_lald 32) from sn_240 31) a82 s82 (by omega) ((hf3 82 ((40 * x0) + w2_2) rfl).trans (hf1 82 ((40 * x0) + w2_2) rfl)) ?_
          have q8 := k0 w2_2 (by omega)
          have q7 := k3 w2_2 (by omega) (by omega)
          refine Jl2i (show mx_Sn _ _ 32 (mx_l2i 33) from sn_240 32) ?_
          refine JiastI hx3 (show mx_Sn _ _ 33 (mx_iast 1 34) from sn_240 33) a62 s62 rfl (by omega) (fun Z17 h17 hx17 hE17 => ?_)
          have hG17 := GI_up hG3 hE17 (show (-2147483648) ≤ Z 82 ((40 * x0) + w2_2) ∧ Z 82 ((40 * x0) + w2_2) ≤ 2147483647 by omega) trivial rfl
          have hp1 := hpf_s (a := T) (k := w2_2) (by assumption) hE17 (by omega)
          refine Jiinc (z := w2_2) (cz := 1) (ls2 := [some (.ref 56), some (xI x0), some (xI (w2_2 + 1))]) (show mx_Sn _ _ 34 (mx_iinc 2 1 37) from sn_240 34) rfl rfl rfl rfl ?_
          refine mx_J.step (sn_240 37) (fun _ _ => rfl) ?_
          exact ih2 (w2_2 + 1) Z17 h17 (by omega) (by omega) (hp1) (by omega) hx17 hG17 (fr_tr (M := [(62, (-1))]) (fr_tr (M := [(62, (-1))]) fr_rf (hf3) (M1 := []) rfl rfl) (fr_ua hE17) rfl rfl)
    exact c6 (Int.toNat (40 - 0) + 1) 0 Z1 h1 (by omega) (by omega) (hpf_0 (by assumption)) (by omega) hx1 hG1 fr_rf
theorem ct_240_56_n {l : Launch} {D : va_G} {b0 : Nat} {ad : Nat → Nat} {Hb : Heap} {tau : Nat → Int64} {d n s : Nat} {S : Nat → xS} {Z : xZ} {h : mx_H} {T : Int → Int} {g1 : Int} {g2 : Int} (hx : XH n s S Z h) (hG : GI n S Z)  {x0 : Int} (p0 : 0 ≤ x0 ∧ x0 ≤ 3) (k0 : (∀ j : Int, 0 ≤ j → Z 82 (40 * x0 + j) = T j)) (k1 : Z 81 x0 = g1) (k2 : Z 57 1 = g2) (k3 : INR T g1) (k4 : lsm (pfx T g1.toNat) = g2) (k5 : RTB Z g2) (k6 : (1 ≤ g2 ∧ g2 ≤ 18)) (k7 : (1 ≤ g1 ∧ g1 ≤ 18)) : ∃ (z : Int) (Z' : xZ) (h' : mx_H), mx_Ca (tB l D b0 ad Hb tau) (d + 3) 240 [.ref 56, xI x0] h (some (xI z), h') ∧ XH n s S Z' h' ∧ GI n S Z' ∧ fr' [(62, (-1))] Z Z' ∧ (z = nmN g2 (fun v => ctl v (pfx T g1.toNat)) ∧ 0 ≤ z ∧ z ≤ 384) := by
  obtain ⟨r, hca, z, Z', h', e, q⟩ := Jmt (B := tB l D b0 ad Hb tau) (M := mt_240) (mi := 240) (as := [.ref 56, xI x0]) (d := d + 2) (ls := [some (.ref 56), some (xI x0), none]) rfl rfl rfl rfl rfl rfl (cw_240_56_n (l := l) (D := D) (b0 := b0) (ad := ad) (Hb := Hb) (tau := tau) (d := d) (Post := fun r => ∃ (z : Int) (Z' : xZ) (h' : mx_H), r = (some (xI z), h') ∧ XH n s S Z' h' ∧ GI n S Z' ∧ fr' [(62, (-1))] Z Z' ∧ (z = nmN g2 (fun v => ctl v (pfx T g1.toNat)) ∧ 0 ≤ z ∧ z ≤ 384)) hx hG p0 k0 k1 k2 k3 k4 k5 k6 k7 (fun z Z' h' q1 q2 q3 q4 => ⟨z, Z', h', rfl, q1, q2, q3, q4⟩))
  subst e; exact ⟨z, Z', h', hca, q⟩
set_option maxRecDepth 100000 in
theorem cw_249_56 {l : Launch} {D : va_G} {b0 : Nat} {ad : Nat → Nat} {Hb : Heap} {tau : Nat → Int64} {d n s : Nat} {S : Nat → xS} {Z : xZ} {h : mx_H} {Post : mx_R → Prop} (hx : XH n s S Z h) (hG : GI n S Z)  {x0 : Int} (p0 : (-2147483648) ≤ x0 ∧ x0 ≤ 2147483647) (k0 : RTB Z (Z 57 1)) (k1 : 1 ≤ Z 57 1) (hP : ∀ (z : Int) (Z' : xZ) (h' : mx_H), XH n s S Z' h' → GI n S Z' → fr' [(56, 0), (62, (-1))] Z Z' → (0 ≤ x0 → x0 ≤ 3 → ¬ Z 80 x0 = -1 → TO (fun j => Z 82 (40 * x0 + j)) (Z 81 x0) (Z 57 1) z) ∧ (-6) ≤ z ∧ z ≤ 384 ∧ (((x0 < 0 ∨ 3 < x0) → z = -2) ∧ (0 ≤ x0 → x0 ≤ 3 → Z 80 x0 = -1 → z = -6)) → Post (some (xI z), h')) : mx_J (tB l D b0 ad Hb tau) mt_249 (d + 3) 0 [some (.ref 56), some (xI x0), none] [] h Post := by
    have a56 : 56 < n := lt83 (GI_n hG) rfl
    have s56 : S 56 = .inl (12, [0, 2, 2, 2, 2, 0, 0, 0, 0, 0, 0, 0, 0, 0, 0, 2, 2, 2, 0, 2, 2, 2, 0, 0, 2, 2, 2, 2, 2, 2, 0, 0, 2, 2, 2, 2, 2, 2, 2, 2, 2, 2]) := GI_s hG 56 rfl
    refine mx_J.step (sn_249 0) (fun _ _ => rfl) ?_
    refine JcI (z := 0) (show mx_Sn _ _ 1 (mx_const (.int 0) 2) from sn_249 1) rfl ?_
    refine JputI (g := 0) hx (show mx_Sn _ _ 2 (mx_putf 1 12 0 (.int) 5) from sn_249 2) a56 s56 rfl rfl rfl rfl (fun Z1 h1 hx1 hE1 => ?_)
    have hG1 := GI_up hG hE1 (show (-2147483648) ≤ 0 ∧ 0 ≤ 2147483647 by omega) trivial rfl
    refine mx_J.step (sn_249 5) (fun _ _ => rfl) ?_
    refine mx_J.step (sn_249 6) (fun _ _ => rfl) ?_
    have eq3 : Z1 81 x0 = Z 81 x0 := (up_nk hE1 rfl)
    have b4 : 0 ≤ Z 81 x0 ∧ Z 81 x0 ≤ 40 := hG.pr 81 x0
    have eq5 : Z1 80 x0 = Z 80 x0 := (up_nk hE1 rfl)
    have b6 : (-1) ≤ Z 80 x0 ∧ Z 80 x0 ≤ 3 := hG.pr 80 x0
    have eq7 : Z1 57 1 = Z 57 1 := (up_nk hE1 rfl)
    have b8 : 0 ≤ Z 57 1 ∧ Z 57 1 ≤ 18 := by have hq := GI_ex hG 57 1; replace hq : f57 (1 % 962) (Z 57 1) := hq; unfold f57 at hq; omega
    have b9 : (-2147483648) ≤ Z 57 1 ∧ Z 57 1 ≤ 2147483647 := hG.pr 57 1
    obtain ⟨z2, hc2, b2⟩ := ct_239_56_n (T := (fun j => Z 82 (40 * x0 + j))) (g1 := (Z 81 x0)) (g2 := (Z 57 1)) (d := d + 0) (l := l) (D := D) (b0 := b0) (ad := ad) (Hb := Hb) (tau := tau) hx1 hG1 (show (-2147483648) ≤ x0 ∧ x0 ≤ 2147483647 by omega) (fun _ _ j _ => (show ∀ i, Z1 82 i = Z 82 i from (fun i => (up_nk hE1 rfl))) (40 * x0 + j)) (fun _ _ => (show ∀ i, Z1 81 i = Z 81 i from (fun i => (up_nk hE1 rfl))) x0) ((up_nk hE1 rfl))
    try rw [eq3] at b2
    try rw [eq5] at b2
    try rw [eq7] at b2
    obtain ⟨bs2_0, b2⟩ := b2
    refine Jcv hx1 (show mx_Sn _ _ 7 (mx_callv 239 2 12 10) from sn_249 7) a56 s56 hc2 rfl rfl rfl ?_
    refine mx_J.step (ls2 := [some (.ref 56), some (xI x0), some (xI z2)]) (sn_249 10) (fun _ _ => rfl) ?_
    refine mx_J.step (sn_249 11) (fun _ _ => rfl) ?_
    have tn := bs2_0
    have c80 : Z1 80 x0 = Z 80 x0 := (show ∀ i, Z1 80 i = Z 80 i from (fun i => (up_nk hE1 rfl))) x0
    have c24 : ∀ (k10_0 : Int) (Z11 : xZ) (h11 : mx_H), (-6) ≤ k10_0 ∧ k10_0 ≤ 384 → (0 ≤ x0 → x0 ≤ 3 → ¬ Z 80 x0 = -1 → TO (fun j => Z 82 (40 * x0 + j)) (Z 81 x0) (Z 57 1) k10_0) → (((x0 < 0 ∨ 3 < x0) → k10_0 = -2) ∧ (0 ≤ x0 → x0 ≤ 3 → Z 80 x0 = -1 → k10_0 = -6)) → XH n s S Z11 h11 → GI n S Z11 → fr' [(62, (-1))] Z1 Z11 → mx_J (tB l D b0 ad Hb tau) mt_249 (d + 3) 24 [some (.ref 56), some (xI x0), some (xI z2)] [xI k10_0] h11 Post := by
      intro k10_0 Z11 h11 f10_0 f10_1 f10_2 hx11 hG11 hf11
      have eq12 : Z11 80 x0 = Z 80 x0 := ((hf11 80 x0 rfl).trans (up_nk hE1 rfl))
      have eq13 : Z11 81 x0 = Z 81 x0 := ((hf11 81 x0 rfl).trans (up_nk hE1 rfl))
      exact mx_J.ret (sn_249 24) (fun _ _ => rfl) (hP k10_0 Z11 h11 hx11 hG11 (fr_tr (M := [(56, 0), (62, (-1))]) (fr_tr (M := [(56, 0), (62, (-1))]) fr_rf (fr_up hE1) (M1 := []) rfl rfl) (hf11) rfl rfl) ⟨(by assumption), by omega⟩)
    refine Jif_eq (show mx_Sn _ _ 12 (mx_if_eq 19 15) from sn_249 12) (by omega) (fun q14 => ?_) (fun q14 => ?_)
    · skip
      refine mx_J.step (sn_249 19) (fun _ _ => rfl) ?_
      refine mx_J.step (sn_249 20) (fun _ _ => rfl) ?_
      have t9 := TN_0 (tn (by omega) (by omega) (by omega)) (by omega)
      have eq16 : Z1 81 x0 = Z 81 x0 := (up_nk hE1 rfl)
      have eq17 : Z1 57 1 = Z 57 1 := (up_nk hE1 rfl)
      obtain ⟨z15, Z15, h15, hc15, hx15, hG15, hf15, b15⟩ := ct_240_56_n (T := (fun j => Z 82 (40 * x0 + j))) (g1 := (Z 81 x0)) (g2 := (Z 57 1)) (d := d + 0) (l := l) (D := D) (b0 := b0) (ad := ad) (Hb := Hb) (tau := tau) hx1 hG1 (show 0 ≤ x0 ∧ x0 ≤ 3 by omega) (fun j _ => (show ∀ i, Z1 82 i = Z 82 i from (fun i => (up_nk hE1 rfl))) (40 * x0 + j)) ((show ∀ i, Z1 81 i = Z 81 i from (fun i => (up_nk hE1 rfl))) x0) ((up_nk hE1 rfl)) (t9.2.2.1) (t9.2.2.2) (RTB_c k0 (fun i => (up_nk hE1 rfl))) (⟨k1, by have hq := GB_ex (GI_gb hG) 57 1; replace hq : f57 (1 % 962) (Z 57 1) := hq; unfold f57 at hq; omega⟩) (⟨t9.1, t9.2.1⟩)
      try rw [eq16] at b15
      try rw [eq17] at b15
      obtain ⟨bs15_0, b15⟩ := b15
      refine Jcv hx1 (show mx_Sn _ _ 21 (mx_callv 240 2 12 24) from sn_249 21) a56 s56 hc15 rfl rfl rfl ?_
      exact c24 z15 Z15 h15 (by omega) (fun a b c => TN_y (tn a b (by omega)) (by omega) bs15_0) (by omega) hx15 hG15 (fr_tr (M := [(62, (-1))]) fr_rf (hf15) (M1 := []) rfl rfl)
    · skip
      refine mx_J.step (sn_249 15) (fun _ _ => rfl) ?_
      refine mx_J.step (sn_249 16) (fun _ _ => rfl) ?_
      exact c24 z2 Z1 h1 (by omega) (fun a b c => TN_n (tn a b (by omega)) (by omega)) (by omega) hx1 hG1 fr_rf
theorem ct_249_56 {l : Launch} {D : va_G} {b0 : Nat} {ad : Nat → Nat} {Hb : Heap} {tau : Nat → Int64} {d n s : Nat} {S : Nat → xS} {Z : xZ} {h : mx_H} (hx : XH n s S Z h) (hG : GI n S Z)  {x0 : Int} (p0 : (-2147483648) ≤ x0 ∧ x0 ≤ 2147483647) (k0 : RTB Z (Z 57 1)) (k1 : 1 ≤ Z 57 1) : ∃ (z : Int) (Z' : xZ) (h' : mx_H), mx_Ca (tB l D b0 ad Hb tau) (d + 4) 249 [.ref 56, xI x0] h (some (xI z), h') ∧ XH n s S Z' h' ∧ GI n S Z' ∧ fr' [(56, 0), (62, (-1))] Z Z' ∧ ((0 ≤ x0 → x0 ≤ 3 → ¬ Z 80 x0 = -1 → TO (fun j => Z 82 (40 * x0 + j)) (Z 81 x0) (Z 57 1) z) ∧ (-6) ≤ z ∧ z ≤ 384 ∧ (((x0 < 0 ∨ 3 < x0) → z = -2) ∧ (0 ≤ x0 → x0 ≤ 3 → Z 80 x0 = -1 → z = -6))) := by
  obtain ⟨r, hca, z, Z', h', e, q⟩ := Jmt (B := tB l D b0 ad Hb tau) (M := mt_249) (mi := 249) (as := [.ref 56, xI x0]) (d := d + 3) (ls := [some (.ref 56), some (xI x0), none]) rfl rfl rfl rfl rfl rfl (cw_249_56 (l := l) (D := D) (b0 := b0) (ad := ad) (Hb := Hb) (tau := tau) (d := d) (Post := fun r => ∃ (z : Int) (Z' : xZ) (h' : mx_H), r = (some (xI z), h') ∧ XH n s S Z' h' ∧ GI n S Z' ∧ fr' [(56, 0), (62, (-1))] Z Z' ∧ ((0 ≤ x0 → x0 ≤ 3 → ¬ Z 80 x0 = -1 → TO (fun j => Z 82 (40 * x0 + j)) (Z 81 x0) (Z 57 1) z) ∧ (-6) ≤ z ∧ z ≤ 384 ∧ (((x0 < 0 ∨ 3 < x0) → z = -2) ∧ (0 ≤ x0 → x0 ≤ 3 → Z 80 x0 = -1 → z = -6)))) hx hG p0 k0 k1 (fun z Z' h' q1 q2 q3 q4 => ⟨z, Z', h', rfl, q1, q2, q3, q4⟩))
  subst e; exact ⟨z, Z', h', hca, q⟩
set_option maxRecDepth 100000 in
theorem cw_253_56 {l : Launch} {D : va_G} {b0 : Nat} {ad : Nat → Nat} {Hb : Heap} {tau : Nat → Int64} {d n s : Nat} {S : Nat → xS} {Z : xZ} {h : mx_H} {Post : mx_R → Prop} (hx : XH n s S Z h) (hG : GI n S Z)  {x0 : Int} (p0 : (-2147483648) ≤ x0 ∧ x0 ≤ 2147483647) (hP : ∀ (z : Int) (Z' : xZ) (h' : mx_H), XH n s S Z' h' → GI n S Z' → fr' [(56, 0), (62, (-1))] Z Z' → (-6) ≤ z ∧ z ≤ 1 → Post (some (xI z), h')) : mx_J (tB l D b0 ad Hb tau) mt_253 (d + 3) 0 [some (.ref 56), some (xI x0), none] [] h Post := by
    have a56 : 56 < n := lt83 (GI_n hG) rfl
    have s56 : S 56 = .inl (12, [0, 2, 2, 2, 2, 0, 0, 0, 0, 0, 0, 0, 0, 0, 0, 2, 2, 2, 0, 2, 2, 2, 0, 0, 2, 2, 2, 2, 2, 2, 0, 0, 2, 2, 2, 2, 2, 2, 2, 2, 2, 2]) := GI_s hG 56 rfl
    have a57 : 57 < n := lt83 (GI_n hG) rfl
    have s57 : S 57 = .inr (.int, 2886, 0) := GI_s hG 57 rfl
    refine mx_J.step (sn_253 0) (fun _ _ => rfl) ?_
    refine JcI (z := 0) (show mx_Sn _ _ 1 (mx_const (.int 0) 2) from sn_253 1) rfl ?_
    refine JputI (g := 0) hx (show mx_Sn _ _ 2 (mx_putf 1 12 0 (.int) 5) from sn_253 2) a56 s56 rfl rfl rfl rfl (fun Z1 h1 hx1 hE1 => ?_)
    have hG1 := GI_up hG hE1 (show (-2147483648) ≤ 0 ∧ 0 ≤ 2147483647 by omega) trivial rfl
    refine mx_J.step (sn_253 5) (fun _ _ => rfl) ?_
    refine mx_J.step (sn_253 6) (fun _ _ => rfl) ?_
    have eq3 : Z1 81 x0 = Z 81 x0 := (up_nk hE1 rfl)
    have b4 : 0 ≤ Z 81 x0 ∧ Z 81 x0 ≤ 40 := hG.pr 81 x0
    obtain ⟨z2, hc2, b2⟩ := ct_239_56 (d := d + 0) (l := l) (D := D) (b0 := b0) (ad := ad) (Hb := Hb) (tau := tau) hx1 hG1 (show (-2147483648) ≤ x0 ∧ x0 ≤ 2147483647 by omega)
    try rw [eq3] at b2
    refine Jcv hx1 (show mx_Sn _ _ 7 (mx_callv 239 2 12 10) from sn_253 7) a56 s56 hc2 rfl rfl rfl ?_
    refine mx_J.step (ls2 := [some (.ref 56), some (xI x0), some (xI z2)]) (sn_253 10) (fun _ _ => rfl) ?_
    refine mx_J.step (sn_253 11) (fun _ _ => rfl) ?_
    have c43 : ∀ (k5_0 : Int) (Z6 : xZ) (h6 : mx_H), (-6) ≤ k5_0 ∧ k5_0 ≤ 1 → XH n s S Z6 h6 → GI n S Z6 → fr' [(62, (-1))] Z1 Z6 → mx_J (tB l D b0 ad Hb tau) mt_253 (d + 3) 43 [some (.ref 56), some (xI x0), some (xI z2)] [xI k5_0] h6 Post := by
      intro k5_0 Z6 h6 f5_0 hx6 hG6 hf6
      exact mx_J.ret (sn_253 43) (fun _ _ => rfl) (hP k5_0 Z6 h6 hx6 hG6 (fr_tr (M := [(56, 0), (62, (-1))]) (fr_tr (M := [(56, 0), (62, (-1))]) fr_rf (fr_up hE1) (M1 := []) rfl rfl) (hf6) rfl rfl) (by omega))
    refine Jif_eq (show mx_Sn _ _ 12 (mx_if_eq 19 15) from sn_253 12) (by omega) (fun q7 => ?_) (fun q7 => ?_)
    · skip
      refine mx_J.step (sn_253 19) (fun _ _ => rfl) ?_
      refine mx_J.step (sn_253 20) (fun _ _ => rfl) ?_
      refine JgetR (g := 1) (b := 57) hx1 (show mx_Sn _ _ 21 (mx_getf 12 1 24) from sn_253 21) a56 s56 rfl rfl (hG1.prr 56 1 rfl) ?_
      refine JcI (z := 27) (show mx_Sn _ _ 24 (mx_const (.int 27) 26) from sn_253 24) rfl ?_
      have b9 := GI_st hG 27
      have b10 : 0 ≤ Z 56 18 ∧ Z 56 18 ≤ 385 := hG.pr 56 18
      have b11 : 0 ≤ Z 57 27 ∧ Z 57 27 ≤ 384 := by have hq := GI_ex hG 57 27; replace hq : f57 (27 % 962) (Z 57 27) := hq; unfold f57 at hq; omega
      have b12 : (-2147483648) ≤ Z 57 27 ∧ Z 57 27 ≤ 2147483647 := hG.pr 57 27
      refine JialdI (z := Z 57 27) hx1 (show mx_Sn _ _ 26 (mx_iald 27) from sn_253 26) a57 s57 (by omega) (up_nk hE1 rfl) ?_
      refine mx_J.step (sn_253 27) (fun _ _ => rfl) ?_
      refine mx_J.step (sn_253 28) (fun _ _ => rfl) ?_
      have eq14 : Z1 81 x0 = Z 81 x0 := (up_nk hE1 rfl)
      obtain ⟨z13, Z13, h13, hc13, hx13, hG13, hf13, b13⟩ := ct_240_56 (d := d + 0) (l := l) (D := D) (b0 := b0) (ad := ad) (Hb := Hb) (tau := tau) hx1 hG1 (show 0 ≤ x0 ∧ x0 ≤ 3 by omega) (show Z1 81 x0 ≤ 18 by first | omega | (simp only [eq14]; omega))
      try rw [eq14] at b13
      refine Jcv hx1 (show mx_Sn _ _ 29 (mx_callv 240 2 12 32) from sn_253 29) a56 s56 hc13 rfl rfl rfl ?_
      obtain ⟨z15, hc15, b15⟩ := ct_252_56 (d := d + 1) (l := l) (D := D) (b0 := b0) (ad := ad) (Hb := Hb) (tau := tau) hx13 hG13 (show 0 ≤ Z 57 27 ∧ Z 57 27 ≤ 384 by omega) (show 0 ≤ z13 ∧ z13 ≤ 384 by omega)
      refine Jcv hx13 (show mx_Sn _ _ 32 (mx_callv 252 3 12 35) from sn_253 32) a56 s56 hc15 rfl rfl rfl ?_
      refine Jif_eq (show mx_Sn _ _ 35 (mx_if_eq 42 38) from sn_253 35) (by omega) (fun q16 => ?_) (fun q16 => ?_)
      · skip
        refine JcI (z := 0) (show mx_Sn _ _ 42 (mx_const (.int 0) 43) from sn_253 42) rfl ?_
        exact c43 0 Z13 h13 (by omega) hx13 hG13 (fr_tr (M := [(62, (-1))]) fr_rf (hf13) (M1 := []) rfl rfl)
      · skip
        refine JcI (z := 1) (show mx_Sn _ _ 38 (mx_const (.int 1) 39) from sn_253 38) rfl ?_
        refine mx_J.step (sn_253 39) (fun _ _ => rfl) ?_
        exact c43 1 Z13 h13 (by omega) hx13 hG13 (fr_tr (M := [(62, (-1))]) fr_rf (hf13) (M1 := []) rfl rfl)
    · skip
      refine mx_J.step (sn_253 15) (fun _ _ => rfl) ?_
      refine mx_J.step (sn_253 16) (fun _ _ => rfl) ?_
      exact c43 z2 Z1 h1 (by omega) hx1 hG1 fr_rf
theorem ct_253_56 {l : Launch} {D : va_G} {b0 : Nat} {ad : Nat → Nat} {Hb : Heap} {tau : Nat → Int64} {d n s : Nat} {S : Nat → xS} {Z : xZ} {h : mx_H} (hx : XH n s S Z h) (hG : GI n S Z)  {x0 : Int} (p0 : (-2147483648) ≤ x0 ∧ x0 ≤ 2147483647) : ∃ (z : Int) (Z' : xZ) (h' : mx_H), mx_Ca (tB l D b0 ad Hb tau) (d + 4) 253 [.ref 56, xI x0] h (some (xI z), h') ∧ XH n s S Z' h' ∧ GI n S Z' ∧ fr' [(56, 0), (62, (-1))] Z Z' ∧ ((-6) ≤ z ∧ z ≤ 1) := by
  obtain ⟨r, hca, z, Z', h', e, q⟩ := Jmt (B := tB l D b0 ad Hb tau) (M := mt_253) (mi := 253) (as := [.ref 56, xI x0]) (d := d + 3) (ls := [some (.ref 56), some (xI x0), none]) rfl rfl rfl rfl rfl rfl (cw_253_56 (l := l) (D := D) (b0 := b0) (ad := ad) (Hb := Hb) (tau := tau) (d := d) (Post := fun r => ∃ (z : Int) (Z' : xZ) (h' : mx_H), r = (some (xI z), h') ∧ XH n s S Z' h' ∧ GI n S Z' ∧ fr' [(56, 0), (62, (-1))] Z Z' ∧ ((-6) ≤ z ∧ z ≤ 1)) hx hG p0 (fun z Z' h' q1 q2 q3 q4 => ⟨z, Z', h', rfl, q1, q2, q3, q4⟩))
  subst e; exact ⟨z, Z', h', hca, q⟩
set_option maxRecDepth 100000 in
theorem cw_242_56 {l : Launch} {D : va_G} {b0 : Nat} {ad : Nat → Nat} {Hb : Heap} {tau : Nat → Int64} {d n s : Nat} {S : Nat → xS} {Z : xZ} {h : mx_H} {Post : mx_R → Prop} (hx : XH n s S Z h) (hG : GI n S Z)  {x0 x1 : Int} (p0 : (-2147483648) ≤ x0 ∧ x0 ≤ 2147483647) (p1 : (-2147483648) ≤ x1 ∧ x1 ≤ 2147483647) (hP : ∀ (z : Int) (Z' : xZ) (h' : mx_H), XH n s S Z' h' → GI n S Z' → fr' [(56, 0), (62, (-1)), (64, (-1)), (65, (-1)), (73, (-1)), (74, (-1))] Z Z' → (-6) ≤ z ∧ z ≤ 18 → Post (some (xI z), h')) : mx_J (tB l D b0 ad Hb tau) mt_242 (d + 7) 0 [some (.ref 56), some (xI x0), some (xI x1), none, none, none, none] [] h Post := by
    have a56 : 56 < n := lt83 (GI_n hG) rfl
    have s56 : S 56 = .inl (12, [0, 2, 2, 2, 2, 0, 0, 0, 0, 0, 0, 0, 0, 0, 0, 2, 2, 2, 0, 2, 2, 2, 0, 0, 2, 2, 2, 2, 2, 2, 0, 0, 2, 2, 2, 2, 2, 2, 2, 2, 2, 2]) := GI_s hG 56 rfl
    have a57 : 57 < n := lt83 (GI_n hG) rfl
    have s57 : S 57 = .inr (.int, 2886, 0) := GI_s hG 57 rfl
    have a73 : 73 < n := lt83 (GI_n hG) rfl
    have s73 : S 73 = .inr (.int, 7315, 0) := GI_s hG 73 rfl
    have a74 : 74 < n := lt83 (GI_n hG) rfl
    have s74 : S 74 = .inr (.int, 385, 0) := GI_s hG 74 rfl
    refine mx_J.step (sn_242 0) (fun _ _ => rfl) ?_
    refine JcI (z := 0) (show mx_Sn _ _ 1 (mx_const (.int 0) 2) from sn_242 1) rfl ?_
    refine JputI (g := 0) hx (show mx_Sn _ _ 2 (mx_putf 1 12 0 (.int) 5) from sn_242 2) a56 s56 rfl rfl rfl rfl (fun Z1 h1 hx1 hE1 => ?_)
    have hG1 := GI_up hG hE1 (show (-2147483648) ≤ 0 ∧ 0 ≤ 2147483647 by omega) trivial rfl
    refine mx_J.step (sn_242 5) (fun _ _ => rfl) ?_
    refine mx_J.step (sn_242 6) (fun _ _ => rfl) ?_
    have eq3 : Z1 81 x0 = Z 81 x0 := (up_nk hE1 rfl)
    have b4 : 0 ≤ Z 81 x0 ∧ Z 81 x0 ≤ 40 := hG.pr 81 x0
    obtain ⟨z2, hc2, b2⟩ := ct_239_56 (d := d + 4) (l := l) (D := D) (b0 := b0) (ad := ad) (Hb := Hb) (tau := tau) hx1 hG1 (show (-2147483648) ≤ x0 ∧ x0 ≤ 2147483647 by omega)
    try rw [eq3] at b2
    refine Jcv hx1 (show mx_Sn _ _ 7 (mx_callv 239 2 12 10) from sn_242 7) a56 s56 hc2 rfl rfl rfl ?_
    refine mx_J.step (ls2 := [some (.ref 56), some (xI x0), some (xI x1), some (xI z2), none, none, none]) (sn_242 10) (fun _ _ => rfl) ?_
    refine mx_J.step (sn_242 11) (fun _ _ => rfl) ?_
    refine Jif_eq (show mx_Sn _ _ 12 (mx_if_eq 17 15) from sn_242 12) (by omega) (fun q5 => ?_) (fun q5 => ?_)
    · skip
      refine mx_J.step (sn_242 17) (fun _ _ => rfl) ?_
      refine Jif_ge (show mx_Sn _ _ 18 (mx_if_ge 24 21) from sn_242 18) (by omega) (fun q6 => ?_) (fun q6 => ?_)
      · skip
        refine mx_J.step (sn_242 24) (fun _ _ => rfl) ?_
        refine mx_J.step (sn_242 25) (fun _ _ => rfl) ?_
        refine mx_J.step (sn_242 26) (fun _ _ => rfl) ?_
        have eq8 : Z1 81 x0 = Z 81 x0 := (up_nk hE1 rfl)
        obtain ⟨z7, Z7, h7, hc7, hx7, hG7, hf7, b7⟩ := ct_240_56 (d := d + 4) (l := l) (D := D) (b0 := b0) (ad := ad) (Hb := Hb) (tau := tau) hx1 hG1 (show 0 ≤ x0 ∧ x0 ≤ 3 by omega) (show Z1 81 x0 ≤ 18 by first | omega | (simp only [eq8]; omega))
        try rw [eq8] at b7
        refine Jcv hx1 (show mx_Sn _ _ 27 (mx_callv 240 2 12 30) from sn_242 27) a56 s56 hc7 rfl rfl rfl ?_
        have eq10 : Z7 56 18 = Z 56 18 := ((hf7 56 18 rfl).trans (up_ni hE1 (by decide)))
        have b11 : 0 ≤ Z 56 18 ∧ Z 56 18 ≤ 385 := hG.pr 56 18
        obtain ⟨z9, Z9, h9, hc9, hx9, hG9, hf9, b9⟩ := ct_237_56 (d := d + 0) (l := l) (D := D) (b0 := b0) (ad := ad) (Hb := Hb) (tau := tau) hx7 hG7 (show 0 ≤ z7 ∧ z7 ≤ 384 by omega)
        try rw [eq10] at b9
        refine Jcv hx7 (show mx_Sn _ _ 30 (mx_callv 237 2 12 33) from sn_242 30) a56 s56 hc9 rfl rfl rfl ?_
        refine mx_J.step (sn_242 33) (fun _ _ => rfl) ?_
        refine mx_J.step (sn_242 34) (fun _ _ => rfl) ?_
        refine JgetR (g := 1) (b := 57) hx9 (show mx_Sn _ _ 35 (mx_getf 12 1 38) from sn_242 35) a56 s56 rfl rfl (hG9.prr 56 1 rfl) ?_
        refine JcI (z := 27) (show mx_Sn _ _ 38 (mx_const (.int 27) 40) from sn_242 38) rfl ?_
        have b13 := GI_st hG 27
        have b14 : 0 ≤ Z 57 27 ∧ Z 57 27 ≤ 384 := by have hq := GI_ex hG 57 27; replace hq : f57 (27 % 962) (Z 57 27) := hq; unfold f57 at hq; omega
        have b15 : (-2147483648) ≤ Z 57 27 ∧ Z 57 27 ≤ 2147483647 := hG.pr 57 27
        refine JialdI (z := Z 57 27) hx9 (show mx_Sn _ _ 40 (mx_iald 41) from sn_242 40) a57 s57 (by omega) ((hf9 57 27 rfl).trans ((hf7 57 27 rfl).trans (up_nk hE1 rfl))) ?_
        refine mx_J.step (ls2 := [some (.ref 56), some (xI x0), some (xI x1), some (xI z2), some (xI (Z 57 27)), none, none]) (sn_242 41) (fun _ _ => rfl) ?_
        refine JcI (z := 0) (show mx_Sn _ _ 43 (mx_const (.int 0) 44) from sn_242 43) rfl ?_
        refine mx_J.step (ls2 := [some (.ref 56), some (xI x0), some (xI x1), some (xI z2), some (xI (Z 57 27)), some (xI 0), none]) (sn_242 44) (fun _ _ => rfl) ?_
        have c46 : ∀ (m16 : Nat) (w16_4 : Int) (w16_5 : Int) (u16_6 : Option Value), (((Z9 74 w16_4).toNat : Nat) : Int) < (m16 : Int) → 0 ≤ w16_4 ∧ w16_4 ≤ 384 → (-2147483648) ≤ w16_5 ∧ w16_5 ≤ 2147483647 → w16_4 < Z 56 18 → mx_J (tB l D b0 ad Hb tau) mt_242 (d + 7) 46 [some (.ref 56), some (xI x0), some (xI x1), some (xI z2), some (xI w16_4), some (xI w16_5), u16_6] [] h9 Post := by
          intro m16
          induction m16 with
          | zero => intro w16_4 w16_5 u16_6 q16 f16_0 f16_1 f16_2; exact absurd q16 (by omega)
          | succ m16 ih16 =>
            intro w16_4 w16_5 u16_6 q16 f16_0 f16_1 f16_2
            refine mx_J.step (sn_242 46) (fun _ _ => rfl) ?_
            refine JgetR (g := 33) (b := 74) hx9 (show mx_Sn _ _ 47 (mx_getf 12 33 50) from sn_242 47) a56 s56 rfl rfl (hG9.prr 56 33 rfl) ?_
            refine mx_J.step (sn_242 50) (fun _ _ => rfl) ?_
            have b18 : 0 ≤ Z9 74 w16_4 ∧ Z9 74 w16_4 ≤ 268435456 := hG9.pr 74 w16_4
            refine JialdI (z := Z9 74 w16_4) hx9 (show mx_Sn _ _ 52 (mx_iald 53) from sn_242 52) a74 s74 (by omega) rfl ?_
            have c126 : mx_J (tB l D b0 ad Hb tau) mt_242 (d + 7) 126 [some (.ref 56), some (xI x0), some (xI x1), some (xI z2), some (xI w16_4), some (xI w16_5), u16_6] [] h9 Post := by
              refine JcI (z := (-1)) (show mx_Sn _ _ 126 (mx_const (.int (-1)) 127) from sn_242 126) rfl ?_
              exact mx_J.ret (sn_242 127) (fun _ _ => rfl) (hP (-1) Z9 h9 hx9 hG9 (fr_tr (M := [(56, 0), (62, (-1)), (64, (-1)), (65, (-1)), (73, (-1)), (74, (-1))]) (fr_tr (M := [(56, 0), (62, (-1)), (64, (-1)), (65, (-1)), (73, (-1)), (74, (-1))]) (fr_tr (M := [(56, 0), (62, (-1)), (64, (-1)), (65, (-1)), (73, (-1)), (74, (-1))]) fr_rf (fr_up hE1) (M1 := []) rfl rfl) (hf7) rfl rfl) (hf9) rfl rfl) (by omega))
            refine Jif_le (show mx_Sn _ _ 53 (mx_if_le 126 56) from sn_242 53) (by omega) (fun q20 => ?_) (fun q20 => ?_)
            · skip
              exact c126 
            · skip
              refine mx_J.step (sn_242 56) (fun _ _ => rfl) ?_
              refine JgetR (g := 33) (b := 74) hx9 (show mx_Sn _ _ 57 (mx_getf 12 33 60) from sn_242 57) a56 s56 rfl rfl (hG9.prr 56 33 rfl) ?_
              refine mx_J.step (sn_242 60) (fun _ _ => rfl) ?_
              refine JialdI (z := Z9 74 w16_4) hx9 (show mx_Sn _ _ 62 (mx_iald 63) from sn_242 62) a74 s74 (by omega) rfl ?_
              refine JcI (z := 268435456) (show mx_Sn _ _ 63 (mx_const (.int 268435456) 66) from sn_242 63) rfl ?_
              refine Jicmp_ge (show mx_Sn _ _ 66 (mx_icmp_ge 126 69) from sn_242 66) (by omega) (by omega) (fun q22 => ?_) (fun q22 => ?_)
              · skip
                exact c126 
              · skip
                refine JcI (z := 0) (show mx_Sn _ _ 69 (mx_const (.int 0) 70) from sn_242 69) rfl ?_
                refine mx_J.step (ls2 := [some (.ref 56), some (xI x0), some (xI x1), some (xI z2), some (xI w16_4), some (xI w16_5), some (xI 0)]) (sn_242 70) (fun _ _ => rfl) ?_
                have c72 : ∀ (m23 : Nat) (w23_6 : Int), 19 - w23_6 < (m23 : Int) → 0 ≤ w23_6 ∧ w23_6 ≤ 18 → NF Z9 w16_4 w23_6 → mx_J (tB l D b0 ad Hb tau) mt_242 (d + 7) 72 [some (.ref 56), some (xI x0), some (xI x1), some (xI z2), some (xI w16_4), some (xI w16_5), some (xI w23_6)] [] h9 Post := by
                  intro m23
                  induction m23 with
                  | zero => intro w23_6 q23 f23_0 f23_1; exact absurd q23 (by omega)
                  | succ m23 ih23 =>
                    intro w23_6 q23 f23_0 f23_1
                    refine mx_J.step (sn_242 72) (fun _ _ => rfl) ?_
                    refine mx_J.step (sn_242 73) (fun _ _ => rfl) ?_
                    refine mx_J.step (sn_242 75) (fun _ _ => rfl) ?_
                    obtain ⟨z24, hc24, b24⟩ := ct_236_56 (d := d + 6) (l := l) (D := D) (b0 := b0) (ad := ad) (Hb := Hb) (tau := tau) hx9 hG9 (show 0 ≤ w16_4 ∧ w16_4 ≤ 384 by omega) (show 0 ≤ w23_6 ∧ w23_6 ≤ 18 by omega)
                    refine Jcv hx9 (show mx_Sn _ _ 77 (mx_callv 236 3 12 80) from sn_242 77) a56 s56 hc24 rfl rfl rfl ?_
                    refine mx_J.step (sn_242 80) (fun _ _ => rfl) ?_
                    refine JgetR (g := 33) (b := 74) hx9 (show mx_Sn _ _ 81 (mx_getf 12 33 84) from sn_242 81) a56 s56 rfl rfl (hG9.prr 56 33 rfl) ?_
                    refine mx_J.step (sn_242 84) (fun _ _ => rfl) ?_
                    refine JialdI (z := Z9 74 w16_4) hx9 (show mx_Sn _ _ 86 (mx_iald 87) from sn_242 86) a74 s74 (by omega) rfl ?_
                    refine Jicmp_eq (show mx_Sn _ _ 87 (mx_icmp_eq 96 90) from sn_242 87) (by omega) (by omega) (fun q26 => ?_) (fun q26 => ?_)
                    · skip
                      refine mx_J.step (sn_242 96) (fun _ _ => rfl) ?_
                      refine mx_J.step (sn_242 98) (fun _ _ => rfl) ?_
                      refine Jicmp_ne (show mx_Sn _ _ 99 (mx_icmp_ne 105 102) from sn_242 99) (by omega) (by omega) (fun q27 => ?_) (fun q27 => ?_)
                      · skip
                        have fe := fb_e Z9 w16_4 w23_6
                        have a7 := ai_at (Z := Z9) (c := 73) (i := 19 * w16_4 + w23_6) (len := 19 * Z 56 18) (lo := -1) (hi := Z 56 18 - 1) (by omega) (by omega)
                        refine mx_J.step (sn_242 105) (fun _ _ => rfl) ?_
                        refine JgetR (g := 32) (b := 73) hx9 (show mx_Sn _ _ 106 (mx_getf 12 32 109) from sn_242 106) a56 s56 rfl rfl (hG9.prr 56 32 rfl) ?_
                        refine JcI (z := 19) (show mx_Sn _ _ 109 (mx_const (.int 19) 111) from sn_242 109) rfl ?_
                        refine mx_J.step (sn_242 111) (fun _ _ => rfl) ?_
                        refine Jimul (show mx_Sn _ _ 113 (mx_imul 114) from sn_242 113) ?_
                        refine mx_J.step (sn_242 114) (fun _ _ => rfl) ?_
                        refine Jiadd (show mx_Sn _ _ 116 (mx_iadd 117) from sn_242 116) ?_
                        have b29 : (-1) ≤ Z9 73 ((19 * w16_4) + w23_6) ∧ Z9 73 ((19 * w16_4) + w23_6) ≤ 384 := hG9.pr 73 ((19 * w16_4) + w23_6)
                        refine JialdI (z := Z9 73 ((19 * w16_4) + w23_6)) hx9 (show mx_Sn _ _ 117 (mx_iald 118) from sn_242 117) a73 s73 (by omega) rfl ?_
                        refine mx_J.step (ls2 := [some (.ref 56), some (xI x0), some (xI x1), some (xI z2), some (xI (Z9 73 ((19 * w16_4) + w23_6))), some (xI w16_5), some (xI w23_6)]) (sn_242 118) (fun _ _ => rfl) ?_
                        refine JiincN (z := w16_5) (cz := 1) (show mx_Sn _ _ 120 (mx_iinc 5 1 123) from sn_242 120) rfl rfl rfl (fun y30 hy30 hq30 => ?_)
                        show mx_J _ _ _ _ [some (.ref 56), some (xI x0), some (xI x1), some (xI z2), some (xI (Z9 73 ((19 * w16_4) + w23_6))), some (xI y30), some (xI w23_6)] _ _ _
                        refine mx_J.step (sn_242 123) (fun _ _ => rfl) ?_
                        exact ih16 (Z9 73 ((19 * w16_4) + w23_6)) y30 (some (xI w23_6)) (by omega) (by omega) (by omega) (by omega)
                      · skip
                        refine mx_J.step (sn_242 102) (fun _ _ => rfl) ?_
                        exact mx_J.ret (sn_242 104) (fun _ _ => rfl) (hP w23_6 Z9 h9 hx9 hG9 (fr_tr (M := [(56, 0), (62, (-1)), (64, (-1)), (65, (-1)), (73, (-1)), (74, (-1))]) (fr_tr (M := [(56, 0), (62, (-1)), (64, (-1)), (65, (-1)), (73, (-1)), (74, (-1))]) (fr_tr (M := [(56, 0), (62, (-1)), (64, (-1)), (65, (-1)), (73, (-1)), (74, (-1))]) fr_rf (fr_up hE1) (M1 := []) rfl rfl) (hf7) rfl rfl) (hf9) rfl rfl) (by omega))
                    · skip
                      have nl := nf_l (Z := Z9) (m := Z 56 18) (s := w16_4) (d := w23_6 + 1) (by omega) (by omega) (nf_s (by assumption) (by omega)) (by omega) (by omega) (by omega)
                      refine Jiinc (z := w23_6) (cz := 1) (ls2 := [some (.ref 56), some (xI x0), some (xI x1), some (xI z2), some (xI w16_4), some (xI w16_5), some (xI (w23_6 + 1))]) (show mx_Sn _ _ 90 (mx_iinc 6 1 93) from sn_242 90) rfl rfl rfl rfl ?_
                      refine mx_J.step (sn_242 93) (fun _ _ => rfl) ?_
                      exact ih23 (w23_6 + 1) (by omega) (by omega) (by first | exact nf_0 (by omega) | exact nf_s (by assumption) (by omega))
                exact c72 (Int.toNat (19 - 0) + 1) 0 (by omega) (by omega) (by first | exact nf_0 (by omega) | exact nf_s (by assumption) (by omega))
        exact c46 (Int.toNat ((((Z9 74 (Z 57 27)).toNat : Nat) : Int)) + 1) (Z 57 27) 0 none (by omega) (by omega) (by omega) (by omega)
      · skip
        refine JcI (z := (-3)) (show mx_Sn _ _ 21 (mx_const (.int (-3)) 23) from sn_242 21) rfl ?_
        exact mx_J.ret (sn_242 23) (fun _ _ => rfl) (hP (-3) Z1 h1 hx1 hG1 (fr_tr (M := [(56, 0), (62, (-1)), (64, (-1)), (65, (-1)), (73, (-1)), (74, (-1))]) fr_rf (fr_up hE1) (M1 := []) rfl rfl) (by omega))
    · skip
      refine mx_J.step (sn_242 15) (fun _ _ => rfl) ?_
      exact mx_J.ret (sn_242 16) (fun _ _ => rfl) (hP z2 Z1 h1 hx1 hG1 (fr_tr (M := [(56, 0), (62, (-1)), (64, (-1)), (65, (-1)), (73, (-1)), (74, (-1))]) fr_rf (fr_up hE1) (M1 := []) rfl rfl) (by omega))
theorem ct_242_56 {l : Launch} {D : va_G} {b0 : Nat} {ad : Nat → Nat} {Hb : Heap} {tau : Nat → Int64} {d n s : Nat} {S : Nat → xS} {Z : xZ} {h : mx_H} (hx : XH n s S Z h) (hG : GI n S Z)  {x0 x1 : Int} (p0 : (-2147483648) ≤ x0 ∧ x0 ≤ 2147483647) (p1 : (-2147483648) ≤ x1 ∧ x1 ≤ 2147483647) : ∃ (z : Int) (Z' : xZ) (h' : mx_H), mx_Ca (tB l D b0 ad Hb tau) (d + 8) 242 [.ref 56, xI x0, xI x1] h (some (xI z), h') ∧ XH n s S Z' h' ∧ GI n S Z' ∧ fr' [(56, 0), (62, (-1)), (64, (-1)), (65, (-1)), (73, (-1)), (74, (-1))] Z Z' ∧ ((-6) ≤ z ∧ z ≤ 18) := by
  obtain ⟨r, hca, z, Z', h', e, q⟩ := Jmt (B := tB l D b0 ad Hb tau) (M := mt_242) (mi := 242) (as := [.ref 56, xI x0, xI x1]) (d := d + 7) (ls := [some (.ref 56), some (xI x0), some (xI x1), none, none, none, none]) rfl rfl rfl rfl rfl rfl (cw_242_56 (l := l) (D := D) (b0 := b0) (ad := ad) (Hb := Hb) (tau := tau) (d := d) (Post := fun r => ∃ (z : Int) (Z' : xZ) (h' : mx_H), r = (some (xI z), h') ∧ XH n s S Z' h' ∧ GI n S Z' ∧ fr' [(56, 0), (62, (-1)), (64, (-1)), (65, (-1)), (73, (-1)), (74, (-1))] Z Z' ∧ ((-6) ≤ z ∧ z ≤ 18)) hx hG p0 p1 (fun z Z' h' q1 q2 q3 q4 => ⟨z, Z', h', rfl, q1, q2, q3, q4⟩))
  subst e; exact ⟨z, Z', h', hca, q⟩
set_option maxRecDepth 100000 in
theorem cw_245_56 {l : Launch} {D : va_G} {b0 : Nat} {ad : Nat → Nat} {Hb : Heap} {tau : Nat → Int64} {d n s : Nat} {S : Nat → xS} {Z : xZ} {h : mx_H} {Post : mx_R → Prop} (hx : XH n s S Z h) (hG : GI n S Z)  {x0 x1 : Int} (p0 : (-2147483648) ≤ x0 ∧ x0 ≤ 2147483647) (p1 : (-2147483648) ≤ x1 ∧ x1 ≤ 2147483647) (hP : ∀ (z : Int) (Z' : xZ) (h' : mx_H), XH n s S Z' h' → GI n S Z' → fr' [(56, 0), (62, (-1)), (64, (-1)), (65, (-1)), (73, (-1)), (76, (-1)), (77, (-1))] Z Z' → (-9223372036854775808) ≤ z ∧ z ≤ 9223372036854775807 → Post (some (xL z), h')) : mx_J (tB l D b0 ad Hb tau) mt_245 (d + 6) 0 [some (.ref 56), some (xI x0), some (xI x1), none, none, none] [] h Post := by
    have a56 : 56 < n := lt83 (GI_n hG) rfl
    have s56 : S 56 = .inl (12, [0, 2, 2, 2, 2, 0, 0, 0, 0, 0, 0, 0, 0, 0, 0, 2, 2, 2, 0, 2, 2, 2, 0, 0, 2, 2, 2, 2, 2, 2, 0, 0, 2, 2, 2, 2, 2, 2, 2, 2, 2, 2]) := GI_s hG 56 rfl
    have a73 : 73 < n := lt83 (GI_n hG) rfl
    have s73 : S 73 = .inr (.int, 7315, 0) := GI_s hG 73 rfl
    have a76 : 76 < n := lt83 (GI_n hG) rfl
    have s76 : S 76 = .inr (.long, 385, 1) := GI_s hG 76 rfl
    have a77 : 77 < n := lt83 (GI_n hG) rfl
    have s77 : S 77 = .inr (.long, 385, 1) := GI_s hG 77 rfl
    refine mx_J.step (sn_245 0) (fun _ _ => rfl) ?_
    refine JcI (z := 0) (show mx_Sn _ _ 1 (mx_const (.int 0) 2) from sn_245 1) rfl ?_
    refine JputI (g := 0) hx (show mx_Sn _ _ 2 (mx_putf 1 12 0 (.int) 5) from sn_245 2) a56 s56 rfl rfl rfl rfl (fun Z1 h1 hx1 hE1 => ?_)
    have hG1 := GI_up hG hE1 (show (-2147483648) ≤ 0 ∧ 0 ≤ 2147483647 by omega) trivial rfl
    refine mx_J.step (sn_245 5) (fun _ _ => rfl) ?_
    refine Ji2l (show mx_Sn _ _ 6 (mx_i2l 7) from sn_245 6) (by omega) ?_
    obtain ⟨z2, hc2, b2⟩ := ct_208_ (d := d + 4) (l := l) (D := D) (b0 := b0) (ad := ad) (Hb := Hb) (tau := tau) hx1 hG1 (show (-9223372036854775808) ≤ x0 ∧ x0 ≤ 9223372036854775807 by omega)
    refine Jcs (show mx_Sn _ _ 7 (mx_calls 208 1 10) from sn_245 7) hc2 rfl rfl rfl ?_
    have c25 : mx_J (tB l D b0 ad Hb tau) mt_245 (d + 6) 25 [some (.ref 56), some (xI x0), some (xI x1), none, none, none] [] h1 Post := by
      refine JcL (z := (-3)) (show mx_Sn _ _ 25 (mx_const (.long (-3)) 28) from sn_245 25) rfl ?_
      exact mx_J.ret (sn_245 28) (fun _ _ => rfl) (hP (-3) Z1 h1 hx1 hG1 (fr_tr (M := [(56, 0), (62, (-1)), (64, (-1)), (65, (-1)), (73, (-1)), (76, (-1)), (77, (-1))]) fr_rf (fr_up hE1) (M1 := []) rfl rfl) (by omega))
    refine Jif_eq (show mx_Sn _ _ 10 (mx_if_eq 25 13) from sn_245 10) (by omega) (fun q4 => ?_) (fun q4 => ?_)
    · skip
      exact c25 
    · skip
      refine mx_J.step (sn_245 13) (fun _ _ => rfl) ?_
      refine Ji2l (show mx_Sn _ _ 14 (mx_i2l 15) from sn_245 14) (by omega) ?_
      refine JcL (z := 0) (show mx_Sn _ _ 15 (mx_const (.long 0) 16) from sn_245 15) rfl ?_
      refine JcL (z := 9) (show mx_Sn _ _ 16 (mx_const (.long 9) 19) from sn_245 16) rfl ?_
      obtain ⟨z5, hc5, b5⟩ := ct_154_ (d := d + 5) (l := l) (D := D) (b0 := b0) (ad := ad) (Hb := Hb) (tau := tau) hx1 hG1 (show (-9223372036854775808) ≤ x1 ∧ x1 ≤ 9223372036854775807 by omega) (show (-9223372036854775808) ≤ 0 ∧ 0 ≤ 9223372036854775807 by omega) (show (-9223372036854775808) ≤ 9 ∧ 9 ≤ 9223372036854775807 by omega)
      refine Jcs (show mx_Sn _ _ 19 (mx_calls 154 3 22) from sn_245 19) hc5 rfl rfl rfl ?_
      refine Jif_ne (show mx_Sn _ _ 22 (mx_if_ne 29 25) from sn_245 22) (by omega) (fun q6 => ?_) (fun q6 => ?_)
      · skip
        refine mx_J.step (sn_245 29) (fun _ _ => rfl) ?_
        have eq8 : Z1 56 18 = Z 56 18 := (up_ni hE1 (by decide))
        have b9 : 0 ≤ Z 56 18 ∧ Z 56 18 ≤ 385 := hG.pr 56 18
        obtain ⟨Z7, h7, hc7, hx7, hG7, hf7, b7⟩ := ct_235_56 (d := d + 0) (l := l) (D := D) (b0 := b0) (ad := ad) (Hb := Hb) (tau := tau) hx1 hG1 
        try rw [eq8] at b7
        refine Jcv0 hx1 (show mx_Sn _ _ 30 (mx_callv 235 1 12 33) from sn_245 30) a56 s56 hc7 rfl rfl rfl ?_
        refine mx_J.step (sn_245 33) (fun _ _ => rfl) ?_
        obtain ⟨Z10, h10, hc10, hx10, hG10, hf10⟩ := ct_243_56 (d := d + 5) (l := l) (D := D) (b0 := b0) (ad := ad) (Hb := Hb) (tau := tau) hx7 hG7 
        refine Jcv0 hx7 (show mx_Sn _ _ 34 (mx_callv 243 1 12 37) from sn_245 34) a56 s56 hc10 rfl rfl rfl ?_
        refine JcI (z := 0) (show mx_Sn _ _ 37 (mx_const (.int 0) 38) from sn_245 37) rfl ?_
        refine mx_J.step (ls2 := [some (.ref 56), some (xI x0), some (xI x1), some (xI 0), none, none]) (sn_245 38) (fun _ _ => rfl) ?_
        have c39 : ∀ (m11 : Nat) (w11_3 : Int) (u11_4 : Option Value) (u11_5 : Option Value) (Z12 : xZ) (h12 : mx_H), 9 - w11_3 < (m11 : Int) → 0 ≤ w11_3 ∧ w11_3 ≤ 9 → XH n s S Z12 h12 → GI n S Z12 → fr' [(76, (-1)), (77, (-1))] Z10 Z12 → mx_J (tB l D b0 ad Hb tau) mt_245 (d + 6) 39 [some (.ref 56), some (xI x0), some (xI x1), some (xI w11_3), u11_4, u11_5] [] h12 Post := by
          intro m11
          induction m11 with
          | zero => intro w11_3 u11_4 u11_5 Z12 h12 q11 f11_0 hx12 hG12 hf12; exact absurd q11 (by omega)
          | succ m11 ih11 =>
            intro w11_3 u11_4 u11_5 Z12 h12 q11 f11_0 hx12 hG12 hf12
            refine mx_J.step (sn_245 39) (fun _ _ => rfl) ?_
            refine mx_J.step (sn_245 40) (fun _ _ => rfl) ?_
            refine Jicmp_ge (show mx_Sn _ _ 41 (mx_icmp_ge 145 44) from sn_245 41) (by omega) (by omega) (fun q13 => ?_) (fun q13 => ?_)
            · skip
              refine JcL (z := 0) (show mx_Sn _ _ 145 (mx_const (.long 0) 146) from sn_245 145) rfl ?_
              refine mx_J.step (ls2 := [some (.ref 56), some (xI x0), some (xI x1), some (xL 0), none, u11_5]) (sn_245 146) (fun _ _ => rfl) ?_
              refine JcI (z := 0) (show mx_Sn _ _ 147 (mx_const (.int 0) 148) from sn_245 147) rfl ?_
              refine mx_J.step (ls2 := [some (.ref 56), some (xI x0), some (xI x1), some (xL 0), none, some (xI 0)]) (sn_245 148) (fun _ _ => rfl) ?_
              have c150 : ∀ (m14 : Nat) (w14_3 : Int) (w14_5 : Int), 385 - w14_5 < (m14 : Int) → (-9223372036854775808) ≤ w14_3 ∧ w14_3 ≤ 9223372036854775807 → 0 ≤ w14_5 ∧ w14_5 ≤ 385 → mx_J (tB l D b0 ad Hb tau) mt_245 (d + 6) 150 [some (.ref 56), some (xI x0), some (xI x1), some (xL w14_3), none, some (xI w14_5)] [] h12 Post := by
                intro m14
                induction m14 with
                | zero => intro w14_3 w14_5 q14 f14_0 f14_1; exact absurd q14 (by omega)
                | succ m14 ih14 =>
                  intro w14_3 w14_5 q14 f14_0 f14_1
                  refine mx_J.step (sn_245 150) (fun _ _ => rfl) ?_
                  refine mx_J.step (sn_245 152) (fun _ _ => rfl) ?_
                  refine JgetI (g := 18) (z := Z 56 18) hx12 (show mx_Sn _ _ 153 (mx_getf 12 18 156) from sn_245 153) a56 s56 rfl rfl ((hf12 56 18 rfl).trans ((hf10 56 18 rfl).trans ((hf7 56 18 rfl).trans (up_ni hE1 (by decide))))) ?_
                  refine Jicmp_ge (show mx_Sn _ _ 156 (mx_icmp_ge 189 159) from sn_245 156) (by omega) (by omega) (fun q16 => ?_) (fun q16 => ?_)
                  · skip
                    refine mx_J.step (sn_245 189) (fun _ _ => rfl) ?_
                    exact mx_J.ret (sn_245 190) (fun _ _ => rfl) (hP w14_3 Z12 h12 hx12 hG12 (fr_tr (M := [(56, 0), (62, (-1)), (64, (-1)), (65, (-1)), (73, (-1)), (76, (-1)), (77, (-1))]) (fr_tr (M := [(56, 0), (62, (-1)), (64, (-1)), (65, (-1)), (73, (-1)), (76, (-1)), (77, (-1))]) (fr_tr (M := [(56, 0), (62, (-1)), (64, (-1)), (65, (-1)), (73, (-1)), (76, (-1)), (77, (-1))]) (fr_tr (M := [(56, 0), (62, (-1)), (64, (-1)), (65, (-1)), (73, (-1)), (76, (-1)), (77, (-1))]) fr_rf (fr_up hE1) (M1 := []) rfl rfl) (hf7) rfl rfl) (hf10) rfl rfl) (hf12) rfl rfl) (by omega))
                  · skip
                    refine mx_J.step (sn_245 159) (fun _ _ => rfl) ?_
                    refine mx_J.step (sn_245 160) (fun _ _ => rfl) ?_
                    refine mx_J.step (sn_245 161) (fun _ _ => rfl) ?_
                    have eq18 : mn Z12 w14_5 = mn Z w14_5 := ((mn_c (fun i => hf12 61 i rfl)).trans ((mn_c (fun i => hf10 61 i rfl)).trans ((mn_c (fun i => hf7 61 i rfl)).trans (mn_c (fun i => up_nk hE1 rfl)))))
                    obtain ⟨z17, hc17, b17⟩ := ct_191_56 (d := d + 4) (l := l) (D := D) (b0 := b0) (ad := ad) (Hb := Hb) (tau := tau) hx12 hG12 (show 0 ≤ w14_5 ∧ w14_5 ≤ 384 by omega)
                    refine Jcv hx12 (show mx_Sn _ _ 163 (mx_callv 191 2 12 166) from sn_245 163) a56 s56 hc17 rfl rfl rfl ?_
                    refine mx_J.step (sn_245 166) (fun _ _ => rfl) ?_
                    have c181 : ∀ (k19_1 : Int), (-9223372036854775808) ≤ k19_1 ∧ k19_1 ≤ 9223372036854775807 → mx_J (tB l D b0 ad Hb tau) mt_245 (d + 6) 181 [some (.ref 56), some (xI x0), some (xI x1), some (xL w14_3), none, some (xI w14_5)] [xL k19_1, xL w14_3] h12 Post := by
                      intro k19_1 f19_0
                      refine JladdN (show mx_Sn _ _ 181 (mx_ladd 182) from sn_245 181) (fun y20 hy20 hq20 => ?_)
                      refine mx_J.step (ls2 := [some (.ref 56), some (xI x0), some (xI x1), some (xL y20), none, some (xI w14_5)]) (sn_245 182) (fun _ _ => rfl) ?_
                      refine Jiinc (z := w14_5) (cz := 1) (ls2 := [some (.ref 56), some (xI x0), some (xI x1), some (xL y20), none, some (xI (w14_5 + 1))]) (show mx_Sn _ _ 183 (mx_iinc 5 1 186) from sn_245 183) rfl rfl rfl rfl ?_
                      refine mx_J.step (sn_245 186) (fun _ _ => rfl) ?_
                      exact ih14 y20 (w14_5 + 1) (by omega) (by omega) (by omega)
                    refine Jicmp_ne (show mx_Sn _ _ 167 (mx_icmp_ne 180 170) from sn_245 167) (by omega) (by omega) (fun q21 => ?_) (fun q21 => ?_)
                    · skip
                      refine JcL (z := 0) (show mx_Sn _ _ 180 (mx_const (.long 0) 181) from sn_245 180) rfl ?_
                      exact c181 0 (by omega)
                    · skip
                      refine mx_J.step (sn_245 170) (fun _ _ => rfl) ?_
                      refine JgetR (g := 35) (b := 76) hx12 (show mx_Sn _ _ 171 (mx_getf 12 35 174) from sn_245 171) a56 s56 rfl rfl (hG12.prr 56 35 rfl) ?_
                      refine mx_J.step (sn_245 174) (fun _ _ => rfl) ?_
                      have b23 : (-9223372036854775808) ≤ Z12 76 w14_5 ∧ Z12 76 w14_5 ≤ 9223372036854775807 := hG12.pr 76 w14_5
                      refine JlaldL (z := Z12 76 w14_5) hx12 (show mx_Sn _ _ 176 (mx_lald 177) from sn_245 176) a76 s76 (by omega) rfl ?_
                      refine mx_J.step (sn_245 177) (fun _ _ => rfl) ?_
                      exact c181 (Z12 76 w14_5) (by omega)
              exact c150 (Int.toNat (385 - 0) + 1) 0 0 (by omega) (by omega) (by omega)
            · skip
              refine JcI (z := 0) (show mx_Sn _ _ 44 (mx_const (.int 0) 45) from sn_245 44) rfl ?_
              refine mx_J.step (ls2 := [some (.ref 56), some (xI x0), some (xI x1), some (xI w11_3), some (xI 0), u11_5]) (sn_245 45) (fun _ _ => rfl) ?_
              have c47 : ∀ (m24 : Nat) (w24_4 : Int) (u24_5 : Option Value) (Z25 : xZ) (h25 : mx_H), 385 - w24_4 < (m24 : Int) → 0 ≤ w24_4 ∧ w24_4 ≤ 385 → XH n s S Z25 h25 → GI n S Z25 → fr' [(77, (-1))] Z12 Z25 → mx_J (tB l D b0 ad Hb tau) mt_245 (d + 6) 47 [some (.ref 56), some (xI x0), some (xI x1), some (xI w11_3), some (xI w24_4), u24_5] [] h25 Post := by
                intro m24
                induction m24 with
                | zero => intro w24_4 u24_5 Z25 h25 q24 f24_0 hx25 hG25 hf25; exact absurd q24 (by omega)
                | succ m24 ih24 =>
                  intro w24_4 u24_5 Z25 h25 q24 f24_0 hx25 hG25 hf25
                  refine mx_J.step (sn_245 47) (fun _ _ => rfl) ?_
                  refine mx_J.step (sn_245 49) (fun _ _ => rfl) ?_
                  refine JgetI (g := 18) (z := Z 56 18) hx25 (show mx_Sn _ _ 50 (mx_getf 12 18 53) from sn_245 50) a56 s56 rfl rfl ((hf25 56 18 rfl).trans ((hf12 56 18 rfl).trans ((hf10 56 18 rfl).trans ((hf7 56 18 rfl).trans (up_ni hE1 (by decide)))))) ?_
                  refine Jicmp_ge (show mx_Sn _ _ 53 (mx_icmp_ge 135 56) from sn_245 53) (by omega) (by omega) (fun q27 => ?_) (fun q27 => ?_)
                  · skip
                    refine mx_J.step (sn_245 135) (fun _ _ => rfl) ?_
                    obtain ⟨Z28, h28, hc28, hx28, hG28, hf28⟩ := ct_244_56 (d := d + 5) (l := l) (D := D) (b0 := b0) (ad := ad) (Hb := Hb) (tau := tau) hx25 hG25 
                    refine Jcv0 hx25 (show mx_Sn _ _ 136 (mx_callv 244 1 12 139) from sn_245 136) a56 s56 hc28 rfl rfl rfl ?_
                    refine Jiinc (z := w11_3) (cz := 1) (ls2 := [some (.ref 56), some (xI x0), some (xI x1), some (xI (w11_3 + 1)), some (xI w24_4), u24_5]) (show mx_Sn _ _ 139 (mx_iinc 3 1 142) from sn_245 139) rfl rfl rfl rfl ?_
                    refine mx_J.step (sn_245 142) (fun _ _ => rfl) ?_
                    exact ih11 (w11_3 + 1) (some (xI w24_4)) u24_5 Z28 h28 (by omega) (by omega) hx28 hG28 (fr_tr (M := [(76, (-1)), (77, (-1))]) (fr_tr (M := [(76, (-1)), (77, (-1))]) (fr_tr (M := [(76, (-1)), (77, (-1))]) fr_rf (hf12) (M1 := []) rfl rfl) (hf25) rfl rfl) (hf28) rfl rfl)
                  · skip
                    refine JcI (z := 0) (show mx_Sn _ _ 56 (mx_const (.int 0) 57) from sn_245 56) rfl ?_
                    refine mx_J.step (ls2 := [some (.ref 56), some (xI x0), some (xI x1), some (xI w11_3), some (xI w24_4), some (xI 0)]) (sn_245 57) (fun _ _ => rfl) ?_
                    have c59 : ∀ (m29 : Nat) (w29_5 : Int) (Z30 : xZ) (h30 : mx_H), 19 - w29_5 < (m29 : Int) → 0 ≤ w29_5 ∧ w29_5 ≤ 19 → XH n s S Z30 h30 → GI n S Z30 → fr' [(77, (-1))] Z25 Z30 → mx_J (tB l D b0 ad Hb tau) mt_245 (d + 6) 59 [some (.ref 56), some (xI x0), some (xI x1), some (xI w11_3), some (xI w24_4), some (xI w29_5)] [] h30 Post := by
                      intro m29
                      induction m29 with
                      | zero => intro w29_5 Z30 h30 q29 f29_0 hx30 hG30 hf30; exact absurd q29 (by omega)
                      | succ m29 ih29 =>
                        intro w29_5 Z30 h30 q29 f29_0 hx30 hG30 hf30
                        refine mx_J.step (sn_245 59) (fun _ _ => rfl) ?_
                        refine JcI (z := 19) (show mx_Sn _ _ 61 (mx_const (.int 19) 63) from sn_245 61) rfl ?_
                        have c129 : mx_J (tB l D b0 ad Hb tau) mt_245 (d + 6) 129 [some (.ref 56), some (xI x0), some (xI x1), some (xI w11_3), some (xI w24_4), some (xI w29_5)] [] h30 Post := by
                          refine Jiinc (z := w24_4) (cz := 1) (ls2 := [some (.ref 56), some (xI x0), some (xI x1), some (xI w11_3), some (xI (w24_4 + 1)), some (xI w29_5)]) (show mx_Sn _ _ 129 (mx_iinc 4 1 132) from sn_245 129) rfl rfl rfl rfl ?_
                          refine mx_J.step (sn_245 132) (fun _ _ => rfl) ?_
                          exact ih24 (w24_4 + 1) (some (xI w29_5)) Z30 h30 (by omega) (by omega) hx30 hG30 (fr_tr (M := [(77, (-1))]) (fr_tr (M := [(77, (-1))]) fr_rf (hf25) (M1 := []) rfl rfl) (hf30) rfl rfl)
                        refine Jicmp_ge (show mx_Sn _ _ 63 (mx_icmp_ge 129 66) from sn_245 63) (by omega) (by omega) (fun q32 => ?_) (fun q32 => ?_)
                        · skip
                          exact c129 
                        · skip
                          refine mx_J.step (sn_245 66) (fun _ _ => rfl) ?_
                          refine JgetR (g := 35) (b := 76) hx30 (show mx_Sn _ _ 67 (mx_getf 12 35 70) from sn_245 67) a56 s56 rfl rfl (hG30.prr 56 35 rfl) ?_
                          refine mx_J.step (sn_245 70) (fun _ _ => rfl) ?_
                          have b34 : (-9223372036854775808) ≤ Z12 76 w24_4 ∧ Z12 76 w24_4 ≤ 9223372036854775807 := hG12.pr 76 w24_4
                          refine JlaldL (z := Z12 76 w24_4) hx30 (show mx_Sn _ _ 72 (mx_lald 73) from sn_245 72) a76 s76 (by omega) ((hf30 76 w24_4 rfl).trans (hf25 76 w24_4 rfl)) ?_
                          refine JcL (z := 0) (show mx_Sn _ _ 73 (mx_const (.long 0) 74) from sn_245 73) rfl ?_
                          refine Jlif_le (show mx_Sn _ _ 74 (mx_lif_le 129 78) from sn_245 74) (by omega) (by omega) (fun q35 => ?_) (fun q35 => ?_)
                          · skip
                            exact c129 
                          · skip
                            refine mx_J.step (sn_245 78) (fun _ _ => rfl) ?_
                            refine JgetR (g := 32) (b := 73) hx30 (show mx_Sn _ _ 79 (mx_getf 12 32 82) from sn_245 79) a56 s56 rfl rfl (hG30.prr 56 32 rfl) ?_
                            refine JcI (z := 19) (show mx_Sn _ _ 82 (mx_const (.int 19) 84) from sn_245 82) rfl ?_
                            refine mx_J.step (sn_245 84) (fun _ _ => rfl) ?_
                            refine Jimul (show mx_Sn _ _ 86 (mx_imul 87) from sn_245 86) ?_
                            refine mx_J.step (sn_245 87) (fun _ _ => rfl) ?_
                            refine Jiadd (show mx_Sn _ _ 89 (mx_iadd 90) from sn_245 89) ?_
                            have b37 : (-1) ≤ Z7 73 ((19 * w24_4) + w29_5) ∧ Z7 73 ((19 * w24_4) + w29_5) ≤ 384 := hG7.pr 73 ((19 * w24_4) + w29_5)
                            refine JialdI (z := Z7 73 ((19 * w24_4) + w29_5)) hx30 (show mx_Sn _ _ 90 (mx_iald 91) from sn_245 90) a73 s73 (by omega) ((hf30 73 ((19 * w24_4) + w29_5) rfl).trans ((hf25 73 ((19 * w24_4) + w29_5) rfl).trans ((hf12 73 ((19 * w24_4) + w29_5) rfl).trans (hf10 73 ((19 * w24_4) + w29_5) rfl)))) ?_
                            refine JcI (z := (-1)) (show mx_Sn _ _ 91 (mx_const (.int (-1)) 92) from sn_245 91) rfl ?_
                            have c123 : ∀  (Z39 : xZ) (h39 : mx_H), XH n s S Z39 h39 → GI n S Z39 → fr' [(77, (-1))] Z30 Z39 → mx_J (tB l D b0 ad Hb tau) mt_245 (d + 6) 123 [some (.ref 56), some (xI x0), some (xI x1), some (xI w11_3), some (xI w24_4), some (xI w29_5)] [] h39 Post := by
                              intro Z39 h39 hx39 hG39 hf39
                              refine Jiinc (z := w29_5) (cz := 1) (ls2 := [some (.ref 56), some (xI x0), some (xI x1), some (xI w11_3), some (xI w24_4), some (xI (w29_5 + 1))]) (show mx_Sn _ _ 123 (mx_iinc 5 1 126) from sn_245 123) rfl rfl rfl rfl ?_
                              refine mx_J.step (sn_245 126) (fun _ _ => rfl) ?_
                              exact ih29 (w29_5 + 1) Z39 h39 (by omega) (by omega) hx39 hG39 (fr_tr (M := [(77, (-1))]) (fr_tr (M := [(77, (-1))]) fr_rf (hf30) (M1 := []) rfl rfl) (hf39) rfl rfl)
                            refine Jicmp_eq (show mx_Sn _ _ 92 (mx_icmp_eq 123 95) from sn_245 92) (by omega) (by omega) (fun q40 => ?_) (fun q40 => ?_)
                            · skip
                              exact c123 Z30 h30 hx30 hG30 fr_rf
                            · skip
                              refine mx_J.step (sn_245 95) (fun _ _ => rfl) ?_
                              refine JgetR (g := 36) (b := 77) hx30 (show mx_Sn _ _ 96 (mx_getf 12 36 99) from sn_245 96) a56 s56 rfl rfl (hG30.prr 56 36 rfl) ?_
                              refine mx_J.step (sn_245 99) (fun _ _ => rfl) ?_
                              refine JgetR (g := 32) (b := 73) hx30 (show mx_Sn _ _ 100 (mx_getf 12 32 103) from sn_245 100) a56 s56 rfl rfl (hG30.prr 56 32 rfl) ?_
                              refine JcI (z := 19) (show mx_Sn _ _ 103 (mx_const (.int 19) 105) from sn_245 103) rfl ?_
                              refine mx_J.step (sn_245 105) (fun _ _ => rfl) ?_
                              refine Jimul (show mx_Sn _ _ 107 (mx_imul 108) from sn_245 107) ?_
                              refine mx_J.step (sn_245 108) (fun _ _ => rfl) ?_
                              refine Jiadd (show mx_Sn _ _ 110 (mx_iadd 111) from sn_245 110) ?_
                              refine JialdI (z := Z7 73 ((19 * w24_4) + w29_5)) hx30 (show mx_Sn _ _ 111 (mx_iald 112) from sn_245 111) a73 s73 (by omega) ((hf30 73 ((19 * w24_4) + w29_5) rfl).trans ((hf25 73 ((19 * w24_4) + w29_5) rfl).trans ((hf12 73 ((19 * w24_4) + w29_5) rfl).trans (hf10 73 ((19 * w24_4) + w29_5) rfl)))) ?_
                              refine mx_J.step (sn_245 112) (fun _ _ => rfl) ?_
                              have b43 : (-9223372036854775808) ≤ Z30 77 (Z7 73 ((19 * w24_4) + w29_5)) ∧ Z30 77 (Z7 73 ((19 * w24_4) + w29_5)) ≤ 9223372036854775807 := hG30.pr 77 (Z7 73 ((19 * w24_4) + w29_5))
                              refine JlaldL (z := Z30 77 (Z7 73 ((19 * w24_4) + w29_5))) hx30 (show mx_Sn _ _ 113 (mx_lald 114) from sn_245 113) a77 s77 (by omega) rfl ?_
                              refine mx_J.step (sn_245 114) (fun _ _ => rfl) ?_
                              refine JgetR (g := 35) (b := 76) hx30 (show mx_Sn _ _ 115 (mx_getf 12 35 118) from sn_245 115) a56 s56 rfl rfl (hG30.prr 56 35 rfl) ?_
                              refine mx_J.step (sn_245 118) (fun _ _ => rfl) ?_
                              refine JlaldL (z := Z12 76 w24_4) hx30 (show mx_Sn _ _ 120 (mx_lald 121) from sn_245 120) a76 s76 (by omega) ((hf30 76 w24_4 rfl).trans (hf25 76 w24_4 rfl)) ?_
                              refine JladdN (show mx_Sn _ _ 121 (mx_ladd 122) from sn_245 121) (fun y45 hy45 hq45 => ?_)
                              refine JlastL hx30 (show mx_Sn _ _ 122 (mx_last 1 123) from sn_245 122) a77 s77 rfl (by omega) (fun Z46 h46 hx46 hE46 => ?_)
                              have hG46 := GI_up hG30 hE46 (show (-9223372036854775808) ≤ y45 ∧ y45 ≤ 9223372036854775807 by omega) trivial rfl
                              exact c123 Z46 h46 hx46 hG46 (fr_tr (M := [(77, (-1))]) fr_rf (fr_ua hE46) (M1 := []) rfl rfl)
                    exact c59 (Int.toNat (19 - 0) + 1) 0 Z25 h25 (by omega) (by omega) hx25 hG25 fr_rf
              exact c47 (Int.toNat (385 - 0) + 1) 0 u11_5 Z12 h12 (by omega) (by omega) hx12 hG12 fr_rf
        exact c39 (Int.toNat (9 - 0) + 1) 0 none none Z10 h10 (by omega) (by omega) hx10 hG10 fr_rf
      · skip
        exact c25 
theorem ct_245_56 {l : Launch} {D : va_G} {b0 : Nat} {ad : Nat → Nat} {Hb : Heap} {tau : Nat → Int64} {d n s : Nat} {S : Nat → xS} {Z : xZ} {h : mx_H} (hx : XH n s S Z h) (hG : GI n S Z)  {x0 x1 : Int} (p0 : (-2147483648) ≤ x0 ∧ x0 ≤ 2147483647) (p1 : (-2147483648) ≤ x1 ∧ x1 ≤ 2147483647) : ∃ (z : Int) (Z' : xZ) (h' : mx_H), mx_Ca (tB l D b0 ad Hb tau) (d + 7) 245 [.ref 56, xI x0, xI x1] h (some (xL z), h') ∧ XH n s S Z' h' ∧ GI n S Z' ∧ fr' [(56, 0), (62, (-1)), (64, (-1)), (65, (-1)), (73, (-1)), (76, (-1)), (77, (-1))] Z Z' ∧ ((-9223372036854775808) ≤ z ∧ z ≤ 9223372036854775807) := by
  obtain ⟨r, hca, z, Z', h', e, q⟩ := Jmt (B := tB l D b0 ad Hb tau) (M := mt_245) (mi := 245) (as := [.ref 56, xI x0, xI x1]) (d := d + 6) (ls := [some (.ref 56), some (xI x0), some (xI x1), none, none, none]) rfl rfl rfl rfl rfl rfl (cw_245_56 (l := l) (D := D) (b0 := b0) (ad := ad) (Hb := Hb) (tau := tau) (d := d) (Post := fun r => ∃ (z : Int) (Z' : xZ) (h' : mx_H), r = (some (xL z), h') ∧ XH n s S Z' h' ∧ GI n S Z' ∧ fr' [(56, 0), (62, (-1)), (64, (-1)), (65, (-1)), (73, (-1)), (76, (-1)), (77, (-1))] Z Z' ∧ ((-9223372036854775808) ≤ z ∧ z ≤ 9223372036854775807)) hx hG p0 p1 (fun z Z' h' q1 q2 q3 q4 => ⟨z, Z', h', rfl, q1, q2, q3, q4⟩))
  subst e; exact ⟨z, Z', h', hca, q⟩
