set_option maxRecDepth 100000 in
theorem cw_221_56 {l : Launch} {D : va_G} {b0 : Nat} {ad : Nat → Nat} {Hb : Heap} {tau : Nat → Int64} {d n s : Nat} {S : Nat → xS} {Z : xZ} {h : mx_H} {Post : mx_R → Prop} (hx : XH n s S Z h) (hG : GI n S Z)  {x0 x1 : Int} (p0 : (-2147483648) ≤ x0 ∧ x0 ≤ 2147483647) (p1 : (-2147483648) ≤ x1 ∧ x1 ≤ 2147483647) (hP : ∀ (z : Int) (Z' : xZ) (h' : mx_H), XH n s S Z' h' → GI n S Z' → fr' [(56, 0), (56, 22), (57, (-1)), (62, (-1)), (64, (-1)), (65, (-1)), (66, (-1))] Z Z' → (-6) ≤ z ∧ z ≤ 384 ∧ (Z' 57 1 = Z 57 1 ∧ Z' 57 963 = Z 57 963 ∧ Z' 57 1925 = Z 57 1925) → Post (some (xI z), h')) : mx_J (tB l D b0 ad Hb tau) mt_221 (d + 8) 0 [some (.ref 56), some (xI x0), some (xI x1), none, none, none] [] h Post := by
    have a56 : 56 < n := lt83 (GI_n hG) rfl
    have s56 : S 56 = .inl (12, [0, 2, 2, 2, 2, 0, 0, 0, 0, 0, 0, 0, 0, 0, 0, 2, 2, 2, 0, 2, 2, 2, 0, 0, 2, 2, 2, 2, 2, 2, 0, 0, 2, 2, 2, 2, 2, 2, 2, 2, 2, 2]) := GI_s hG 56 rfl
    have a57 : 57 < n := lt83 (GI_n hG) rfl
    have s57 : S 57 = .inr (.int, 2886, 0) := GI_s hG 57 rfl
    refine mx_J.step (sn_221 0) (fun _ _ => rfl) ?_
    refine JcI (z := 0) (show mx_Sn _ _ 1 (mx_const (.int 0) 2) from sn_221 1) rfl ?_
    refine JputI (g := 0) hx (show mx_Sn _ _ 2 (mx_putf 1 12 0 (.int) 5) from sn_221 2) a56 s56 rfl rfl rfl rfl (fun Z1 h1 hx1 hE1 => ?_)
    have hG1 := GI_up hG hE1 (show (-2147483648) ≤ 0 ∧ 0 ≤ 2147483647 by omega) trivial rfl
    refine mx_J.step (sn_221 5) (fun _ _ => rfl) ?_
    refine Ji2l (show mx_Sn _ _ 6 (mx_i2l 7) from sn_221 6) (by omega) ?_
    refine JcL (z := 0) (show mx_Sn _ _ 7 (mx_const (.long 0) 8) from sn_221 7) rfl ?_
    refine JcL (z := 3) (show mx_Sn _ _ 8 (mx_const (.long 3) 11) from sn_221 8) rfl ?_
    obtain ⟨z2, hc2, b2⟩ := ct_154_ (d := d + 7) (l := l) (D := D) (b0 := b0) (ad := ad) (Hb := Hb) (tau := tau) hx1 hG1 (show (-9223372036854775808) ≤ x1 ∧ x1 ≤ 9223372036854775807 by omega) (show (-9223372036854775808) ≤ 0 ∧ 0 ≤ 9223372036854775807 by omega) (show (-9223372036854775808) ≤ 3 ∧ 3 ≤ 9223372036854775807 by omega)
    refine Jcs (show mx_Sn _ _ 11 (mx_calls 154 3 14) from sn_221 11) hc2 rfl rfl rfl ?_
    refine Jif_ne (show mx_Sn _ _ 14 (mx_if_ne 20 17) from sn_221 14) (by omega) (fun q3 => ?_) (fun q3 => ?_)
    · skip
      refine mx_J.step (sn_221 20) (fun _ _ => rfl) ?_
      refine mx_J.step (sn_221 21) (fun _ _ => rfl) ?_
      have eq5 : Z1 80 x0 = Z 80 x0 := (up_nk hE1 rfl)
      have b6 : (-1) ≤ Z 80 x0 ∧ Z 80 x0 ≤ 3 := hG.pr 80 x0
      obtain ⟨z4, hc4, b4⟩ := ct_220_56 (d := d + 6) (l := l) (D := D) (b0 := b0) (ad := ad) (Hb := Hb) (tau := tau) hx1 hG1 (show (-2147483648) ≤ x0 ∧ x0 ≤ 2147483647 by omega)
      try rw [eq5] at b4
      refine Jcv hx1 (show mx_Sn _ _ 22 (mx_callv 220 2 12 25) from sn_221 22) a56 s56 hc4 rfl rfl rfl ?_
      refine mx_J.step (ls2 := [some (.ref 56), some (xI x0), some (xI x1), some (xI z4), none, none]) (sn_221 25) (fun _ _ => rfl) ?_
      refine mx_J.step (sn_221 26) (fun _ _ => rfl) ?_
      refine Jif_eq (show mx_Sn _ _ 27 (mx_if_eq 32 30) from sn_221 27) (by omega) (fun q7 => ?_) (fun q7 => ?_)
      · skip
        refine mx_J.step (sn_221 32) (fun _ _ => rfl) ?_
        have eq9 : Z1 57 27 = Z 57 27 := (up_nk hE1 rfl)
        have b10 := GI_st hG 27
        have b11 : 0 ≤ Z 56 18 ∧ Z 56 18 ≤ 385 := hG.pr 56 18
        have b12 : 0 ≤ Z 57 27 ∧ Z 57 27 ≤ 384 := by have hq := GI_ex hG 57 27; replace hq : f57 (27 % 962) (Z 57 27) := hq; unfold f57 at hq; omega
        have b13 : (-2147483648) ≤ Z 57 27 ∧ Z 57 27 ≤ 2147483647 := hG.pr 57 27
        obtain ⟨Z8, h8, hc8, hx8, hG8, hf8, b8⟩ := ct_202_56 (d := d + 7) (l := l) (D := D) (b0 := b0) (ad := ad) (Hb := Hb) (tau := tau) hx1 hG1 
        try rw [eq9] at b8
        have b14 : (-2147483648) ≤ Z8 66 0 ∧ Z8 66 0 ≤ 2147483647 := hG8.pr 66 0
        have b15 : (((0 : Int) = 0 → 0 ≤ (Z8 66 0) ∧ (Z8 66 0) ≤ 384) ∧ ((0 : Int) = 1 → 0 ≤ (Z8 66 0) ∧ (Z8 66 0) ≤ 9)) := GI_ex hG8 66 0
        refine Jcv0 hx1 (show mx_Sn _ _ 33 (mx_callv 202 1 12 36) from sn_221 33) a56 s56 hc8 rfl rfl rfl ?_
        refine mx_J.step (sn_221 36) (fun _ _ => rfl) ?_
        refine mx_J.step (sn_221 37) (fun _ _ => rfl) ?_
        have eq17 : Z8 57 1 = Z 57 1 := ((hf8 57 1 rfl).trans (up_nk hE1 rfl))
        have b18 : 0 ≤ Z 57 1 ∧ Z 57 1 ≤ 18 := by have hq := GI_ex hG 57 1; replace hq : f57 (1 % 962) (Z 57 1) := hq; unfold f57 at hq; omega
        have b19 : (-2147483648) ≤ Z 57 1 ∧ Z 57 1 ≤ 2147483647 := hG.pr 57 1
        have eq20 : Z8 57 963 = Z 57 963 := ((hf8 57 963 rfl).trans (up_nk hE1 rfl))
        have b21 : 0 ≤ Z 57 963 ∧ Z 57 963 ≤ 18 := by have hq := GI_ex hG 57 963; replace hq : f57 (963 % 962) (Z 57 963) := hq; unfold f57 at hq; omega
        have b22 : (-2147483648) ≤ Z 57 963 ∧ Z 57 963 ≤ 2147483647 := hG.pr 57 963
        have eq23 : Z8 57 1925 = Z 57 1925 := ((hf8 57 1925 rfl).trans (up_nk hE1 rfl))
        have b24 : 0 ≤ Z 57 1925 ∧ Z 57 1925 ≤ 18 := by have hq := GI_ex hG 57 1925; replace hq : f57 (1925 % 962) (Z 57 1925) := hq; unfold f57 at hq; omega
        have b25 : (-2147483648) ≤ Z 57 1925 ∧ Z 57 1925 ≤ 2147483647 := hG.pr 57 1925
        obtain ⟨z16, Z16, h16, hc16, hx16, hG16, hf16, b16⟩ := ct_219_56 (d := d + 0) (l := l) (D := D) (b0 := b0) (ad := ad) (Hb := Hb) (tau := tau) hx8 hG8 (show 0 ≤ x0 ∧ x0 ≤ 3 by omega)
        try rw [eq17] at b16
        try rw [eq20] at b16
        try rw [eq23] at b16
        have b26 : 0 ≤ Z16 57 1 ∧ Z16 57 1 ≤ 18 := by have hq := GI_ex hG16 57 1; replace hq : f57 (1 % 962) (Z16 57 1) := hq; unfold f57 at hq; omega
        have b27 : (-2147483648) ≤ Z16 57 1 ∧ Z16 57 1 ≤ 2147483647 := hG16.pr 57 1
        have b28 : 0 ≤ Z16 57 963 ∧ Z16 57 963 ≤ 18 := by have hq := GI_ex hG16 57 963; replace hq : f57 (963 % 962) (Z16 57 963) := hq; unfold f57 at hq; omega
        have b29 : (-2147483648) ≤ Z16 57 963 ∧ Z16 57 963 ≤ 2147483647 := hG16.pr 57 963
        have b30 : 0 ≤ Z16 57 1925 ∧ Z16 57 1925 ≤ 18 := by have hq := GI_ex hG16 57 1925; replace hq : f57 (1925 % 962) (Z16 57 1925) := hq; unfold f57 at hq; omega
        have b31 : (-2147483648) ≤ Z16 57 1925 ∧ Z16 57 1925 ≤ 2147483647 := hG16.pr 57 1925
        refine Jcv hx8 (show mx_Sn _ _ 38 (mx_callv 219 2 12 41) from sn_221 38) a56 s56 hc16 rfl rfl rfl ?_
        refine mx_J.step (ls2 := [some (.ref 56), some (xI x0), some (xI x1), some (xI z4), some (xI z16), none]) (sn_221 41) (fun _ _ => rfl) ?_
        refine mx_J.step (sn_221 43) (fun _ _ => rfl) ?_
        refine JgetR (g := 1) (b := 57) hx16 (show mx_Sn _ _ 44 (mx_getf 12 1 47) from sn_221 44) a56 s56 rfl rfl (hG16.prr 56 1 rfl) ?_
        refine JcI (z := 27) (show mx_Sn _ _ 47 (mx_const (.int 27) 49) from sn_221 47) rfl ?_
        have b33 := GI_st hG16 27
        have eq34 : Z16 56 18 = Z 56 18 := ((hf16 56 18 rfl).trans ((hf8 56 18 rfl).trans (up_ni hE1 (by decide))))
        have b35 : 0 ≤ Z16 57 27 ∧ Z16 57 27 ≤ 384 := by have hq := GI_ex hG16 57 27; replace hq : f57 (27 % 962) (Z16 57 27) := hq; unfold f57 at hq; omega
        have b36 : (-2147483648) ≤ Z16 57 27 ∧ Z16 57 27 ≤ 2147483647 := hG16.pr 57 27
        refine JialdI (z := Z16 57 27) hx16 (show mx_Sn _ _ 49 (mx_iald 50) from sn_221 49) a57 s57 (by omega) rfl ?_
        refine mx_J.step (ls2 := [some (.ref 56), some (xI x0), some (xI x1), some (xI z4), some (xI z16), some (xI (Z16 57 27))]) (sn_221 50) (fun _ _ => rfl) ?_
        refine mx_J.step (sn_221 52) (fun _ _ => rfl) ?_
        have eq38 : Z16 66 0 = Z8 66 0 := (hf16 66 0 rfl)
        have eq39 : Z16 56 18 = Z 56 18 := ((hf16 56 18 rfl).trans ((hf8 56 18 rfl).trans (up_ni hE1 (by decide))))
        obtain ⟨Z37, h37, hc37, hx37, hG37, hf37, b37⟩ := ct_203_56 (d := d + 7) (l := l) (D := D) (b0 := b0) (ad := ad) (Hb := Hb) (tau := tau) hx16 hG16  (show Z16 66 0 < Z16 56 18 by first | omega | (simp only [eq38, eq39]; omega))
        try rw [eq38] at b37
        try rw [eq39] at b37
        have b40 : 0 ≤ Z37 57 1 ∧ Z37 57 1 ≤ 18 := by have hq := GI_ex hG37 57 1; replace hq : f57 (1 % 962) (Z37 57 1) := hq; unfold f57 at hq; omega
        have b41 : (-2147483648) ≤ Z37 57 1 ∧ Z37 57 1 ≤ 2147483647 := hG37.pr 57 1
        have b42 : 0 ≤ Z37 57 963 ∧ Z37 57 963 ≤ 18 := by have hq := GI_ex hG37 57 963; replace hq : f57 (963 % 962) (Z37 57 963) := hq; unfold f57 at hq; omega
        have b43 : (-2147483648) ≤ Z37 57 963 ∧ Z37 57 963 ≤ 2147483647 := hG37.pr 57 963
        have b44 : 0 ≤ Z37 57 1925 ∧ Z37 57 1925 ≤ 18 := by have hq := GI_ex hG37 57 1925; replace hq : f57 (1925 % 962) (Z37 57 1925) := hq; unfold f57 at hq; omega
        have b45 : (-2147483648) ≤ Z37 57 1925 ∧ Z37 57 1925 ≤ 2147483647 := hG37.pr 57 1925
        refine Jcv0 hx16 (show mx_Sn _ _ 53 (mx_callv 203 1 12 56) from sn_221 53) a56 s56 hc37 rfl rfl rfl ?_
        refine mx_J.step (sn_221 56) (fun _ _ => rfl) ?_
        have c104 : ∀ (k46_0 : Int), (-1) ≤ k46_0 ∧ k46_0 ≤ 384 → mx_J (tB l D b0 ad Hb tau) mt_221 (d + 8) 104 [some (.ref 56), some (xI x0), some (xI x1), some (xI z4), some (xI z16), some (xI (Z16 57 27))] [xI k46_0] h37 Post := by
          intro k46_0 f46_0
          exact mx_J.ret (sn_221 104) (fun _ _ => rfl) (hP k46_0 Z37 h37 hx37 hG37 (fr_tr (M := [(56, 0), (56, 22), (57, (-1)), (62, (-1)), (64, (-1)), (65, (-1)), (66, (-1))]) (fr_tr (M := [(56, 0), (56, 22), (57, (-1)), (62, (-1)), (64, (-1)), (65, (-1)), (66, (-1))]) (fr_tr (M := [(56, 0), (56, 22), (57, (-1)), (62, (-1)), (64, (-1)), (65, (-1)), (66, (-1))]) (fr_tr (M := [(56, 0), (56, 22), (57, (-1)), (62, (-1)), (64, (-1)), (65, (-1)), (66, (-1))]) fr_rf (fr_up hE1) (M1 := []) rfl rfl) (hf8) rfl rfl) (hf16) rfl rfl) (hf37) rfl rfl) (by omega))
        refine Jif_ne (show mx_Sn _ _ 57 (mx_if_ne 76 60) from sn_221 57) (by omega) (fun q47 => ?_) (fun q47 => ?_)
        · skip
          refine mx_J.step (sn_221 76) (fun _ _ => rfl) ?_
          refine JcI (z := 1) (show mx_Sn _ _ 77 (mx_const (.int 1) 78) from sn_221 77) rfl ?_
          refine Jicmp_ne (show mx_Sn _ _ 78 (mx_icmp_ne 88 81) from sn_221 78) (by omega) (by omega) (fun q48 => ?_) (fun q48 => ?_)
          · skip
            refine mx_J.step (sn_221 88) (fun _ _ => rfl) ?_
            refine JcI (z := 2) (show mx_Sn _ _ 89 (mx_const (.int 2) 90) from sn_221 89) rfl ?_
            refine Jicmp_ne (show mx_Sn _ _ 90 (mx_icmp_ne 102 93) from sn_221 90) (by omega) (by omega) (fun q49 => ?_) (fun q49 => ?_)
            · skip
              refine mx_J.step (sn_221 102) (fun _ _ => rfl) ?_
              exact c104 (Z16 57 27) (by omega)
            · skip
              refine mx_J.step (sn_221 93) (fun _ _ => rfl) ?_
              refine mx_J.step (sn_221 94) (fun _ _ => rfl) ?_
              have eq51 : mn Z37 (Z16 57 27) = mn Z (Z16 57 27) := ((mn_c (fun i => hf37 61 i rfl)).trans ((mn_c (fun i => hf16 61 i rfl)).trans ((mn_c (fun i => hf8 61 i rfl)).trans (mn_c (fun i => up_nk hE1 rfl)))))
              obtain ⟨z50, hc50, b50⟩ := ct_191_56 (d := d + 6) (l := l) (D := D) (b0 := b0) (ad := ad) (Hb := Hb) (tau := tau) hx37 hG37 (show 0 ≤ Z16 57 27 ∧ Z16 57 27 ≤ 384 by omega)
              refine Jcv hx37 (show mx_Sn _ _ 96 (mx_callv 191 2 12 99) from sn_221 96) a56 s56 hc50 rfl rfl rfl ?_
              refine mx_J.step (sn_221 99) (fun _ _ => rfl) ?_
              exact c104 z50 (by omega)
          · skip
            refine mx_J.step (sn_221 81) (fun _ _ => rfl) ?_
            have b53 : 0 ≤ Z16 56 22 ∧ Z16 56 22 ≤ 2 := hG16.pr 56 22
            refine JgetI (g := 22) (z := Z16 56 22) hx37 (show mx_Sn _ _ 82 (mx_getf 12 22 85) from sn_221 82) a56 s56 rfl rfl (hf37 56 22 rfl) ?_
            refine mx_J.step (sn_221 85) (fun _ _ => rfl) ?_
            exact c104 (Z16 56 22) (by omega)
        · skip
          refine mx_J.step (sn_221 60) (fun _ _ => rfl) ?_
          have b55 : 0 ≤ Z16 56 22 ∧ Z16 56 22 ≤ 2 := hG16.pr 56 22
          refine JgetI (g := 22) (z := Z16 56 22) hx37 (show mx_Sn _ _ 61 (mx_getf 12 22 64) from sn_221 61) a56 s56 rfl rfl (hf37 56 22 rfl) ?_
          refine Jif_ne (show mx_Sn _ _ 64 (mx_if_ne 71 67) from sn_221 64) (by omega) (fun q56 => ?_) (fun q56 => ?_)
          · skip
            refine mx_J.step (sn_221 71) (fun _ _ => rfl) ?_
            refine mx_J.step (sn_221 73) (fun _ _ => rfl) ?_
            exact c104 z16 (by omega)
          · skip
            refine JcI (z := (-1)) (show mx_Sn _ _ 67 (mx_const (.int (-1)) 68) from sn_221 67) rfl ?_
            refine mx_J.step (sn_221 68) (fun _ _ => rfl) ?_
            exact c104 (-1) (by omega)
      · skip
        refine mx_J.step (sn_221 30) (fun _ _ => rfl) ?_
        have eq57 : Z1 57 1 = Z 57 1 := (up_nk hE1 rfl)
        have b58 : 0 ≤ Z 57 1 ∧ Z 57 1 ≤ 18 := by have hq := GI_ex hG 57 1; replace hq : f57 (1 % 962) (Z 57 1) := hq; unfold f57 at hq; omega
        have b59 : (-2147483648) ≤ Z 57 1 ∧ Z 57 1 ≤ 2147483647 := hG.pr 57 1
        have eq60 : Z1 57 963 = Z 57 963 := (up_nk hE1 rfl)
        have b61 : 0 ≤ Z 57 963 ∧ Z 57 963 ≤ 18 := by have hq := GI_ex hG 57 963; replace hq : f57 (963 % 962) (Z 57 963) := hq; unfold f57 at hq; omega
        have b62 : (-2147483648) ≤ Z 57 963 ∧ Z 57 963 ≤ 2147483647 := hG.pr 57 963
        have eq63 : Z1 57 1925 = Z 57 1925 := (up_nk hE1 rfl)
        have b64 : 0 ≤ Z 57 1925 ∧ Z 57 1925 ≤ 18 := by have hq := GI_ex hG 57 1925; replace hq : f57 (1925 % 962) (Z 57 1925) := hq; unfold f57 at hq; omega
        have b65 : (-2147483648) ≤ Z 57 1925 ∧ Z 57 1925 ≤ 2147483647 := hG.pr 57 1925
        have eq66 : Z1 57 1 = Z 57 1 := (up_nk hE1 rfl)
        have eq67 : Z1 57 963 = Z 57 963 := (up_nk hE1 rfl)
        have eq68 : Z1 57 1925 = Z 57 1925 := (up_nk hE1 rfl)
        exact mx_J.ret (sn_221 31) (fun _ _ => rfl) (hP z4 Z1 h1 hx1 hG1 (fr_tr (M := [(56, 0), (56, 22), (57, (-1)), (62, (-1)), (64, (-1)), (65, (-1)), (66, (-1))]) fr_rf (fr_up hE1) (M1 := []) rfl rfl) (by omega))
    · skip
      refine JcI (z := (-2)) (show mx_Sn _ _ 17 (mx_const (.int (-2)) 19) from sn_221 17) rfl ?_
      have eq69 : Z1 57 1 = Z 57 1 := (up_nk hE1 rfl)
      have b70 : 0 ≤ Z 57 1 ∧ Z 57 1 ≤ 18 := by have hq := GI_ex hG 57 1; replace hq : f57 (1 % 962) (Z 57 1) := hq; unfold f57 at hq; omega
      have b71 : (-2147483648) ≤ Z 57 1 ∧ Z 57 1 ≤ 2147483647 := hG.pr 57 1
      have eq72 : Z1 57 963 = Z 57 963 := (up_nk hE1 rfl)
      have b73 : 0 ≤ Z 57 963 ∧ Z 57 963 ≤ 18 := by have hq := GI_ex hG 57 963; replace hq : f57 (963 % 962) (Z 57 963) := hq; unfold f57 at hq; omega
      have b74 : (-2147483648) ≤ Z 57 963 ∧ Z 57 963 ≤ 2147483647 := hG.pr 57 963
      have eq75 : Z1 57 1925 = Z 57 1925 := (up_nk hE1 rfl)
      have b76 : 0 ≤ Z 57 1925 ∧ Z 57 1925 ≤ 18 := by have hq := GI_ex hG 57 1925; replace hq : f57 (1925 % 962) (Z 57 1925) := hq; unfold f57 at hq; omega
      have b77 : (-2147483648) ≤ Z 57 1925 ∧ Z 57 1925 ≤ 2147483647 := hG.pr 57 1925
      have eq78 : Z1 57 1 = Z 57 1 := (up_nk hE1 rfl)
      have eq79 : Z1 57 963 = Z 57 963 := (up_nk hE1 rfl)
      have eq80 : Z1 57 1925 = Z 57 1925 := (up_nk hE1 rfl)
      exact mx_J.ret (sn_221 19) (fun _ _ => rfl) (hP (-2) Z1 h1 hx1 hG1 (fr_tr (M := [(56, 0), (56, 22), (57, (-1)), (62, (-1)), (64, (-1)), (65, (-1)), (66, (-1))]) fr_rf (fr_up hE1) (M1 := []) rfl rfl) (by omega))
theorem ct_221_56 {l : Launch} {D : va_G} {b0 : Nat} {ad : Nat → Nat} {Hb : Heap} {tau : Nat → Int64} {d n s : Nat} {S : Nat → xS} {Z : xZ} {h : mx_H} (hx : XH n s S Z h) (hG : GI n S Z)  {x0 x1 : Int} (p0 : (-2147483648) ≤ x0 ∧ x0 ≤ 2147483647) (p1 : (-2147483648) ≤ x1 ∧ x1 ≤ 2147483647) : ∃ (z : Int) (Z' : xZ) (h' : mx_H), mx_Ca (tB l D b0 ad Hb tau) (d + 9) 221 [.ref 56, xI x0, xI x1] h (some (xI z), h') ∧ XH n s S Z' h' ∧ GI n S Z' ∧ fr' [(56, 0), (56, 22), (57, (-1)), (62, (-1)), (64, (-1)), (65, (-1)), (66, (-1))] Z Z' ∧ ((-6) ≤ z ∧ z ≤ 384 ∧ (Z' 57 1 = Z 57 1 ∧ Z' 57 963 = Z 57 963 ∧ Z' 57 1925 = Z 57 1925)) := by
  obtain ⟨r, hca, z, Z', h', e, q⟩ := Jmt (B := tB l D b0 ad Hb tau) (M := mt_221) (mi := 221) (as := [.ref 56, xI x0, xI x1]) (d := d + 8) (ls := [some (.ref 56), some (xI x0), some (xI x1), none, none, none]) rfl rfl rfl rfl rfl rfl (cw_221_56 (l := l) (D := D) (b0 := b0) (ad := ad) (Hb := Hb) (tau := tau) (d := d) (Post := fun r => ∃ (z : Int) (Z' : xZ) (h' : mx_H), r = (some (xI z), h') ∧ XH n s S Z' h' ∧ GI n S Z' ∧ fr' [(56, 0), (56, 22), (57, (-1)), (62, (-1)), (64, (-1)), (65, (-1)), (66, (-1))] Z Z' ∧ ((-6) ≤ z ∧ z ≤ 384 ∧ (Z' 57 1 = Z 57 1 ∧ Z' 57 963 = Z 57 963 ∧ Z' 57 1925 = Z 57 1925))) hx hG p0 p1 (fun z Z' h' q1 q2 q3 q4 => ⟨z, Z', h', rfl, q1, q2, q3, q4⟩))
  subst e; exact ⟨z, Z', h', hca, q⟩
set_option maxRecDepth 100000 in
theorem cw_222_56 {l : Launch} {D : va_G} {b0 : Nat} {ad : Nat → Nat} {Hb : Heap} {tau : Nat → Int64} {d n s : Nat} {S : Nat → xS} {Z : xZ} {h : mx_H} {Post : mx_R → Prop} (hx : XH n s S Z h) (hG : GI n S Z)  {x0 : Int} (p0 : (-2147483648) ≤ x0 ∧ x0 ≤ 2147483647) (hP : ∀ (z : Int) (Z' : xZ) (h' : mx_H), XH n s S Z' h' → GI n S Z' → fr' [(56, 0), (56, 22), (57, (-1)), (62, (-1)), (64, (-1)), (65, (-1)), (66, (-1))] Z Z' → (-6) ≤ z ∧ z ≤ 40 ∧ (Z' 57 1 = Z 57 1 ∧ Z' 57 963 = Z 57 963 ∧ Z' 57 1925 = Z 57 1925) → Post (some (xI z), h')) : mx_J (tB l D b0 ad Hb tau) mt_222 (d + 8) 0 [some (.ref 56), some (xI x0), none, none] [] h Post := by
    have a56 : 56 < n := lt83 (GI_n hG) rfl
    have s56 : S 56 = .inl (12, [0, 2, 2, 2, 2, 0, 0, 0, 0, 0, 0, 0, 0, 0, 0, 2, 2, 2, 0, 2, 2, 2, 0, 0, 2, 2, 2, 2, 2, 2, 0, 0, 2, 2, 2, 2, 2, 2, 2, 2, 2, 2]) := GI_s hG 56 rfl
    refine mx_J.step (sn_222 0) (fun _ _ => rfl) ?_
    refine JcI (z := 0) (show mx_Sn _ _ 1 (mx_const (.int 0) 2) from sn_222 1) rfl ?_
    refine JputI (g := 0) hx (show mx_Sn _ _ 2 (mx_putf 1 12 0 (.int) 5) from sn_222 2) a56 s56 rfl rfl rfl rfl (fun Z1 h1 hx1 hE1 => ?_)
    have hG1 := GI_up hG hE1 (show (-2147483648) ≤ 0 ∧ 0 ≤ 2147483647 by omega) trivial rfl
    refine mx_J.step (sn_222 5) (fun _ _ => rfl) ?_
    refine mx_J.step (sn_222 6) (fun _ _ => rfl) ?_
    have eq3 : Z1 80 x0 = Z 80 x0 := (up_nk hE1 rfl)
    have b4 : (-1) ≤ Z 80 x0 ∧ Z 80 x0 ≤ 3 := hG.pr 80 x0
    obtain ⟨z2, hc2, b2⟩ := ct_220_56 (d := d + 6) (l := l) (D := D) (b0 := b0) (ad := ad) (Hb := Hb) (tau := tau) hx1 hG1 (show (-2147483648) ≤ x0 ∧ x0 ≤ 2147483647 by omega)
    try rw [eq3] at b2
    refine Jcv hx1 (show mx_Sn _ _ 7 (mx_callv 220 2 12 10) from sn_222 7) a56 s56 hc2 rfl rfl rfl ?_
    refine mx_J.step (ls2 := [some (.ref 56), some (xI x0), some (xI z2), none]) (sn_222 10) (fun _ _ => rfl) ?_
    refine mx_J.step (sn_222 11) (fun _ _ => rfl) ?_
    refine Jif_eq (show mx_Sn _ _ 12 (mx_if_eq 17 15) from sn_222 12) (by omega) (fun q5 => ?_) (fun q5 => ?_)
    · skip
      refine mx_J.step (sn_222 17) (fun _ _ => rfl) ?_
      have eq7 : Z1 57 27 = Z 57 27 := (up_nk hE1 rfl)
      have b8 := GI_st hG 27
      have b9 : 0 ≤ Z 56 18 ∧ Z 56 18 ≤ 385 := hG.pr 56 18
      have b10 : 0 ≤ Z 57 27 ∧ Z 57 27 ≤ 384 := by have hq := GI_ex hG 57 27; replace hq : f57 (27 % 962) (Z 57 27) := hq; unfold f57 at hq; omega
      have b11 : (-2147483648) ≤ Z 57 27 ∧ Z 57 27 ≤ 2147483647 := hG.pr 57 27
      obtain ⟨Z6, h6, hc6, hx6, hG6, hf6, b6⟩ := ct_202_56 (d := d + 7) (l := l) (D := D) (b0 := b0) (ad := ad) (Hb := Hb) (tau := tau) hx1 hG1 
      try rw [eq7] at b6
      have b12 : (-2147483648) ≤ Z6 66 0 ∧ Z6 66 0 ≤ 2147483647 := hG6.pr 66 0
      have b13 : (((0 : Int) = 0 → 0 ≤ (Z6 66 0) ∧ (Z6 66 0) ≤ 384) ∧ ((0 : Int) = 1 → 0 ≤ (Z6 66 0) ∧ (Z6 66 0) ≤ 9)) := GI_ex hG6 66 0
      refine Jcv0 hx1 (show mx_Sn _ _ 18 (mx_callv 202 1 12 21) from sn_222 18) a56 s56 hc6 rfl rfl rfl ?_
      refine mx_J.step (sn_222 21) (fun _ _ => rfl) ?_
      refine mx_J.step (sn_222 22) (fun _ _ => rfl) ?_
      have eq15 : Z6 57 1 = Z 57 1 := ((hf6 57 1 rfl).trans (up_nk hE1 rfl))
      have b16 : 0 ≤ Z 57 1 ∧ Z 57 1 ≤ 18 := by have hq := GI_ex hG 57 1; replace hq : f57 (1 % 962) (Z 57 1) := hq; unfold f57 at hq; omega
      have b17 : (-2147483648) ≤ Z 57 1 ∧ Z 57 1 ≤ 2147483647 := hG.pr 57 1
      have eq18 : Z6 57 963 = Z 57 963 := ((hf6 57 963 rfl).trans (up_nk hE1 rfl))
      have b19 : 0 ≤ Z 57 963 ∧ Z 57 963 ≤ 18 := by have hq := GI_ex hG 57 963; replace hq : f57 (963 % 962) (Z 57 963) := hq; unfold f57 at hq; omega
      have b20 : (-2147483648) ≤ Z 57 963 ∧ Z 57 963 ≤ 2147483647 := hG.pr 57 963
      have eq21 : Z6 57 1925 = Z 57 1925 := ((hf6 57 1925 rfl).trans (up_nk hE1 rfl))
      have b22 : 0 ≤ Z 57 1925 ∧ Z 57 1925 ≤ 18 := by have hq := GI_ex hG 57 1925; replace hq : f57 (1925 % 962) (Z 57 1925) := hq; unfold f57 at hq; omega
      have b23 : (-2147483648) ≤ Z 57 1925 ∧ Z 57 1925 ≤ 2147483647 := hG.pr 57 1925
      obtain ⟨z14, Z14, h14, hc14, hx14, hG14, hf14, b14⟩ := ct_219_56 (d := d + 0) (l := l) (D := D) (b0 := b0) (ad := ad) (Hb := Hb) (tau := tau) hx6 hG6 (show 0 ≤ x0 ∧ x0 ≤ 3 by omega)
      try rw [eq15] at b14
      try rw [eq18] at b14
      try rw [eq21] at b14
      have b24 : 0 ≤ Z14 57 1 ∧ Z14 57 1 ≤ 18 := by have hq := GI_ex hG14 57 1; replace hq : f57 (1 % 962) (Z14 57 1) := hq; unfold f57 at hq; omega
      have b25 : (-2147483648) ≤ Z14 57 1 ∧ Z14 57 1 ≤ 2147483647 := hG14.pr 57 1
      have b26 : 0 ≤ Z14 57 963 ∧ Z14 57 963 ≤ 18 := by have hq := GI_ex hG14 57 963; replace hq : f57 (963 % 962) (Z14 57 963) := hq; unfold f57 at hq; omega
      have b27 : (-2147483648) ≤ Z14 57 963 ∧ Z14 57 963 ≤ 2147483647 := hG14.pr 57 963
      have b28 : 0 ≤ Z14 57 1925 ∧ Z14 57 1925 ≤ 18 := by have hq := GI_ex hG14 57 1925; replace hq : f57 (1925 % 962) (Z14 57 1925) := hq; unfold f57 at hq; omega
      have b29 : (-2147483648) ≤ Z14 57 1925 ∧ Z14 57 1925 ≤ 2147483647 := hG14.pr 57 1925
      refine Jcv hx6 (show mx_Sn _ _ 23 (mx_callv 219 2 12 26) from sn_222 23) a56 s56 hc14 rfl rfl rfl ?_
      refine mx_J.step (ls2 := [some (.ref 56), some (xI x0), some (xI z2), some (xI z14)]) (sn_222 26) (fun _ _ => rfl) ?_
      refine mx_J.step (sn_222 27) (fun _ _ => rfl) ?_
      have c35 : ∀  (Z31 : xZ) (h31 : mx_H), (Z31 57 1 = Z 57 1 ∧ Z31 57 963 = Z 57 963 ∧ Z31 57 1925 = Z 57 1925) → XH n s S Z31 h31 → GI n S Z31 → fr' [(57, (-1))] Z14 Z31 → mx_J (tB l D b0 ad Hb tau) mt_222 (d + 8) 35 [some (.ref 56), some (xI x0), some (xI z2), some (xI z14)] [] h31 Post := by
        intro Z31 h31 f30_0 hx31 hG31 hf31
        have b32 : 0 ≤ Z31 57 1 ∧ Z31 57 1 ≤ 18 := by have hq := GI_ex hG31 57 1; replace hq : f57 (1 % 962) (Z31 57 1) := hq; unfold f57 at hq; omega
        have b33 : (-2147483648) ≤ Z31 57 1 ∧ Z31 57 1 ≤ 2147483647 := hG31.pr 57 1
        have b34 : 0 ≤ Z31 57 963 ∧ Z31 57 963 ≤ 18 := by have hq := GI_ex hG31 57 963; replace hq : f57 (963 % 962) (Z31 57 963) := hq; unfold f57 at hq; omega
        have b35 : (-2147483648) ≤ Z31 57 963 ∧ Z31 57 963 ≤ 2147483647 := hG31.pr 57 963
        have b36 : 0 ≤ Z31 57 1925 ∧ Z31 57 1925 ≤ 18 := by have hq := GI_ex hG31 57 1925; replace hq : f57 (1925 % 962) (Z31 57 1925) := hq; unfold f57 at hq; omega
        have b37 : (-2147483648) ≤ Z31 57 1925 ∧ Z31 57 1925 ≤ 2147483647 := hG31.pr 57 1925
        refine mx_J.step (sn_222 35) (fun _ _ => rfl) ?_
        exact mx_J.ret (sn_222 36) (fun _ _ => rfl) (hP z14 Z31 h31 hx31 hG31 (fr_tr (M := [(56, 0), (56, 22), (57, (-1)), (62, (-1)), (64, (-1)), (65, (-1)), (66, (-1))]) (fr_tr (M := [(56, 0), (56, 22), (57, (-1)), (62, (-1)), (64, (-1)), (65, (-1)), (66, (-1))]) (fr_tr (M := [(56, 0), (56, 22), (57, (-1)), (62, (-1)), (64, (-1)), (65, (-1)), (66, (-1))]) (fr_tr (M := [(56, 0), (56, 22), (57, (-1)), (62, (-1)), (64, (-1)), (65, (-1)), (66, (-1))]) fr_rf (fr_up hE1) (M1 := []) rfl rfl) (hf6) rfl rfl) (hf14) rfl rfl) (hf31) rfl rfl) (by omega))
      refine Jif_le (show mx_Sn _ _ 28 (mx_if_le 35 31) from sn_222 28) (by omega) (fun q38 => ?_) (fun q38 => ?_)
      · skip
        exact c35 Z14 h14 (by omega) hx14 hG14 fr_rf
      · skip
        refine mx_J.step (sn_222 31) (fun _ _ => rfl) ?_
        have eq40 : Z14 66 0 = Z6 66 0 := (hf14 66 0 rfl)
        have eq41 : Z14 56 18 = Z 56 18 := ((hf14 56 18 rfl).trans ((hf6 56 18 rfl).trans (up_ni hE1 (by decide))))
        obtain ⟨Z39, h39, hc39, hx39, hG39, hf39, b39⟩ := ct_204_56 (d := d + 7) (l := l) (D := D) (b0 := b0) (ad := ad) (Hb := Hb) (tau := tau) hx14 hG14  (show Z14 66 0 < Z14 56 18 by first | omega | (simp only [eq40, eq41]; omega))
        try rw [eq40] at b39
        try rw [eq41] at b39
        have b42 : 0 ≤ Z39 57 1 ∧ Z39 57 1 ≤ 18 := by have hq := GI_ex hG39 57 1; replace hq : f57 (1 % 962) (Z39 57 1) := hq; unfold f57 at hq; omega
        have b43 : (-2147483648) ≤ Z39 57 1 ∧ Z39 57 1 ≤ 2147483647 := hG39.pr 57 1
        have b44 : 0 ≤ Z39 57 963 ∧ Z39 57 963 ≤ 18 := by have hq := GI_ex hG39 57 963; replace hq : f57 (963 % 962) (Z39 57 963) := hq; unfold f57 at hq; omega
        have b45 : (-2147483648) ≤ Z39 57 963 ∧ Z39 57 963 ≤ 2147483647 := hG39.pr 57 963
        have b46 : 0 ≤ Z39 57 1925 ∧ Z39 57 1925 ≤ 18 := by have hq := GI_ex hG39 57 1925; replace hq : f57 (1925 % 962) (Z39 57 1925) := hq; unfold f57 at hq; omega
        have b47 : (-2147483648) ≤ Z39 57 1925 ∧ Z39 57 1925 ≤ 2147483647 := hG39.pr 57 1925
        refine Jcv0 hx14 (show mx_Sn _ _ 32 (mx_callv 204 1 12 35) from sn_222 32) a56 s56 hc39 rfl rfl rfl ?_
        exact c35 Z39 h39 (by omega) hx39 hG39 (fr_tr (M := [(57, (-1))]) fr_rf (hf39) (M1 := []) rfl rfl)
    · skip
      refine mx_J.step (sn_222 15) (fun _ _ => rfl) ?_
      have eq48 : Z1 57 1 = Z 57 1 := (up_nk hE1 rfl)
      have b49 : 0 ≤ Z 57 1 ∧ Z 57 1 ≤ 18 := by have hq := GI_ex hG 57 1; replace hq : f57 (1 % 962) (Z 57 1) := hq; unfold f57 at hq; omega
      have b50 : (-2147483648) ≤ Z 57 1 ∧ Z 57 1 ≤ 2147483647 := hG.pr 57 1
      have eq51 : Z1 57 963 = Z 57 963 := (up_nk hE1 rfl)
      have b52 : 0 ≤ Z 57 963 ∧ Z 57 963 ≤ 18 := by have hq := GI_ex hG 57 963; replace hq : f57 (963 % 962) (Z 57 963) := hq; unfold f57 at hq; omega
      have b53 : (-2147483648) ≤ Z 57 963 ∧ Z 57 963 ≤ 2147483647 := hG.pr 57 963
      have eq54 : Z1 57 1925 = Z 57 1925 := (up_nk hE1 rfl)
      have b55 : 0 ≤ Z 57 1925 ∧ Z 57 1925 ≤ 18 := by have hq := GI_ex hG 57 1925; replace hq : f57 (1925 % 962) (Z 57 1925) := hq; unfold f57 at hq; omega
      have b56 : (-2147483648) ≤ Z 57 1925 ∧ Z 57 1925 ≤ 2147483647 := hG.pr 57 1925
      have eq57 : Z1 57 1 = Z 57 1 := (up_nk hE1 rfl)
      have eq58 : Z1 57 963 = Z 57 963 := (up_nk hE1 rfl)
      have eq59 : Z1 57 1925 = Z 57 1925 := (up_nk hE1 rfl)
      exact mx_J.ret (sn_222 16) (fun _ _ => rfl) (hP z2 Z1 h1 hx1 hG1 (fr_tr (M := [(56, 0), (56, 22), (57, (-1)), (62, (-1)), (64, (-1)), (65, (-1)), (66, (-1))]) fr_rf (fr_up hE1) (M1 := []) rfl rfl) (by omega))
theorem ct_222_56 {l : Launch} {D : va_G} {b0 : Nat} {ad : Nat → Nat} {Hb : Heap} {tau : Nat → Int64} {d n s : Nat} {S : Nat → xS} {Z : xZ} {h : mx_H} (hx : XH n s S Z h) (hG : GI n S Z)  {x0 : Int} (p0 : (-2147483648) ≤ x0 ∧ x0 ≤ 2147483647) : ∃ (z : Int) (Z' : xZ) (h' : mx_H), mx_Ca (tB l D b0 ad Hb tau) (d + 9) 222 [.ref 56, xI x0] h (some (xI z), h') ∧ XH n s S Z' h' ∧ GI n S Z' ∧ fr' [(56, 0), (56, 22), (57, (-1)), (62, (-1)), (64, (-1)), (65, (-1)), (66, (-1))] Z Z' ∧ ((-6) ≤ z ∧ z ≤ 40 ∧ (Z' 57 1 = Z 57 1 ∧ Z' 57 963 = Z 57 963 ∧ Z' 57 1925 = Z 57 1925)) := by
  obtain ⟨r, hca, z, Z', h', e, q⟩ := Jmt (B := tB l D b0 ad Hb tau) (M := mt_222) (mi := 222) (as := [.ref 56, xI x0]) (d := d + 8) (ls := [some (.ref 56), some (xI x0), none, none]) rfl rfl rfl rfl rfl rfl (cw_222_56 (l := l) (D := D) (b0 := b0) (ad := ad) (Hb := Hb) (tau := tau) (d := d) (Post := fun r => ∃ (z : Int) (Z' : xZ) (h' : mx_H), r = (some (xI z), h') ∧ XH n s S Z' h' ∧ GI n S Z' ∧ fr' [(56, 0), (56, 22), (57, (-1)), (62, (-1)), (64, (-1)), (65, (-1)), (66, (-1))] Z Z' ∧ ((-6) ≤ z ∧ z ≤ 40 ∧ (Z' 57 1 = Z 57 1 ∧ Z' 57 963 = Z 57 963 ∧ Z' 57 1925 = Z 57 1925))) hx hG p0 (fun z Z' h' q1 q2 q3 q4 => ⟨z, Z', h', rfl, q1, q2, q3, q4⟩))
  subst e; exact ⟨z, Z', h', hca, q⟩
set_option maxRecDepth 100000 in
theorem cw_225_56 {l : Launch} {D : va_G} {b0 : Nat} {ad : Nat → Nat} {Hb : Heap} {tau : Nat → Int64} {d n s : Nat} {S : Nat → xS} {Z : xZ} {h : mx_H} {Post : mx_R → Prop} (hx : XH n s S Z h) (hG : GI n S Z)  {x0 x1 : Int} (p0 : (-2147483648) ≤ x0 ∧ x0 ≤ 2147483647) (p1 : (-2147483648) ≤ x1 ∧ x1 ≤ 2147483647) (hP : ∀ (z : Int) (Z' : xZ) (h' : mx_H), XH n s S Z' h' → GI n S Z' → fr' [(56, 0), (56, 23), (57, (-1)), (62, (-1)), (64, (-1)), (65, (-1)), (66, (-1))] Z Z' → (-2147483648) ≤ z ∧ z ≤ 2147483647 ∧ (Z' 57 1 = Z 57 1 ∧ Z' 57 963 = Z 57 963 ∧ Z' 57 1925 = Z 57 1925) → Post (some (xI z), h')) : mx_J (tB l D b0 ad Hb tau) mt_225 (d + 7) 0 [some (.ref 56), some (xI x0), some (xI x1), none, none, none] [] h Post := by
    have a56 : 56 < n := lt83 (GI_n hG) rfl
    have s56 : S 56 = .inl (12, [0, 2, 2, 2, 2, 0, 0, 0, 0, 0, 0, 0, 0, 0, 0, 2, 2, 2, 0, 2, 2, 2, 0, 0, 2, 2, 2, 2, 2, 2, 0, 0, 2, 2, 2, 2, 2, 2, 2, 2, 2, 2]) := GI_s hG 56 rfl
    refine mx_J.step (sn_225 0) (fun _ _ => rfl) ?_
    refine JcI (z := 0) (show mx_Sn _ _ 1 (mx_const (.int 0) 2) from sn_225 1) rfl ?_
    refine JputI (g := 0) hx (show mx_Sn _ _ 2 (mx_putf 1 12 0 (.int) 5) from sn_225 2) a56 s56 rfl rfl rfl rfl (fun Z1 h1 hx1 hE1 => ?_)
    have hG1 := GI_up hG hE1 (show (-2147483648) ≤ 0 ∧ 0 ≤ 2147483647 by omega) trivial rfl
    refine mx_J.step (sn_225 5) (fun _ _ => rfl) ?_
    refine Ji2l (show mx_Sn _ _ 6 (mx_i2l 7) from sn_225 6) (by omega) ?_
    refine JcL (z := 1) (show mx_Sn _ _ 7 (mx_const (.long 1) 8) from sn_225 7) rfl ?_
    refine JcL (z := 40) (show mx_Sn _ _ 8 (mx_const (.long 40) 11) from sn_225 8) rfl ?_
    obtain ⟨z2, hc2, b2⟩ := ct_154_ (d := d + 6) (l := l) (D := D) (b0 := b0) (ad := ad) (Hb := Hb) (tau := tau) hx1 hG1 (show (-9223372036854775808) ≤ x1 ∧ x1 ≤ 9223372036854775807 by omega) (show (-9223372036854775808) ≤ 1 ∧ 1 ≤ 9223372036854775807 by omega) (show (-9223372036854775808) ≤ 40 ∧ 40 ≤ 9223372036854775807 by omega)
    refine Jcs (show mx_Sn _ _ 11 (mx_calls 154 3 14) from sn_225 11) hc2 rfl rfl rfl ?_
    refine Jif_ne (show mx_Sn _ _ 14 (mx_if_ne 20 17) from sn_225 14) (by omega) (fun q3 => ?_) (fun q3 => ?_)
    · skip
      refine mx_J.step (sn_225 20) (fun _ _ => rfl) ?_
      have eq5 : Z1 57 27 = Z 57 27 := (up_nk hE1 rfl)
      have b6 := GI_st hG 27
      have b7 : 0 ≤ Z 56 18 ∧ Z 56 18 ≤ 385 := hG.pr 56 18
      have b8 : 0 ≤ Z 57 27 ∧ Z 57 27 ≤ 384 := by have hq := GI_ex hG 57 27; replace hq : f57 (27 % 962) (Z 57 27) := hq; unfold f57 at hq; omega
      have b9 : (-2147483648) ≤ Z 57 27 ∧ Z 57 27 ≤ 2147483647 := hG.pr 57 27
      obtain ⟨Z4, h4, hc4, hx4, hG4, hf4, b4⟩ := ct_202_56 (d := d + 6) (l := l) (D := D) (b0 := b0) (ad := ad) (Hb := Hb) (tau := tau) hx1 hG1 
      try rw [eq5] at b4
      have b10 : (-2147483648) ≤ Z4 66 0 ∧ Z4 66 0 ≤ 2147483647 := hG4.pr 66 0
      have b11 : (((0 : Int) = 0 → 0 ≤ (Z4 66 0) ∧ (Z4 66 0) ≤ 384) ∧ ((0 : Int) = 1 → 0 ≤ (Z4 66 0) ∧ (Z4 66 0) ≤ 9)) := GI_ex hG4 66 0
      refine Jcv0 hx1 (show mx_Sn _ _ 21 (mx_callv 202 1 12 24) from sn_225 21) a56 s56 hc4 rfl rfl rfl ?_
      refine mx_J.step (sn_225 24) (fun _ _ => rfl) ?_
      refine mx_J.step (sn_225 25) (fun _ _ => rfl) ?_
      refine JputI (g := 23) hx4 (show mx_Sn _ _ 26 (mx_putf 1 12 23 (.int) 29) from sn_225 26) a56 s56 rfl rfl rfl rfl (fun Z12 h12 hx12 hE12 => ?_)
      have hG12 := GI_up hG4 hE12 (show (-2147483648) ≤ x0 ∧ x0 ≤ 2147483647 by omega) trivial rfl
      refine JcI (z := 0) (show mx_Sn _ _ 29 (mx_const (.int 0) 30) from sn_225 29) rfl ?_
      refine mx_J.step (ls2 := [some (.ref 56), some (xI x0), some (xI x1), some (xI 0), none, none]) (sn_225 30) (fun _ _ => rfl) ?_
      refine JcI (z := 0) (show mx_Sn _ _ 31 (mx_const (.int 0) 32) from sn_225 31) rfl ?_
      refine mx_J.step (ls2 := [some (.ref 56), some (xI x0), some (xI x1), some (xI 0), some (xI 0), none]) (sn_225 32) (fun _ _ => rfl) ?_
      have c34 : ∀ (m13 : Nat) (w13_3 : Int) (w13_4 : Int) (u13_5 : Option Value) (Z14 : xZ) (h14 : mx_H), 40 - w13_4 < (m13 : Int) → (-2147483648) ≤ w13_3 ∧ w13_3 ≤ 2147483647 → 0 ≤ w13_4 ∧ w13_4 ≤ 40 → (Z14 57 1 = Z 57 1 ∧ Z14 57 963 = Z 57 963 ∧ Z14 57 1925 = Z 57 1925) → XH n s S Z14 h14 → GI n S Z14 → fr' [(56, 23), (57, (-1)), (62, (-1)), (64, (-1)), (65, (-1))] Z12 Z14 → mx_J (tB l D b0 ad Hb tau) mt_225 (d + 7) 34 [some (.ref 56), some (xI x0), some (xI x1), some (xI w13_3), some (xI w13_4), u13_5] [] h14 Post := by
        intro m13
        induction m13 with
        | zero => intro w13_3 w13_4 u13_5 Z14 h14 q13 f13_0 f13_1 f13_2 hx14 hG14 hf14; exact absurd q13 (by omega)
        | succ m13 ih13 =>
          intro w13_3 w13_4 u13_5 Z14 h14 q13 f13_0 f13_1 f13_2 hx14 hG14 hf14
          have b15 : 0 ≤ Z14 57 1 ∧ Z14 57 1 ≤ 18 := by have hq := GI_ex hG14 57 1; replace hq : f57 (1 % 962) (Z14 57 1) := hq; unfold f57 at hq; omega
          have b16 : (-2147483648) ≤ Z14 57 1 ∧ Z14 57 1 ≤ 2147483647 := hG14.pr 57 1
          have b17 : 0 ≤ Z14 57 963 ∧ Z14 57 963 ≤ 18 := by have hq := GI_ex hG14 57 963; replace hq : f57 (963 % 962) (Z14 57 963) := hq; unfold f57 at hq; omega
          have b18 : (-2147483648) ≤ Z14 57 963 ∧ Z14 57 963 ≤ 2147483647 := hG14.pr 57 963
          have b19 : 0 ≤ Z14 57 1925 ∧ Z14 57 1925 ≤ 18 := by have hq := GI_ex hG14 57 1925; replace hq : f57 (1925 % 962) (Z14 57 1925) := hq; unfold f57 at hq; omega
          have b20 : (-2147483648) ≤ Z14 57 1925 ∧ Z14 57 1925 ≤ 2147483647 := hG14.pr 57 1925
          refine mx_J.step (sn_225 34) (fun _ _ => rfl) ?_
          refine mx_J.step (sn_225 36) (fun _ _ => rfl) ?_
          refine Jicmp_ge (show mx_Sn _ _ 37 (mx_icmp_ge 74 40) from sn_225 37) (by omega) (by omega) (fun q21 => ?_) (fun q21 => ?_)
          · skip
            refine mx_J.step (sn_225 74) (fun _ _ => rfl) ?_
            have c82 : ∀  (Z23 : xZ) (h23 : mx_H), (Z23 57 1 = Z 57 1 ∧ Z23 57 963 = Z 57 963 ∧ Z23 57 1925 = Z 57 1925) → XH n s S Z23 h23 → GI n S Z23 → fr' [(57, (-1))] Z14 Z23 → mx_J (tB l D b0 ad Hb tau) mt_225 (d + 7) 82 [some (.ref 56), some (xI x0), some (xI x1), some (xI w13_3), some (xI w13_4), u13_5] [] h23 Post := by
              intro Z23 h23 f22_0 hx23 hG23 hf23
              have b24 : 0 ≤ Z23 57 1 ∧ Z23 57 1 ≤ 18 := by have hq := GI_ex hG23 57 1; replace hq : f57 (1 % 962) (Z23 57 1) := hq; unfold f57 at hq; omega
              have b25 : (-2147483648) ≤ Z23 57 1 ∧ Z23 57 1 ≤ 2147483647 := hG23.pr 57 1
              have b26 : 0 ≤ Z23 57 963 ∧ Z23 57 963 ≤ 18 := by have hq := GI_ex hG23 57 963; replace hq : f57 (963 % 962) (Z23 57 963) := hq; unfold f57 at hq; omega
              have b27 : (-2147483648) ≤ Z23 57 963 ∧ Z23 57 963 ≤ 2147483647 := hG23.pr 57 963
              have b28 : 0 ≤ Z23 57 1925 ∧ Z23 57 1925 ≤ 18 := by have hq := GI_ex hG23 57 1925; replace hq : f57 (1925 % 962) (Z23 57 1925) := hq; unfold f57 at hq; omega
              have b29 : (-2147483648) ≤ Z23 57 1925 ∧ Z23 57 1925 ≤ 2147483647 := hG23.pr 57 1925
              refine mx_J.step (sn_225 82) (fun _ _ => rfl) ?_
              exact mx_J.ret (sn_225 83) (fun _ _ => rfl) (hP w13_3 Z23 h23 hx23 hG23 (fr_tr (M := [(56, 0), (56, 23), (57, (-1)), (62, (-1)), (64, (-1)), (65, (-1)), (66, (-1))]) (fr_tr (M := [(56, 0), (56, 23), (57, (-1)), (62, (-1)), (64, (-1)), (65, (-1)), (66, (-1))]) (fr_tr (M := [(56, 0), (56, 23), (57, (-1)), (62, (-1)), (64, (-1)), (65, (-1)), (66, (-1))]) (fr_tr (M := [(56, 0), (56, 23), (57, (-1)), (62, (-1)), (64, (-1)), (65, (-1)), (66, (-1))]) (fr_tr (M := [(56, 0), (56, 23), (57, (-1)), (62, (-1)), (64, (-1)), (65, (-1)), (66, (-1))]) fr_rf (fr_up hE1) (M1 := []) rfl rfl) (hf4) rfl rfl) (fr_up hE12) rfl rfl) (hf14) rfl rfl) (hf23) rfl rfl) (by omega))
            refine Jif_le (show mx_Sn _ _ 75 (mx_if_le 82 78) from sn_225 75) (by omega) (fun q30 => ?_) (fun q30 => ?_)
            · skip
              exact c82 Z14 h14 (by omega) hx14 hG14 fr_rf
            · skip
              refine mx_J.step (sn_225 78) (fun _ _ => rfl) ?_
              have eq32 : Z14 66 0 = Z4 66 0 := ((hf14 66 0 rfl).trans (up_nk hE12 rfl))
              have eq33 : Z14 56 18 = Z 56 18 := ((hf14 56 18 rfl).trans ((up_ni hE12 (by decide)).trans ((hf4 56 18 rfl).trans (up_ni hE1 (by decide)))))
              obtain ⟨Z31, h31, hc31, hx31, hG31, hf31, b31⟩ := ct_204_56 (d := d + 6) (l := l) (D := D) (b0 := b0) (ad := ad) (Hb := Hb) (tau := tau) hx14 hG14  (show Z14 66 0 < Z14 56 18 by first | omega | (simp only [eq32, eq33]; omega))
              try rw [eq32] at b31
              try rw [eq33] at b31
              have b34 : 0 ≤ Z31 57 1 ∧ Z31 57 1 ≤ 18 := by have hq := GI_ex hG31 57 1; replace hq : f57 (1 % 962) (Z31 57 1) := hq; unfold f57 at hq; omega
              have b35 : (-2147483648) ≤ Z31 57 1 ∧ Z31 57 1 ≤ 2147483647 := hG31.pr 57 1
              have b36 : 0 ≤ Z31 57 963 ∧ Z31 57 963 ≤ 18 := by have hq := GI_ex hG31 57 963; replace hq : f57 (963 % 962) (Z31 57 963) := hq; unfold f57 at hq; omega
              have b37 : (-2147483648) ≤ Z31 57 963 ∧ Z31 57 963 ≤ 2147483647 := hG31.pr 57 963
              have b38 : 0 ≤ Z31 57 1925 ∧ Z31 57 1925 ≤ 18 := by have hq := GI_ex hG31 57 1925; replace hq : f57 (1925 % 962) (Z31 57 1925) := hq; unfold f57 at hq; omega
              have b39 : (-2147483648) ≤ Z31 57 1925 ∧ Z31 57 1925 ≤ 2147483647 := hG31.pr 57 1925
              refine Jcv0 hx14 (show mx_Sn _ _ 79 (mx_callv 204 1 12 82) from sn_225 79) a56 s56 hc31 rfl rfl rfl ?_
              exact c82 Z31 h31 (by omega) hx31 hG31 (fr_tr (M := [(57, (-1))]) fr_rf (hf31) (M1 := []) rfl rfl)
          · skip
            refine mx_J.step (sn_225 40) (fun _ _ => rfl) ?_
            obtain ⟨z40, Z40, h40, hc40, hx40, hG40, hf40, b40⟩ := ct_224_56 (d := d + 5) (l := l) (D := D) (b0 := b0) (ad := ad) (Hb := Hb) (tau := tau) hx14 hG14 
            refine Jcv hx14 (show mx_Sn _ _ 41 (mx_callv 224 1 12 44) from sn_225 41) a56 s56 hc40 rfl rfl rfl ?_
            refine mx_J.step (ls2 := [some (.ref 56), some (xI x0), some (xI x1), some (xI w13_3), some (xI w13_4), some (xI z40)]) (sn_225 44) (fun _ _ => rfl) ?_
            refine mx_J.step (sn_225 46) (fun _ _ => rfl) ?_
            refine mx_J.step (sn_225 47) (fun _ _ => rfl) ?_
            refine Ji2l (show mx_Sn _ _ 49 (mx_i2l 50) from sn_225 49) (by omega) ?_
            have eq42 : Z40 57 27 = Z14 57 27 := (hf40 57 27 rfl)
            have b43 := GI_st hG14 27
            have eq44 : Z14 56 18 = Z 56 18 := ((hf14 56 18 rfl).trans ((up_ni hE12 (by decide)).trans ((hf4 56 18 rfl).trans (up_ni hE1 (by decide)))))
            have b45 : 0 ≤ Z14 57 27 ∧ Z14 57 27 ≤ 384 := by have hq := GI_ex hG14 57 27; replace hq : f57 (27 % 962) (Z14 57 27) := hq; unfold f57 at hq; omega
            have b46 : (-2147483648) ≤ Z14 57 27 ∧ Z14 57 27 ≤ 2147483647 := hG14.pr 57 27
            have eq47 : hv Z40 (Z40 57 27) ((z40 - 1000) / 100) = hv Z (Z14 57 27) ((z40 - 1000) / 100) := by rw [(show Z40 57 27 = Z14 57 27 from (hf40 57 27 rfl))]; exact ((hv_c (fun i => hf40 61 i rfl)).trans ((hv_c (fun i => hf14 61 i rfl)).trans ((hv_c (fun i => up_nk hE12 rfl)).trans ((hv_c (fun i => hf4 61 i rfl)).trans (hv_c (fun i => up_nk hE1 rfl))))))
            have eq48 : hv Z40 (Z14 57 27) ((z40 - 1000) / 100) = hv Z (Z14 57 27) ((z40 - 1000) / 100) := ((hv_c (fun i => hf40 61 i rfl)).trans ((hv_c (fun i => hf14 61 i rfl)).trans ((hv_c (fun i => up_nk hE12 rfl)).trans ((hv_c (fun i => hf4 61 i rfl)).trans (hv_c (fun i => up_nk hE1 rfl))))))
            have eq49 : hv Z40 (Z40 57 27) ((z40 - 3000) / 100) = hv Z (Z14 57 27) ((z40 - 3000) / 100) := by rw [(show Z40 57 27 = Z14 57 27 from (hf40 57 27 rfl))]; exact ((hv_c (fun i => hf40 61 i rfl)).trans ((hv_c (fun i => hf14 61 i rfl)).trans ((hv_c (fun i => up_nk hE12 rfl)).trans ((hv_c (fun i => hf4 61 i rfl)).trans (hv_c (fun i => up_nk hE1 rfl))))))
            have eq50 : hv Z40 (Z14 57 27) ((z40 - 3000) / 100) = hv Z (Z14 57 27) ((z40 - 3000) / 100) := ((hv_c (fun i => hf40 61 i rfl)).trans ((hv_c (fun i => hf14 61 i rfl)).trans ((hv_c (fun i => up_nk hE12 rfl)).trans ((hv_c (fun i => hf4 61 i rfl)).trans (hv_c (fun i => up_nk hE1 rfl))))))
            have eq51 : hv Z40 (Z40 57 27) (z40 % 100) = hv Z (Z14 57 27) (z40 % 100) := by rw [(show Z40 57 27 = Z14 57 27 from (hf40 57 27 rfl))]; exact ((hv_c (fun i => hf40 61 i rfl)).trans ((hv_c (fun i => hf14 61 i rfl)).trans ((hv_c (fun i => up_nk hE12 rfl)).trans ((hv_c (fun i => hf4 61 i rfl)).trans (hv_c (fun i => up_nk hE1 rfl))))))
            have eq52 : hv Z40 (Z14 57 27) (z40 % 100) = hv Z (Z14 57 27) (z40 % 100) := ((hv_c (fun i => hf40 61 i rfl)).trans ((hv_c (fun i => hf14 61 i rfl)).trans ((hv_c (fun i => up_nk hE12 rfl)).trans ((hv_c (fun i => hf4 61 i rfl)).trans (hv_c (fun i => up_nk hE1 rfl))))))
            obtain ⟨z41, hc41, b41⟩ := ct_217_56 (d := d + 3) (l := l) (D := D) (b0 := b0) (ad := ad) (Hb := Hb) (tau := tau) hx40 hG40 (show (-9223372036854775808) ≤ z40 ∧ z40 ≤ 9223372036854775807 by omega)
            try rw [eq42] at b41
            refine Jcv hx40 (show mx_Sn _ _ 50 (mx_callv 217 2 12 53) from sn_225 50) a56 s56 hc41 rfl rfl rfl ?_
            have c68 : ∀ (w53_3 : Int) (Z54 : xZ) (h54 : mx_H), (-2147483648) ≤ w53_3 ∧ w53_3 ≤ 2147483647 → (Z54 57 1 = Z 57 1 ∧ Z54 57 963 = Z 57 963 ∧ Z54 57 1925 = Z 57 1925) → XH n s S Z54 h54 → GI n S Z54 → fr' [(57, (-1)), (62, (-1)), (64, (-1)), (65, (-1))] Z40 Z54 → mx_J (tB l D b0 ad Hb tau) mt_225 (d + 7) 68 [some (.ref 56), some (xI x0), some (xI x1), some (xI w53_3), some (xI w13_4), some (xI z40)] [] h54 Post := by
              intro w53_3 Z54 h54 f53_0 f53_1 hx54 hG54 hf54
              have b55 : 0 ≤ Z54 57 1 ∧ Z54 57 1 ≤ 18 := by have hq := GI_ex hG54 57 1; replace hq : f57 (1 % 962) (Z54 57 1) := hq; unfold f57 at hq; omega
              have b56 : (-2147483648) ≤ Z54 57 1 ∧ Z54 57 1 ≤ 2147483647 := hG54.pr 57 1
              have b57 : 0 ≤ Z54 57 963 ∧ Z54 57 963 ≤ 18 := by have hq := GI_ex hG54 57 963; replace hq : f57 (963 % 962) (Z54 57 963) := hq; unfold f57 at hq; omega
              have b58 : (-2147483648) ≤ Z54 57 963 ∧ Z54 57 963 ≤ 2147483647 := hG54.pr 57 963
              have b59 : 0 ≤ Z54 57 1925 ∧ Z54 57 1925 ≤ 18 := by have hq := GI_ex hG54 57 1925; replace hq : f57 (1925 % 962) (Z54 57 1925) := hq; unfold f57 at hq; omega
              have b60 : (-2147483648) ≤ Z54 57 1925 ∧ Z54 57 1925 ≤ 2147483647 := hG54.pr 57 1925
              refine Jiinc (z := w13_4) (cz := 1) (ls2 := [some (.ref 56), some (xI x0), some (xI x1), some (xI w53_3), some (xI (w13_4 + 1)), some (xI z40)]) (show mx_Sn _ _ 68 (mx_iinc 4 1 71) from sn_225 68) rfl rfl rfl rfl ?_
              refine mx_J.step (sn_225 71) (fun _ _ => rfl) ?_
              exact ih13 w53_3 (w13_4 + 1) (some (xI z40)) Z54 h54 (by omega) (by omega) (by omega) (by omega) hx54 hG54 (fr_tr (M := [(56, 23), (57, (-1)), (62, (-1)), (64, (-1)), (65, (-1))]) (fr_tr (M := [(56, 23), (57, (-1)), (62, (-1)), (64, (-1)), (65, (-1))]) (fr_tr (M := [(56, 23), (57, (-1)), (62, (-1)), (64, (-1)), (65, (-1))]) fr_rf (hf14) (M1 := []) rfl rfl) (hf40) rfl rfl) (hf54) rfl rfl)
            refine Jif_eq (show mx_Sn _ _ 53 (mx_if_eq 59 56) from sn_225 53) (by omega) (fun q61 => ?_) (fun q61 => ?_)
            · skip
              refine mx_J.step (sn_225 59) (fun _ _ => rfl) ?_
              refine mx_J.step (sn_225 60) (fun _ _ => rfl) ?_
              have eq63 : Z40 57 27 = Z14 57 27 := (hf40 57 27 rfl)
              have eq64 : hv Z40 (Z40 57 27) ((z40 - 1000) / 100) = hv Z (Z14 57 27) ((z40 - 1000) / 100) := by rw [(show Z40 57 27 = Z14 57 27 from (hf40 57 27 rfl))]; exact ((hv_c (fun i => hf40 61 i rfl)).trans ((hv_c (fun i => hf14 61 i rfl)).trans ((hv_c (fun i => up_nk hE12 rfl)).trans ((hv_c (fun i => hf4 61 i rfl)).trans (hv_c (fun i => up_nk hE1 rfl))))))
              have eq65 : hv Z40 (Z14 57 27) ((z40 - 1000) / 100) = hv Z (Z14 57 27) ((z40 - 1000) / 100) := ((hv_c (fun i => hf40 61 i rfl)).trans ((hv_c (fun i => hf14 61 i rfl)).trans ((hv_c (fun i => up_nk hE12 rfl)).trans ((hv_c (fun i => hf4 61 i rfl)).trans (hv_c (fun i => up_nk hE1 rfl))))))
              have eq66 : hv Z40 (Z40 57 27) ((z40 - 3000) / 100) = hv Z (Z14 57 27) ((z40 - 3000) / 100) := by rw [(show Z40 57 27 = Z14 57 27 from (hf40 57 27 rfl))]; exact ((hv_c (fun i => hf40 61 i rfl)).trans ((hv_c (fun i => hf14 61 i rfl)).trans ((hv_c (fun i => up_nk hE12 rfl)).trans ((hv_c (fun i => hf4 61 i rfl)).trans (hv_c (fun i => up_nk hE1 rfl))))))
              have eq67 : hv Z40 (Z14 57 27) ((z40 - 3000) / 100) = hv Z (Z14 57 27) ((z40 - 3000) / 100) := ((hv_c (fun i => hf40 61 i rfl)).trans ((hv_c (fun i => hf14 61 i rfl)).trans ((hv_c (fun i => up_nk hE12 rfl)).trans ((hv_c (fun i => hf4 61 i rfl)).trans (hv_c (fun i => up_nk hE1 rfl))))))
              have eq68 : hv Z40 (Z40 57 27) (z40 % 100) = hv Z (Z14 57 27) (z40 % 100) := by rw [(show Z40 57 27 = Z14 57 27 from (hf40 57 27 rfl))]; exact ((hv_c (fun i => hf40 61 i rfl)).trans ((hv_c (fun i => hf14 61 i rfl)).trans ((hv_c (fun i => up_nk hE12 rfl)).trans ((hv_c (fun i => hf4 61 i rfl)).trans (hv_c (fun i => up_nk hE1 rfl))))))
              have eq69 : hv Z40 (Z14 57 27) (z40 % 100) = hv Z (Z14 57 27) (z40 % 100) := ((hv_c (fun i => hf40 61 i rfl)).trans ((hv_c (fun i => hf14 61 i rfl)).trans ((hv_c (fun i => up_nk hE12 rfl)).trans ((hv_c (fun i => hf4 61 i rfl)).trans (hv_c (fun i => up_nk hE1 rfl))))))
              have eq70 : Z40 57 1 = Z14 57 1 := (hf40 57 1 rfl)
              have eq71 : Z40 57 963 = Z14 57 963 := (hf40 57 963 rfl)
              have eq72 : Z40 57 1925 = Z14 57 1925 := (hf40 57 1925 rfl)
              obtain ⟨Z62, h62, hc62, hx62, hG62, hf62, b62⟩ := ct_218_56 (d := d + 0) (l := l) (D := D) (b0 := b0) (ad := ad) (Hb := Hb) (tau := tau) hx40 hG40 (show 0 ≤ z40 ∧ z40 ≤ 4999 by omega) (show ((0 ≤ z40 ∧ z40 ≤ 18) ∨ (20 ≤ z40 ∧ z40 ≤ 29) ∨ (1000 ≤ z40 ∧ z40 ≤ 2999 ∧ 1 ≤ (z40 - 1000) / 100 ∧ 1 ≤ z40 % 100 ∧ z40 % 100 ≤ (z40 - 1000) / 100 - 1 ∧ (z40 - 1000) / 100 ≤ 18 ∧ hv Z40 (Z40 57 27) ((z40 - 1000) / 100) = 1) ∨ (3000 ≤ z40 ∧ z40 ≤ 4999 ∧ 1 ≤ (z40 - 3000) / 100 ∧ (z40 - 3000) / 100 ≤ 18 ∧ 1 ≤ z40 % 100 ∧ z40 % 100 ≤ 18 ∧ hv Z40 (Z40 57 27) ((z40 - 3000) / 100) = 1 ∧ hv Z40 (Z40 57 27) (z40 % 100) = 1)) by first | omega | (simp only [eq63, eq70, eq71, eq72]; omega))
              try rw [eq63] at b62
              try rw [eq70] at b62
              try rw [eq71] at b62
              try rw [eq72] at b62
              have b73 : 0 ≤ Z62 57 1 ∧ Z62 57 1 ≤ 18 := by have hq := GI_ex hG62 57 1; replace hq : f57 (1 % 962) (Z62 57 1) := hq; unfold f57 at hq; omega
              have b74 : (-2147483648) ≤ Z62 57 1 ∧ Z62 57 1 ≤ 2147483647 := hG62.pr 57 1
              have b75 : 0 ≤ Z62 57 963 ∧ Z62 57 963 ≤ 18 := by have hq := GI_ex hG62 57 963; replace hq : f57 (963 % 962) (Z62 57 963) := hq; unfold f57 at hq; omega
              have b76 : (-2147483648) ≤ Z62 57 963 ∧ Z62 57 963 ≤ 2147483647 := hG62.pr 57 963
              have b77 : 0 ≤ Z62 57 1925 ∧ Z62 57 1925 ≤ 18 := by have hq := GI_ex hG62 57 1925; replace hq : f57 (1925 % 962) (Z62 57 1925) := hq; unfold f57 at hq; omega
              have b78 : (-2147483648) ≤ Z62 57 1925 ∧ Z62 57 1925 ≤ 2147483647 := hG62.pr 57 1925
              refine Jcv0 hx40 (show mx_Sn _ _ 62 (mx_callv 218 2 12 65) from sn_225 62) a56 s56 hc62 rfl rfl rfl ?_
              refine JiincN (z := w13_3) (cz := 1) (show mx_Sn _ _ 65 (mx_iinc 3 1 68) from sn_225 65) rfl rfl rfl (fun y79 hy79 hq79 => ?_)
              show mx_J _ _ _ _ [some (.ref 56), some (xI x0), some (xI x1), some (xI y79), some (xI w13_4), some (xI z40)] _ _ _
              exact c68 y79 Z62 h62 (by omega) (by omega) hx62 hG62 (fr_tr (M := [(57, (-1)), (62, (-1)), (64, (-1)), (65, (-1))]) fr_rf (hf62) (M1 := []) rfl rfl)
            · skip
              refine mx_J.step (sn_225 56) (fun _ _ => rfl) ?_
              have eq80 : Z40 57 1 = Z14 57 1 := (hf40 57 1 rfl)
              have eq81 : Z40 57 963 = Z14 57 963 := (hf40 57 963 rfl)
              have eq82 : Z40 57 1925 = Z14 57 1925 := (hf40 57 1925 rfl)
              exact c68 w13_3 Z40 h40 (by omega) (by omega) hx40 hG40 fr_rf
      have eq83 : Z12 57 1 = Z 57 1 := ((up_nk hE12 rfl).trans ((hf4 57 1 rfl).trans (up_nk hE1 rfl)))
      have b84 : 0 ≤ Z 57 1 ∧ Z 57 1 ≤ 18 := by have hq := GI_ex hG 57 1; replace hq : f57 (1 % 962) (Z 57 1) := hq; unfold f57 at hq; omega
      have b85 : (-2147483648) ≤ Z 57 1 ∧ Z 57 1 ≤ 2147483647 := hG.pr 57 1
      have eq86 : Z12 57 963 = Z 57 963 := ((up_nk hE12 rfl).trans ((hf4 57 963 rfl).trans (up_nk hE1 rfl)))
      have b87 : 0 ≤ Z 57 963 ∧ Z 57 963 ≤ 18 := by have hq := GI_ex hG 57 963; replace hq : f57 (963 % 962) (Z 57 963) := hq; unfold f57 at hq; omega
      have b88 : (-2147483648) ≤ Z 57 963 ∧ Z 57 963 ≤ 2147483647 := hG.pr 57 963
      have eq89 : Z12 57 1925 = Z 57 1925 := ((up_nk hE12 rfl).trans ((hf4 57 1925 rfl).trans (up_nk hE1 rfl)))
      have b90 : 0 ≤ Z 57 1925 ∧ Z 57 1925 ≤ 18 := by have hq := GI_ex hG 57 1925; replace hq : f57 (1925 % 962) (Z 57 1925) := hq; unfold f57 at hq; omega
      have b91 : (-2147483648) ≤ Z 57 1925 ∧ Z 57 1925 ≤ 2147483647 := hG.pr 57 1925
      exact c34 (Int.toNat (40 - 0) + 1) 0 0 none Z12 h12 (by omega) (by omega) (by omega) (by omega) hx12 hG12 fr_rf
    · skip
      refine JcI (z := (-3)) (show mx_Sn _ _ 17 (mx_const (.int (-3)) 19) from sn_225 17) rfl ?_
      have eq92 : Z1 57 1 = Z 57 1 := (up_nk hE1 rfl)
      have b93 : 0 ≤ Z 57 1 ∧ Z 57 1 ≤ 18 := by have hq := GI_ex hG 57 1; replace hq : f57 (1 % 962) (Z 57 1) := hq; unfold f57 at hq; omega
      have b94 : (-2147483648) ≤ Z 57 1 ∧ Z 57 1 ≤ 2147483647 := hG.pr 57 1
      have eq95 : Z1 57 963 = Z 57 963 := (up_nk hE1 rfl)
      have b96 : 0 ≤ Z 57 963 ∧ Z 57 963 ≤ 18 := by have hq := GI_ex hG 57 963; replace hq : f57 (963 % 962) (Z 57 963) := hq; unfold f57 at hq; omega
      have b97 : (-2147483648) ≤ Z 57 963 ∧ Z 57 963 ≤ 2147483647 := hG.pr 57 963
      have eq98 : Z1 57 1925 = Z 57 1925 := (up_nk hE1 rfl)
      have b99 : 0 ≤ Z 57 1925 ∧ Z 57 1925 ≤ 18 := by have hq := GI_ex hG 57 1925; replace hq : f57 (1925 % 962) (Z 57 1925) := hq; unfold f57 at hq; omega
      have b100 : (-2147483648) ≤ Z 57 1925 ∧ Z 57 1925 ≤ 2147483647 := hG.pr 57 1925
      have eq101 : Z1 57 1 = Z 57 1 := (up_nk hE1 rfl)
      have eq102 : Z1 57 963 = Z 57 963 := (up_nk hE1 rfl)
      have eq103 : Z1 57 1925 = Z 57 1925 := (up_nk hE1 rfl)
      exact mx_J.ret (sn_225 19) (fun _ _ => rfl) (hP (-3) Z1 h1 hx1 hG1 (fr_tr (M := [(56, 0), (56, 23), (57, (-1)), (62, (-1)), (64, (-1)), (65, (-1)), (66, (-1))]) fr_rf (fr_up hE1) (M1 := []) rfl rfl) (by omega))
theorem ct_225_56 {l : Launch} {D : va_G} {b0 : Nat} {ad : Nat → Nat} {Hb : Heap} {tau : Nat → Int64} {d n s : Nat} {S : Nat → xS} {Z : xZ} {h : mx_H} (hx : XH n s S Z h) (hG : GI n S Z)  {x0 x1 : Int} (p0 : (-2147483648) ≤ x0 ∧ x0 ≤ 2147483647) (p1 : (-2147483648) ≤ x1 ∧ x1 ≤ 2147483647) : ∃ (z : Int) (Z' : xZ) (h' : mx_H), mx_Ca (tB l D b0 ad Hb tau) (d + 8) 225 [.ref 56, xI x0, xI x1] h (some (xI z), h') ∧ XH n s S Z' h' ∧ GI n S Z' ∧ fr' [(56, 0), (56, 23), (57, (-1)), (62, (-1)), (64, (-1)), (65, (-1)), (66, (-1))] Z Z' ∧ ((-2147483648) ≤ z ∧ z ≤ 2147483647 ∧ (Z' 57 1 = Z 57 1 ∧ Z' 57 963 = Z 57 963 ∧ Z' 57 1925 = Z 57 1925)) := by
  obtain ⟨r, hca, z, Z', h', e, q⟩ := Jmt (B := tB l D b0 ad Hb tau) (M := mt_225) (mi := 225) (as := [.ref 56, xI x0, xI x1]) (d := d + 7) (ls := [some (.ref 56), some (xI x0), some (xI x1), none, none, none]) rfl rfl rfl rfl rfl rfl (cw_225_56 (l := l) (D := D) (b0 := b0) (ad := ad) (Hb := Hb) (tau := tau) (d := d) (Post := fun r => ∃ (z : Int) (Z' : xZ) (h' : mx_H), r = (some (xI z), h') ∧ XH n s S Z' h' ∧ GI n S Z' ∧ fr' [(56, 0), (56, 23), (57, (-1)), (62, (-1)), (64, (-1)), (65, (-1)), (66, (-1))] Z Z' ∧ ((-2147483648) ≤ z ∧ z ≤ 2147483647 ∧ (Z' 57 1 = Z 57 1 ∧ Z' 57 963 = Z 57 963 ∧ Z' 57 1925 = Z 57 1925))) hx hG p0 p1 (fun z Z' h' q1 q2 q3 q4 => ⟨z, Z', h', rfl, q1, q2, q3, q4⟩))
  subst e; exact ⟨z, Z', h', hca, q⟩
set_option maxRecDepth 100000 in
theorem cw_226_56 {l : Launch} {D : va_G} {b0 : Nat} {ad : Nat → Nat} {Hb : Heap} {tau : Nat → Int64} {d n s : Nat} {S : Nat → xS} {Z : xZ} {h : mx_H} {Post : mx_R → Prop} (hx : XH n s S Z h) (hG : GI n S Z)   (hP : ∀ (Z' : xZ) (h' : mx_H), XH n s S Z' h' → GI n S Z' → fr' [(62, (-1)), (64, (-1)), (65, (-1)), (67, (-1))] Z Z' → (ai 67 Z' (Z 56 18) 0 (Z 56 18 - 1) = 1) → Post (none, h')) : mx_J (tB l D b0 ad Hb tau) mt_226 (d + 5) 0 [some (.ref 56), none] [] h Post := by
    have a56 : 56 < n := lt83 (GI_n hG) rfl
    have s56 : S 56 = .inl (12, [0, 2, 2, 2, 2, 0, 0, 0, 0, 0, 0, 0, 0, 0, 0, 2, 2, 2, 0, 2, 2, 2, 0, 0, 2, 2, 2, 2, 2, 2, 0, 0, 2, 2, 2, 2, 2, 2, 2, 2, 2, 2]) := GI_s hG 56 rfl
    have a57 : 57 < n := lt83 (GI_n hG) rfl
    have s57 : S 57 = .inr (.int, 2886, 0) := GI_s hG 57 rfl
    have a67 : 67 < n := lt83 (GI_n hG) rfl
    have s67 : S 67 = .inr (.int, 385, 0) := GI_s hG 67 rfl
    refine JcI (z := 0) (show mx_Sn _ _ 0 (mx_const (.int 0) 1) from sn_226 0) rfl ?_
    refine mx_J.step (ls2 := [some (.ref 56), some (xI 0)]) (sn_226 1) (fun _ _ => rfl) ?_
    have c2 : ∀ (m1 : Nat) (w1_1 : Int) (Z2 : xZ) (h2 : mx_H), 385 - w1_1 < (m1 : Int) → 0 ≤ w1_1 ∧ w1_1 ≤ 385 → ai 67 Z2 w1_1 0 (Z 56 18 - 1) = 1 → XH n s S Z2 h2 → GI n S Z2 → fr' [(62, (-1)), (64, (-1)), (65, (-1)), (67, (-1))] Z Z2 → mx_J (tB l D b0 ad Hb tau) mt_226 (d + 5) 2 [some (.ref 56), some (xI w1_1)] [] h2 Post := by
      intro m1
      induction m1 with
      | zero => intro w1_1 Z2 h2 q1 f1_0 f1_1 hx2 hG2 hf2; exact absurd q1 (by omega)
      | succ m1 ih1 =>
        intro w1_1 Z2 h2 q1 f1_0 f1_1 hx2 hG2 hf2
        refine mx_J.step (sn_226 2) (fun _ _ => rfl) ?_
        refine mx_J.step (sn_226 3) (fun _ _ => rfl) ?_
        have b4 : 0 ≤ Z 56 18 ∧ Z 56 18 ≤ 385 := hG.pr 56 18
        refine JgetI (g := 18) (z := Z 56 18) hx2 (show mx_Sn _ _ 4 (mx_getf 12 18 7) from sn_226 4) a56 s56 rfl rfl (hf2 56 18 rfl) ?_
        refine Jicmp_ge (show mx_Sn _ _ 7 (mx_icmp_ge 35 10) from sn_226 7) (by omega) (by omega) (fun q5 => ?_) (fun q5 => ?_)
        · skip
          have af : ai 67 Z2 (Z 56 18) 0 (Z 56 18 - 1) = 1 := ai_m (len := w1_1) (by assumption) (by omega) (by omega) (by omega)
          have eq6 : Z2 56 18 = Z 56 18 := (hf2 56 18 rfl)
          exact mx_J.ret (sn_226 35) (fun _ _ => rfl) (hP Z2 h2 hx2 hG2 (fr_tr (M := [(62, (-1)), (64, (-1)), (65, (-1)), (67, (-1))]) fr_rf (hf2) (M1 := []) rfl rfl) (by omega))
        · skip
          refine mx_J.step (sn_226 10) (fun _ _ => rfl) ?_
          refine JgetR (g := 24) (b := 67) hx2 (show mx_Sn _ _ 11 (mx_getf 12 24 14) from sn_226 11) a56 s56 rfl rfl (hG2.prr 56 24 rfl) ?_
          refine mx_J.step (sn_226 14) (fun _ _ => rfl) ?_
          refine mx_J.step (sn_226 15) (fun _ _ => rfl) ?_
          refine mx_J.step (sn_226 16) (fun _ _ => rfl) ?_
          refine JcI (z := 0) (show mx_Sn _ _ 17 (mx_const (.int 0) 18) from sn_226 17) rfl ?_
          refine mx_J.step (sn_226 18) (fun _ _ => rfl) ?_
          refine JgetR (g := 1) (b := 57) hx2 (show mx_Sn _ _ 19 (mx_getf 12 1 22) from sn_226 19) a56 s56 rfl rfl (hG2.prr 56 1 rfl) ?_
          refine JcI (z := 28) (show mx_Sn _ _ 22 (mx_const (.int 28) 24) from sn_226 22) rfl ?_
          have b9 : 0 ≤ Z 57 28 ∧ Z 57 28 ≤ 9 := by have hq := GI_ex hG 57 28; replace hq : f57 (28 % 962) (Z 57 28) := hq; unfold f57 at hq; omega
          have b10 : (-2147483648) ≤ Z 57 28 ∧ Z 57 28 ≤ 2147483647 := hG.pr 57 28
          refine JialdI (z := Z 57 28) hx2 (show mx_Sn _ _ 24 (mx_iald 25) from sn_226 24) a57 s57 (by omega) (hf2 57 28 rfl) ?_
          have eq12 : Z2 56 18 = Z 56 18 := (hf2 56 18 rfl)
          obtain ⟨z11, Z11, h11, hc11, hx11, hG11, hf11, b11⟩ := ct_198_56 (d := d + 0) (l := l) (D := D) (b0 := b0) (ad := ad) (Hb := Hb) (tau := tau) hx2 hG2 (show 0 ≤ w1_1 ∧ w1_1 ≤ 384 by omega) (show (-2147483648) ≤ 0 ∧ 0 ≤ 2147483647 by omega) (show 0 ≤ Z 57 28 ∧ Z 57 28 ≤ 9 by omega)
          try rw [eq12] at b11
          refine Jcv hx2 (show mx_Sn _ _ 25 (mx_callv 198 4 12 28) from sn_226 25) a56 s56 hc11 rfl rfl rfl ?_
          have eq13 : (ai 67) Z11 w1_1 0 (Z 56 18 - 1) = (ai 67) Z2 w1_1 0 (Z 56 18 - 1) := (ai_c (fun i => hf11 67 i rfl))
          refine JiastI hx11 (show mx_Sn _ _ 28 (mx_iast 1 29) from sn_226 28) a67 s67 rfl (by omega) (fun Z14 h14 hx14 hE14 => ?_)
          have hG14 := GI_up hG11 hE14 (show 0 ≤ z11 ∧ z11 ≤ 384 by omega) trivial rfl
          have as1 : ai 67 Z14 (w1_1 + 1) 0 (Z 56 18 - 1) = 1 := ai_s (Z := Z11) (len := w1_1) (by omega) hE14 rfl (by omega) rfl
          refine Jiinc (z := w1_1) (cz := 1) (ls2 := [some (.ref 56), some (xI (w1_1 + 1))]) (show mx_Sn _ _ 29 (mx_iinc 1 1 32) from sn_226 29) rfl rfl rfl rfl ?_
          refine mx_J.step (sn_226 32) (fun _ _ => rfl) ?_
          exact ih1 (w1_1 + 1) Z14 h14 (by omega) (by omega) (by first | exact ai_0 (by omega) | assumption) hx14 hG14 (fr_tr (M := [(62, (-1)), (64, (-1)), (65, (-1)), (67, (-1))]) (fr_tr (M := [(62, (-1)), (64, (-1)), (65, (-1)), (67, (-1))]) (fr_tr (M := [(62, (-1)), (64, (-1)), (65, (-1)), (67, (-1))]) fr_rf (hf2) (M1 := []) rfl rfl) (hf11) rfl rfl) (fr_ua hE14) rfl rfl)
    exact c2 (Int.toNat (385 - 0) + 1) 0 Z h (by omega) (by omega) (by first | exact ai_0 (by omega) | assumption) hx hG fr_rf
theorem ct_226_56 {l : Launch} {D : va_G} {b0 : Nat} {ad : Nat → Nat} {Hb : Heap} {tau : Nat → Int64} {d n s : Nat} {S : Nat → xS} {Z : xZ} {h : mx_H} (hx : XH n s S Z h) (hG : GI n S Z)   : ∃ (Z' : xZ) (h' : mx_H), mx_Ca (tB l D b0 ad Hb tau) (d + 6) 226 [.ref 56] h (none, h') ∧ XH n s S Z' h' ∧ GI n S Z' ∧ fr' [(62, (-1)), (64, (-1)), (65, (-1)), (67, (-1))] Z Z' ∧ ((ai 67 Z' (Z 56 18) 0 (Z 56 18 - 1) = 1)) := by
  obtain ⟨r, hca, Z', h', e, q⟩ := Jmt (B := tB l D b0 ad Hb tau) (M := mt_226) (mi := 226) (as := [.ref 56]) (d := d + 5) (ls := [some (.ref 56), none]) rfl rfl rfl rfl rfl rfl (cw_226_56 (l := l) (D := D) (b0 := b0) (ad := ad) (Hb := Hb) (tau := tau) (d := d) (Post := fun r => ∃ (Z' : xZ) (h' : mx_H), r = (none, h') ∧ XH n s S Z' h' ∧ GI n S Z' ∧ fr' [(62, (-1)), (64, (-1)), (65, (-1)), (67, (-1))] Z Z' ∧ ((ai 67 Z' (Z 56 18) 0 (Z 56 18 - 1) = 1))) hx hG  (fun Z' h' q1 q2 q3 q4 => ⟨Z', h', rfl, q1, q2, q3, q4⟩))
  subst e; exact ⟨Z', h', hca, q⟩
set_option maxRecDepth 100000 in
theorem cw_227_56 {l : Launch} {D : va_G} {b0 : Nat} {ad : Nat → Nat} {Hb : Heap} {tau : Nat → Int64} {d n s : Nat} {S : Nat → xS} {Z : xZ} {h : mx_H} {Post : mx_R → Prop} (hx : XH n s S Z h) (hG : GI n S Z)  {x0 : Int} (p0 : 0 ≤ x0 ∧ x0 ≤ 384) (k0 : ai 67 Z (Z 56 18) 0 (Z 56 18 - 1) = 1) (k1 : x0 < Z 56 18) (hP : ∀ (Z' : xZ) (h' : mx_H), XH n s S Z' h' → GI n S Z' → fr' [(56, 30), (56, 31), (68, (-1)), (69, (-1))] Z Z' → (1 ≤ Z' 56 30 ∧ Z' 56 30 ≤ 385 ∧ 0 ≤ Z' 56 31 ∧ Z' 56 31 < Z' 56 30) → Post (none, h')) : mx_J (tB l D b0 ad Hb tau) mt_227 (d + 0) 0 [some (.ref 56), some (xI x0), none] [] h Post := by
    have a56 : 56 < n := lt83 (GI_n hG) rfl
    have s56 : S 56 = .inl (12, [0, 2, 2, 2, 2, 0, 0, 0, 0, 0, 0, 0, 0, 0, 0, 2, 2, 2, 0, 2, 2, 2, 0, 0, 2, 2, 2, 2, 2, 2, 0, 0, 2, 2, 2, 2, 2, 2, 2, 2, 2, 2]) := GI_s hG 56 rfl
    have a67 : 67 < n := lt83 (GI_n hG) rfl
    have s67 : S 67 = .inr (.int, 385, 0) := GI_s hG 67 rfl
    have a68 : 68 < n := lt83 (GI_n hG) rfl
    have s68 : S 68 = .inr (.int, 385, 0) := GI_s hG 68 rfl
    have a69 : 69 < n := lt83 (GI_n hG) rfl
    have s69 : S 69 = .inr (.int, 386, 0) := GI_s hG 69 rfl
    refine JcI (z := 0) (show mx_Sn _ _ 0 (mx_const (.int 0) 1) from sn_227 0) rfl ?_
    refine mx_J.step (ls2 := [some (.ref 56), some (xI x0), some (xI 0)]) (sn_227 1) (fun _ _ => rfl) ?_
    have c2 : ∀ (m1 : Nat) (w1_2 : Int) (Z2 : xZ) (h2 : mx_H), 385 - w1_2 < (m1 : Int) → 0 ≤ w1_2 ∧ w1_2 ≤ 385 → AB Z2 68 (w1_2) ((-1)) ((-1)) → XH n s S Z2 h2 → GI n S Z2 → fr' [(68, (-1))] Z Z2 → mx_J (tB l D b0 ad Hb tau) mt_227 (d + 0) 2 [some (.ref 56), some (xI x0), some (xI w1_2)] [] h2 Post := by
      intro m1
      induction m1 with
      | zero => intro w1_2 Z2 h2 q1 f1_0 f1_1 hx2 hG2 hf2; exact absurd q1 (by omega)
      | succ m1 ih1 =>
        intro w1_2 Z2 h2 q1 f1_0 f1_1 hx2 hG2 hf2
        refine mx_J.step (sn_227 2) (fun _ _ => rfl) ?_
        refine mx_J.step (sn_227 3) (fun _ _ => rfl) ?_
        have b4 : 0 ≤ Z 56 18 ∧ Z 56 18 ≤ 385 := hG.pr 56 18
        refine JgetI (g := 18) (z := Z 56 18) hx2 (show mx_Sn _ _ 4 (mx_getf 12 18 7) from sn_227 4) a56 s56 rfl rfl (hf2 56 18 rfl) ?_
        refine Jicmp_ge (show mx_Sn _ _ 7 (mx_icmp_ge 23 10) from sn_227 7) (by omega) (by omega) (fun q5 => ?_) (fun q5 => ?_)
        · skip
          have l0 : ai 68 Z2 (Z 56 18) (-1) (-1) = 1 := ai_y (ab_mono (show AB Z2 68 (w1_2) (-1) (-1) from by assumption) (by omega) (by omega) (by omega))
          have l1 : cn 68 (-1) Z2 (Z 56 18) = Z 56 18 := cn_a l0 (by omega)
          refine mx_J.step (sn_227 23) (fun _ _ => rfl) ?_
          refine mx_J.step (ls2 := [some (.ref 56), some (xI x0), some (xI x0)]) (sn_227 24) (fun _ _ => rfl) ?_
          refine mx_J.step (sn_227 25) (fun _ _ => rfl) ?_
          refine JcI (z := 0) (show mx_Sn _ _ 26 (mx_const (.int 0) 27) from sn_227 26) rfl ?_
          refine JputI (g := 30) hx2 (show mx_Sn _ _ 27 (mx_putf 1 12 30 (.int) 30) from sn_227 27) a56 s56 rfl rfl rfl rfl (fun Z6 h6 hx6 hE6 => ?_)
          have hG6 := GI_up hG2 hE6 (show 0 ≤ 0 ∧ 0 ≤ 386 by omega) trivial rfl
          have c30 : ∀ (m7 : Nat) (w7_2 : Int) (Z8 : xZ) (h8 : mx_H), (((cn 68 (-1) Z8 (Z 56 18)).toNat : Nat) : Int) < (m7 : Int) → 0 ≤ w7_2 ∧ w7_2 ≤ 384 → cn 68 (-1) Z8 (Z 56 18) = Z 56 18 - Z8 56 30 → ai 68 Z8 (Z 56 18) (-1) (Z8 56 30 - 1) = 1 → w7_2 < Z 56 18 → XH n s S Z8 h8 → GI n S Z8 → fr' [(56, 30), (68, (-1)), (69, (-1))] Z6 Z8 → mx_J (tB l D b0 ad Hb tau) mt_227 (d + 0) 30 [some (.ref 56), some (xI x0), some (xI w7_2)] [] h8 Post := by
            intro m7
            induction m7 with
            | zero => intro w7_2 Z8 h8 q7 f7_0 f7_1 f7_2 f7_3 hx8 hG8 hf8; exact absurd q7 (by omega)
            | succ m7 ih7 =>
              intro w7_2 Z8 h8 q7 f7_0 f7_1 f7_2 f7_3 hx8 hG8 hf8
              have b9 : 0 ≤ Z8 56 30 ∧ Z8 56 30 ≤ 386 := hG8.pr 56 30
              refine mx_J.step (sn_227 30) (fun _ _ => rfl) ?_
              refine JgetR (g := 25) (b := 68) hx8 (show mx_Sn _ _ 31 (mx_getf 12 25 34) from sn_227 31) a56 s56 rfl rfl (hG8.prr 56 25 rfl) ?_
              refine mx_J.step (sn_227 34) (fun _ _ => rfl) ?_
              have b11 : (-1) ≤ Z8 68 w7_2 ∧ Z8 68 w7_2 ≤ 385 := hG8.pr 68 w7_2
              refine JialdI (z := Z8 68 w7_2) hx8 (show mx_Sn _ _ 35 (mx_iald 36) from sn_227 35) a68 s68 (by omega) rfl ?_
              refine JcI (z := (-1)) (show mx_Sn _ _ 36 (mx_const (.int (-1)) 37) from sn_227 36) rfl ?_
              refine Jicmp_ne (show mx_Sn _ _ 37 (mx_icmp_ne 80 40) from sn_227 37) (by omega) (by omega) (fun q12 => ?_) (fun q12 => ?_)
              · skip
                have cb8 := cn_b (Z := Z8) (c := 68) (v := -1) (m := Z 56 18) (by omega)
                have av := ai_at (Z := Z8) (c := 68) (i := w7_2) (by assumption) (by omega)
                refine mx_J.step (sn_227 80) (fun _ _ => rfl) ?_
                refine mx_J.step (sn_227 81) (fun _ _ => rfl) ?_
                refine JgetR (g := 25) (b := 68) hx8 (show mx_Sn _ _ 82 (mx_getf 12 25 85) from sn_227 82) a56 s56 rfl rfl (hG8.prr 56 25 rfl) ?_
                refine mx_J.step (sn_227 85) (fun _ _ => rfl) ?_
                refine JialdI (z := Z8 68 w7_2) hx8 (show mx_Sn _ _ 86 (mx_iald 87) from sn_227 86) a68 s68 (by omega) rfl ?_
                refine JputI (g := 31) hx8 (show mx_Sn _ _ 87 (mx_putf 1 12 31 (.int) 90) from sn_227 87) a56 s56 rfl rfl rfl rfl (fun Z14 h14 hx14 hE14 => ?_)
                have hG14 := GI_up hG8 hE14 (show 0 ≤ Z8 68 w7_2 ∧ Z8 68 w7_2 ≤ 385 by omega) trivial rfl
                have eq15 : Z14 56 30 = Z8 56 30 := (up_ni hE14 (by decide))
                have eq16 : Z14 56 31 = Z8 68 w7_2 := (up_at hE14)
                have eq17 : Z14 56 18 = Z 56 18 := ((up_ni hE14 (by decide)).trans ((hf8 56 18 rfl).trans ((up_ni hE6 (by decide)).trans (hf2 56 18 rfl))))
                have eq18 : (ai 67) Z14 (Z 56 18) 0 (Z 56 18 - 1) = (ai 67) Z (Z 56 18) 0 (Z 56 18 - 1) := ((ai_c (fun i => up_nk hE14 rfl)).trans ((ai_c (fun i => hf8 67 i rfl)).trans ((ai_c (fun i => up_nk hE6 rfl)).trans (ai_c (fun i => hf2 67 i rfl)))))
                exact mx_J.ret (sn_227 90) (fun _ _ => rfl) (hP Z14 h14 hx14 hG14 (fr_tr (M := [(56, 30), (56, 31), (68, (-1)), (69, (-1))]) (fr_tr (M := [(56, 30), (56, 31), (68, (-1)), (69, (-1))]) (fr_tr (M := [(56, 30), (56, 31), (68, (-1)), (69, (-1))]) (fr_tr (M := [(56, 30), (56, 31), (68, (-1)), (69, (-1))]) fr_rf (hf2) (M1 := []) rfl rfl) (fr_up hE6) rfl rfl) (hf8) rfl rfl) (fr_up hE14) rfl rfl) (by omega))
              · skip
                have cp := cn_p (Z := Z8) (c := 68) (v := -1) (g := w7_2) (m := Z 56 18) (by omega) (by omega)
                have ca := (cn_b (Z := Z8) (c := 68) (v := -1) (m := Z 56 18) (by omega))
                refine mx_J.step (sn_227 40) (fun _ _ => rfl) ?_
                refine JgetR (g := 25) (b := 68) hx8 (show mx_Sn _ _ 41 (mx_getf 12 25 44) from sn_227 41) a56 s56 rfl rfl (hG8.prr 56 25 rfl) ?_
                refine mx_J.step (sn_227 44) (fun _ _ => rfl) ?_
                refine mx_J.step (sn_227 45) (fun _ _ => rfl) ?_
                refine JgetI (g := 30) (z := Z8 56 30) hx8 (show mx_Sn _ _ 46 (mx_getf 12 30 49) from sn_227 46) a56 s56 rfl rfl rfl ?_
                refine JiastI hx8 (show mx_Sn _ _ 49 (mx_iast 1 50) from sn_227 49) a68 s68 rfl (by omega) (fun Z21 h21 hx21 hE21 => ?_)
                have hG21 := GI_up hG8 hE21 (show (-1) ≤ Z8 56 30 ∧ Z8 56 30 ≤ 385 by omega) trivial rfl
                have cu := cn_u (v := -1) (m := Z 56 18) hE21 (by omega) (by omega) (by omega)
                have au : ai 68 Z21 (Z 56 18) (-1) ((Z8 56 30 + 1) - 1) = 1 := ai_u (ai_m (Z := Z8) (by assumption) (by omega) (by omega) (by omega)) hE21 (by omega)
                refine mx_J.step (sn_227 50) (fun _ _ => rfl) ?_
                refine JgetR (g := 26) (b := 69) hx21 (show mx_Sn _ _ 51 (mx_getf 12 26 54) from sn_227 51) a56 s56 rfl rfl (hG21.prr 56 26 rfl) ?_
                refine mx_J.step (sn_227 54) (fun _ _ => rfl) ?_
                refine JgetI (g := 30) (z := Z8 56 30) hx21 (show mx_Sn _ _ 55 (mx_getf 12 30 58) from sn_227 55) a56 s56 rfl rfl (up_nk hE21 rfl) ?_
                refine mx_J.step (sn_227 58) (fun _ _ => rfl) ?_
                refine JiastI hx21 (show mx_Sn _ _ 59 (mx_iast 1 60) from sn_227 59) a69 s69 rfl (by omega) (fun Z24 h24 hx24 hE24 => ?_)
                have hG24 := GI_up hG21 hE24 (show 0 ≤ w7_2 ∧ w7_2 ≤ 384 by omega) trivial rfl
                refine mx_J.step (sn_227 60) (fun _ _ => rfl) ?_
                refine mx_J.step (sn_227 61) (fun _ _ => rfl) ?_
                refine JgetI (g := 30) (z := Z8 56 30) hx24 (show mx_Sn _ _ 62 (mx_getf 12 30 65) from sn_227 62) a56 s56 rfl rfl ((up_nk hE24 rfl).trans (up_nk hE21 rfl)) ?_
                refine JcI (z := 1) (show mx_Sn _ _ 65 (mx_const (.int 1) 66) from sn_227 65) rfl ?_
                refine Jiadd (show mx_Sn _ _ 66 (mx_iadd 67) from sn_227 66) ?_
                refine JputI (g := 30) hx24 (show mx_Sn _ _ 67 (mx_putf 1 12 30 (.int) 70) from sn_227 67) a56 s56 rfl rfl rfl rfl (fun Z26 h26 hx26 hE26 => ?_)
                have hG26 := GI_up hG24 hE26 (show 0 ≤ (Z8 56 30) + 1 ∧ (Z8 56 30) + 1 ≤ 386 by omega) trivial rfl
                refine mx_J.step (sn_227 70) (fun _ _ => rfl) ?_
                refine JgetR (g := 24) (b := 67) hx26 (show mx_Sn _ _ 71 (mx_getf 12 24 74) from sn_227 71) a56 s56 rfl rfl (hG26.prr 56 24 rfl) ?_
                refine mx_J.step (sn_227 74) (fun _ _ => rfl) ?_
                have b28 : 0 ≤ Z 67 w7_2 ∧ Z 67 w7_2 ≤ 384 := hG.pr 67 w7_2
                refine JialdI (z := Z 67 w7_2) hx26 (show mx_Sn _ _ 75 (mx_iald 76) from sn_227 75) a67 s67 (by omega) ((up_nk hE26 rfl).trans ((up_nk hE24 rfl).trans ((up_nk hE21 rfl).trans ((hf8 67 w7_2 rfl).trans ((up_nk hE6 rfl).trans (hf2 67 w7_2 rfl)))))) ?_
                have gg := ai_at (i := w7_2) k0 (by omega)
                refine mx_J.step (ls2 := [some (.ref 56), some (xI x0), some (xI (Z 67 w7_2))]) (sn_227 76) (fun _ _ => rfl) ?_
                refine mx_J.step (sn_227 77) (fun _ _ => rfl) ?_
                have eq29 : (cn 68 (-1)) Z26 (Z 56 18) = (cn 68 (-1)) Z21 (Z 56 18) := ((cn_c (fun i => up_nk hE26 rfl)).trans (cn_c (fun i => up_nk hE24 rfl)))
                have eq30 : Z26 56 30 = (Z8 56 30) + 1 := (up_at hE26)
                have eq31 : (ai 68) Z26 (Z 56 18) (-1) ((Z26 56 30) - 1) = (ai 68) Z21 (Z 56 18) (-1) (((Z8 56 30) + 1) - 1) := by rw [(show Z26 56 30 = (Z8 56 30) + 1 from (up_at hE26))]; exact ((ai_c (fun i => up_nk hE26 rfl)).trans (ai_c (fun i => up_nk hE24 rfl)))
                have eq32 : (ai 68) Z26 (Z 56 18) (-1) (((Z8 56 30) + 1) - 1) = (ai 68) Z21 (Z 56 18) (-1) (((Z8 56 30) + 1) - 1) := ((ai_c (fun i => up_nk hE26 rfl)).trans (ai_c (fun i => up_nk hE24 rfl)))
                have eq33 : (ai 68) Z26 (Z 56 18) (-1) (-1) = (ai 68) Z21 (Z 56 18) (-1) (-1) := ((ai_c (fun i => up_nk hE26 rfl)).trans (ai_c (fun i => up_nk hE24 rfl)))
                have eq34 : (cn 68 (-1)) Z26 (Z 56 18) = (cn 68 (-1)) Z21 (Z 56 18) := ((cn_c (fun i => up_nk hE26 rfl)).trans (cn_c (fun i => up_nk hE24 rfl)))
                exact ih7 (Z 67 w7_2) Z26 h26 (by omega) (by omega) (by omega) (by first | omega | (rw [show (Z26 56 30 - 1 : Int) = -1 by omega]; omega)) (by omega) hx26 hG26 (fr_tr (M := [(56, 30), (68, (-1)), (69, (-1))]) (fr_tr (M := [(56, 30), (68, (-1)), (69, (-1))]) (fr_tr (M := [(56, 30), (68, (-1)), (69, (-1))]) (fr_tr (M := [(56, 30), (68, (-1)), (69, (-1))]) fr_rf (hf8) (M1 := []) rfl rfl) (fr_ua hE21) rfl rfl) (fr_ua hE24) rfl rfl) (fr_up hE26) rfl rfl)
          have eq35 : (cn 68 (-1)) Z6 (Z 56 18) = (cn 68 (-1)) Z2 (Z 56 18) := (cn_c (fun i => up_nk hE6 rfl))
          have eq36 : Z6 56 30 = 0 := (up_at hE6)
          have eq37 : (ai 68) Z6 (Z 56 18) (-1) ((Z6 56 30) - 1) = (ai 68) Z2 (Z 56 18) (-1) (0 - 1) := by rw [(show Z6 56 30 = 0 from (up_at hE6))]; exact (ai_c (fun i => up_nk hE6 rfl))
          have eq38 : (ai 68) Z6 (Z 56 18) (-1) (0 - 1) = (ai 68) Z2 (Z 56 18) (-1) (0 - 1) := (ai_c (fun i => up_nk hE6 rfl))
          have eq39 : (ai 68) Z6 (Z 56 18) (-1) (-1) = (ai 68) Z2 (Z 56 18) (-1) (-1) := (ai_c (fun i => up_nk hE6 rfl))
          have eq40 : (cn 68 (-1)) Z6 (Z 56 18) = (cn 68 (-1)) Z2 (Z 56 18) := (cn_c (fun i => up_nk hE6 rfl))
          exact c30 (Int.toNat ((((cn 68 (-1) Z6 (Z 56 18)).toNat : Nat) : Int)) + 1) x0 Z6 h6 (by omega) (by omega) (by omega) (by first | omega | (rw [show (Z6 56 30 - 1 : Int) = -1 by omega]; omega)) (by omega) hx6 hG6 fr_rf
        · skip
          refine mx_J.step (sn_227 10) (fun _ _ => rfl) ?_
          refine JgetR (g := 25) (b := 68) hx2 (show mx_Sn _ _ 11 (mx_getf 12 25 14) from sn_227 11) a56 s56 rfl rfl (hG2.prr 56 25 rfl) ?_
          refine mx_J.step (sn_227 14) (fun _ _ => rfl) ?_
          refine JcI (z := (-1)) (show mx_Sn _ _ 15 (mx_const (.int (-1)) 16) from sn_227 15) rfl ?_
          refine JiastI hx2 (show mx_Sn _ _ 16 (mx_iast 1 17) from sn_227 16) a68 s68 rfl (by omega) (fun Z42 h42 hx42 hE42 => ?_)
          have hG42 := GI_up hG2 hE42 (show (-1) ≤ (-1) ∧ (-1) ≤ 385 by omega) trivial rfl
          have m42 := fill_up hE42 f1_1 (by omega)
          refine Jiinc (z := w1_2) (cz := 1) (ls2 := [some (.ref 56), some (xI x0), some (xI (w1_2 + 1))]) (show mx_Sn _ _ 17 (mx_iinc 2 1 20) from sn_227 17) rfl rfl rfl rfl ?_
          refine mx_J.step (sn_227 20) (fun _ _ => rfl) ?_
          exact ih1 (w1_2 + 1) Z42 h42 (by omega) (by omega) (ab_mono m42 (by omega) (by omega) (by omega)) hx42 hG42 (fr_tr (M := [(68, (-1))]) (fr_tr (M := [(68, (-1))]) fr_rf (hf2) (M1 := []) rfl rfl) (fr_ua hE42) rfl rfl)
    exact c2 (Int.toNat (385 - 0) + 1) 0 Z h (by omega) (by omega) (ab_nil (by omega)) hx hG fr_rf
theorem ct_227_56 {l : Launch} {D : va_G} {b0 : Nat} {ad : Nat → Nat} {Hb : Heap} {tau : Nat → Int64} {d n s : Nat} {S : Nat → xS} {Z : xZ} {h : mx_H} (hx : XH n s S Z h) (hG : GI n S Z)  {x0 : Int} (p0 : 0 ≤ x0 ∧ x0 ≤ 384) (k0 : ai 67 Z (Z 56 18) 0 (Z 56 18 - 1) = 1) (k1 : x0 < Z 56 18) : ∃ (Z' : xZ) (h' : mx_H), mx_Ca (tB l D b0 ad Hb tau) (d + 1) 227 [.ref 56, xI x0] h (none, h') ∧ XH n s S Z' h' ∧ GI n S Z' ∧ fr' [(56, 30), (56, 31), (68, (-1)), (69, (-1))] Z Z' ∧ ((1 ≤ Z' 56 30 ∧ Z' 56 30 ≤ 385 ∧ 0 ≤ Z' 56 31 ∧ Z' 56 31 < Z' 56 30)) := by
  obtain ⟨r, hca, Z', h', e, q⟩ := Jmt (B := tB l D b0 ad Hb tau) (M := mt_227) (mi := 227) (as := [.ref 56, xI x0]) (d := d + 0) (ls := [some (.ref 56), some (xI x0), none]) rfl rfl rfl rfl rfl rfl (cw_227_56 (l := l) (D := D) (b0 := b0) (ad := ad) (Hb := Hb) (tau := tau) (d := d) (Post := fun r => ∃ (Z' : xZ) (h' : mx_H), r = (none, h') ∧ XH n s S Z' h' ∧ GI n S Z' ∧ fr' [(56, 30), (56, 31), (68, (-1)), (69, (-1))] Z Z' ∧ ((1 ≤ Z' 56 30 ∧ Z' 56 30 ≤ 385 ∧ 0 ≤ Z' 56 31 ∧ Z' 56 31 < Z' 56 30))) hx hG p0 k0 k1 (fun Z' h' q1 q2 q3 q4 => ⟨Z', h', rfl, q1, q2, q3, q4⟩))
  subst e; exact ⟨Z', h', hca, q⟩
set_option maxRecDepth 100000 in
theorem cw_228_56 {l : Launch} {D : va_G} {b0 : Nat} {ad : Nat → Nat} {Hb : Heap} {tau : Nat → Int64} {d n s : Nat} {S : Nat → xS} {Z : xZ} {h : mx_H} {Post : mx_R → Prop} (hx : XH n s S Z h) (hG : GI n S Z)  {x0 : Int} (p0 : (-9223372036854775808) ≤ x0 ∧ x0 ≤ 9223372036854775807) (hP : ∀ (z : Int) (Z' : xZ) (h' : mx_H), XH n s S Z' h' → GI n S Z' → fr' [(56, 0), (56, 30), (56, 31), (62, (-1)), (64, (-1)), (65, (-1)), (67, (-1)), (68, (-1)), (69, (-1))] Z Z' → (-3) ≤ z ∧ z ≤ 384 → Post (some (xI z), h')) : mx_J (tB l D b0 ad Hb tau) mt_228 (d + 6) 0 [some (.ref 56), some (xL x0), none] [] h Post := by
    have a56 : 56 < n := lt83 (GI_n hG) rfl
    have s56 : S 56 = .inl (12, [0, 2, 2, 2, 2, 0, 0, 0, 0, 0, 0, 0, 0, 0, 0, 2, 2, 2, 0, 2, 2, 2, 0, 0, 2, 2, 2, 2, 2, 2, 0, 0, 2, 2, 2, 2, 2, 2, 2, 2, 2, 2]) := GI_s hG 56 rfl
    have a57 : 57 < n := lt83 (GI_n hG) rfl
    have s57 : S 57 = .inr (.int, 2886, 0) := GI_s hG 57 rfl
    have a69 : 69 < n := lt83 (GI_n hG) rfl
    have s69 : S 69 = .inr (.int, 386, 0) := GI_s hG 69 rfl
    refine mx_J.step (sn_228 0) (fun _ _ => rfl) ?_
    refine JcI (z := 0) (show mx_Sn _ _ 1 (mx_const (.int 0) 2) from sn_228 1) rfl ?_
    refine JputI (g := 0) hx (show mx_Sn _ _ 2 (mx_putf 1 12 0 (.int) 5) from sn_228 2) a56 s56 rfl rfl rfl rfl (fun Z1 h1 hx1 hE1 => ?_)
    have hG1 := GI_up hG hE1 (show (-2147483648) ≤ 0 ∧ 0 ≤ 2147483647 by omega) trivial rfl
    refine mx_J.step (sn_228 5) (fun _ _ => rfl) ?_
    refine JcL (z := 0) (show mx_Sn _ _ 6 (mx_const (.long 0) 7) from sn_228 6) rfl ?_
    refine JcL (z := 1000000000000000) (show mx_Sn _ _ 7 (mx_const (.long 1000000000000000) 10) from sn_228 7) rfl ?_
    obtain ⟨z2, hc2, b2⟩ := ct_154_ (d := d + 5) (l := l) (D := D) (b0 := b0) (ad := ad) (Hb := Hb) (tau := tau) hx1 hG1 (show (-9223372036854775808) ≤ x0 ∧ x0 ≤ 9223372036854775807 by omega) (show (-9223372036854775808) ≤ 0 ∧ 0 ≤ 9223372036854775807 by omega) (show (-9223372036854775808) ≤ 1000000000000000 ∧ 1000000000000000 ≤ 9223372036854775807 by omega)
    refine Jcs (show mx_Sn _ _ 10 (mx_calls 154 3 13) from sn_228 10) hc2 rfl rfl rfl ?_
    refine Jif_ne (show mx_Sn _ _ 13 (mx_if_ne 19 16) from sn_228 13) (by omega) (fun q3 => ?_) (fun q3 => ?_)
    · skip
      refine mx_J.step (sn_228 19) (fun _ _ => rfl) ?_
      have eq5 : Z1 56 18 = Z 56 18 := (up_ni hE1 (by decide))
      have b6 : 0 ≤ Z 56 18 ∧ Z 56 18 ≤ 385 := hG.pr 56 18
      obtain ⟨Z4, h4, hc4, hx4, hG4, hf4, b4⟩ := ct_226_56 (d := d + 0) (l := l) (D := D) (b0 := b0) (ad := ad) (Hb := Hb) (tau := tau) hx1 hG1 
      try rw [eq5] at b4
      refine Jcv0 hx1 (show mx_Sn _ _ 20 (mx_callv 226 1 12 23) from sn_228 20) a56 s56 hc4 rfl rfl rfl ?_
      refine mx_J.step (sn_228 23) (fun _ _ => rfl) ?_
      refine mx_J.step (sn_228 24) (fun _ _ => rfl) ?_
      refine JgetR (g := 1) (b := 57) hx4 (show mx_Sn _ _ 25 (mx_getf 12 1 28) from sn_228 25) a56 s56 rfl rfl (hG4.prr 56 1 rfl) ?_
      refine JcI (z := 27) (show mx_Sn _ _ 28 (mx_const (.int 27) 30) from sn_228 28) rfl ?_
      have b8 := GI_st hG 27
      have b9 : 0 ≤ Z 57 27 ∧ Z 57 27 ≤ 384 := by have hq := GI_ex hG 57 27; replace hq : f57 (27 % 962) (Z 57 27) := hq; unfold f57 at hq; omega
      have b10 : (-2147483648) ≤ Z 57 27 ∧ Z 57 27 ≤ 2147483647 := hG.pr 57 27
      refine JialdI (z := Z 57 27) hx4 (show mx_Sn _ _ 30 (mx_iald 31) from sn_228 30) a57 s57 (by omega) ((hf4 57 27 rfl).trans (up_nk hE1 rfl)) ?_
      have eq12 : Z4 56 18 = Z 56 18 := ((hf4 56 18 rfl).trans (up_ni hE1 (by decide)))
      obtain ⟨Z11, h11, hc11, hx11, hG11, hf11, b11⟩ := ct_227_56 (d := d + 5) (l := l) (D := D) (b0 := b0) (ad := ad) (Hb := Hb) (tau := tau) hx4 hG4 (show 0 ≤ Z 57 27 ∧ Z 57 27 ≤ 384 by omega) (show ai 67 Z4 (Z4 56 18) 0 (Z4 56 18 - 1) = 1 by first | omega | (simp only [eq12]; omega)) (show (Z 57 27) < Z4 56 18 by first | omega | (simp only [eq12]; omega))
      try rw [eq12] at b11
      have b13 : 0 ≤ Z11 56 30 ∧ Z11 56 30 ≤ 386 := hG11.pr 56 30
      have b14 : 0 ≤ Z11 56 31 ∧ Z11 56 31 ≤ 385 := hG11.pr 56 31
      refine Jcv0 hx4 (show mx_Sn _ _ 31 (mx_callv 227 2 12 34) from sn_228 31) a56 s56 hc11 rfl rfl rfl ?_
      refine mx_J.step (sn_228 34) (fun _ _ => rfl) ?_
      refine JgetR (g := 26) (b := 69) hx11 (show mx_Sn _ _ 35 (mx_getf 12 26 38) from sn_228 35) a56 s56 rfl rfl (hG11.prr 56 26 rfl) ?_
      refine mx_J.step (sn_228 38) (fun _ _ => rfl) ?_
      refine mx_J.step (sn_228 39) (fun _ _ => rfl) ?_
      refine JgetI (g := 30) (z := Z11 56 30) hx11 (show mx_Sn _ _ 40 (mx_getf 12 30 43) from sn_228 40) a56 s56 rfl rfl rfl ?_
      refine Ji2l (show mx_Sn _ _ 43 (mx_i2l 44) from sn_228 43) (by omega) ?_
      have c77 : ∀ (k17_1 : Int), 0 ≤ k17_1 ∧ k17_1 ≤ 385 → mx_J (tB l D b0 ad Hb tau) mt_228 (d + 6) 77 [some (.ref 56), some (xL x0), none] [xI k17_1, .ref 69] h11 Post := by
        intro k17_1 f17_0
        have b18 : 0 ≤ Z11 69 k17_1 ∧ Z11 69 k17_1 ≤ 384 := hG11.pr 69 k17_1
        refine JialdI (z := Z11 69 k17_1) hx11 (show mx_Sn _ _ 77 (mx_iald 78) from sn_228 77) a69 s69 (by omega) rfl ?_
        exact mx_J.ret (sn_228 78) (fun _ _ => rfl) (hP (Z11 69 k17_1) Z11 h11 hx11 hG11 (fr_tr (M := [(56, 0), (56, 30), (56, 31), (62, (-1)), (64, (-1)), (65, (-1)), (67, (-1)), (68, (-1)), (69, (-1))]) (fr_tr (M := [(56, 0), (56, 30), (56, 31), (62, (-1)), (64, (-1)), (65, (-1)), (67, (-1)), (68, (-1)), (69, (-1))]) (fr_tr (M := [(56, 0), (56, 30), (56, 31), (62, (-1)), (64, (-1)), (65, (-1)), (67, (-1)), (68, (-1)), (69, (-1))]) fr_rf (fr_up hE1) (M1 := []) rfl rfl) (hf4) rfl rfl) (hf11) rfl rfl) (by omega))
      refine Jlif_ge (show mx_Sn _ _ 44 (mx_lif_ge 53 48) from sn_228 44) (by omega) (by omega) (fun q19 => ?_) (fun q19 => ?_)
      · skip
        refine mx_J.step (sn_228 53) (fun _ _ => rfl) ?_
        refine JgetI (g := 31) (z := Z11 56 31) hx11 (show mx_Sn _ _ 54 (mx_getf 12 31 57) from sn_228 54) a56 s56 rfl rfl rfl ?_
        refine mx_J.step (sn_228 57) (fun _ _ => rfl) ?_
        refine mx_J.step (sn_228 58) (fun _ _ => rfl) ?_
        refine JgetI (g := 31) (z := Z11 56 31) hx11 (show mx_Sn _ _ 59 (mx_getf 12 31 62) from sn_228 59) a56 s56 rfl rfl rfl ?_
        refine Ji2l (show mx_Sn _ _ 62 (mx_i2l 63) from sn_228 62) (by omega) ?_
        refine Jlsub (show mx_Sn _ _ 63 (mx_lsub 64) from sn_228 63) ?_
        refine mx_J.step (sn_228 64) (fun _ _ => rfl) ?_
        refine JgetI (g := 30) (z := Z11 56 30) hx11 (show mx_Sn _ _ 65 (mx_getf 12 30 68) from sn_228 65) a56 s56 rfl rfl rfl ?_
        refine mx_J.step (sn_228 68) (fun _ _ => rfl) ?_
        refine JgetI (g := 31) (z := Z11 56 31) hx11 (show mx_Sn _ _ 69 (mx_getf 12 31 72) from sn_228 69) a56 s56 rfl rfl rfl ?_
        refine Jisub (show mx_Sn _ _ 72 (mx_isub 73) from sn_228 72) ?_
        refine Ji2l (show mx_Sn _ _ 73 (mx_i2l 74) from sn_228 73) (by omega) ?_
        refine JlremX (show mx_Sn _ _ 74 (mx_lrem 75) from sn_228 74) (by omega) (by omega) (by omega) (fun y24 hy24 => ?_)
        refine Jl2i (show mx_Sn _ _ 75 (mx_l2i 76) from sn_228 75) ?_
        refine Jiadd (show mx_Sn _ _ 76 (mx_iadd 77) from sn_228 76) ?_
        exact c77 ((Z11 56 31) + y24) (by omega)
      · skip
        refine mx_J.step (sn_228 48) (fun _ _ => rfl) ?_
        refine Jl2i (show mx_Sn _ _ 49 (mx_l2i 50) from sn_228 49) ?_
        refine mx_J.step (sn_228 50) (fun _ _ => rfl) ?_
        exact c77 x0 (by omega)
    · skip
      refine JcI (z := (-3)) (show mx_Sn _ _ 16 (mx_const (.int (-3)) 18) from sn_228 16) rfl ?_
      exact mx_J.ret (sn_228 18) (fun _ _ => rfl) (hP (-3) Z1 h1 hx1 hG1 (fr_tr (M := [(56, 0), (56, 30), (56, 31), (62, (-1)), (64, (-1)), (65, (-1)), (67, (-1)), (68, (-1)), (69, (-1))]) fr_rf (fr_up hE1) (M1 := []) rfl rfl) (by omega))
theorem ct_228_56 {l : Launch} {D : va_G} {b0 : Nat} {ad : Nat → Nat} {Hb : Heap} {tau : Nat → Int64} {d n s : Nat} {S : Nat → xS} {Z : xZ} {h : mx_H} (hx : XH n s S Z h) (hG : GI n S Z)  {x0 : Int} (p0 : (-9223372036854775808) ≤ x0 ∧ x0 ≤ 9223372036854775807) : ∃ (z : Int) (Z' : xZ) (h' : mx_H), mx_Ca (tB l D b0 ad Hb tau) (d + 7) 228 [.ref 56, xL x0] h (some (xI z), h') ∧ XH n s S Z' h' ∧ GI n S Z' ∧ fr' [(56, 0), (56, 30), (56, 31), (62, (-1)), (64, (-1)), (65, (-1)), (67, (-1)), (68, (-1)), (69, (-1))] Z Z' ∧ ((-3) ≤ z ∧ z ≤ 384) := by
  obtain ⟨r, hca, z, Z', h', e, q⟩ := Jmt (B := tB l D b0 ad Hb tau) (M := mt_228) (mi := 228) (as := [.ref 56, xL x0]) (d := d + 6) (ls := [some (.ref 56), some (xL x0), none]) rfl rfl rfl rfl rfl rfl (cw_228_56 (l := l) (D := D) (b0 := b0) (ad := ad) (Hb := Hb) (tau := tau) (d := d) (Post := fun r => ∃ (z : Int) (Z' : xZ) (h' : mx_H), r = (some (xI z), h') ∧ XH n s S Z' h' ∧ GI n S Z' ∧ fr' [(56, 0), (56, 30), (56, 31), (62, (-1)), (64, (-1)), (65, (-1)), (67, (-1)), (68, (-1)), (69, (-1))] Z Z' ∧ ((-3) ≤ z ∧ z ≤ 384)) hx hG p0 (fun z Z' h' q1 q2 q3 q4 => ⟨z, Z', h', rfl, q1, q2, q3, q4⟩))
  subst e; exact ⟨z, Z', h', hca, q⟩
set_option maxRecDepth 100000 in
theorem cw_229_56 {l : Launch} {D : va_G} {b0 : Nat} {ad : Nat → Nat} {Hb : Heap} {tau : Nat → Int64} {d n s : Nat} {S : Nat → xS} {Z : xZ} {h : mx_H} {Post : mx_R → Prop} (hx : XH n s S Z h) (hG : GI n S Z)  {x0 : Int} (p0 : (-2147483648) ≤ x0 ∧ x0 ≤ 2147483647) (hP : ∀ (z : Int) (Z' : xZ) (h' : mx_H), XH n s S Z' h' → GI n S Z' → fr' [(56, 0), (56, 30), (56, 31), (62, (-1)), (64, (-1)), (65, (-1)), (67, (-1)), (68, (-1)), (69, (-1))] Z Z' → (-385) ≤ z ∧ z ≤ 386 → Post (some (xI z), h')) : mx_J (tB l D b0 ad Hb tau) mt_229 (d + 6) 0 [some (.ref 56), some (xI x0)] [] h Post := by
    have a56 : 56 < n := lt83 (GI_n hG) rfl
    have s56 : S 56 = .inl (12, [0, 2, 2, 2, 2, 0, 0, 0, 0, 0, 0, 0, 0, 0, 0, 2, 2, 2, 0, 2, 2, 2, 0, 0, 2, 2, 2, 2, 2, 2, 0, 0, 2, 2, 2, 2, 2, 2, 2, 2, 2, 2]) := GI_s hG 56 rfl
    have a57 : 57 < n := lt83 (GI_n hG) rfl
    have s57 : S 57 = .inr (.int, 2886, 0) := GI_s hG 57 rfl
    refine mx_J.step (sn_229 0) (fun _ _ => rfl) ?_
    refine JcI (z := 0) (show mx_Sn _ _ 1 (mx_const (.int 0) 2) from sn_229 1) rfl ?_
    refine JputI (g := 0) hx (show mx_Sn _ _ 2 (mx_putf 1 12 0 (.int) 5) from sn_229 2) a56 s56 rfl rfl rfl rfl (fun Z1 h1 hx1 hE1 => ?_)
    have hG1 := GI_up hG hE1 (show (-2147483648) ≤ 0 ∧ 0 ≤ 2147483647 by omega) trivial rfl
    refine mx_J.step (sn_229 5) (fun _ _ => rfl) ?_
    refine Ji2l (show mx_Sn _ _ 6 (mx_i2l 7) from sn_229 6) (by omega) ?_
    refine JcL (z := 0) (show mx_Sn _ _ 7 (mx_const (.long 0) 8) from sn_229 7) rfl ?_
    refine JcL (z := 1) (show mx_Sn _ _ 8 (mx_const (.long 1) 9) from sn_229 8) rfl ?_
    obtain ⟨z2, hc2, b2⟩ := ct_154_ (d := d + 5) (l := l) (D := D) (b0 := b0) (ad := ad) (Hb := Hb) (tau := tau) hx1 hG1 (show (-9223372036854775808) ≤ x0 ∧ x0 ≤ 9223372036854775807 by omega) (show (-9223372036854775808) ≤ 0 ∧ 0 ≤ 9223372036854775807 by omega) (show (-9223372036854775808) ≤ 1 ∧ 1 ≤ 9223372036854775807 by omega)
    refine Jcs (show mx_Sn _ _ 9 (mx_calls 154 3 12) from sn_229 9) hc2 rfl rfl rfl ?_
    refine Jif_ne (show mx_Sn _ _ 12 (mx_if_ne 18 15) from sn_229 12) (by omega) (fun q3 => ?_) (fun q3 => ?_)
    · skip
      refine mx_J.step (sn_229 18) (fun _ _ => rfl) ?_
      have eq5 : Z1 56 18 = Z 56 18 := (up_ni hE1 (by decide))
      have b6 : 0 ≤ Z 56 18 ∧ Z 56 18 ≤ 385 := hG.pr 56 18
      obtain ⟨Z4, h4, hc4, hx4, hG4, hf4, b4⟩ := ct_226_56 (d := d + 0) (l := l) (D := D) (b0 := b0) (ad := ad) (Hb := Hb) (tau := tau) hx1 hG1 
      try rw [eq5] at b4
      refine Jcv0 hx1 (show mx_Sn _ _ 19 (mx_callv 226 1 12 22) from sn_229 19) a56 s56 hc4 rfl rfl rfl ?_
      refine mx_J.step (sn_229 22) (fun _ _ => rfl) ?_
      refine mx_J.step (sn_229 23) (fun _ _ => rfl) ?_
      refine JgetR (g := 1) (b := 57) hx4 (show mx_Sn _ _ 24 (mx_getf 12 1 27) from sn_229 24) a56 s56 rfl rfl (hG4.prr 56 1 rfl) ?_
      refine JcI (z := 27) (show mx_Sn _ _ 27 (mx_const (.int 27) 29) from sn_229 27) rfl ?_
      have b8 := GI_st hG 27
      have b9 : 0 ≤ Z 57 27 ∧ Z 57 27 ≤ 384 := by have hq := GI_ex hG 57 27; replace hq : f57 (27 % 962) (Z 57 27) := hq; unfold f57 at hq; omega
      have b10 : (-2147483648) ≤ Z 57 27 ∧ Z 57 27 ≤ 2147483647 := hG.pr 57 27
      refine JialdI (z := Z 57 27) hx4 (show mx_Sn _ _ 29 (mx_iald 30) from sn_229 29) a57 s57 (by omega) ((hf4 57 27 rfl).trans (up_nk hE1 rfl)) ?_
      have eq12 : Z4 56 18 = Z 56 18 := ((hf4 56 18 rfl).trans (up_ni hE1 (by decide)))
      obtain ⟨Z11, h11, hc11, hx11, hG11, hf11, b11⟩ := ct_227_56 (d := d + 5) (l := l) (D := D) (b0 := b0) (ad := ad) (Hb := Hb) (tau := tau) hx4 hG4 (show 0 ≤ Z 57 27 ∧ Z 57 27 ≤ 384 by omega) (show ai 67 Z4 (Z4 56 18) 0 (Z4 56 18 - 1) = 1 by first | omega | (simp only [eq12]; omega)) (show (Z 57 27) < Z4 56 18 by first | omega | (simp only [eq12]; omega))
      try rw [eq12] at b11
      have b13 : 0 ≤ Z11 56 30 ∧ Z11 56 30 ≤ 386 := hG11.pr 56 30
      have b14 : 0 ≤ Z11 56 31 ∧ Z11 56 31 ≤ 385 := hG11.pr 56 31
      refine Jcv0 hx4 (show mx_Sn _ _ 30 (mx_callv 227 2 12 33) from sn_229 30) a56 s56 hc11 rfl rfl rfl ?_
      refine mx_J.step (sn_229 33) (fun _ _ => rfl) ?_
      have c53 : ∀ (k15_0 : Int), (-385) ≤ k15_0 ∧ k15_0 ≤ 386 → mx_J (tB l D b0 ad Hb tau) mt_229 (d + 6) 53 [some (.ref 56), some (xI x0)] [xI k15_0] h11 Post := by
        intro k15_0 f15_0
        exact mx_J.ret (sn_229 53) (fun _ _ => rfl) (hP k15_0 Z11 h11 hx11 hG11 (fr_tr (M := [(56, 0), (56, 30), (56, 31), (62, (-1)), (64, (-1)), (65, (-1)), (67, (-1)), (68, (-1)), (69, (-1))]) (fr_tr (M := [(56, 0), (56, 30), (56, 31), (62, (-1)), (64, (-1)), (65, (-1)), (67, (-1)), (68, (-1)), (69, (-1))]) (fr_tr (M := [(56, 0), (56, 30), (56, 31), (62, (-1)), (64, (-1)), (65, (-1)), (67, (-1)), (68, (-1)), (69, (-1))]) fr_rf (fr_up hE1) (M1 := []) rfl rfl) (hf4) rfl rfl) (hf11) rfl rfl) (by omega))
      refine Jif_ne (show mx_Sn _ _ 34 (mx_if_ne 44 37) from sn_229 34) (by omega) (fun q16 => ?_) (fun q16 => ?_)
      · skip
        refine mx_J.step (sn_229 44) (fun _ _ => rfl) ?_
        refine JgetI (g := 30) (z := Z11 56 30) hx11 (show mx_Sn _ _ 45 (mx_getf 12 30 48) from sn_229 45) a56 s56 rfl rfl rfl ?_
        refine mx_J.step (sn_229 48) (fun _ _ => rfl) ?_
        refine JgetI (g := 31) (z := Z11 56 31) hx11 (show mx_Sn _ _ 49 (mx_getf 12 31 52) from sn_229 49) a56 s56 rfl rfl rfl ?_
        refine Jisub (show mx_Sn _ _ 52 (mx_isub 53) from sn_229 52) ?_
        exact c53 ((Z11 56 30) - (Z11 56 31)) (by omega)
      · skip
        refine mx_J.step (sn_229 37) (fun _ _ => rfl) ?_
        refine JgetI (g := 31) (z := Z11 56 31) hx11 (show mx_Sn _ _ 38 (mx_getf 12 31 41) from sn_229 38) a56 s56 rfl rfl rfl ?_
        refine mx_J.step (sn_229 41) (fun _ _ => rfl) ?_
        exact c53 (Z11 56 31) (by omega)
    · skip
      refine JcI (z := (-2)) (show mx_Sn _ _ 15 (mx_const (.int (-2)) 17) from sn_229 15) rfl ?_
      exact mx_J.ret (sn_229 17) (fun _ _ => rfl) (hP (-2) Z1 h1 hx1 hG1 (fr_tr (M := [(56, 0), (56, 30), (56, 31), (62, (-1)), (64, (-1)), (65, (-1)), (67, (-1)), (68, (-1)), (69, (-1))]) fr_rf (fr_up hE1) (M1 := []) rfl rfl) (by omega))
theorem ct_229_56 {l : Launch} {D : va_G} {b0 : Nat} {ad : Nat → Nat} {Hb : Heap} {tau : Nat → Int64} {d n s : Nat} {S : Nat → xS} {Z : xZ} {h : mx_H} (hx : XH n s S Z h) (hG : GI n S Z)  {x0 : Int} (p0 : (-2147483648) ≤ x0 ∧ x0 ≤ 2147483647) : ∃ (z : Int) (Z' : xZ) (h' : mx_H), mx_Ca (tB l D b0 ad Hb tau) (d + 7) 229 [.ref 56, xI x0] h (some (xI z), h') ∧ XH n s S Z' h' ∧ GI n S Z' ∧ fr' [(56, 0), (56, 30), (56, 31), (62, (-1)), (64, (-1)), (65, (-1)), (67, (-1)), (68, (-1)), (69, (-1))] Z Z' ∧ ((-385) ≤ z ∧ z ≤ 386) := by
  obtain ⟨r, hca, z, Z', h', e, q⟩ := Jmt (B := tB l D b0 ad Hb tau) (M := mt_229) (mi := 229) (as := [.ref 56, xI x0]) (d := d + 6) (ls := [some (.ref 56), some (xI x0)]) rfl rfl rfl rfl rfl rfl (cw_229_56 (l := l) (D := D) (b0 := b0) (ad := ad) (Hb := Hb) (tau := tau) (d := d) (Post := fun r => ∃ (z : Int) (Z' : xZ) (h' : mx_H), r = (some (xI z), h') ∧ XH n s S Z' h' ∧ GI n S Z' ∧ fr' [(56, 0), (56, 30), (56, 31), (62, (-1)), (64, (-1)), (65, (-1)), (67, (-1)), (68, (-1)), (69, (-1))] Z Z' ∧ ((-385) ≤ z ∧ z ≤ 386)) hx hG p0 (fun z Z' h' q1 q2 q3 q4 => ⟨z, Z', h', rfl, q1, q2, q3, q4⟩))
  subst e; exact ⟨z, Z', h', hca, q⟩
set_option maxRecDepth 100000 in
theorem cw_230_56 {l : Launch} {D : va_G} {b0 : Nat} {ad : Nat → Nat} {Hb : Heap} {tau : Nat → Int64} {d n s : Nat} {S : Nat → xS} {Z : xZ} {h : mx_H} {Post : mx_R → Prop} (hx : XH n s S Z h) (hG : GI n S Z)   (hP : ∀ (Z' : xZ) (h' : mx_H), XH n s S Z' h' → GI n S Z' → fr' [(56, 30), (56, 31), (62, (-1)), (64, (-1)), (65, (-1)), (67, (-1)), (68, (-1)), (69, (-1)), (70, (-1))] Z Z' → (ai 67 Z' (Z 56 18) 0 (Z 56 18 - 1) = 1) → Post (none, h')) : mx_J (tB l D b0 ad Hb tau) mt_230 (d + 6) 0 [some (.ref 56), none] [] h Post := by
    have a56 : 56 < n := lt83 (GI_n hG) rfl
    have s56 : S 56 = .inl (12, [0, 2, 2, 2, 2, 0, 0, 0, 0, 0, 0, 0, 0, 0, 0, 2, 2, 2, 0, 2, 2, 2, 0, 0, 2, 2, 2, 2, 2, 2, 0, 0, 2, 2, 2, 2, 2, 2, 2, 2, 2, 2]) := GI_s hG 56 rfl
    have a70 : 70 < n := lt83 (GI_n hG) rfl
    have s70 : S 70 = .inr (.boolean, 385, 0) := GI_s hG 70 rfl
    refine mx_J.step (sn_230 0) (fun _ _ => rfl) ?_
    have b2 : 0 ≤ Z 56 18 ∧ Z 56 18 ≤ 385 := hG.pr 56 18
    obtain ⟨Z1, h1, hc1, hx1, hG1, hf1, b1⟩ := ct_226_56 (d := d + 0) (l := l) (D := D) (b0 := b0) (ad := ad) (Hb := Hb) (tau := tau) hx hG 
    refine Jcv0 hx (show mx_Sn _ _ 1 (mx_callv 226 1 12 4) from sn_230 1) a56 s56 hc1 rfl rfl rfl ?_
    refine JcI (z := 0) (show mx_Sn _ _ 4 (mx_const (.int 0) 5) from sn_230 4) rfl ?_
    refine mx_J.step (ls2 := [some (.ref 56), some (xI 0)]) (sn_230 5) (fun _ _ => rfl) ?_
    have c6 : ∀ (m3 : Nat) (w3_1 : Int) (Z4 : xZ) (h4 : mx_H), 385 - w3_1 < (m3 : Int) → 0 ≤ w3_1 ∧ w3_1 ≤ 385 → XH n s S Z4 h4 → GI n S Z4 → fr' [(56, 30), (56, 31), (68, (-1)), (69, (-1)), (70, (-1))] Z1 Z4 → mx_J (tB l D b0 ad Hb tau) mt_230 (d + 6) 6 [some (.ref 56), some (xI w3_1)] [] h4 Post := by
      intro m3
      induction m3 with
      | zero => intro w3_1 Z4 h4 q3 f3_0 hx4 hG4 hf4; exact absurd q3 (by omega)
      | succ m3 ih3 =>
        intro w3_1 Z4 h4 q3 f3_0 hx4 hG4 hf4
        refine mx_J.step (sn_230 6) (fun _ _ => rfl) ?_
        refine mx_J.step (sn_230 7) (fun _ _ => rfl) ?_
        refine JgetI (g := 18) (z := Z 56 18) hx4 (show mx_Sn _ _ 8 (mx_getf 12 18 11) from sn_230 8) a56 s56 rfl rfl ((hf4 56 18 rfl).trans (hf1 56 18 rfl)) ?_
        refine Jicmp_ge (show mx_Sn _ _ 11 (mx_icmp_ge 43 14) from sn_230 11) (by omega) (by omega) (fun q6 => ?_) (fun q6 => ?_)
        · skip
          have eq7 : (ai 67) Z4 (Z 56 18) 0 (Z 56 18 - 1) = (ai 67) Z1 (Z 56 18) 0 (Z 56 18 - 1) := (ai_c (fun i => hf4 67 i rfl))
          have eq8 : Z4 56 18 = Z 56 18 := ((hf4 56 18 rfl).trans (hf1 56 18 rfl))
          exact mx_J.ret (sn_230 43) (fun _ _ => rfl) (hP Z4 h4 hx4 hG4 (fr_tr (M := [(56, 30), (56, 31), (62, (-1)), (64, (-1)), (65, (-1)), (67, (-1)), (68, (-1)), (69, (-1)), (70, (-1))]) (fr_tr (M := [(56, 30), (56, 31), (62, (-1)), (64, (-1)), (65, (-1)), (67, (-1)), (68, (-1)), (69, (-1)), (70, (-1))]) fr_rf (hf1) (M1 := []) rfl rfl) (hf4) rfl rfl) (by omega))
        · skip
          refine mx_J.step (sn_230 14) (fun _ _ => rfl) ?_
          refine mx_J.step (sn_230 15) (fun _ _ => rfl) ?_
          have eq10 : Z4 56 18 = Z 56 18 := ((hf4 56 18 rfl).trans (hf1 56 18 rfl))
          have eq11 : (ai 67) Z4 (Z 56 18) 0 (Z 56 18 - 1) = (ai 67) Z1 (Z 56 18) 0 (Z 56 18 - 1) := (ai_c (fun i => hf4 67 i rfl))
          obtain ⟨Z9, h9, hc9, hx9, hG9, hf9, b9⟩ := ct_227_56 (d := d + 5) (l := l) (D := D) (b0 := b0) (ad := ad) (Hb := Hb) (tau := tau) hx4 hG4 (show 0 ≤ w3_1 ∧ w3_1 ≤ 384 by omega) (show ai 67 Z4 (Z4 56 18) 0 (Z4 56 18 - 1) = 1 by first | omega | (simp only [eq10]; omega)) (show w3_1 < Z4 56 18 by first | omega | (simp only [eq10]; omega))
          try rw [eq10] at b9
          have b12 : 0 ≤ Z9 56 30 ∧ Z9 56 30 ≤ 386 := hG9.pr 56 30
          have b13 : 0 ≤ Z9 56 31 ∧ Z9 56 31 ≤ 385 := hG9.pr 56 31
          refine Jcv0 hx4 (show mx_Sn _ _ 16 (mx_callv 227 2 12 19) from sn_230 16) a56 s56 hc9 rfl rfl rfl ?_
          refine mx_J.step (sn_230 19) (fun _ _ => rfl) ?_
          refine JgetR (g := 27) (b := 70) hx9 (show mx_Sn _ _ 20 (mx_getf 12 27 23) from sn_230 20) a56 s56 rfl rfl (hG9.prr 56 27 rfl) ?_
          refine mx_J.step (sn_230 23) (fun _ _ => rfl) ?_
          refine mx_J.step (sn_230 24) (fun _ _ => rfl) ?_
          refine JgetI (g := 31) (z := Z9 56 31) hx9 (show mx_Sn _ _ 25 (mx_getf 12 31 28) from sn_230 25) a56 s56 rfl rfl rfl ?_
          have c36 : ∀ (k16_2 : Int), 0 ≤ k16_2 ∧ k16_2 ≤ 1 → mx_J (tB l D b0 ad Hb tau) mt_230 (d + 6) 36 [some (.ref 56), some (xI w3_1)] [xI k16_2, xI w3_1, .ref 70] h9 Post := by
            intro k16_2 f16_0
            refine JzastI hx9 (show mx_Sn _ _ 36 (mx_zast 1 37) from sn_230 36) a70 s70 rfl (by omega) (by omega) (fun Z17 h17 hx17 hE17 => ?_)
            have hG17 := GI_up hG9 hE17 (show 0 ≤ k16_2 ∧ k16_2 ≤ 1 by omega) trivial rfl
            refine Jiinc (z := w3_1) (cz := 1) (ls2 := [some (.ref 56), some (xI (w3_1 + 1))]) (show mx_Sn _ _ 37 (mx_iinc 1 1 40) from sn_230 37) rfl rfl rfl rfl ?_
            refine mx_J.step (sn_230 40) (fun _ _ => rfl) ?_
            exact ih3 (w3_1 + 1) Z17 h17 (by omega) (by omega) hx17 hG17 (fr_tr (M := [(56, 30), (56, 31), (68, (-1)), (69, (-1)), (70, (-1))]) (fr_tr (M := [(56, 30), (56, 31), (68, (-1)), (69, (-1)), (70, (-1))]) (fr_tr (M := [(56, 30), (56, 31), (68, (-1)), (69, (-1)), (70, (-1))]) fr_rf (hf4) (M1 := []) rfl rfl) (hf9) rfl rfl) (fr_ua hE17) rfl rfl)
          refine Jif_ne (show mx_Sn _ _ 28 (mx_if_ne 35 31) from sn_230 28) (by omega) (fun q18 => ?_) (fun q18 => ?_)
          · skip
            refine JcI (z := 0) (show mx_Sn _ _ 35 (mx_const (.int 0) 36) from sn_230 35) rfl ?_
            exact c36 0 (by omega)
          · skip
            refine JcI (z := 1) (show mx_Sn _ _ 31 (mx_const (.int 1) 32) from sn_230 31) rfl ?_
            refine mx_J.step (sn_230 32) (fun _ _ => rfl) ?_
            exact c36 1 (by omega)
    exact c6 (Int.toNat (385 - 0) + 1) 0 Z1 h1 (by omega) (by omega) hx1 hG1 fr_rf
theorem ct_230_56 {l : Launch} {D : va_G} {b0 : Nat} {ad : Nat → Nat} {Hb : Heap} {tau : Nat → Int64} {d n s : Nat} {S : Nat → xS} {Z : xZ} {h : mx_H} (hx : XH n s S Z h) (hG : GI n S Z)   : ∃ (Z' : xZ) (h' : mx_H), mx_Ca (tB l D b0 ad Hb tau) (d + 7) 230 [.ref 56] h (none, h') ∧ XH n s S Z' h' ∧ GI n S Z' ∧ fr' [(56, 30), (56, 31), (62, (-1)), (64, (-1)), (65, (-1)), (67, (-1)), (68, (-1)), (69, (-1)), (70, (-1))] Z Z' ∧ ((ai 67 Z' (Z 56 18) 0 (Z 56 18 - 1) = 1)) := by
  obtain ⟨r, hca, Z', h', e, q⟩ := Jmt (B := tB l D b0 ad Hb tau) (M := mt_230) (mi := 230) (as := [.ref 56]) (d := d + 6) (ls := [some (.ref 56), none]) rfl rfl rfl rfl rfl rfl (cw_230_56 (l := l) (D := D) (b0 := b0) (ad := ad) (Hb := Hb) (tau := tau) (d := d) (Post := fun r => ∃ (Z' : xZ) (h' : mx_H), r = (none, h') ∧ XH n s S Z' h' ∧ GI n S Z' ∧ fr' [(56, 30), (56, 31), (62, (-1)), (64, (-1)), (65, (-1)), (67, (-1)), (68, (-1)), (69, (-1)), (70, (-1))] Z Z' ∧ ((ai 67 Z' (Z 56 18) 0 (Z 56 18 - 1) = 1))) hx hG  (fun Z' h' q1 q2 q3 q4 => ⟨Z', h', rfl, q1, q2, q3, q4⟩))
  subst e; exact ⟨Z', h', hca, q⟩
