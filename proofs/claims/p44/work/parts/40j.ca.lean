set_option maxRecDepth 100000 in
theorem cw_49_3_i3 {l : Launch} {D : va_G} {b0 : Nat} {ad : Nat → Nat} {Hb : Heap} {tau : Nat → Int64} {d n s : Nat} {S : Nat → xS} {Z : xZ} {h : mx_H} {Post : mx_R → Prop} (hx : XH n s S Z h) (hG : GI n S Z)   (k0 : Z 3 0 = 2) (k1 : (Z 3 3 ≤ Z 3 2 ∧ Z 3 2 ≤ Z 3 1 ∧ (Z 3 4 = 0 ∨ Z 3 4 = 3 ∨ Z 3 3 < Z 3 2) ∧ (Z 3 4 = 3 ∨ Z 3 14 = 0))) (hP : ∀ (Z' : xZ) (h' : mx_H), XH n s S Z' h' → GI n S Z' → fr' [(3, 2), (3, 3), (3, 4), (3, 5), (3, 7), (3, 14), (3, 15), (5, (-1))] Z Z' → ((Z' 3 3 ≤ Z' 3 2 ∧ Z' 3 2 ≤ Z 3 1 ∧ (Z' 3 4 = 0 ∨ Z' 3 4 = 3 ∨ Z' 3 3 < Z' 3 2) ∧ (Z' 3 4 = 3 ∨ Z' 3 14 = 0)) ∧ Z 3 3 ≤ Z' 3 3 ∧ Z' 3 7 - Z 3 7 ≤ Z' 3 3 - Z 3 3 ∧ (Z' 3 4 = 3 ∨ Z 3 3 + 1 ≤ Z' 3 3) ∧ (Z 3 4 = 3 → Z' 3 4 = 3)) → Post (none, h')) : mx_J (tB l D b0 ad Hb tau) mt_49 (d + 35) 0 [some (.ref 3), some (xI 3)] [] h Post := by
    have a3 : 3 < n := lt83 (GI_n hG) rfl
    have s3 : S 3 = .inl (7, [2, 0, 0, 0, 0, 0, 2, 0, 2, 2, 0, 2, 0, 0, 0, 0]) := GI_s hG 3 rfl
    refine mx_J.step (sn_49 0) (fun _ _ => rfl) ?_
    have b2 : 0 ≤ Z 3 4 ∧ Z 3 4 ≤ 400 := hG.pr 3 4
    refine JgetI (g := 4) (z := Z 3 4) hx (show mx_Sn _ _ 1 (mx_getf 7 4 4) from sn_49 1) a3 s3 rfl rfl rfl ?_
    refine JcI (z := 315) (show mx_Sn _ _ 4 (mx_const (.int 315) 7) from sn_49 4) rfl ?_
    have c73 : ∀  (Z4 : xZ) (h4 : mx_H), (Z4 3 3 ≤ Z4 3 2 ∧ Z4 3 2 ≤ Z 3 1 ∧ (Z4 3 4 = 0 ∨ Z4 3 4 = 3 ∨ Z4 3 3 < Z4 3 2) ∧ (Z4 3 4 = 3 ∨ Z4 3 14 = 0)) → (Z 3 3 ≤ Z4 3 3 ∧ Z4 3 7 - Z 3 7 ≤ Z4 3 3 - Z 3 3 + 0) → ((Z4 3 4 = 3 ∨ Z 3 3 + 1 ≤ Z4 3 3) ∧ (Z 3 4 = 3 → Z4 3 4 = 3)) → XH n s S Z4 h4 → GI n S Z4 → fr' [(3, 2), (3, 3), (3, 4), (3, 5), (3, 7), (3, 14), (3, 15), (5, (-1))] Z Z4 → mx_J (tB l D b0 ad Hb tau) mt_49 (d + 35) 73 [some (.ref 3), some (xI 3)] [] h4 Post := by
      intro Z4 h4 f3_0 f3_1 f3_2 hx4 hG4 hf4
      have eq5 : Z4 3 0 = Z 3 0 := (hf4 3 0 rfl)
      have b6 : 2 ≤ Z 3 0 ∧ Z 3 0 ≤ 4 := hG.pr 3 0
      have b7 : 0 ≤ Z4 3 2 ∧ Z4 3 2 ≤ 900 := hG4.pr 3 2
      have b8 : 0 ≤ Z4 3 3 ∧ Z4 3 3 ≤ 900 := hG4.pr 3 3
      have b9 : 0 ≤ Z4 3 4 ∧ Z4 3 4 ≤ 400 := hG4.pr 3 4
      have b10 : 0 ≤ Z4 3 7 ∧ Z4 3 7 ≤ 900 := hG4.pr 3 7
      have b11 : 0 ≤ Z4 3 14 ∧ Z4 3 14 ≤ 4 := hG4.pr 3 14
      have b12 : 0 ≤ Z4 3 3 ∧ Z4 3 3 ≤ 900 := hG4.pr 3 3
      have b13 : 0 ≤ Z4 3 7 ∧ Z4 3 7 ≤ 900 := hG4.pr 3 7
      have b14 : 0 ≤ Z4 3 3 ∧ Z4 3 3 ≤ 900 := hG4.pr 3 3
      have b15 : 0 ≤ Z4 3 4 ∧ Z4 3 4 ≤ 400 := hG4.pr 3 4
      have b16 : 0 ≤ Z4 3 2 ∧ Z4 3 2 ≤ 900 := hG4.pr 3 2
      have b17 : 0 ≤ Z4 3 3 ∧ Z4 3 3 ≤ 900 := hG4.pr 3 3
      have b18 : 0 ≤ Z4 3 4 ∧ Z4 3 4 ≤ 400 := hG4.pr 3 4
      have b19 : 0 ≤ Z4 3 7 ∧ Z4 3 7 ≤ 900 := hG4.pr 3 7
      have b20 : 0 ≤ Z4 3 14 ∧ Z4 3 14 ≤ 4 := hG4.pr 3 14
      have eq21 : Z4 3 0 = Z 3 0 := (hf4 3 0 rfl)
      have b22 : 2 ≤ Z 3 0 ∧ Z 3 0 ≤ 4 := hG.pr 3 0
      have eq23 : Z4 3 1 = Z 3 1 := (hf4 3 1 rfl)
      have b24 : 0 ≤ Z 3 1 ∧ Z 3 1 ≤ 900 := hG.pr 3 1
      have b25 : 0 ≤ Z4 3 2 ∧ Z4 3 2 ≤ 900 := hG4.pr 3 2
      have b26 : 0 ≤ Z4 3 3 ∧ Z4 3 3 ≤ 900 := hG4.pr 3 3
      have b27 : 0 ≤ Z4 3 4 ∧ Z4 3 4 ≤ 400 := hG4.pr 3 4
      have b28 : 0 ≤ Z4 3 7 ∧ Z4 3 7 ≤ 900 := hG4.pr 3 7
      have b29 : 0 ≤ Z4 3 14 ∧ Z4 3 14 ≤ 4 := hG4.pr 3 14
      exact mx_J.ret (sn_49 73) (fun _ _ => rfl) (hP Z4 h4 hx4 hG4 (fr_tr (M := [(3, 2), (3, 3), (3, 4), (3, 5), (3, 7), (3, 14), (3, 15), (5, (-1))]) fr_rf (hf4) (M1 := []) rfl rfl) (by omega))
    refine Jicmp_ne (show mx_Sn _ _ 7 (mx_icmp_ne 35 10) from sn_49 7) (by omega) (by omega) (fun q30 => ?_) (fun q30 => ?_)
    · skip
      refine mx_J.step (sn_49 35) (fun _ _ => rfl) ?_
      have b32 : 0 ≤ Z 3 4 ∧ Z 3 4 ≤ 400 := hG.pr 3 4
      refine JgetI (g := 4) (z := Z 3 4) hx (show mx_Sn _ _ 36 (mx_getf 7 4 39) from sn_49 36) a3 s3 rfl rfl rfl ?_
      refine JcI (z := 91) (show mx_Sn _ _ 39 (mx_const (.int 91) 41) from sn_49 39) rfl ?_
      refine Jicmp_ne (show mx_Sn _ _ 41 (mx_icmp_ne 68 44) from sn_49 41) (by omega) (by omega) (fun q33 => ?_) (fun q33 => ?_)
      · skip
        refine mx_J.step (sn_49 68) (fun _ _ => rfl) ?_
        refine mx_J.step (sn_49 69) (fun _ _ => rfl) ?_
        have b35 : 2 ≤ Z 3 0 ∧ Z 3 0 ≤ 4 := hG.pr 3 0
        have b36 : 0 ≤ Z 3 1 ∧ Z 3 1 ≤ 900 := hG.pr 3 1
        have b37 : 0 ≤ Z 3 2 ∧ Z 3 2 ≤ 900 := hG.pr 3 2
        have b38 : 0 ≤ Z 3 3 ∧ Z 3 3 ≤ 900 := hG.pr 3 3
        have b39 : 0 ≤ Z 3 4 ∧ Z 3 4 ≤ 400 := hG.pr 3 4
        have b40 : 0 ≤ Z 3 7 ∧ Z 3 7 ≤ 900 := hG.pr 3 7
        have b41 : 0 ≤ Z 3 14 ∧ Z 3 14 ≤ 4 := hG.pr 3 14
        obtain ⟨Z34, h34, hc34, hx34, hG34, hf34, b34⟩ := ct_50_3_i3 (d := d + 0) (l := l) (D := D) (b0 := b0) (ad := ad) (Hb := Hb) (tau := tau) hx hG  (show Z 3 0 = 2 by omega) (show (Z 3 3 ≤ Z 3 2 ∧ Z 3 2 ≤ Z 3 1 ∧ (Z 3 4 = 0 ∨ Z 3 4 = 3 ∨ Z 3 3 < Z 3 2) ∧ (Z 3 4 = 3 ∨ Z 3 14 = 0)) by omega)
        have b42 : 0 ≤ Z34 3 2 ∧ Z34 3 2 ≤ 900 := hG34.pr 3 2
        have b43 : 0 ≤ Z34 3 3 ∧ Z34 3 3 ≤ 900 := hG34.pr 3 3
        have b44 : 0 ≤ Z34 3 4 ∧ Z34 3 4 ≤ 400 := hG34.pr 3 4
        have b45 : 0 ≤ Z34 3 7 ∧ Z34 3 7 ≤ 900 := hG34.pr 3 7
        have b46 : 0 ≤ Z34 3 14 ∧ Z34 3 14 ≤ 4 := hG34.pr 3 14
        refine Jcv0 hx (show mx_Sn _ _ 70 (mx_callv 50 2 7 73) from sn_49 70) a3 s3 hc34 rfl rfl rfl ?_
        have eq47 : Z34 3 0 = Z 3 0 := (hf34 3 0 rfl)
        have b48 : 2 ≤ Z 3 0 ∧ Z 3 0 ≤ 4 := hG.pr 3 0
        have b49 : 0 ≤ Z34 3 2 ∧ Z34 3 2 ≤ 900 := hG34.pr 3 2
        have b50 : 0 ≤ Z34 3 3 ∧ Z34 3 3 ≤ 900 := hG34.pr 3 3
        have b51 : 0 ≤ Z34 3 4 ∧ Z34 3 4 ≤ 400 := hG34.pr 3 4
        have b52 : 0 ≤ Z34 3 7 ∧ Z34 3 7 ≤ 900 := hG34.pr 3 7
        have b53 : 0 ≤ Z34 3 14 ∧ Z34 3 14 ≤ 4 := hG34.pr 3 14
        have b54 : 0 ≤ Z34 3 3 ∧ Z34 3 3 ≤ 900 := hG34.pr 3 3
        have b55 : 0 ≤ Z34 3 7 ∧ Z34 3 7 ≤ 900 := hG34.pr 3 7
        have b56 : 0 ≤ Z34 3 3 ∧ Z34 3 3 ≤ 900 := hG34.pr 3 3
        have b57 : 0 ≤ Z34 3 4 ∧ Z34 3 4 ≤ 400 := hG34.pr 3 4
        exact c73 Z34 h34 (by omega) (by omega) (by omega) hx34 hG34 (fr_tr (M := [(3, 2), (3, 3), (3, 4), (3, 5), (3, 7), (3, 14), (3, 15), (5, (-1))]) fr_rf (hf34) (M1 := []) rfl rfl)
      · skip
        refine mx_J.step (sn_49 44) (fun _ _ => rfl) ?_
        refine mx_J.step (sn_49 45) (fun _ _ => rfl) ?_
        have b59 : 2 ≤ Z 3 0 ∧ Z 3 0 ≤ 4 := hG.pr 3 0
        have b60 : 0 ≤ Z 3 1 ∧ Z 3 1 ≤ 900 := hG.pr 3 1
        have b61 : 0 ≤ Z 3 2 ∧ Z 3 2 ≤ 900 := hG.pr 3 2
        have b62 : 0 ≤ Z 3 3 ∧ Z 3 3 ≤ 900 := hG.pr 3 3
        have b63 : 0 ≤ Z 3 4 ∧ Z 3 4 ≤ 400 := hG.pr 3 4
        have b64 : 0 ≤ Z 3 7 ∧ Z 3 7 ≤ 900 := hG.pr 3 7
        have b65 : 0 ≤ Z 3 14 ∧ Z 3 14 ≤ 4 := hG.pr 3 14
        obtain ⟨z58, Z58, h58, hc58, hx58, hG58, hf58, b58⟩ := ct_51_3_i3 (d := d + 28) (l := l) (D := D) (b0 := b0) (ad := ad) (Hb := Hb) (tau := tau) hx hG  (show Z 3 0 = 2 by omega) (show (Z 3 3 ≤ Z 3 2 ∧ Z 3 2 ≤ Z 3 1 ∧ (Z 3 4 = 0 ∨ Z 3 4 = 3 ∨ Z 3 3 < Z 3 2) ∧ (Z 3 4 = 3 ∨ Z 3 14 = 0)) by omega) (show ¬ Z 3 4 = 0 by omega) (show ¬ Z 3 4 = 3 by omega)
        have b66 : 0 ≤ Z58 3 2 ∧ Z58 3 2 ≤ 900 := hG58.pr 3 2
        have b67 : 0 ≤ Z58 3 3 ∧ Z58 3 3 ≤ 900 := hG58.pr 3 3
        have b68 : 0 ≤ Z58 3 4 ∧ Z58 3 4 ≤ 400 := hG58.pr 3 4
        have eq69 : Z58 3 7 = Z 3 7 := (hf58 3 7 rfl)
        have b70 : 0 ≤ Z 3 7 ∧ Z 3 7 ≤ 900 := hG.pr 3 7
        have eq71 : Z58 3 14 = Z 3 14 := (hf58 3 14 rfl)
        have b72 : 0 ≤ Z 3 14 ∧ Z 3 14 ≤ 4 := hG.pr 3 14
        refine Jcv hx (show mx_Sn _ _ 46 (mx_callv 51 2 7 49) from sn_49 46) a3 s3 hc58 rfl rfl rfl ?_
        refine Jif_eq (show mx_Sn _ _ 49 (mx_if_eq 73 52) from sn_49 49) (by omega) (fun q73 => ?_) (fun q73 => ?_)
        · skip
          have eq74 : Z58 3 0 = Z 3 0 := (hf58 3 0 rfl)
          have b75 : 2 ≤ Z 3 0 ∧ Z 3 0 ≤ 4 := hG.pr 3 0
          have b76 : 0 ≤ Z58 3 2 ∧ Z58 3 2 ≤ 900 := hG58.pr 3 2
          have b77 : 0 ≤ Z58 3 3 ∧ Z58 3 3 ≤ 900 := hG58.pr 3 3
          have b78 : 0 ≤ Z58 3 4 ∧ Z58 3 4 ≤ 400 := hG58.pr 3 4
          have eq79 : Z58 3 7 = Z 3 7 := (hf58 3 7 rfl)
          have b80 : 0 ≤ Z 3 7 ∧ Z 3 7 ≤ 900 := hG.pr 3 7
          have eq81 : Z58 3 14 = Z 3 14 := (hf58 3 14 rfl)
          have b82 : 0 ≤ Z 3 14 ∧ Z 3 14 ≤ 4 := hG.pr 3 14
          have b83 : 0 ≤ Z58 3 3 ∧ Z58 3 3 ≤ 900 := hG58.pr 3 3
          have eq84 : Z58 3 7 = Z 3 7 := (hf58 3 7 rfl)
          have b85 : 0 ≤ Z 3 7 ∧ Z 3 7 ≤ 900 := hG.pr 3 7
          have b86 : 0 ≤ Z58 3 3 ∧ Z58 3 3 ≤ 900 := hG58.pr 3 3
          have b87 : 0 ≤ Z58 3 4 ∧ Z58 3 4 ≤ 400 := hG58.pr 3 4
          exact c73 Z58 h58 (by omega) (by omega) (by omega) hx58 hG58 (fr_tr (M := [(3, 2), (3, 3), (3, 4), (3, 5), (3, 7), (3, 14), (3, 15), (5, (-1))]) fr_rf (hf58) (M1 := []) rfl rfl)
        · skip
          refine mx_J.step (sn_49 52) (fun _ _ => rfl) ?_
          refine mx_J.step (sn_49 53) (fun _ _ => rfl) ?_
          refine JcI (z := 1) (show mx_Sn _ _ 54 (mx_const (.int 1) 55) from sn_49 54) rfl ?_
          refine JiaddE (r := 4) (show mx_Sn _ _ 55 (mx_iadd 56) from sn_49 55) (by decide) ?_
          have eq89 : Z58 3 0 = Z 3 0 := (hf58 3 0 rfl)
          have b90 : 2 ≤ Z 3 0 ∧ Z 3 0 ≤ 4 := hG.pr 3 0
          have eq91 : Z58 3 1 = Z 3 1 := (hf58 3 1 rfl)
          have b92 : 0 ≤ Z 3 1 ∧ Z 3 1 ≤ 900 := hG.pr 3 1
          have b93 : 0 ≤ Z58 3 2 ∧ Z58 3 2 ≤ 900 := hG58.pr 3 2
          have b94 : 0 ≤ Z58 3 3 ∧ Z58 3 3 ≤ 900 := hG58.pr 3 3
          have b95 : 0 ≤ Z58 3 4 ∧ Z58 3 4 ≤ 400 := hG58.pr 3 4
          have eq96 : Z58 3 7 = Z 3 7 := (hf58 3 7 rfl)
          have b97 : 0 ≤ Z 3 7 ∧ Z 3 7 ≤ 900 := hG.pr 3 7
          have eq98 : Z58 3 14 = Z 3 14 := (hf58 3 14 rfl)
          have b99 : 0 ≤ Z 3 14 ∧ Z 3 14 ≤ 4 := hG.pr 3 14
          obtain ⟨Z88, h88, hc88, hx88, hG88, hf88, b88⟩ := ct_47_3_i4 (d := d + 5) (l := l) (D := D) (b0 := b0) (ad := ad) (Hb := Hb) (tau := tau) hx58 hG58  (show Z58 3 0 = 2 by first | omega | (simp only [eq89, eq91, eq96, eq98]; omega)) (show (Z58 3 3 ≤ Z58 3 2 ∧ Z58 3 2 ≤ Z58 3 1 ∧ (Z58 3 4 = 0 ∨ Z58 3 4 = 3 ∨ Z58 3 3 < Z58 3 2) ∧ (Z58 3 4 = 3 ∨ Z58 3 14 = 0)) by first | omega | (simp only [eq89, eq91, eq96, eq98]; omega))
          try rw [eq89] at b88
          try rw [eq91] at b88
          try rw [eq96] at b88
          try rw [eq98] at b88
          have b100 : 0 ≤ Z88 3 2 ∧ Z88 3 2 ≤ 900 := hG88.pr 3 2
          have b101 : 0 ≤ Z88 3 3 ∧ Z88 3 3 ≤ 900 := hG88.pr 3 3
          have b102 : 0 ≤ Z88 3 4 ∧ Z88 3 4 ≤ 400 := hG88.pr 3 4
          have b103 : 0 ≤ Z88 3 7 ∧ Z88 3 7 ≤ 900 := hG88.pr 3 7
          have b104 : 0 ≤ Z88 3 14 ∧ Z88 3 14 ≤ 4 := hG88.pr 3 14
          refine Jcv0 hx58 (show mx_Sn _ _ 56 (mx_callv 47 2 7 59) from sn_49 56) a3 s3 hc88 rfl rfl rfl ?_
          refine mx_J.step (sn_49 59) (fun _ _ => rfl) ?_
          refine JcI (z := 93) (show mx_Sn _ _ 60 (mx_const (.int 93) 62) from sn_49 60) rfl ?_
          have eq106 : Z88 3 0 = Z 3 0 := ((hf88 3 0 rfl).trans (hf58 3 0 rfl))
          have b107 : 2 ≤ Z 3 0 ∧ Z 3 0 ≤ 4 := hG.pr 3 0
          have eq108 : Z88 3 1 = Z 3 1 := ((hf88 3 1 rfl).trans (hf58 3 1 rfl))
          have b109 : 0 ≤ Z 3 1 ∧ Z 3 1 ≤ 900 := hG.pr 3 1
          have b110 : 0 ≤ Z88 3 2 ∧ Z88 3 2 ≤ 900 := hG88.pr 3 2
          have b111 : 0 ≤ Z88 3 3 ∧ Z88 3 3 ≤ 900 := hG88.pr 3 3
          have b112 : 0 ≤ Z88 3 4 ∧ Z88 3 4 ≤ 400 := hG88.pr 3 4
          have b113 : 0 ≤ Z88 3 7 ∧ Z88 3 7 ≤ 900 := hG88.pr 3 7
          have b114 : 0 ≤ Z88 3 14 ∧ Z88 3 14 ≤ 4 := hG88.pr 3 14
          obtain ⟨Z105, h105, hc105, hx105, hG105, hf105, b105⟩ := ct_53_3 (d := d + 28) (l := l) (D := D) (b0 := b0) (ad := ad) (Hb := Hb) (tau := tau) hx88 hG88 (show 40 ≤ 93 ∧ 93 ≤ 320 by omega) (show Z88 3 0 = 2 by first | omega | (simp only [eq106, eq108]; omega)) (show (Z88 3 3 ≤ Z88 3 2 ∧ Z88 3 2 ≤ Z88 3 1 ∧ (Z88 3 4 = 0 ∨ Z88 3 4 = 3 ∨ Z88 3 3 < Z88 3 2) ∧ (Z88 3 4 = 3 ∨ Z88 3 14 = 0)) by first | omega | (simp only [eq106, eq108]; omega))
          try rw [eq106] at b105
          try rw [eq108] at b105
          have b115 : 0 ≤ Z105 3 2 ∧ Z105 3 2 ≤ 900 := hG105.pr 3 2
          have b116 : 0 ≤ Z105 3 3 ∧ Z105 3 3 ≤ 900 := hG105.pr 3 3
          have b117 : 0 ≤ Z105 3 4 ∧ Z105 3 4 ≤ 400 := hG105.pr 3 4
          have eq118 : Z105 3 7 = Z88 3 7 := (hf105 3 7 rfl)
          have b119 : 0 ≤ Z88 3 7 ∧ Z88 3 7 ≤ 900 := hG88.pr 3 7
          have b120 : 0 ≤ Z105 3 14 ∧ Z105 3 14 ≤ 4 := hG105.pr 3 14
          refine Jcv0 hx88 (show mx_Sn _ _ 62 (mx_callv 53 2 7 65) from sn_49 62) a3 s3 hc105 rfl rfl rfl ?_
          refine mx_J.step (sn_49 65) (fun _ _ => rfl) ?_
          have eq121 : Z105 3 0 = Z 3 0 := ((hf105 3 0 rfl).trans ((hf88 3 0 rfl).trans (hf58 3 0 rfl)))
          have b122 : 2 ≤ Z 3 0 ∧ Z 3 0 ≤ 4 := hG.pr 3 0
          have b123 : 0 ≤ Z105 3 2 ∧ Z105 3 2 ≤ 900 := hG105.pr 3 2
          have b124 : 0 ≤ Z105 3 3 ∧ Z105 3 3 ≤ 900 := hG105.pr 3 3
          have b125 : 0 ≤ Z105 3 4 ∧ Z105 3 4 ≤ 400 := hG105.pr 3 4
          have eq126 : Z105 3 7 = Z88 3 7 := (hf105 3 7 rfl)
          have b127 : 0 ≤ Z88 3 7 ∧ Z88 3 7 ≤ 900 := hG88.pr 3 7
          have b128 : 0 ≤ Z105 3 14 ∧ Z105 3 14 ≤ 4 := hG105.pr 3 14
          have b129 : 0 ≤ Z105 3 3 ∧ Z105 3 3 ≤ 900 := hG105.pr 3 3
          have eq130 : Z105 3 7 = Z88 3 7 := (hf105 3 7 rfl)
          have b131 : 0 ≤ Z88 3 7 ∧ Z88 3 7 ≤ 900 := hG88.pr 3 7
          have b132 : 0 ≤ Z105 3 3 ∧ Z105 3 3 ≤ 900 := hG105.pr 3 3
          have b133 : 0 ≤ Z105 3 4 ∧ Z105 3 4 ≤ 400 := hG105.pr 3 4
          exact c73 Z105 h105 (by omega) (by omega) (by omega) hx105 hG105 (fr_tr (M := [(3, 2), (3, 3), (3, 4), (3, 5), (3, 7), (3, 14), (3, 15), (5, (-1))]) (fr_tr (M := [(3, 2), (3, 3), (3, 4), (3, 5), (3, 7), (3, 14), (3, 15), (5, (-1))]) (fr_tr (M := [(3, 2), (3, 3), (3, 4), (3, 5), (3, 7), (3, 14), (3, 15), (5, (-1))]) fr_rf (hf58) (M1 := []) rfl rfl) (hf88) rfl rfl) (hf105) rfl rfl)
    · skip
      refine mx_J.step (sn_49 10) (fun _ _ => rfl) ?_
      refine mx_J.step (sn_49 11) (fun _ _ => rfl) ?_
      have b135 : 2 ≤ Z 3 0 ∧ Z 3 0 ≤ 4 := hG.pr 3 0
      have b136 : 0 ≤ Z 3 1 ∧ Z 3 1 ≤ 900 := hG.pr 3 1
      have b137 : 0 ≤ Z 3 2 ∧ Z 3 2 ≤ 900 := hG.pr 3 2
      have b138 : 0 ≤ Z 3 3 ∧ Z 3 3 ≤ 900 := hG.pr 3 3
      have b139 : 0 ≤ Z 3 4 ∧ Z 3 4 ≤ 400 := hG.pr 3 4
      have b140 : 0 ≤ Z 3 7 ∧ Z 3 7 ≤ 900 := hG.pr 3 7
      have b141 : 0 ≤ Z 3 14 ∧ Z 3 14 ≤ 4 := hG.pr 3 14
      obtain ⟨z134, Z134, h134, hc134, hx134, hG134, hf134, b134⟩ := ct_51_3_i3 (d := d + 28) (l := l) (D := D) (b0 := b0) (ad := ad) (Hb := Hb) (tau := tau) hx hG  (show Z 3 0 = 2 by omega) (show (Z 3 3 ≤ Z 3 2 ∧ Z 3 2 ≤ Z 3 1 ∧ (Z 3 4 = 0 ∨ Z 3 4 = 3 ∨ Z 3 3 < Z 3 2) ∧ (Z 3 4 = 3 ∨ Z 3 14 = 0)) by omega) (show ¬ Z 3 4 = 0 by omega) (show ¬ Z 3 4 = 3 by omega)
      have b142 : 0 ≤ Z134 3 2 ∧ Z134 3 2 ≤ 900 := hG134.pr 3 2
      have b143 : 0 ≤ Z134 3 3 ∧ Z134 3 3 ≤ 900 := hG134.pr 3 3
      have b144 : 0 ≤ Z134 3 4 ∧ Z134 3 4 ≤ 400 := hG134.pr 3 4
      have eq145 : Z134 3 7 = Z 3 7 := (hf134 3 7 rfl)
      have b146 : 0 ≤ Z 3 7 ∧ Z 3 7 ≤ 900 := hG.pr 3 7
      have eq147 : Z134 3 14 = Z 3 14 := (hf134 3 14 rfl)
      have b148 : 0 ≤ Z 3 14 ∧ Z 3 14 ≤ 4 := hG.pr 3 14
      refine Jcv hx (show mx_Sn _ _ 12 (mx_callv 51 2 7 15) from sn_49 12) a3 s3 hc134 rfl rfl rfl ?_
      refine Jif_eq (show mx_Sn _ _ 15 (mx_if_eq 73 18) from sn_49 15) (by omega) (fun q149 => ?_) (fun q149 => ?_)
      · skip
        have eq150 : Z134 3 0 = Z 3 0 := (hf134 3 0 rfl)
        have b151 : 2 ≤ Z 3 0 ∧ Z 3 0 ≤ 4 := hG.pr 3 0
        have b152 : 0 ≤ Z134 3 2 ∧ Z134 3 2 ≤ 900 := hG134.pr 3 2
        have b153 : 0 ≤ Z134 3 3 ∧ Z134 3 3 ≤ 900 := hG134.pr 3 3
        have b154 : 0 ≤ Z134 3 4 ∧ Z134 3 4 ≤ 400 := hG134.pr 3 4
        have eq155 : Z134 3 7 = Z 3 7 := (hf134 3 7 rfl)
        have b156 : 0 ≤ Z 3 7 ∧ Z 3 7 ≤ 900 := hG.pr 3 7
        have eq157 : Z134 3 14 = Z 3 14 := (hf134 3 14 rfl)
        have b158 : 0 ≤ Z 3 14 ∧ Z 3 14 ≤ 4 := hG.pr 3 14
        have b159 : 0 ≤ Z134 3 3 ∧ Z134 3 3 ≤ 900 := hG134.pr 3 3
        have eq160 : Z134 3 7 = Z 3 7 := (hf134 3 7 rfl)
        have b161 : 0 ≤ Z 3 7 ∧ Z 3 7 ≤ 900 := hG.pr 3 7
        have b162 : 0 ≤ Z134 3 3 ∧ Z134 3 3 ≤ 900 := hG134.pr 3 3
        have b163 : 0 ≤ Z134 3 4 ∧ Z134 3 4 ≤ 400 := hG134.pr 3 4
        exact c73 Z134 h134 (by omega) (by omega) (by omega) hx134 hG134 (fr_tr (M := [(3, 2), (3, 3), (3, 4), (3, 5), (3, 7), (3, 14), (3, 15), (5, (-1))]) fr_rf (hf134) (M1 := []) rfl rfl)
      · skip
        refine mx_J.step (sn_49 18) (fun _ _ => rfl) ?_
        refine mx_J.step (sn_49 19) (fun _ _ => rfl) ?_
        refine JcI (z := 1) (show mx_Sn _ _ 20 (mx_const (.int 1) 21) from sn_49 20) rfl ?_
        refine JiaddE (r := 4) (show mx_Sn _ _ 21 (mx_iadd 22) from sn_49 21) (by decide) ?_
        have eq165 : Z134 3 0 = Z 3 0 := (hf134 3 0 rfl)
        have b166 : 2 ≤ Z 3 0 ∧ Z 3 0 ≤ 4 := hG.pr 3 0
        have eq167 : Z134 3 1 = Z 3 1 := (hf134 3 1 rfl)
        have b168 : 0 ≤ Z 3 1 ∧ Z 3 1 ≤ 900 := hG.pr 3 1
        have b169 : 0 ≤ Z134 3 2 ∧ Z134 3 2 ≤ 900 := hG134.pr 3 2
        have b170 : 0 ≤ Z134 3 3 ∧ Z134 3 3 ≤ 900 := hG134.pr 3 3
        have b171 : 0 ≤ Z134 3 4 ∧ Z134 3 4 ≤ 400 := hG134.pr 3 4
        have eq172 : Z134 3 7 = Z 3 7 := (hf134 3 7 rfl)
        have b173 : 0 ≤ Z 3 7 ∧ Z 3 7 ≤ 900 := hG.pr 3 7
        have eq174 : Z134 3 14 = Z 3 14 := (hf134 3 14 rfl)
        have b175 : 0 ≤ Z 3 14 ∧ Z 3 14 ≤ 4 := hG.pr 3 14
        obtain ⟨Z164, h164, hc164, hx164, hG164, hf164, b164⟩ := ct_49_3_i4 (d := d + 7) (l := l) (D := D) (b0 := b0) (ad := ad) (Hb := Hb) (tau := tau) hx134 hG134  (show Z134 3 0 = 2 by first | omega | (simp only [eq165, eq167, eq172, eq174]; omega)) (show (Z134 3 3 ≤ Z134 3 2 ∧ Z134 3 2 ≤ Z134 3 1 ∧ (Z134 3 4 = 0 ∨ Z134 3 4 = 3 ∨ Z134 3 3 < Z134 3 2) ∧ (Z134 3 4 = 3 ∨ Z134 3 14 = 0)) by first | omega | (simp only [eq165, eq167, eq172, eq174]; omega))
        try rw [eq165] at b164
        try rw [eq167] at b164
        try rw [eq172] at b164
        try rw [eq174] at b164
        have b176 : 0 ≤ Z164 3 2 ∧ Z164 3 2 ≤ 900 := hG164.pr 3 2
        have b177 : 0 ≤ Z164 3 3 ∧ Z164 3 3 ≤ 900 := hG164.pr 3 3
        have b178 : 0 ≤ Z164 3 4 ∧ Z164 3 4 ≤ 400 := hG164.pr 3 4
        have b179 : 0 ≤ Z164 3 7 ∧ Z164 3 7 ≤ 900 := hG164.pr 3 7
        have b180 : 0 ≤ Z164 3 14 ∧ Z164 3 14 ≤ 4 := hG164.pr 3 14
        refine Jcv0 hx134 (show mx_Sn _ _ 22 (mx_callv 49 2 7 25) from sn_49 22) a3 s3 hc164 rfl rfl rfl ?_
        refine mx_J.step (sn_49 25) (fun _ _ => rfl) ?_
        refine JcI (z := 1018) (show mx_Sn _ _ 26 (mx_const (.int 1018) 29) from sn_49 26) rfl ?_
        have b182 : 0 ≤ Z164 3 7 ∧ Z164 3 7 ≤ 900 := hG164.pr 3 7
        obtain ⟨Z181, h181, hc181, hx181, hG181, hf181, b181⟩ := ct_52_3_1010 (d := d + 34) (l := l) (D := D) (b0 := b0) (ad := ad) (Hb := Hb) (tau := tau) hx164 hG164 (show 1010 ≤ 1018 ∧ 1018 ≤ 1019 by omega)
        have b183 : 0 ≤ Z181 3 7 ∧ Z181 3 7 ≤ 900 := hG181.pr 3 7
        refine Jcv0 hx164 (show mx_Sn _ _ 29 (mx_callv 52 2 7 32) from sn_49 29) a3 s3 hc181 rfl rfl rfl ?_
        refine mx_J.step (sn_49 32) (fun _ _ => rfl) ?_
        have eq184 : Z181 3 0 = Z 3 0 := ((hf181 3 0 rfl).trans ((hf164 3 0 rfl).trans (hf134 3 0 rfl)))
        have b185 : 2 ≤ Z 3 0 ∧ Z 3 0 ≤ 4 := hG.pr 3 0
        have eq186 : Z181 3 2 = Z164 3 2 := (hf181 3 2 rfl)
        have b187 : 0 ≤ Z164 3 2 ∧ Z164 3 2 ≤ 900 := hG164.pr 3 2
        have eq188 : Z181 3 3 = Z164 3 3 := (hf181 3 3 rfl)
        have b189 : 0 ≤ Z164 3 3 ∧ Z164 3 3 ≤ 900 := hG164.pr 3 3
        have eq190 : Z181 3 4 = Z164 3 4 := (hf181 3 4 rfl)
        have b191 : 0 ≤ Z164 3 4 ∧ Z164 3 4 ≤ 400 := hG164.pr 3 4
        have b192 : 0 ≤ Z181 3 7 ∧ Z181 3 7 ≤ 900 := hG181.pr 3 7
        have eq193 : Z181 3 14 = Z164 3 14 := (hf181 3 14 rfl)
        have b194 : 0 ≤ Z164 3 14 ∧ Z164 3 14 ≤ 4 := hG164.pr 3 14
        have eq195 : Z181 3 3 = Z164 3 3 := (hf181 3 3 rfl)
        have b196 : 0 ≤ Z164 3 3 ∧ Z164 3 3 ≤ 900 := hG164.pr 3 3
        have b197 : 0 ≤ Z181 3 7 ∧ Z181 3 7 ≤ 900 := hG181.pr 3 7
        have eq198 : Z181 3 3 = Z164 3 3 := (hf181 3 3 rfl)
        have b199 : 0 ≤ Z164 3 3 ∧ Z164 3 3 ≤ 900 := hG164.pr 3 3
        have eq200 : Z181 3 4 = Z164 3 4 := (hf181 3 4 rfl)
        have b201 : 0 ≤ Z164 3 4 ∧ Z164 3 4 ≤ 400 := hG164.pr 3 4
        exact c73 Z181 h181 (by omega) (by omega) (by omega) hx181 hG181 (fr_tr (M := [(3, 2), (3, 3), (3, 4), (3, 5), (3, 7), (3, 14), (3, 15), (5, (-1))]) (fr_tr (M := [(3, 2), (3, 3), (3, 4), (3, 5), (3, 7), (3, 14), (3, 15), (5, (-1))]) (fr_tr (M := [(3, 2), (3, 3), (3, 4), (3, 5), (3, 7), (3, 14), (3, 15), (5, (-1))]) fr_rf (hf134) (M1 := []) rfl rfl) (hf164) rfl rfl) (hf181) rfl rfl)
theorem ct_49_3_i3 {l : Launch} {D : va_G} {b0 : Nat} {ad : Nat → Nat} {Hb : Heap} {tau : Nat → Int64} {d n s : Nat} {S : Nat → xS} {Z : xZ} {h : mx_H} (hx : XH n s S Z h) (hG : GI n S Z)   (k0 : Z 3 0 = 2) (k1 : (Z 3 3 ≤ Z 3 2 ∧ Z 3 2 ≤ Z 3 1 ∧ (Z 3 4 = 0 ∨ Z 3 4 = 3 ∨ Z 3 3 < Z 3 2) ∧ (Z 3 4 = 3 ∨ Z 3 14 = 0))) : ∃ (Z' : xZ) (h' : mx_H), mx_Ca (tB l D b0 ad Hb tau) (d + 36) 49 [.ref 3, xI 3] h (none, h') ∧ XH n s S Z' h' ∧ GI n S Z' ∧ fr' [(3, 2), (3, 3), (3, 4), (3, 5), (3, 7), (3, 14), (3, 15), (5, (-1))] Z Z' ∧ (((Z' 3 3 ≤ Z' 3 2 ∧ Z' 3 2 ≤ Z 3 1 ∧ (Z' 3 4 = 0 ∨ Z' 3 4 = 3 ∨ Z' 3 3 < Z' 3 2) ∧ (Z' 3 4 = 3 ∨ Z' 3 14 = 0)) ∧ Z 3 3 ≤ Z' 3 3 ∧ Z' 3 7 - Z 3 7 ≤ Z' 3 3 - Z 3 3 ∧ (Z' 3 4 = 3 ∨ Z 3 3 + 1 ≤ Z' 3 3) ∧ (Z 3 4 = 3 → Z' 3 4 = 3))) := by
  obtain ⟨r, hca, Z', h', e, q⟩ := Jmt (B := tB l D b0 ad Hb tau) (M := mt_49) (mi := 49) (as := [.ref 3, xI 3]) (d := d + 35) (ls := [some (.ref 3), some (xI 3)]) rfl rfl rfl rfl rfl rfl (cw_49_3_i3 (l := l) (D := D) (b0 := b0) (ad := ad) (Hb := Hb) (tau := tau) (d := d) (Post := fun r => ∃ (Z' : xZ) (h' : mx_H), r = (none, h') ∧ XH n s S Z' h' ∧ GI n S Z' ∧ fr' [(3, 2), (3, 3), (3, 4), (3, 5), (3, 7), (3, 14), (3, 15), (5, (-1))] Z Z' ∧ (((Z' 3 3 ≤ Z' 3 2 ∧ Z' 3 2 ≤ Z 3 1 ∧ (Z' 3 4 = 0 ∨ Z' 3 4 = 3 ∨ Z' 3 3 < Z' 3 2) ∧ (Z' 3 4 = 3 ∨ Z' 3 14 = 0)) ∧ Z 3 3 ≤ Z' 3 3 ∧ Z' 3 7 - Z 3 7 ≤ Z' 3 3 - Z 3 3 ∧ (Z' 3 4 = 3 ∨ Z 3 3 + 1 ≤ Z' 3 3) ∧ (Z 3 4 = 3 → Z' 3 4 = 3)))) hx hG k0 k1 (fun Z' h' q1 q2 q3 q4 => ⟨Z', h', rfl, q1, q2, q3, q4⟩))
  subst e; exact ⟨Z', h', hca, q⟩
set_option maxRecDepth 100000 in
theorem cw_48_3_i3 {l : Launch} {D : va_G} {b0 : Nat} {ad : Nat → Nat} {Hb : Heap} {tau : Nat → Int64} {d n s : Nat} {S : Nat → xS} {Z : xZ} {h : mx_H} {Post : mx_R → Prop} (hx : XH n s S Z h) (hG : GI n S Z)   (k0 : Z 3 0 = 2) (k1 : (Z 3 3 ≤ Z 3 2 ∧ Z 3 2 ≤ Z 3 1 ∧ (Z 3 4 = 0 ∨ Z 3 4 = 3 ∨ Z 3 3 < Z 3 2) ∧ (Z 3 4 = 3 ∨ Z 3 14 = 0))) (hP : ∀ (Z' : xZ) (h' : mx_H), XH n s S Z' h' → GI n S Z' → fr' [(3, 2), (3, 3), (3, 4), (3, 5), (3, 7), (3, 14), (3, 15), (5, (-1))] Z Z' → ((Z' 3 3 ≤ Z' 3 2 ∧ Z' 3 2 ≤ Z 3 1 ∧ (Z' 3 4 = 0 ∨ Z' 3 4 = 3 ∨ Z' 3 3 < Z' 3 2) ∧ (Z' 3 4 = 3 ∨ Z' 3 14 = 0)) ∧ Z 3 3 ≤ Z' 3 3 ∧ Z' 3 7 - Z 3 7 ≤ Z' 3 3 - Z 3 3 ∧ (Z' 3 4 = 3 ∨ Z 3 3 + 1 ≤ Z' 3 3) ∧ (Z 3 4 = 3 → Z' 3 4 = 3)) → Post (none, h')) : mx_J (tB l D b0 ad Hb tau) mt_48 (d + 36) 0 [some (.ref 3), some (xI 3), none] [] h Post := by
    have a3 : 3 < n := lt83 (GI_n hG) rfl
    have s3 : S 3 = .inl (7, [2, 0, 0, 0, 0, 0, 2, 0, 2, 2, 0, 2, 0, 0, 0, 0]) := GI_s hG 3 rfl
    refine mx_J.step (sn_48 0) (fun _ _ => rfl) ?_
    refine mx_J.step (sn_48 1) (fun _ _ => rfl) ?_
    have b2 : 2 ≤ Z 3 0 ∧ Z 3 0 ≤ 4 := hG.pr 3 0
    have b3 : 0 ≤ Z 3 1 ∧ Z 3 1 ≤ 900 := hG.pr 3 1
    have b4 : 0 ≤ Z 3 2 ∧ Z 3 2 ≤ 900 := hG.pr 3 2
    have b5 : 0 ≤ Z 3 3 ∧ Z 3 3 ≤ 900 := hG.pr 3 3
    have b6 : 0 ≤ Z 3 4 ∧ Z 3 4 ≤ 400 := hG.pr 3 4
    have b7 : 0 ≤ Z 3 7 ∧ Z 3 7 ≤ 900 := hG.pr 3 7
    have b8 : 0 ≤ Z 3 14 ∧ Z 3 14 ≤ 4 := hG.pr 3 14
    obtain ⟨Z1, h1, hc1, hx1, hG1, hf1, b1⟩ := ct_49_3_i3 (d := d + 0) (l := l) (D := D) (b0 := b0) (ad := ad) (Hb := Hb) (tau := tau) hx hG  (show Z 3 0 = 2 by omega) (show (Z 3 3 ≤ Z 3 2 ∧ Z 3 2 ≤ Z 3 1 ∧ (Z 3 4 = 0 ∨ Z 3 4 = 3 ∨ Z 3 3 < Z 3 2) ∧ (Z 3 4 = 3 ∨ Z 3 14 = 0)) by omega)
    have b9 : 0 ≤ Z1 3 2 ∧ Z1 3 2 ≤ 900 := hG1.pr 3 2
    have b10 : 0 ≤ Z1 3 3 ∧ Z1 3 3 ≤ 900 := hG1.pr 3 3
    have b11 : 0 ≤ Z1 3 4 ∧ Z1 3 4 ≤ 400 := hG1.pr 3 4
    have b12 : 0 ≤ Z1 3 7 ∧ Z1 3 7 ≤ 900 := hG1.pr 3 7
    have b13 : 0 ≤ Z1 3 14 ∧ Z1 3 14 ≤ 4 := hG1.pr 3 14
    refine Jcv0 hx (show mx_Sn _ _ 2 (mx_callv 49 2 7 5) from sn_48 2) a3 s3 hc1 rfl rfl rfl ?_
    refine JcI (z := 0) (show mx_Sn _ _ 5 (mx_const (.int 0) 6) from sn_48 5) rfl ?_
    refine mx_J.step (ls2 := [some (.ref 3), some (xI 3), some (xI 0)]) (sn_48 6) (fun _ _ => rfl) ?_
    have c7 : ∀ (m14 : Nat) (w14_2 : Int) (Z15 : xZ) (h15 : mx_H), 900 - w14_2 < (m14 : Int) → 0 ≤ w14_2 ∧ w14_2 ≤ 900 → (Z15 3 3 ≤ Z15 3 2 ∧ Z15 3 2 ≤ Z 3 1 ∧ (Z15 3 4 = 0 ∨ Z15 3 4 = 3 ∨ Z15 3 3 < Z15 3 2) ∧ (Z15 3 4 = 3 ∨ Z15 3 14 = 0)) → (Z 3 3 ≤ Z15 3 3 ∧ Z15 3 7 - Z 3 7 ≤ Z15 3 3 - Z 3 3 + 0) → ((Z15 3 4 = 3 ∨ Z 3 3 + 1 ≤ Z15 3 3) ∧ (Z 3 4 = 3 → Z15 3 4 = 3)) → XH n s S Z15 h15 → GI n S Z15 → fr' [(3, 2), (3, 3), (3, 4), (3, 5), (3, 7), (3, 14), (3, 15), (5, (-1))] Z1 Z15 → mx_J (tB l D b0 ad Hb tau) mt_48 (d + 36) 7 [some (.ref 3), some (xI 3), some (xI w14_2)] [] h15 Post := by
      intro m14
      induction m14 with
      | zero => intro w14_2 Z15 h15 q14 f14_0 f14_1 f14_2 f14_3 hx15 hG15 hf15; exact absurd q14 (by omega)
      | succ m14 ih14 =>
        intro w14_2 Z15 h15 q14 f14_0 f14_1 f14_2 f14_3 hx15 hG15 hf15
        have eq16 : Z15 3 0 = Z 3 0 := ((hf15 3 0 rfl).trans (hf1 3 0 rfl))
        have b17 : 2 ≤ Z 3 0 ∧ Z 3 0 ≤ 4 := hG.pr 3 0
        have b18 : 0 ≤ Z15 3 2 ∧ Z15 3 2 ≤ 900 := hG15.pr 3 2
        have b19 : 0 ≤ Z15 3 3 ∧ Z15 3 3 ≤ 900 := hG15.pr 3 3
        have b20 : 0 ≤ Z15 3 4 ∧ Z15 3 4 ≤ 400 := hG15.pr 3 4
        have b21 : 0 ≤ Z15 3 7 ∧ Z15 3 7 ≤ 900 := hG15.pr 3 7
        have b22 : 0 ≤ Z15 3 14 ∧ Z15 3 14 ≤ 4 := hG15.pr 3 14
        have b23 : 0 ≤ Z15 3 3 ∧ Z15 3 3 ≤ 900 := hG15.pr 3 3
        have b24 : 0 ≤ Z15 3 7 ∧ Z15 3 7 ≤ 900 := hG15.pr 3 7
        have b25 : 0 ≤ Z15 3 3 ∧ Z15 3 3 ≤ 900 := hG15.pr 3 3
        have b26 : 0 ≤ Z15 3 4 ∧ Z15 3 4 ≤ 400 := hG15.pr 3 4
        refine mx_J.step (sn_48 7) (fun _ _ => rfl) ?_
        refine mx_J.step (sn_48 8) (fun _ _ => rfl) ?_
        have b28 : 0 ≤ Z 3 1 ∧ Z 3 1 ≤ 900 := hG.pr 3 1
        refine JgetI (g := 1) (z := Z 3 1) hx15 (show mx_Sn _ _ 9 (mx_getf 7 1 12) from sn_48 9) a3 s3 rfl rfl ((hf15 3 1 rfl).trans (hf1 3 1 rfl)) ?_
        have c47 : mx_J (tB l D b0 ad Hb tau) mt_48 (d + 36) 47 [some (.ref 3), some (xI 3), some (xI w14_2)] [] h15 Post := by
          have b30 : 0 ≤ Z15 3 2 ∧ Z15 3 2 ≤ 900 := hG15.pr 3 2
          have b31 : 0 ≤ Z15 3 3 ∧ Z15 3 3 ≤ 900 := hG15.pr 3 3
          have b32 : 0 ≤ Z15 3 4 ∧ Z15 3 4 ≤ 400 := hG15.pr 3 4
          have b33 : 0 ≤ Z15 3 7 ∧ Z15 3 7 ≤ 900 := hG15.pr 3 7
          have b34 : 0 ≤ Z15 3 14 ∧ Z15 3 14 ≤ 4 := hG15.pr 3 14
          have eq35 : Z15 3 0 = Z 3 0 := ((hf15 3 0 rfl).trans (hf1 3 0 rfl))
          have b36 : 2 ≤ Z 3 0 ∧ Z 3 0 ≤ 4 := hG.pr 3 0
          have eq37 : Z15 3 1 = Z 3 1 := ((hf15 3 1 rfl).trans (hf1 3 1 rfl))
          have b38 : 0 ≤ Z 3 1 ∧ Z 3 1 ≤ 900 := hG.pr 3 1
          have b39 : 0 ≤ Z15 3 2 ∧ Z15 3 2 ≤ 900 := hG15.pr 3 2
          have b40 : 0 ≤ Z15 3 3 ∧ Z15 3 3 ≤ 900 := hG15.pr 3 3
          have b41 : 0 ≤ Z15 3 4 ∧ Z15 3 4 ≤ 400 := hG15.pr 3 4
          have b42 : 0 ≤ Z15 3 7 ∧ Z15 3 7 ≤ 900 := hG15.pr 3 7
          have b43 : 0 ≤ Z15 3 14 ∧ Z15 3 14 ≤ 4 := hG15.pr 3 14
          exact mx_J.ret (sn_48 47) (fun _ _ => rfl) (hP Z15 h15 hx15 hG15 (fr_tr (M := [(3, 2), (3, 3), (3, 4), (3, 5), (3, 7), (3, 14), (3, 15), (5, (-1))]) (fr_tr (M := [(3, 2), (3, 3), (3, 4), (3, 5), (3, 7), (3, 14), (3, 15), (5, (-1))]) fr_rf (hf1) (M1 := []) rfl rfl) (hf15) rfl rfl) (by omega))
        refine Jicmp_ge (show mx_Sn _ _ 12 (mx_icmp_ge 47 15) from sn_48 12) (by omega) (by omega) (fun q44 => ?_) (fun q44 => ?_)
        · skip
          exact c47 
        · skip
          refine mx_J.step (sn_48 15) (fun _ _ => rfl) ?_
          have b46 : 0 ≤ Z15 3 4 ∧ Z15 3 4 ≤ 400 := hG15.pr 3 4
          refine JgetI (g := 4) (z := Z15 3 4) hx15 (show mx_Sn _ _ 16 (mx_getf 7 4 19) from sn_48 16) a3 s3 rfl rfl rfl ?_
          refine JcI (z := 314) (show mx_Sn _ _ 19 (mx_const (.int 314) 22) from sn_48 19) rfl ?_
          refine Jicmp_ne (show mx_Sn _ _ 22 (mx_icmp_ne 47 25) from sn_48 22) (by omega) (by omega) (fun q47 => ?_) (fun q47 => ?_)
          · skip
            exact c47 
          · skip
            refine mx_J.step (sn_48 25) (fun _ _ => rfl) ?_
            have eq49 : Z15 3 0 = Z 3 0 := ((hf15 3 0 rfl).trans (hf1 3 0 rfl))
            have b50 : 2 ≤ Z 3 0 ∧ Z 3 0 ≤ 4 := hG.pr 3 0
            have eq51 : Z15 3 1 = Z 3 1 := ((hf15 3 1 rfl).trans (hf1 3 1 rfl))
            have b52 : 0 ≤ Z 3 1 ∧ Z 3 1 ≤ 900 := hG.pr 3 1
            have b53 : 0 ≤ Z15 3 2 ∧ Z15 3 2 ≤ 900 := hG15.pr 3 2
            have b54 : 0 ≤ Z15 3 3 ∧ Z15 3 3 ≤ 900 := hG15.pr 3 3
            have b55 : 0 ≤ Z15 3 4 ∧ Z15 3 4 ≤ 400 := hG15.pr 3 4
            have b56 : 0 ≤ Z15 3 14 ∧ Z15 3 14 ≤ 4 := hG15.pr 3 14
            obtain ⟨Z48, h48, hc48, hx48, hG48, hf48, b48⟩ := ct_56_3 (d := d + 30) (l := l) (D := D) (b0 := b0) (ad := ad) (Hb := Hb) (tau := tau) hx15 hG15  (show Z15 3 0 = 2 by first | omega | (simp only [eq49, eq51]; omega)) (show Z15 3 2 ≤ Z15 3 1 by first | omega | (simp only [eq49, eq51]; omega))
            try rw [eq49] at b48
            try rw [eq51] at b48
            have b57 : 0 ≤ Z48 3 2 ∧ Z48 3 2 ≤ 900 := hG48.pr 3 2
            have b58 : 0 ≤ Z48 3 3 ∧ Z48 3 3 ≤ 900 := hG48.pr 3 3
            have b59 : 0 ≤ Z48 3 4 ∧ Z48 3 4 ≤ 400 := hG48.pr 3 4
            refine Jcv0 hx15 (show mx_Sn _ _ 26 (mx_callv 56 1 7 29) from sn_48 26) a3 s3 hc48 rfl rfl rfl ?_
            refine mx_J.step (sn_48 29) (fun _ _ => rfl) ?_
            refine mx_J.step (sn_48 30) (fun _ _ => rfl) ?_
            have eq61 : Z48 3 0 = Z 3 0 := ((hf48 3 0 rfl).trans ((hf15 3 0 rfl).trans (hf1 3 0 rfl)))
            have b62 : 2 ≤ Z 3 0 ∧ Z 3 0 ≤ 4 := hG.pr 3 0
            have eq63 : Z48 3 1 = Z 3 1 := ((hf48 3 1 rfl).trans ((hf15 3 1 rfl).trans (hf1 3 1 rfl)))
            have b64 : 0 ≤ Z 3 1 ∧ Z 3 1 ≤ 900 := hG.pr 3 1
            have b65 : 0 ≤ Z48 3 2 ∧ Z48 3 2 ≤ 900 := hG48.pr 3 2
            have b66 : 0 ≤ Z48 3 3 ∧ Z48 3 3 ≤ 900 := hG48.pr 3 3
            have b67 : 0 ≤ Z48 3 4 ∧ Z48 3 4 ≤ 400 := hG48.pr 3 4
            have eq68 : Z48 3 7 = Z15 3 7 := (hf48 3 7 rfl)
            have b69 : 0 ≤ Z15 3 7 ∧ Z15 3 7 ≤ 900 := hG15.pr 3 7
            have eq70 : Z48 3 14 = Z15 3 14 := (hf48 3 14 rfl)
            have b71 : 0 ≤ Z15 3 14 ∧ Z15 3 14 ≤ 4 := hG15.pr 3 14
            obtain ⟨Z60, h60, hc60, hx60, hG60, hf60, b60⟩ := ct_49_3_i3 (d := d + 0) (l := l) (D := D) (b0 := b0) (ad := ad) (Hb := Hb) (tau := tau) hx48 hG48  (show Z48 3 0 = 2 by first | omega | (simp only [eq61, eq63, eq68, eq70]; omega)) (show (Z48 3 3 ≤ Z48 3 2 ∧ Z48 3 2 ≤ Z48 3 1 ∧ (Z48 3 4 = 0 ∨ Z48 3 4 = 3 ∨ Z48 3 3 < Z48 3 2) ∧ (Z48 3 4 = 3 ∨ Z48 3 14 = 0)) by first | omega | (simp only [eq61, eq63, eq68, eq70]; omega))
            try rw [eq61] at b60
            try rw [eq63] at b60
            try rw [eq68] at b60
            try rw [eq70] at b60
            have b72 : 0 ≤ Z60 3 2 ∧ Z60 3 2 ≤ 900 := hG60.pr 3 2
            have b73 : 0 ≤ Z60 3 3 ∧ Z60 3 3 ≤ 900 := hG60.pr 3 3
            have b74 : 0 ≤ Z60 3 4 ∧ Z60 3 4 ≤ 400 := hG60.pr 3 4
            have b75 : 0 ≤ Z60 3 7 ∧ Z60 3 7 ≤ 900 := hG60.pr 3 7
            have b76 : 0 ≤ Z60 3 14 ∧ Z60 3 14 ≤ 4 := hG60.pr 3 14
            refine Jcv0 hx48 (show mx_Sn _ _ 31 (mx_callv 49 2 7 34) from sn_48 31) a3 s3 hc60 rfl rfl rfl ?_
            refine mx_J.step (sn_48 34) (fun _ _ => rfl) ?_
            refine JcI (z := 1016) (show mx_Sn _ _ 35 (mx_const (.int 1016) 38) from sn_48 35) rfl ?_
            have b78 : 0 ≤ Z60 3 7 ∧ Z60 3 7 ≤ 900 := hG60.pr 3 7
            obtain ⟨Z77, h77, hc77, hx77, hG77, hf77, b77⟩ := ct_52_3_1010 (d := d + 35) (l := l) (D := D) (b0 := b0) (ad := ad) (Hb := Hb) (tau := tau) hx60 hG60 (show 1010 ≤ 1016 ∧ 1016 ≤ 1019 by omega)
            have b79 : 0 ≤ Z77 3 7 ∧ Z77 3 7 ≤ 900 := hG77.pr 3 7
            refine Jcv0 hx60 (show mx_Sn _ _ 38 (mx_callv 52 2 7 41) from sn_48 38) a3 s3 hc77 rfl rfl rfl ?_
            refine Jiinc (z := w14_2) (cz := 1) (ls2 := [some (.ref 3), some (xI 3), some (xI (w14_2 + 1))]) (show mx_Sn _ _ 41 (mx_iinc 2 1 44) from sn_48 41) rfl rfl rfl rfl ?_
            refine mx_J.step (sn_48 44) (fun _ _ => rfl) ?_
            have eq80 : Z77 3 0 = Z 3 0 := ((hf77 3 0 rfl).trans ((hf60 3 0 rfl).trans ((hf48 3 0 rfl).trans ((hf15 3 0 rfl).trans (hf1 3 0 rfl)))))
            have b81 : 2 ≤ Z 3 0 ∧ Z 3 0 ≤ 4 := hG.pr 3 0
            have eq82 : Z77 3 2 = Z60 3 2 := (hf77 3 2 rfl)
            have b83 : 0 ≤ Z60 3 2 ∧ Z60 3 2 ≤ 900 := hG60.pr 3 2
            have eq84 : Z77 3 3 = Z60 3 3 := (hf77 3 3 rfl)
            have b85 : 0 ≤ Z60 3 3 ∧ Z60 3 3 ≤ 900 := hG60.pr 3 3
            have eq86 : Z77 3 4 = Z60 3 4 := (hf77 3 4 rfl)
            have b87 : 0 ≤ Z60 3 4 ∧ Z60 3 4 ≤ 400 := hG60.pr 3 4
            have b88 : 0 ≤ Z77 3 7 ∧ Z77 3 7 ≤ 900 := hG77.pr 3 7
            have eq89 : Z77 3 14 = Z60 3 14 := (hf77 3 14 rfl)
            have b90 : 0 ≤ Z60 3 14 ∧ Z60 3 14 ≤ 4 := hG60.pr 3 14
            have eq91 : Z77 3 3 = Z60 3 3 := (hf77 3 3 rfl)
            have b92 : 0 ≤ Z60 3 3 ∧ Z60 3 3 ≤ 900 := hG60.pr 3 3
            have b93 : 0 ≤ Z77 3 7 ∧ Z77 3 7 ≤ 900 := hG77.pr 3 7
            have eq94 : Z77 3 3 = Z60 3 3 := (hf77 3 3 rfl)
            have b95 : 0 ≤ Z60 3 3 ∧ Z60 3 3 ≤ 900 := hG60.pr 3 3
            have eq96 : Z77 3 4 = Z60 3 4 := (hf77 3 4 rfl)
            have b97 : 0 ≤ Z60 3 4 ∧ Z60 3 4 ≤ 400 := hG60.pr 3 4
            exact ih14 (w14_2 + 1) Z77 h77 (by omega) (by omega) (by omega) (by omega) (by omega) hx77 hG77 (fr_tr (M := [(3, 2), (3, 3), (3, 4), (3, 5), (3, 7), (3, 14), (3, 15), (5, (-1))]) (fr_tr (M := [(3, 2), (3, 3), (3, 4), (3, 5), (3, 7), (3, 14), (3, 15), (5, (-1))]) (fr_tr (M := [(3, 2), (3, 3), (3, 4), (3, 5), (3, 7), (3, 14), (3, 15), (5, (-1))]) (fr_tr (M := [(3, 2), (3, 3), (3, 4), (3, 5), (3, 7), (3, 14), (3, 15), (5, (-1))]) fr_rf (hf15) (M1 := []) rfl rfl) (hf48) rfl rfl) (hf60) rfl rfl) (hf77) rfl rfl)
    have eq98 : Z1 3 0 = Z 3 0 := (hf1 3 0 rfl)
    have b99 : 2 ≤ Z 3 0 ∧ Z 3 0 ≤ 4 := hG.pr 3 0
    have b100 : 0 ≤ Z1 3 2 ∧ Z1 3 2 ≤ 900 := hG1.pr 3 2
    have b101 : 0 ≤ Z1 3 3 ∧ Z1 3 3 ≤ 900 := hG1.pr 3 3
    have b102 : 0 ≤ Z1 3 4 ∧ Z1 3 4 ≤ 400 := hG1.pr 3 4
    have b103 : 0 ≤ Z1 3 7 ∧ Z1 3 7 ≤ 900 := hG1.pr 3 7
    have b104 : 0 ≤ Z1 3 14 ∧ Z1 3 14 ≤ 4 := hG1.pr 3 14
    have b105 : 0 ≤ Z1 3 3 ∧ Z1 3 3 ≤ 900 := hG1.pr 3 3
    have b106 : 0 ≤ Z1 3 7 ∧ Z1 3 7 ≤ 900 := hG1.pr 3 7
    have b107 : 0 ≤ Z1 3 3 ∧ Z1 3 3 ≤ 900 := hG1.pr 3 3
    have b108 : 0 ≤ Z1 3 4 ∧ Z1 3 4 ≤ 400 := hG1.pr 3 4
    exact c7 (Int.toNat (900 - 0) + 1) 0 Z1 h1 (by omega) (by omega) (by omega) (by omega) (by omega) hx1 hG1 fr_rf
theorem ct_48_3_i3 {l : Launch} {D : va_G} {b0 : Nat} {ad : Nat → Nat} {Hb : Heap} {tau : Nat → Int64} {d n s : Nat} {S : Nat → xS} {Z : xZ} {h : mx_H} (hx : XH n s S Z h) (hG : GI n S Z)   (k0 : Z 3 0 = 2) (k1 : (Z 3 3 ≤ Z 3 2 ∧ Z 3 2 ≤ Z 3 1 ∧ (Z 3 4 = 0 ∨ Z 3 4 = 3 ∨ Z 3 3 < Z 3 2) ∧ (Z 3 4 = 3 ∨ Z 3 14 = 0))) : ∃ (Z' : xZ) (h' : mx_H), mx_Ca (tB l D b0 ad Hb tau) (d + 37) 48 [.ref 3, xI 3] h (none, h') ∧ XH n s S Z' h' ∧ GI n S Z' ∧ fr' [(3, 2), (3, 3), (3, 4), (3, 5), (3, 7), (3, 14), (3, 15), (5, (-1))] Z Z' ∧ (((Z' 3 3 ≤ Z' 3 2 ∧ Z' 3 2 ≤ Z 3 1 ∧ (Z' 3 4 = 0 ∨ Z' 3 4 = 3 ∨ Z' 3 3 < Z' 3 2) ∧ (Z' 3 4 = 3 ∨ Z' 3 14 = 0)) ∧ Z 3 3 ≤ Z' 3 3 ∧ Z' 3 7 - Z 3 7 ≤ Z' 3 3 - Z 3 3 ∧ (Z' 3 4 = 3 ∨ Z 3 3 + 1 ≤ Z' 3 3) ∧ (Z 3 4 = 3 → Z' 3 4 = 3))) := by
  obtain ⟨r, hca, Z', h', e, q⟩ := Jmt (B := tB l D b0 ad Hb tau) (M := mt_48) (mi := 48) (as := [.ref 3, xI 3]) (d := d + 36) (ls := [some (.ref 3), some (xI 3), none]) rfl rfl rfl rfl rfl rfl (cw_48_3_i3 (l := l) (D := D) (b0 := b0) (ad := ad) (Hb := Hb) (tau := tau) (d := d) (Post := fun r => ∃ (Z' : xZ) (h' : mx_H), r = (none, h') ∧ XH n s S Z' h' ∧ GI n S Z' ∧ fr' [(3, 2), (3, 3), (3, 4), (3, 5), (3, 7), (3, 14), (3, 15), (5, (-1))] Z Z' ∧ (((Z' 3 3 ≤ Z' 3 2 ∧ Z' 3 2 ≤ Z 3 1 ∧ (Z' 3 4 = 0 ∨ Z' 3 4 = 3 ∨ Z' 3 3 < Z' 3 2) ∧ (Z' 3 4 = 3 ∨ Z' 3 14 = 0)) ∧ Z 3 3 ≤ Z' 3 3 ∧ Z' 3 7 - Z 3 7 ≤ Z' 3 3 - Z 3 3 ∧ (Z' 3 4 = 3 ∨ Z 3 3 + 1 ≤ Z' 3 3) ∧ (Z 3 4 = 3 → Z' 3 4 = 3)))) hx hG k0 k1 (fun Z' h' q1 q2 q3 q4 => ⟨Z', h', rfl, q1, q2, q3, q4⟩))
  subst e; exact ⟨Z', h', hca, q⟩
set_option maxRecDepth 100000 in
theorem cw_47_3_i3 {l : Launch} {D : va_G} {b0 : Nat} {ad : Nat → Nat} {Hb : Heap} {tau : Nat → Int64} {d n s : Nat} {S : Nat → xS} {Z : xZ} {h : mx_H} {Post : mx_R → Prop} (hx : XH n s S Z h) (hG : GI n S Z)   (k0 : Z 3 0 = 2) (k1 : (Z 3 3 ≤ Z 3 2 ∧ Z 3 2 ≤ Z 3 1 ∧ (Z 3 4 = 0 ∨ Z 3 4 = 3 ∨ Z 3 3 < Z 3 2) ∧ (Z 3 4 = 3 ∨ Z 3 14 = 0))) (hP : ∀ (Z' : xZ) (h' : mx_H), XH n s S Z' h' → GI n S Z' → fr' [(3, 2), (3, 3), (3, 4), (3, 5), (3, 7), (3, 14), (3, 15), (5, (-1))] Z Z' → ((Z' 3 3 ≤ Z' 3 2 ∧ Z' 3 2 ≤ Z 3 1 ∧ (Z' 3 4 = 0 ∨ Z' 3 4 = 3 ∨ Z' 3 3 < Z' 3 2) ∧ (Z' 3 4 = 3 ∨ Z' 3 14 = 0)) ∧ Z 3 3 ≤ Z' 3 3 ∧ Z' 3 7 - Z 3 7 ≤ Z' 3 3 - Z 3 3 ∧ (Z' 3 4 = 3 ∨ Z 3 3 + 1 ≤ Z' 3 3) ∧ (Z 3 4 = 3 → Z' 3 4 = 3)) → Post (none, h')) : mx_J (tB l D b0 ad Hb tau) mt_47 (d + 37) 0 [some (.ref 3), some (xI 3), none] [] h Post := by
    have a3 : 3 < n := lt83 (GI_n hG) rfl
    have s3 : S 3 = .inl (7, [2, 0, 0, 0, 0, 0, 2, 0, 2, 2, 0, 2, 0, 0, 0, 0]) := GI_s hG 3 rfl
    refine mx_J.step (sn_47 0) (fun _ _ => rfl) ?_
    refine mx_J.step (sn_47 1) (fun _ _ => rfl) ?_
    have b2 : 2 ≤ Z 3 0 ∧ Z 3 0 ≤ 4 := hG.pr 3 0
    have b3 : 0 ≤ Z 3 1 ∧ Z 3 1 ≤ 900 := hG.pr 3 1
    have b4 : 0 ≤ Z 3 2 ∧ Z 3 2 ≤ 900 := hG.pr 3 2
    have b5 : 0 ≤ Z 3 3 ∧ Z 3 3 ≤ 900 := hG.pr 3 3
    have b6 : 0 ≤ Z 3 4 ∧ Z 3 4 ≤ 400 := hG.pr 3 4
    have b7 : 0 ≤ Z 3 7 ∧ Z 3 7 ≤ 900 := hG.pr 3 7
    have b8 : 0 ≤ Z 3 14 ∧ Z 3 14 ≤ 4 := hG.pr 3 14
    obtain ⟨Z1, h1, hc1, hx1, hG1, hf1, b1⟩ := ct_48_3_i3 (d := d + 0) (l := l) (D := D) (b0 := b0) (ad := ad) (Hb := Hb) (tau := tau) hx hG  (show Z 3 0 = 2 by omega) (show (Z 3 3 ≤ Z 3 2 ∧ Z 3 2 ≤ Z 3 1 ∧ (Z 3 4 = 0 ∨ Z 3 4 = 3 ∨ Z 3 3 < Z 3 2) ∧ (Z 3 4 = 3 ∨ Z 3 14 = 0)) by omega)
    have b9 : 0 ≤ Z1 3 2 ∧ Z1 3 2 ≤ 900 := hG1.pr 3 2
    have b10 : 0 ≤ Z1 3 3 ∧ Z1 3 3 ≤ 900 := hG1.pr 3 3
    have b11 : 0 ≤ Z1 3 4 ∧ Z1 3 4 ≤ 400 := hG1.pr 3 4
    have b12 : 0 ≤ Z1 3 7 ∧ Z1 3 7 ≤ 900 := hG1.pr 3 7
    have b13 : 0 ≤ Z1 3 14 ∧ Z1 3 14 ≤ 4 := hG1.pr 3 14
    refine Jcv0 hx (show mx_Sn _ _ 2 (mx_callv 48 2 7 5) from sn_47 2) a3 s3 hc1 rfl rfl rfl ?_
    refine JcI (z := 0) (show mx_Sn _ _ 5 (mx_const (.int 0) 6) from sn_47 5) rfl ?_
    refine mx_J.step (ls2 := [some (.ref 3), some (xI 3), some (xI 0)]) (sn_47 6) (fun _ _ => rfl) ?_
    have c7 : ∀ (m14 : Nat) (w14_2 : Int) (Z15 : xZ) (h15 : mx_H), 900 - w14_2 < (m14 : Int) → 0 ≤ w14_2 ∧ w14_2 ≤ 900 → (Z15 3 3 ≤ Z15 3 2 ∧ Z15 3 2 ≤ Z 3 1 ∧ (Z15 3 4 = 0 ∨ Z15 3 4 = 3 ∨ Z15 3 3 < Z15 3 2) ∧ (Z15 3 4 = 3 ∨ Z15 3 14 = 0)) → (Z 3 3 ≤ Z15 3 3 ∧ Z15 3 7 - Z 3 7 ≤ Z15 3 3 - Z 3 3 + 0) → ((Z15 3 4 = 3 ∨ Z 3 3 + 1 ≤ Z15 3 3) ∧ (Z 3 4 = 3 → Z15 3 4 = 3)) → XH n s S Z15 h15 → GI n S Z15 → fr' [(3, 2), (3, 3), (3, 4), (3, 5), (3, 7), (3, 14), (3, 15), (5, (-1))] Z1 Z15 → mx_J (tB l D b0 ad Hb tau) mt_47 (d + 37) 7 [some (.ref 3), some (xI 3), some (xI w14_2)] [] h15 Post := by
      intro m14
      induction m14 with
      | zero => intro w14_2 Z15 h15 q14 f14_0 f14_1 f14_2 f14_3 hx15 hG15 hf15; exact absurd q14 (by omega)
      | succ m14 ih14 =>
        intro w14_2 Z15 h15 q14 f14_0 f14_1 f14_2 f14_3 hx15 hG15 hf15
        have eq16 : Z15 3 0 = Z 3 0 := ((hf15 3 0 rfl).trans (hf1 3 0 rfl))
        have b17 : 2 ≤ Z 3 0 ∧ Z 3 0 ≤ 4 := hG.pr 3 0
        have b18 : 0 ≤ Z15 3 2 ∧ Z15 3 2 ≤ 900 := hG15.pr 3 2
        have b19 : 0 ≤ Z15 3 3 ∧ Z15 3 3 ≤ 900 := hG15.pr 3 3
        have b20 : 0 ≤ Z15 3 4 ∧ Z15 3 4 ≤ 400 := hG15.pr 3 4
        have b21 : 0 ≤ Z15 3 7 ∧ Z15 3 7 ≤ 900 := hG15.pr 3 7
        have b22 : 0 ≤ Z15 3 14 ∧ Z15 3 14 ≤ 4 := hG15.pr 3 14
        have b23 : 0 ≤ Z15 3 3 ∧ Z15 3 3 ≤ 900 := hG15.pr 3 3
        have b24 : 0 ≤ Z15 3 7 ∧ Z15 3 7 ≤ 900 := hG15.pr 3 7
        have b25 : 0 ≤ Z15 3 3 ∧ Z15 3 3 ≤ 900 := hG15.pr 3 3
        have b26 : 0 ≤ Z15 3 4 ∧ Z15 3 4 ≤ 400 := hG15.pr 3 4
        refine mx_J.step (sn_47 7) (fun _ _ => rfl) ?_
        refine mx_J.step (sn_47 8) (fun _ _ => rfl) ?_
        have b28 : 0 ≤ Z 3 1 ∧ Z 3 1 ≤ 900 := hG.pr 3 1
        refine JgetI (g := 1) (z := Z 3 1) hx15 (show mx_Sn _ _ 9 (mx_getf 7 1 12) from sn_47 9) a3 s3 rfl rfl ((hf15 3 1 rfl).trans (hf1 3 1 rfl)) ?_
        have c47 : mx_J (tB l D b0 ad Hb tau) mt_47 (d + 37) 47 [some (.ref 3), some (xI 3), some (xI w14_2)] [] h15 Post := by
          have b30 : 0 ≤ Z15 3 2 ∧ Z15 3 2 ≤ 900 := hG15.pr 3 2
          have b31 : 0 ≤ Z15 3 3 ∧ Z15 3 3 ≤ 900 := hG15.pr 3 3
          have b32 : 0 ≤ Z15 3 4 ∧ Z15 3 4 ≤ 400 := hG15.pr 3 4
          have b33 : 0 ≤ Z15 3 7 ∧ Z15 3 7 ≤ 900 := hG15.pr 3 7
          have b34 : 0 ≤ Z15 3 14 ∧ Z15 3 14 ≤ 4 := hG15.pr 3 14
          have eq35 : Z15 3 0 = Z 3 0 := ((hf15 3 0 rfl).trans (hf1 3 0 rfl))
          have b36 : 2 ≤ Z 3 0 ∧ Z 3 0 ≤ 4 := hG.pr 3 0
          have eq37 : Z15 3 1 = Z 3 1 := ((hf15 3 1 rfl).trans (hf1 3 1 rfl))
          have b38 : 0 ≤ Z 3 1 ∧ Z 3 1 ≤ 900 := hG.pr 3 1
          have b39 : 0 ≤ Z15 3 2 ∧ Z15 3 2 ≤ 900 := hG15.pr 3 2
          have b40 : 0 ≤ Z15 3 3 ∧ Z15 3 3 ≤ 900 := hG15.pr 3 3
          have b41 : 0 ≤ Z15 3 4 ∧ Z15 3 4 ≤ 400 := hG15.pr 3 4
          have b42 : 0 ≤ Z15 3 7 ∧ Z15 3 7 ≤ 900 := hG15.pr 3 7
          have b43 : 0 ≤ Z15 3 14 ∧ Z15 3 14 ≤ 4 := hG15.pr 3 14
          exact mx_J.ret (sn_47 47) (fun _ _ => rfl) (hP Z15 h15 hx15 hG15 (fr_tr (M := [(3, 2), (3, 3), (3, 4), (3, 5), (3, 7), (3, 14), (3, 15), (5, (-1))]) (fr_tr (M := [(3, 2), (3, 3), (3, 4), (3, 5), (3, 7), (3, 14), (3, 15), (5, (-1))]) fr_rf (hf1) (M1 := []) rfl rfl) (hf15) rfl rfl) (by omega))
        refine Jicmp_ge (show mx_Sn _ _ 12 (mx_icmp_ge 47 15) from sn_47 12) (by omega) (by omega) (fun q44 => ?_) (fun q44 => ?_)
        · skip
          exact c47 
        · skip
          refine mx_J.step (sn_47 15) (fun _ _ => rfl) ?_
          have b46 : 0 ≤ Z15 3 4 ∧ Z15 3 4 ≤ 400 := hG15.pr 3 4
          refine JgetI (g := 4) (z := Z15 3 4) hx15 (show mx_Sn _ _ 16 (mx_getf 7 4 19) from sn_47 16) a3 s3 rfl rfl rfl ?_
          refine JcI (z := 313) (show mx_Sn _ _ 19 (mx_const (.int 313) 22) from sn_47 19) rfl ?_
          refine Jicmp_ne (show mx_Sn _ _ 22 (mx_icmp_ne 47 25) from sn_47 22) (by omega) (by omega) (fun q47 => ?_) (fun q47 => ?_)
          · skip
            exact c47 
          · skip
            refine mx_J.step (sn_47 25) (fun _ _ => rfl) ?_
            have eq49 : Z15 3 0 = Z 3 0 := ((hf15 3 0 rfl).trans (hf1 3 0 rfl))
            have b50 : 2 ≤ Z 3 0 ∧ Z 3 0 ≤ 4 := hG.pr 3 0
            have eq51 : Z15 3 1 = Z 3 1 := ((hf15 3 1 rfl).trans (hf1 3 1 rfl))
            have b52 : 0 ≤ Z 3 1 ∧ Z 3 1 ≤ 900 := hG.pr 3 1
            have b53 : 0 ≤ Z15 3 2 ∧ Z15 3 2 ≤ 900 := hG15.pr 3 2
            have b54 : 0 ≤ Z15 3 3 ∧ Z15 3 3 ≤ 900 := hG15.pr 3 3
            have b55 : 0 ≤ Z15 3 4 ∧ Z15 3 4 ≤ 400 := hG15.pr 3 4
            have b56 : 0 ≤ Z15 3 14 ∧ Z15 3 14 ≤ 4 := hG15.pr 3 14
            obtain ⟨Z48, h48, hc48, hx48, hG48, hf48, b48⟩ := ct_56_3 (d := d + 31) (l := l) (D := D) (b0 := b0) (ad := ad) (Hb := Hb) (tau := tau) hx15 hG15  (show Z15 3 0 = 2 by first | omega | (simp only [eq49, eq51]; omega)) (show Z15 3 2 ≤ Z15 3 1 by first | omega | (simp only [eq49, eq51]; omega))
            try rw [eq49] at b48
            try rw [eq51] at b48
            have b57 : 0 ≤ Z48 3 2 ∧ Z48 3 2 ≤ 900 := hG48.pr 3 2
            have b58 : 0 ≤ Z48 3 3 ∧ Z48 3 3 ≤ 900 := hG48.pr 3 3
            have b59 : 0 ≤ Z48 3 4 ∧ Z48 3 4 ≤ 400 := hG48.pr 3 4
            refine Jcv0 hx15 (show mx_Sn _ _ 26 (mx_callv 56 1 7 29) from sn_47 26) a3 s3 hc48 rfl rfl rfl ?_
            refine mx_J.step (sn_47 29) (fun _ _ => rfl) ?_
            refine mx_J.step (sn_47 30) (fun _ _ => rfl) ?_
            have eq61 : Z48 3 0 = Z 3 0 := ((hf48 3 0 rfl).trans ((hf15 3 0 rfl).trans (hf1 3 0 rfl)))
            have b62 : 2 ≤ Z 3 0 ∧ Z 3 0 ≤ 4 := hG.pr 3 0
            have eq63 : Z48 3 1 = Z 3 1 := ((hf48 3 1 rfl).trans ((hf15 3 1 rfl).trans (hf1 3 1 rfl)))
            have b64 : 0 ≤ Z 3 1 ∧ Z 3 1 ≤ 900 := hG.pr 3 1
            have b65 : 0 ≤ Z48 3 2 ∧ Z48 3 2 ≤ 900 := hG48.pr 3 2
            have b66 : 0 ≤ Z48 3 3 ∧ Z48 3 3 ≤ 900 := hG48.pr 3 3
            have b67 : 0 ≤ Z48 3 4 ∧ Z48 3 4 ≤ 400 := hG48.pr 3 4
            have eq68 : Z48 3 7 = Z15 3 7 := (hf48 3 7 rfl)
            have b69 : 0 ≤ Z15 3 7 ∧ Z15 3 7 ≤ 900 := hG15.pr 3 7
            have eq70 : Z48 3 14 = Z15 3 14 := (hf48 3 14 rfl)
            have b71 : 0 ≤ Z15 3 14 ∧ Z15 3 14 ≤ 4 := hG15.pr 3 14
            obtain ⟨Z60, h60, hc60, hx60, hG60, hf60, b60⟩ := ct_48_3_i3 (d := d + 0) (l := l) (D := D) (b0 := b0) (ad := ad) (Hb := Hb) (tau := tau) hx48 hG48  (show Z48 3 0 = 2 by first | omega | (simp only [eq61, eq63, eq68, eq70]; omega)) (show (Z48 3 3 ≤ Z48 3 2 ∧ Z48 3 2 ≤ Z48 3 1 ∧ (Z48 3 4 = 0 ∨ Z48 3 4 = 3 ∨ Z48 3 3 < Z48 3 2) ∧ (Z48 3 4 = 3 ∨ Z48 3 14 = 0)) by first | omega | (simp only [eq61, eq63, eq68, eq70]; omega))
            try rw [eq61] at b60
            try rw [eq63] at b60
            try rw [eq68] at b60
            try rw [eq70] at b60
            have b72 : 0 ≤ Z60 3 2 ∧ Z60 3 2 ≤ 900 := hG60.pr 3 2
            have b73 : 0 ≤ Z60 3 3 ∧ Z60 3 3 ≤ 900 := hG60.pr 3 3
            have b74 : 0 ≤ Z60 3 4 ∧ Z60 3 4 ≤ 400 := hG60.pr 3 4
            have b75 : 0 ≤ Z60 3 7 ∧ Z60 3 7 ≤ 900 := hG60.pr 3 7
            have b76 : 0 ≤ Z60 3 14 ∧ Z60 3 14 ≤ 4 := hG60.pr 3 14
            refine Jcv0 hx48 (show mx_Sn _ _ 31 (mx_callv 48 2 7 34) from sn_47 31) a3 s3 hc60 rfl rfl rfl ?_
            refine mx_J.step (sn_47 34) (fun _ _ => rfl) ?_
            refine JcI (z := 1017) (show mx_Sn _ _ 35 (mx_const (.int 1017) 38) from sn_47 35) rfl ?_
            have b78 : 0 ≤ Z60 3 7 ∧ Z60 3 7 ≤ 900 := hG60.pr 3 7
            obtain ⟨Z77, h77, hc77, hx77, hG77, hf77, b77⟩ := ct_52_3_1010 (d := d + 36) (l := l) (D := D) (b0 := b0) (ad := ad) (Hb := Hb) (tau := tau) hx60 hG60 (show 1010 ≤ 1017 ∧ 1017 ≤ 1019 by omega)
            have b79 : 0 ≤ Z77 3 7 ∧ Z77 3 7 ≤ 900 := hG77.pr 3 7
            refine Jcv0 hx60 (show mx_Sn _ _ 38 (mx_callv 52 2 7 41) from sn_47 38) a3 s3 hc77 rfl rfl rfl ?_
            refine Jiinc (z := w14_2) (cz := 1) (ls2 := [some (.ref 3), some (xI 3), some (xI (w14_2 + 1))]) (show mx_Sn _ _ 41 (mx_iinc 2 1 44) from sn_47 41) rfl rfl rfl rfl ?_
            refine mx_J.step (sn_47 44) (fun _ _ => rfl) ?_
            have eq80 : Z77 3 0 = Z 3 0 := ((hf77 3 0 rfl).trans ((hf60 3 0 rfl).trans ((hf48 3 0 rfl).trans ((hf15 3 0 rfl).trans (hf1 3 0 rfl)))))
            have b81 : 2 ≤ Z 3 0 ∧ Z 3 0 ≤ 4 := hG.pr 3 0
            have eq82 : Z77 3 2 = Z60 3 2 := (hf77 3 2 rfl)
            have b83 : 0 ≤ Z60 3 2 ∧ Z60 3 2 ≤ 900 := hG60.pr 3 2
            have eq84 : Z77 3 3 = Z60 3 3 := (hf77 3 3 rfl)
            have b85 : 0 ≤ Z60 3 3 ∧ Z60 3 3 ≤ 900 := hG60.pr 3 3
            have eq86 : Z77 3 4 = Z60 3 4 := (hf77 3 4 rfl)
            have b87 : 0 ≤ Z60 3 4 ∧ Z60 3 4 ≤ 400 := hG60.pr 3 4
            have b88 : 0 ≤ Z77 3 7 ∧ Z77 3 7 ≤ 900 := hG77.pr 3 7
            have eq89 : Z77 3 14 = Z60 3 14 := (hf77 3 14 rfl)
            have b90 : 0 ≤ Z60 3 14 ∧ Z60 3 14 ≤ 4 := hG60.pr 3 14
            have eq91 : Z77 3 3 = Z60 3 3 := (hf77 3 3 rfl)
            have b92 : 0 ≤ Z60 3 3 ∧ Z60 3 3 ≤ 900 := hG60.pr 3 3
            have b93 : 0 ≤ Z77 3 7 ∧ Z77 3 7 ≤ 900 := hG77.pr 3 7
            have eq94 : Z77 3 3 = Z60 3 3 := (hf77 3 3 rfl)
            have b95 : 0 ≤ Z60 3 3 ∧ Z60 3 3 ≤ 900 := hG60.pr 3 3
            have eq96 : Z77 3 4 = Z60 3 4 := (hf77 3 4 rfl)
            have b97 : 0 ≤ Z60 3 4 ∧ Z60 3 4 ≤ 400 := hG60.pr 3 4
            exact ih14 (w14_2 + 1) Z77 h77 (by omega) (by omega) (by omega) (by omega) (by omega) hx77 hG77 (fr_tr (M := [(3, 2), (3, 3), (3, 4), (3, 5), (3, 7), (3, 14), (3, 15), (5, (-1))]) (fr_tr (M := [(3, 2), (3, 3), (3, 4), (3, 5), (3, 7), (3, 14), (3, 15), (5, (-1))]) (fr_tr (M := [(3, 2), (3, 3), (3, 4), (3, 5), (3, 7), (3, 14), (3, 15), (5, (-1))]) (fr_tr (M := [(3, 2), (3, 3), (3, 4), (3, 5), (3, 7), (3, 14), (3, 15), (5, (-1))]) fr_rf (hf15) (M1 := []) rfl rfl) (hf48) rfl rfl) (hf60) rfl rfl) (hf77) rfl rfl)
    have eq98 : Z1 3 0 = Z 3 0 := (hf1 3 0 rfl)
    have b99 : 2 ≤ Z 3 0 ∧ Z 3 0 ≤ 4 := hG.pr 3 0
    have b100 : 0 ≤ Z1 3 2 ∧ Z1 3 2 ≤ 900 := hG1.pr 3 2
    have b101 : 0 ≤ Z1 3 3 ∧ Z1 3 3 ≤ 900 := hG1.pr 3 3
    have b102 : 0 ≤ Z1 3 4 ∧ Z1 3 4 ≤ 400 := hG1.pr 3 4
    have b103 : 0 ≤ Z1 3 7 ∧ Z1 3 7 ≤ 900 := hG1.pr 3 7
    have b104 : 0 ≤ Z1 3 14 ∧ Z1 3 14 ≤ 4 := hG1.pr 3 14
    have b105 : 0 ≤ Z1 3 3 ∧ Z1 3 3 ≤ 900 := hG1.pr 3 3
    have b106 : 0 ≤ Z1 3 7 ∧ Z1 3 7 ≤ 900 := hG1.pr 3 7
    have b107 : 0 ≤ Z1 3 3 ∧ Z1 3 3 ≤ 900 := hG1.pr 3 3
    have b108 : 0 ≤ Z1 3 4 ∧ Z1 3 4 ≤ 400 := hG1.pr 3 4
    exact c7 (Int.toNat (900 - 0) + 1) 0 Z1 h1 (by omega) (by omega) (by omega) (by omega) (by omega) hx1 hG1 fr_rf
theorem ct_47_3_i3 {l : Launch} {D : va_G} {b0 : Nat} {ad : Nat → Nat} {Hb : Heap} {tau : Nat → Int64} {d n s : Nat} {S : Nat → xS} {Z : xZ} {h : mx_H} (hx : XH n s S Z h) (hG : GI n S Z)   (k0 : Z 3 0 = 2) (k1 : (Z 3 3 ≤ Z 3 2 ∧ Z 3 2 ≤ Z 3 1 ∧ (Z 3 4 = 0 ∨ Z 3 4 = 3 ∨ Z 3 3 < Z 3 2) ∧ (Z 3 4 = 3 ∨ Z 3 14 = 0))) : ∃ (Z' : xZ) (h' : mx_H), mx_Ca (tB l D b0 ad Hb tau) (d + 38) 47 [.ref 3, xI 3] h (none, h') ∧ XH n s S Z' h' ∧ GI n S Z' ∧ fr' [(3, 2), (3, 3), (3, 4), (3, 5), (3, 7), (3, 14), (3, 15), (5, (-1))] Z Z' ∧ (((Z' 3 3 ≤ Z' 3 2 ∧ Z' 3 2 ≤ Z 3 1 ∧ (Z' 3 4 = 0 ∨ Z' 3 4 = 3 ∨ Z' 3 3 < Z' 3 2) ∧ (Z' 3 4 = 3 ∨ Z' 3 14 = 0)) ∧ Z 3 3 ≤ Z' 3 3 ∧ Z' 3 7 - Z 3 7 ≤ Z' 3 3 - Z 3 3 ∧ (Z' 3 4 = 3 ∨ Z 3 3 + 1 ≤ Z' 3 3) ∧ (Z 3 4 = 3 → Z' 3 4 = 3))) := by
  obtain ⟨r, hca, Z', h', e, q⟩ := Jmt (B := tB l D b0 ad Hb tau) (M := mt_47) (mi := 47) (as := [.ref 3, xI 3]) (d := d + 37) (ls := [some (.ref 3), some (xI 3), none]) rfl rfl rfl rfl rfl rfl (cw_47_3_i3 (l := l) (D := D) (b0 := b0) (ad := ad) (Hb := Hb) (tau := tau) (d := d) (Post := fun r => ∃ (Z' : xZ) (h' : mx_H), r = (none, h') ∧ XH n s S Z' h' ∧ GI n S Z' ∧ fr' [(3, 2), (3, 3), (3, 4), (3, 5), (3, 7), (3, 14), (3, 15), (5, (-1))] Z Z' ∧ (((Z' 3 3 ≤ Z' 3 2 ∧ Z' 3 2 ≤ Z 3 1 ∧ (Z' 3 4 = 0 ∨ Z' 3 4 = 3 ∨ Z' 3 3 < Z' 3 2) ∧ (Z' 3 4 = 3 ∨ Z' 3 14 = 0)) ∧ Z 3 3 ≤ Z' 3 3 ∧ Z' 3 7 - Z 3 7 ≤ Z' 3 3 - Z 3 3 ∧ (Z' 3 4 = 3 ∨ Z 3 3 + 1 ≤ Z' 3 3) ∧ (Z 3 4 = 3 → Z' 3 4 = 3)))) hx hG k0 k1 (fun Z' h' q1 q2 q3 q4 => ⟨Z', h', rfl, q1, q2, q3, q4⟩))
  subst e; exact ⟨Z', h', hca, q⟩
set_option maxRecDepth 100000 in
theorem cw_46_3_i3 {l : Launch} {D : va_G} {b0 : Nat} {ad : Nat → Nat} {Hb : Heap} {tau : Nat → Int64} {d n s : Nat} {S : Nat → xS} {Z : xZ} {h : mx_H} {Post : mx_R → Prop} (hx : XH n s S Z h) (hG : GI n S Z)   (k0 : Z 3 0 = 2) (k1 : (Z 3 3 ≤ Z 3 2 ∧ Z 3 2 ≤ Z 3 1 ∧ (Z 3 4 = 0 ∨ Z 3 4 = 3 ∨ Z 3 3 < Z 3 2) ∧ (Z 3 4 = 3 ∨ Z 3 14 = 0))) (hP : ∀ (Z' : xZ) (h' : mx_H), XH n s S Z' h' → GI n S Z' → fr' [(3, 2), (3, 3), (3, 4), (3, 5), (3, 7), (3, 14), (3, 15), (5, (-1))] Z Z' → ((Z' 3 3 ≤ Z' 3 2 ∧ Z' 3 2 ≤ Z 3 1 ∧ (Z' 3 4 = 0 ∨ Z' 3 4 = 3 ∨ Z' 3 3 < Z' 3 2) ∧ (Z' 3 4 = 3 ∨ Z' 3 14 = 0)) ∧ Z 3 3 ≤ Z' 3 3 ∧ Z' 3 7 - Z 3 7 ≤ Z' 3 3 - Z 3 3 + 1 ∧ (Z 3 4 = 3 → Z' 3 4 = 3)) → Post (none, h')) : mx_J (tB l D b0 ad Hb tau) mt_46 (d + 38) 0 [some (.ref 3), some (xI 3)] [] h Post := by
    have a3 : 3 < n := lt83 (GI_n hG) rfl
    have s3 : S 3 = .inl (7, [2, 0, 0, 0, 0, 0, 2, 0, 2, 2, 0, 2, 0, 0, 0, 0]) := GI_s hG 3 rfl
    refine mx_J.step (sn_46 0) (fun _ _ => rfl) ?_
    refine mx_J.step (sn_46 1) (fun _ _ => rfl) ?_
    have b2 : 2 ≤ Z 3 0 ∧ Z 3 0 ≤ 4 := hG.pr 3 0
    have b3 : 0 ≤ Z 3 1 ∧ Z 3 1 ≤ 900 := hG.pr 3 1
    have b4 : 0 ≤ Z 3 2 ∧ Z 3 2 ≤ 900 := hG.pr 3 2
    have b5 : 0 ≤ Z 3 3 ∧ Z 3 3 ≤ 900 := hG.pr 3 3
    have b6 : 0 ≤ Z 3 4 ∧ Z 3 4 ≤ 400 := hG.pr 3 4
    have b7 : 0 ≤ Z 3 7 ∧ Z 3 7 ≤ 900 := hG.pr 3 7
    have b8 : 0 ≤ Z 3 14 ∧ Z 3 14 ≤ 4 := hG.pr 3 14
    obtain ⟨Z1, h1, hc1, hx1, hG1, hf1, b1⟩ := ct_47_3_i3 (d := d + 0) (l := l) (D := D) (b0 := b0) (ad := ad) (Hb := Hb) (tau := tau) hx hG  (show Z 3 0 = 2 by omega) (show (Z 3 3 ≤ Z 3 2 ∧ Z 3 2 ≤ Z 3 1 ∧ (Z 3 4 = 0 ∨ Z 3 4 = 3 ∨ Z 3 3 < Z 3 2) ∧ (Z 3 4 = 3 ∨ Z 3 14 = 0)) by omega)
    have b9 : 0 ≤ Z1 3 2 ∧ Z1 3 2 ≤ 900 := hG1.pr 3 2
    have b10 : 0 ≤ Z1 3 3 ∧ Z1 3 3 ≤ 900 := hG1.pr 3 3
    have b11 : 0 ≤ Z1 3 4 ∧ Z1 3 4 ≤ 400 := hG1.pr 3 4
    have b12 : 0 ≤ Z1 3 7 ∧ Z1 3 7 ≤ 900 := hG1.pr 3 7
    have b13 : 0 ≤ Z1 3 14 ∧ Z1 3 14 ≤ 4 := hG1.pr 3 14
    refine Jcv0 hx (show mx_Sn _ _ 2 (mx_callv 47 2 7 5) from sn_46 2) a3 s3 hc1 rfl rfl rfl ?_
    refine mx_J.step (sn_46 5) (fun _ _ => rfl) ?_
    refine JcI (z := 306) (show mx_Sn _ _ 6 (mx_const (.int 306) 9) from sn_46 6) rfl ?_
    have eq15 : Z1 3 0 = Z 3 0 := (hf1 3 0 rfl)
    have b16 : 2 ≤ Z 3 0 ∧ Z 3 0 ≤ 4 := hG.pr 3 0
    have eq17 : Z1 3 1 = Z 3 1 := (hf1 3 1 rfl)
    have b18 : 0 ≤ Z 3 1 ∧ Z 3 1 ≤ 900 := hG.pr 3 1
    have b19 : 0 ≤ Z1 3 2 ∧ Z1 3 2 ≤ 900 := hG1.pr 3 2
    have b20 : 0 ≤ Z1 3 3 ∧ Z1 3 3 ≤ 900 := hG1.pr 3 3
    have b21 : 0 ≤ Z1 3 4 ∧ Z1 3 4 ≤ 400 := hG1.pr 3 4
    have b22 : 0 ≤ Z1 3 7 ∧ Z1 3 7 ≤ 900 := hG1.pr 3 7
    have b23 : 0 ≤ Z1 3 14 ∧ Z1 3 14 ≤ 4 := hG1.pr 3 14
    obtain ⟨Z14, h14, hc14, hx14, hG14, hf14, b14⟩ := ct_53_3 (d := d + 31) (l := l) (D := D) (b0 := b0) (ad := ad) (Hb := Hb) (tau := tau) hx1 hG1 (show 40 ≤ 306 ∧ 306 ≤ 320 by omega) (show Z1 3 0 = 2 by first | omega | (simp only [eq15, eq17]; omega)) (show (Z1 3 3 ≤ Z1 3 2 ∧ Z1 3 2 ≤ Z1 3 1 ∧ (Z1 3 4 = 0 ∨ Z1 3 4 = 3 ∨ Z1 3 3 < Z1 3 2) ∧ (Z1 3 4 = 3 ∨ Z1 3 14 = 0)) by first | omega | (simp only [eq15, eq17]; omega))
    try rw [eq15] at b14
    try rw [eq17] at b14
    have b24 : 0 ≤ Z14 3 2 ∧ Z14 3 2 ≤ 900 := hG14.pr 3 2
    have b25 : 0 ≤ Z14 3 3 ∧ Z14 3 3 ≤ 900 := hG14.pr 3 3
    have b26 : 0 ≤ Z14 3 4 ∧ Z14 3 4 ≤ 400 := hG14.pr 3 4
    have eq27 : Z14 3 7 = Z1 3 7 := (hf14 3 7 rfl)
    have b28 : 0 ≤ Z1 3 7 ∧ Z1 3 7 ≤ 900 := hG1.pr 3 7
    have b29 : 0 ≤ Z14 3 14 ∧ Z14 3 14 ≤ 4 := hG14.pr 3 14
    refine Jcv0 hx1 (show mx_Sn _ _ 9 (mx_callv 53 2 7 12) from sn_46 9) a3 s3 hc14 rfl rfl rfl ?_
    refine mx_J.step (sn_46 12) (fun _ _ => rfl) ?_
    refine mx_J.step (sn_46 13) (fun _ _ => rfl) ?_
    have eq31 : Z14 3 0 = Z 3 0 := ((hf14 3 0 rfl).trans (hf1 3 0 rfl))
    have b32 : 2 ≤ Z 3 0 ∧ Z 3 0 ≤ 4 := hG.pr 3 0
    have eq33 : Z14 3 1 = Z 3 1 := ((hf14 3 1 rfl).trans (hf1 3 1 rfl))
    have b34 : 0 ≤ Z 3 1 ∧ Z 3 1 ≤ 900 := hG.pr 3 1
    have b35 : 0 ≤ Z14 3 2 ∧ Z14 3 2 ≤ 900 := hG14.pr 3 2
    have b36 : 0 ≤ Z14 3 3 ∧ Z14 3 3 ≤ 900 := hG14.pr 3 3
    have b37 : 0 ≤ Z14 3 4 ∧ Z14 3 4 ≤ 400 := hG14.pr 3 4
    have eq38 : Z14 3 7 = Z1 3 7 := (hf14 3 7 rfl)
    have b39 : 0 ≤ Z1 3 7 ∧ Z1 3 7 ≤ 900 := hG1.pr 3 7
    have b40 : 0 ≤ Z14 3 14 ∧ Z14 3 14 ≤ 4 := hG14.pr 3 14
    obtain ⟨Z30, h30, hc30, hx30, hG30, hf30, b30⟩ := ct_42_3_i3 (d := d + 4) (l := l) (D := D) (b0 := b0) (ad := ad) (Hb := Hb) (tau := tau) hx14 hG14  (show Z14 3 0 = 2 by first | omega | (simp only [eq31, eq33, eq38]; omega)) (show (Z14 3 3 ≤ Z14 3 2 ∧ Z14 3 2 ≤ Z14 3 1 ∧ (Z14 3 4 = 0 ∨ Z14 3 4 = 3 ∨ Z14 3 3 < Z14 3 2) ∧ (Z14 3 4 = 3 ∨ Z14 3 14 = 0)) by first | omega | (simp only [eq31, eq33, eq38]; omega))
    try rw [eq31] at b30
    try rw [eq33] at b30
    try rw [eq38] at b30
    have b41 : 0 ≤ Z30 3 2 ∧ Z30 3 2 ≤ 900 := hG30.pr 3 2
    have b42 : 0 ≤ Z30 3 3 ∧ Z30 3 3 ≤ 900 := hG30.pr 3 3
    have b43 : 0 ≤ Z30 3 4 ∧ Z30 3 4 ≤ 400 := hG30.pr 3 4
    have b44 : 0 ≤ Z30 3 7 ∧ Z30 3 7 ≤ 900 := hG30.pr 3 7
    have b45 : 0 ≤ Z30 3 14 ∧ Z30 3 14 ≤ 4 := hG30.pr 3 14
    refine Jcv0 hx14 (show mx_Sn _ _ 14 (mx_callv 42 2 7 17) from sn_46 14) a3 s3 hc30 rfl rfl rfl ?_
    refine mx_J.step (sn_46 17) (fun _ _ => rfl) ?_
    refine JcI (z := 307) (show mx_Sn _ _ 18 (mx_const (.int 307) 21) from sn_46 18) rfl ?_
    have eq47 : Z30 3 0 = Z 3 0 := ((hf30 3 0 rfl).trans ((hf14 3 0 rfl).trans (hf1 3 0 rfl)))
    have b48 : 2 ≤ Z 3 0 ∧ Z 3 0 ≤ 4 := hG.pr 3 0
    have eq49 : Z30 3 1 = Z 3 1 := ((hf30 3 1 rfl).trans ((hf14 3 1 rfl).trans (hf1 3 1 rfl)))
    have b50 : 0 ≤ Z 3 1 ∧ Z 3 1 ≤ 900 := hG.pr 3 1
    have b51 : 0 ≤ Z30 3 2 ∧ Z30 3 2 ≤ 900 := hG30.pr 3 2
    have b52 : 0 ≤ Z30 3 3 ∧ Z30 3 3 ≤ 900 := hG30.pr 3 3
    have b53 : 0 ≤ Z30 3 4 ∧ Z30 3 4 ≤ 400 := hG30.pr 3 4
    have b54 : 0 ≤ Z30 3 7 ∧ Z30 3 7 ≤ 900 := hG30.pr 3 7
    have b55 : 0 ≤ Z30 3 14 ∧ Z30 3 14 ≤ 4 := hG30.pr 3 14
    obtain ⟨Z46, h46, hc46, hx46, hG46, hf46, b46⟩ := ct_53_3 (d := d + 31) (l := l) (D := D) (b0 := b0) (ad := ad) (Hb := Hb) (tau := tau) hx30 hG30 (show 40 ≤ 307 ∧ 307 ≤ 320 by omega) (show Z30 3 0 = 2 by first | omega | (simp only [eq47, eq49]; omega)) (show (Z30 3 3 ≤ Z30 3 2 ∧ Z30 3 2 ≤ Z30 3 1 ∧ (Z30 3 4 = 0 ∨ Z30 3 4 = 3 ∨ Z30 3 3 < Z30 3 2) ∧ (Z30 3 4 = 3 ∨ Z30 3 14 = 0)) by first | omega | (simp only [eq47, eq49]; omega))
    try rw [eq47] at b46
    try rw [eq49] at b46
    have b56 : 0 ≤ Z46 3 2 ∧ Z46 3 2 ≤ 900 := hG46.pr 3 2
    have b57 : 0 ≤ Z46 3 3 ∧ Z46 3 3 ≤ 900 := hG46.pr 3 3
    have b58 : 0 ≤ Z46 3 4 ∧ Z46 3 4 ≤ 400 := hG46.pr 3 4
    have eq59 : Z46 3 7 = Z30 3 7 := (hf46 3 7 rfl)
    have b60 : 0 ≤ Z30 3 7 ∧ Z30 3 7 ≤ 900 := hG30.pr 3 7
    have b61 : 0 ≤ Z46 3 14 ∧ Z46 3 14 ≤ 4 := hG46.pr 3 14
    refine Jcv0 hx30 (show mx_Sn _ _ 21 (mx_callv 53 2 7 24) from sn_46 21) a3 s3 hc46 rfl rfl rfl ?_
    refine mx_J.step (sn_46 24) (fun _ _ => rfl) ?_
    refine mx_J.step (sn_46 25) (fun _ _ => rfl) ?_
    have eq63 : Z46 3 0 = Z 3 0 := ((hf46 3 0 rfl).trans ((hf30 3 0 rfl).trans ((hf14 3 0 rfl).trans (hf1 3 0 rfl))))
    have b64 : 2 ≤ Z 3 0 ∧ Z 3 0 ≤ 4 := hG.pr 3 0
    have eq65 : Z46 3 1 = Z 3 1 := ((hf46 3 1 rfl).trans ((hf30 3 1 rfl).trans ((hf14 3 1 rfl).trans (hf1 3 1 rfl))))
    have b66 : 0 ≤ Z 3 1 ∧ Z 3 1 ≤ 900 := hG.pr 3 1
    have b67 : 0 ≤ Z46 3 2 ∧ Z46 3 2 ≤ 900 := hG46.pr 3 2
    have b68 : 0 ≤ Z46 3 3 ∧ Z46 3 3 ≤ 900 := hG46.pr 3 3
    have b69 : 0 ≤ Z46 3 4 ∧ Z46 3 4 ≤ 400 := hG46.pr 3 4
    have eq70 : Z46 3 7 = Z30 3 7 := (hf46 3 7 rfl)
    have b71 : 0 ≤ Z30 3 7 ∧ Z30 3 7 ≤ 900 := hG30.pr 3 7
    have b72 : 0 ≤ Z46 3 14 ∧ Z46 3 14 ≤ 4 := hG46.pr 3 14
    obtain ⟨Z62, h62, hc62, hx62, hG62, hf62, b62⟩ := ct_42_3_i3 (d := d + 4) (l := l) (D := D) (b0 := b0) (ad := ad) (Hb := Hb) (tau := tau) hx46 hG46  (show Z46 3 0 = 2 by first | omega | (simp only [eq63, eq65, eq70]; omega)) (show (Z46 3 3 ≤ Z46 3 2 ∧ Z46 3 2 ≤ Z46 3 1 ∧ (Z46 3 4 = 0 ∨ Z46 3 4 = 3 ∨ Z46 3 3 < Z46 3 2) ∧ (Z46 3 4 = 3 ∨ Z46 3 14 = 0)) by first | omega | (simp only [eq63, eq65, eq70]; omega))
    try rw [eq63] at b62
    try rw [eq65] at b62
    try rw [eq70] at b62
    have b73 : 0 ≤ Z62 3 2 ∧ Z62 3 2 ≤ 900 := hG62.pr 3 2
    have b74 : 0 ≤ Z62 3 3 ∧ Z62 3 3 ≤ 900 := hG62.pr 3 3
    have b75 : 0 ≤ Z62 3 4 ∧ Z62 3 4 ≤ 400 := hG62.pr 3 4
    have b76 : 0 ≤ Z62 3 7 ∧ Z62 3 7 ≤ 900 := hG62.pr 3 7
    have b77 : 0 ≤ Z62 3 14 ∧ Z62 3 14 ≤ 4 := hG62.pr 3 14
    refine Jcv0 hx46 (show mx_Sn _ _ 26 (mx_callv 42 2 7 29) from sn_46 26) a3 s3 hc62 rfl rfl rfl ?_
    refine mx_J.step (sn_46 29) (fun _ _ => rfl) ?_
    refine JcI (z := 308) (show mx_Sn _ _ 30 (mx_const (.int 308) 33) from sn_46 30) rfl ?_
    have eq79 : Z62 3 0 = Z 3 0 := ((hf62 3 0 rfl).trans ((hf46 3 0 rfl).trans ((hf30 3 0 rfl).trans ((hf14 3 0 rfl).trans (hf1 3 0 rfl)))))
    have b80 : 2 ≤ Z 3 0 ∧ Z 3 0 ≤ 4 := hG.pr 3 0
    have eq81 : Z62 3 1 = Z 3 1 := ((hf62 3 1 rfl).trans ((hf46 3 1 rfl).trans ((hf30 3 1 rfl).trans ((hf14 3 1 rfl).trans (hf1 3 1 rfl)))))
    have b82 : 0 ≤ Z 3 1 ∧ Z 3 1 ≤ 900 := hG.pr 3 1
    have b83 : 0 ≤ Z62 3 2 ∧ Z62 3 2 ≤ 900 := hG62.pr 3 2
    have b84 : 0 ≤ Z62 3 3 ∧ Z62 3 3 ≤ 900 := hG62.pr 3 3
    have b85 : 0 ≤ Z62 3 4 ∧ Z62 3 4 ≤ 400 := hG62.pr 3 4
    have b86 : 0 ≤ Z62 3 7 ∧ Z62 3 7 ≤ 900 := hG62.pr 3 7
    have b87 : 0 ≤ Z62 3 14 ∧ Z62 3 14 ≤ 4 := hG62.pr 3 14
    obtain ⟨Z78, h78, hc78, hx78, hG78, hf78, b78⟩ := ct_53_3 (d := d + 31) (l := l) (D := D) (b0 := b0) (ad := ad) (Hb := Hb) (tau := tau) hx62 hG62 (show 40 ≤ 308 ∧ 308 ≤ 320 by omega) (show Z62 3 0 = 2 by first | omega | (simp only [eq79, eq81]; omega)) (show (Z62 3 3 ≤ Z62 3 2 ∧ Z62 3 2 ≤ Z62 3 1 ∧ (Z62 3 4 = 0 ∨ Z62 3 4 = 3 ∨ Z62 3 3 < Z62 3 2) ∧ (Z62 3 4 = 3 ∨ Z62 3 14 = 0)) by first | omega | (simp only [eq79, eq81]; omega))
    try rw [eq79] at b78
    try rw [eq81] at b78
    have b88 : 0 ≤ Z78 3 2 ∧ Z78 3 2 ≤ 900 := hG78.pr 3 2
    have b89 : 0 ≤ Z78 3 3 ∧ Z78 3 3 ≤ 900 := hG78.pr 3 3
    have b90 : 0 ≤ Z78 3 4 ∧ Z78 3 4 ≤ 400 := hG78.pr 3 4
    have eq91 : Z78 3 7 = Z62 3 7 := (hf78 3 7 rfl)
    have b92 : 0 ≤ Z62 3 7 ∧ Z62 3 7 ≤ 900 := hG62.pr 3 7
    have b93 : 0 ≤ Z78 3 14 ∧ Z78 3 14 ≤ 4 := hG78.pr 3 14
    refine Jcv0 hx62 (show mx_Sn _ _ 33 (mx_callv 53 2 7 36) from sn_46 33) a3 s3 hc78 rfl rfl rfl ?_
    refine mx_J.step (sn_46 36) (fun _ _ => rfl) ?_
    refine JcI (z := 1019) (show mx_Sn _ _ 37 (mx_const (.int 1019) 40) from sn_46 37) rfl ?_
    have eq95 : Z78 3 7 = Z62 3 7 := (hf78 3 7 rfl)
    have b96 : 0 ≤ Z62 3 7 ∧ Z62 3 7 ≤ 900 := hG62.pr 3 7
    obtain ⟨Z94, h94, hc94, hx94, hG94, hf94, b94⟩ := ct_52_3_1010 (d := d + 37) (l := l) (D := D) (b0 := b0) (ad := ad) (Hb := Hb) (tau := tau) hx78 hG78 (show 1010 ≤ 1019 ∧ 1019 ≤ 1019 by omega)
    try rw [eq95] at b94
    have b97 : 0 ≤ Z94 3 7 ∧ Z94 3 7 ≤ 900 := hG94.pr 3 7
    refine Jcv0 hx78 (show mx_Sn _ _ 40 (mx_callv 52 2 7 43) from sn_46 40) a3 s3 hc94 rfl rfl rfl ?_
    have eq98 : Z94 3 2 = Z78 3 2 := (hf94 3 2 rfl)
    have b99 : 0 ≤ Z78 3 2 ∧ Z78 3 2 ≤ 900 := hG78.pr 3 2
    have eq100 : Z94 3 3 = Z78 3 3 := (hf94 3 3 rfl)
    have b101 : 0 ≤ Z78 3 3 ∧ Z78 3 3 ≤ 900 := hG78.pr 3 3
    have eq102 : Z94 3 4 = Z78 3 4 := (hf94 3 4 rfl)
    have b103 : 0 ≤ Z78 3 4 ∧ Z78 3 4 ≤ 400 := hG78.pr 3 4
    have b104 : 0 ≤ Z94 3 7 ∧ Z94 3 7 ≤ 900 := hG94.pr 3 7
    have eq105 : Z94 3 14 = Z78 3 14 := (hf94 3 14 rfl)
    have b106 : 0 ≤ Z78 3 14 ∧ Z78 3 14 ≤ 4 := hG78.pr 3 14
    have eq107 : Z94 3 0 = Z 3 0 := ((hf94 3 0 rfl).trans ((hf78 3 0 rfl).trans ((hf62 3 0 rfl).trans ((hf46 3 0 rfl).trans ((hf30 3 0 rfl).trans ((hf14 3 0 rfl).trans (hf1 3 0 rfl)))))))
    have b108 : 2 ≤ Z 3 0 ∧ Z 3 0 ≤ 4 := hG.pr 3 0
    have eq109 : Z94 3 1 = Z 3 1 := ((hf94 3 1 rfl).trans ((hf78 3 1 rfl).trans ((hf62 3 1 rfl).trans ((hf46 3 1 rfl).trans ((hf30 3 1 rfl).trans ((hf14 3 1 rfl).trans (hf1 3 1 rfl)))))))
    have b110 : 0 ≤ Z 3 1 ∧ Z 3 1 ≤ 900 := hG.pr 3 1
    have eq111 : Z94 3 2 = Z78 3 2 := (hf94 3 2 rfl)
    have b112 : 0 ≤ Z78 3 2 ∧ Z78 3 2 ≤ 900 := hG78.pr 3 2
    have eq113 : Z94 3 3 = Z78 3 3 := (hf94 3 3 rfl)
    have b114 : 0 ≤ Z78 3 3 ∧ Z78 3 3 ≤ 900 := hG78.pr 3 3
    have eq115 : Z94 3 4 = Z78 3 4 := (hf94 3 4 rfl)
    have b116 : 0 ≤ Z78 3 4 ∧ Z78 3 4 ≤ 400 := hG78.pr 3 4
    have b117 : 0 ≤ Z94 3 7 ∧ Z94 3 7 ≤ 900 := hG94.pr 3 7
    have eq118 : Z94 3 14 = Z78 3 14 := (hf94 3 14 rfl)
    have b119 : 0 ≤ Z78 3 14 ∧ Z78 3 14 ≤ 4 := hG78.pr 3 14
    exact mx_J.ret (sn_46 43) (fun _ _ => rfl) (hP Z94 h94 hx94 hG94 (fr_tr (M := [(3, 2), (3, 3), (3, 4), (3, 5), (3, 7), (3, 14), (3, 15), (5, (-1))]) (fr_tr (M := [(3, 2), (3, 3), (3, 4), (3, 5), (3, 7), (3, 14), (3, 15), (5, (-1))]) (fr_tr (M := [(3, 2), (3, 3), (3, 4), (3, 5), (3, 7), (3, 14), (3, 15), (5, (-1))]) (fr_tr (M := [(3, 2), (3, 3), (3, 4), (3, 5), (3, 7), (3, 14), (3, 15), (5, (-1))]) (fr_tr (M := [(3, 2), (3, 3), (3, 4), (3, 5), (3, 7), (3, 14), (3, 15), (5, (-1))]) (fr_tr (M := [(3, 2), (3, 3), (3, 4), (3, 5), (3, 7), (3, 14), (3, 15), (5, (-1))]) (fr_tr (M := [(3, 2), (3, 3), (3, 4), (3, 5), (3, 7), (3, 14), (3, 15), (5, (-1))]) fr_rf (hf1) (M1 := []) rfl rfl) (hf14) rfl rfl) (hf30) rfl rfl) (hf46) rfl rfl) (hf62) rfl rfl) (hf78) rfl rfl) (hf94) rfl rfl) (by omega))
theorem ct_46_3_i3 {l : Launch} {D : va_G} {b0 : Nat} {ad : Nat → Nat} {Hb : Heap} {tau : Nat → Int64} {d n s : Nat} {S : Nat → xS} {Z : xZ} {h : mx_H} (hx : XH n s S Z h) (hG : GI n S Z)   (k0 : Z 3 0 = 2) (k1 : (Z 3 3 ≤ Z 3 2 ∧ Z 3 2 ≤ Z 3 1 ∧ (Z 3 4 = 0 ∨ Z 3 4 = 3 ∨ Z 3 3 < Z 3 2) ∧ (Z 3 4 = 3 ∨ Z 3 14 = 0))) : ∃ (Z' : xZ) (h' : mx_H), mx_Ca (tB l D b0 ad Hb tau) (d + 39) 46 [.ref 3, xI 3] h (none, h') ∧ XH n s S Z' h' ∧ GI n S Z' ∧ fr' [(3, 2), (3, 3), (3, 4), (3, 5), (3, 7), (3, 14), (3, 15), (5, (-1))] Z Z' ∧ (((Z' 3 3 ≤ Z' 3 2 ∧ Z' 3 2 ≤ Z 3 1 ∧ (Z' 3 4 = 0 ∨ Z' 3 4 = 3 ∨ Z' 3 3 < Z' 3 2) ∧ (Z' 3 4 = 3 ∨ Z' 3 14 = 0)) ∧ Z 3 3 ≤ Z' 3 3 ∧ Z' 3 7 - Z 3 7 ≤ Z' 3 3 - Z 3 3 + 1 ∧ (Z 3 4 = 3 → Z' 3 4 = 3))) := by
  obtain ⟨r, hca, Z', h', e, q⟩ := Jmt (B := tB l D b0 ad Hb tau) (M := mt_46) (mi := 46) (as := [.ref 3, xI 3]) (d := d + 38) (ls := [some (.ref 3), some (xI 3)]) rfl rfl rfl rfl rfl rfl (cw_46_3_i3 (l := l) (D := D) (b0 := b0) (ad := ad) (Hb := Hb) (tau := tau) (d := d) (Post := fun r => ∃ (Z' : xZ) (h' : mx_H), r = (none, h') ∧ XH n s S Z' h' ∧ GI n S Z' ∧ fr' [(3, 2), (3, 3), (3, 4), (3, 5), (3, 7), (3, 14), (3, 15), (5, (-1))] Z Z' ∧ (((Z' 3 3 ≤ Z' 3 2 ∧ Z' 3 2 ≤ Z 3 1 ∧ (Z' 3 4 = 0 ∨ Z' 3 4 = 3 ∨ Z' 3 3 < Z' 3 2) ∧ (Z' 3 4 = 3 ∨ Z' 3 14 = 0)) ∧ Z 3 3 ≤ Z' 3 3 ∧ Z' 3 7 - Z 3 7 ≤ Z' 3 3 - Z 3 3 + 1 ∧ (Z 3 4 = 3 → Z' 3 4 = 3)))) hx hG k0 k1 (fun Z' h' q1 q2 q3 q4 => ⟨Z', h', rfl, q1, q2, q3, q4⟩))
  subst e; exact ⟨Z', h', hca, q⟩
set_option maxRecDepth 100000 in
theorem cw_44_3_i2 {l : Launch} {D : va_G} {b0 : Nat} {ad : Nat → Nat} {Hb : Heap} {tau : Nat → Int64} {d n s : Nat} {S : Nat → xS} {Z : xZ} {h : mx_H} {Post : mx_R → Prop} (hx : XH n s S Z h) (hG : GI n S Z)   (k0 : Z 3 0 = 2) (k1 : (Z 3 3 ≤ Z 3 2 ∧ Z 3 2 ≤ Z 3 1 ∧ (Z 3 4 = 0 ∨ Z 3 4 = 3 ∨ Z 3 3 < Z 3 2) ∧ (Z 3 4 = 3 ∨ Z 3 14 = 0))) (hP : ∀ (Z' : xZ) (h' : mx_H), XH n s S Z' h' → GI n S Z' → fr' [(3, 2), (3, 3), (3, 4), (3, 5), (3, 7), (3, 14), (3, 15), (5, (-1))] Z Z' → ((Z' 3 3 ≤ Z' 3 2 ∧ Z' 3 2 ≤ Z 3 1 ∧ (Z' 3 4 = 0 ∨ Z' 3 4 = 3 ∨ Z' 3 3 < Z' 3 2) ∧ (Z' 3 4 = 3 ∨ Z' 3 14 = 0)) ∧ Z 3 3 ≤ Z' 3 3 ∧ Z' 3 7 - Z 3 7 ≤ Z' 3 3 - Z 3 3 ∧ (Z' 3 4 = 3 ∨ Z 3 3 + 1 ≤ Z' 3 3) ∧ (Z 3 4 = 3 → Z' 3 4 = 3)) → Post (none, h')) : mx_J (tB l D b0 ad Hb tau) mt_44 (d + 39) 0 [some (.ref 3), some (xI 2)] [] h Post := by
    have a3 : 3 < n := lt83 (GI_n hG) rfl
    have s3 : S 3 = .inl (7, [2, 0, 0, 0, 0, 0, 2, 0, 2, 2, 0, 2, 0, 0, 0, 0]) := GI_s hG 3 rfl
    refine mx_J.step (sn_44 0) (fun _ _ => rfl) ?_
    have b2 : 0 ≤ Z 3 4 ∧ Z 3 4 ≤ 400 := hG.pr 3 4
    refine JgetI (g := 4) (z := Z 3 4) hx (show mx_Sn _ _ 1 (mx_getf 7 4 4) from sn_44 1) a3 s3 rfl rfl rfl ?_
    refine JcI (z := 1) (show mx_Sn _ _ 4 (mx_const (.int 1) 5) from sn_44 4) rfl ?_
    have c148 : ∀  (Z4 : xZ) (h4 : mx_H), (Z4 3 3 ≤ Z4 3 2 ∧ Z4 3 2 ≤ Z 3 1 ∧ (Z4 3 4 = 0 ∨ Z4 3 4 = 3 ∨ Z4 3 3 < Z4 3 2) ∧ (Z4 3 4 = 3 ∨ Z4 3 14 = 0)) → (Z 3 3 ≤ Z4 3 3 ∧ Z4 3 7 - Z 3 7 ≤ Z4 3 3 - Z 3 3 + 0) → ((Z4 3 4 = 3 ∨ Z 3 3 + 1 ≤ Z4 3 3) ∧ (Z 3 4 = 3 → Z4 3 4 = 3)) → XH n s S Z4 h4 → GI n S Z4 → fr' [(3, 2), (3, 3), (3, 4), (3, 5), (3, 7), (3, 14), (3, 15), (5, (-1))] Z Z4 → mx_J (tB l D b0 ad Hb tau) mt_44 (d + 39) 148 [some (.ref 3), some (xI 2)] [] h4 Post := by
      intro Z4 h4 f3_0 f3_1 f3_2 hx4 hG4 hf4
      have eq5 : Z4 3 0 = Z 3 0 := (hf4 3 0 rfl)
      have b6 : 2 ≤ Z 3 0 ∧ Z 3 0 ≤ 4 := hG.pr 3 0
      have b7 : 0 ≤ Z4 3 2 ∧ Z4 3 2 ≤ 900 := hG4.pr 3 2
      have b8 : 0 ≤ Z4 3 3 ∧ Z4 3 3 ≤ 900 := hG4.pr 3 3
      have b9 : 0 ≤ Z4 3 4 ∧ Z4 3 4 ≤ 400 := hG4.pr 3 4
      have b10 : 0 ≤ Z4 3 7 ∧ Z4 3 7 ≤ 900 := hG4.pr 3 7
      have b11 : 0 ≤ Z4 3 14 ∧ Z4 3 14 ≤ 4 := hG4.pr 3 14
      have b12 : 0 ≤ Z4 3 3 ∧ Z4 3 3 ≤ 900 := hG4.pr 3 3
      have b13 : 0 ≤ Z4 3 7 ∧ Z4 3 7 ≤ 900 := hG4.pr 3 7
      have b14 : 0 ≤ Z4 3 3 ∧ Z4 3 3 ≤ 900 := hG4.pr 3 3
      have b15 : 0 ≤ Z4 3 4 ∧ Z4 3 4 ≤ 400 := hG4.pr 3 4
      have b16 : 0 ≤ Z4 3 2 ∧ Z4 3 2 ≤ 900 := hG4.pr 3 2
      have b17 : 0 ≤ Z4 3 3 ∧ Z4 3 3 ≤ 900 := hG4.pr 3 3
      have b18 : 0 ≤ Z4 3 4 ∧ Z4 3 4 ≤ 400 := hG4.pr 3 4
      have b19 : 0 ≤ Z4 3 7 ∧ Z4 3 7 ≤ 900 := hG4.pr 3 7
      have b20 : 0 ≤ Z4 3 14 ∧ Z4 3 14 ≤ 4 := hG4.pr 3 14
      have eq21 : Z4 3 0 = Z 3 0 := (hf4 3 0 rfl)
      have b22 : 2 ≤ Z 3 0 ∧ Z 3 0 ≤ 4 := hG.pr 3 0
      have eq23 : Z4 3 1 = Z 3 1 := (hf4 3 1 rfl)
      have b24 : 0 ≤ Z 3 1 ∧ Z 3 1 ≤ 900 := hG.pr 3 1
      have b25 : 0 ≤ Z4 3 2 ∧ Z4 3 2 ≤ 900 := hG4.pr 3 2
      have b26 : 0 ≤ Z4 3 3 ∧ Z4 3 3 ≤ 900 := hG4.pr 3 3
      have b27 : 0 ≤ Z4 3 4 ∧ Z4 3 4 ≤ 400 := hG4.pr 3 4
      have b28 : 0 ≤ Z4 3 7 ∧ Z4 3 7 ≤ 900 := hG4.pr 3 7
      have b29 : 0 ≤ Z4 3 14 ∧ Z4 3 14 ≤ 4 := hG4.pr 3 14
      exact mx_J.ret (sn_44 148) (fun _ _ => rfl) (hP Z4 h4 hx4 hG4 (fr_tr (M := [(3, 2), (3, 3), (3, 4), (3, 5), (3, 7), (3, 14), (3, 15), (5, (-1))]) fr_rf (hf4) (M1 := []) rfl rfl) (by omega))
    refine Jicmp_ne (show mx_Sn _ _ 5 (mx_icmp_ne 23 8) from sn_44 5) (by omega) (by omega) (fun q30 => ?_) (fun q30 => ?_)
    · skip
      refine mx_J.step (sn_44 23) (fun _ _ => rfl) ?_
      have b32 : 0 ≤ Z 3 4 ∧ Z 3 4 ≤ 400 := hG.pr 3 4
      refine JgetI (g := 4) (z := Z 3 4) hx (show mx_Sn _ _ 24 (mx_getf 7 4 27) from sn_44 24) a3 s3 rfl rfl rfl ?_
      refine JcI (z := 40) (show mx_Sn _ _ 27 (mx_const (.int 40) 29) from sn_44 27) rfl ?_
      refine Jicmp_ne (show mx_Sn _ _ 29 (mx_icmp_ne 56 32) from sn_44 29) (by omega) (by omega) (fun q33 => ?_) (fun q33 => ?_)
      · skip
        refine mx_J.step (sn_44 56) (fun _ _ => rfl) ?_
        have b35 : 0 ≤ Z 3 4 ∧ Z 3 4 ≤ 400 := hG.pr 3 4
        refine JgetI (g := 4) (z := Z 3 4) hx (show mx_Sn _ _ 57 (mx_getf 7 4 60) from sn_44 57) a3 s3 rfl rfl rfl ?_
        refine JcI (z := 305) (show mx_Sn _ _ 60 (mx_const (.int 305) 63) from sn_44 60) rfl ?_
        refine Jicmp_ne (show mx_Sn _ _ 63 (mx_icmp_ne 84 66) from sn_44 63) (by omega) (by omega) (fun q36 => ?_) (fun q36 => ?_)
        · skip
          refine mx_J.step (sn_44 84) (fun _ _ => rfl) ?_
          have b38 : 0 ≤ Z 3 4 ∧ Z 3 4 ≤ 400 := hG.pr 3 4
          refine JgetI (g := 4) (z := Z 3 4) hx (show mx_Sn _ _ 85 (mx_getf 7 4 88) from sn_44 85) a3 s3 rfl rfl rfl ?_
          refine JcI (z := 301) (show mx_Sn _ _ 88 (mx_const (.int 301) 91) from sn_44 88) rfl ?_
          refine Jicmp_ne (show mx_Sn _ _ 91 (mx_icmp_ne 104 94) from sn_44 91) (by omega) (by omega) (fun q39 => ?_) (fun q39 => ?_)
          · skip
            refine mx_J.step (sn_44 104) (fun _ _ => rfl) ?_
            have b41 : 0 ≤ Z 3 4 ∧ Z 3 4 ≤ 400 := hG.pr 3 4
            refine JgetI (g := 4) (z := Z 3 4) hx (show mx_Sn _ _ 105 (mx_getf 7 4 108) from sn_44 105) a3 s3 rfl rfl rfl ?_
            refine JcI (z := 309) (show mx_Sn _ _ 108 (mx_const (.int 309) 111) from sn_44 108) rfl ?_
            have c143 : mx_J (tB l D b0 ad Hb tau) mt_44 (d + 39) 143 [some (.ref 3), some (xI 2)] [] h Post := by
              refine mx_J.step (sn_44 143) (fun _ _ => rfl) ?_
              refine JcI (z := 2) (show mx_Sn _ _ 144 (mx_const (.int 2) 145) from sn_44 144) rfl ?_
              obtain ⟨Z43, h43, hc43, hx43, hG43, hf43, b43⟩ := ct_55_3 (d := d + 38) (l := l) (D := D) (b0 := b0) (ad := ad) (Hb := Hb) (tau := tau) hx hG (show 2 ≤ 2 ∧ 2 ≤ 4 by omega)
              have b44 : 0 ≤ Z43 3 4 ∧ Z43 3 4 ≤ 400 := hG43.pr 3 4
              refine Jcv0 hx (show mx_Sn _ _ 145 (mx_callv 55 2 7 148) from sn_44 145) a3 s3 hc43 rfl rfl rfl ?_
              have eq45 : Z43 3 0 = Z 3 0 := (hf43 3 0 rfl)
              have b46 : 2 ≤ Z 3 0 ∧ Z 3 0 ≤ 4 := hG.pr 3 0
              have eq47 : Z43 3 2 = Z 3 2 := (hf43 3 2 rfl)
              have b48 : 0 ≤ Z 3 2 ∧ Z 3 2 ≤ 900 := hG.pr 3 2
              have eq49 : Z43 3 3 = Z 3 3 := (hf43 3 3 rfl)
              have b50 : 0 ≤ Z 3 3 ∧ Z 3 3 ≤ 900 := hG.pr 3 3
              have b51 : 0 ≤ Z43 3 4 ∧ Z43 3 4 ≤ 400 := hG43.pr 3 4
              have eq52 : Z43 3 7 = Z 3 7 := (hf43 3 7 rfl)
              have b53 : 0 ≤ Z 3 7 ∧ Z 3 7 ≤ 900 := hG.pr 3 7
              have b54 : 0 ≤ Z43 3 14 ∧ Z43 3 14 ≤ 4 := hG43.pr 3 14
              have eq55 : Z43 3 3 = Z 3 3 := (hf43 3 3 rfl)
              have b56 : 0 ≤ Z 3 3 ∧ Z 3 3 ≤ 900 := hG.pr 3 3
              have eq57 : Z43 3 7 = Z 3 7 := (hf43 3 7 rfl)
              have b58 : 0 ≤ Z 3 7 ∧ Z 3 7 ≤ 900 := hG.pr 3 7
              have eq59 : Z43 3 3 = Z 3 3 := (hf43 3 3 rfl)
              have b60 : 0 ≤ Z 3 3 ∧ Z 3 3 ≤ 900 := hG.pr 3 3
              have b61 : 0 ≤ Z43 3 4 ∧ Z43 3 4 ≤ 400 := hG43.pr 3 4
              exact c148 Z43 h43 (by omega) (by omega) (by omega) hx43 hG43 (fr_tr (M := [(3, 2), (3, 3), (3, 4), (3, 5), (3, 7), (3, 14), (3, 15), (5, (-1))]) fr_rf (hf43) (M1 := []) rfl rfl)
            refine Jicmp_lt (show mx_Sn _ _ 111 (mx_icmp_lt 143 114) from sn_44 111) (by omega) (by omega) (fun q62 => ?_) (fun q62 => ?_)
            · skip
              exact c143 
            · skip
              refine mx_J.step (sn_44 114) (fun _ _ => rfl) ?_
              have b64 : 0 ≤ Z 3 4 ∧ Z 3 4 ≤ 400 := hG.pr 3 4
              refine JgetI (g := 4) (z := Z 3 4) hx (show mx_Sn _ _ 115 (mx_getf 7 4 118) from sn_44 115) a3 s3 rfl rfl rfl ?_
              refine JcI (z := 312) (show mx_Sn _ _ 118 (mx_const (.int 312) 121) from sn_44 118) rfl ?_
              refine Jicmp_gt (show mx_Sn _ _ 121 (mx_icmp_gt 143 124) from sn_44 121) (by omega) (by omega) (fun q65 => ?_) (fun q65 => ?_)
              · skip
                exact c143 
              · skip
                refine mx_J.step (sn_44 124) (fun _ _ => rfl) ?_
                refine JcI (z := 1000) (show mx_Sn _ _ 125 (mx_const (.int 1000) 128) from sn_44 125) rfl ?_
                refine mx_J.step (sn_44 128) (fun _ _ => rfl) ?_
                have b67 : 0 ≤ Z 3 4 ∧ Z 3 4 ≤ 400 := hG.pr 3 4
                refine JgetI (g := 4) (z := Z 3 4) hx (show mx_Sn _ _ 129 (mx_getf 7 4 132) from sn_44 129) a3 s3 rfl rfl rfl ?_
                refine Jiadd (show mx_Sn _ _ 132 (mx_iadd 133) from sn_44 132) ?_
                refine JcI (z := 309) (show mx_Sn _ _ 133 (mx_const (.int 309) 136) from sn_44 133) rfl ?_
                refine Jisub (show mx_Sn _ _ 136 (mx_isub 137) from sn_44 136) ?_
                have b69 : 2 ≤ Z 3 0 ∧ Z 3 0 ≤ 4 := hG.pr 3 0
                have b70 : 0 ≤ Z 3 1 ∧ Z 3 1 ≤ 900 := hG.pr 3 1
                have b71 : 0 ≤ Z 3 2 ∧ Z 3 2 ≤ 900 := hG.pr 3 2
                have b72 : 0 ≤ Z 3 3 ∧ Z 3 3 ≤ 900 := hG.pr 3 3
                have b73 : 0 ≤ Z 3 4 ∧ Z 3 4 ≤ 400 := hG.pr 3 4
                have b74 : 0 ≤ Z 3 7 ∧ Z 3 7 ≤ 900 := hG.pr 3 7
                have b75 : 0 ≤ Z 3 14 ∧ Z 3 14 ≤ 4 := hG.pr 3 14
                obtain ⟨Z68, h68, hc68, hx68, hG68, hf68, b68⟩ := ct_45_3 (d := d + 32) (l := l) (D := D) (b0 := b0) (ad := ad) (Hb := Hb) (tau := tau) hx hG (show 1000 ≤ (1000 + (Z 3 4)) - 309 ∧ (1000 + (Z 3 4)) - 309 ≤ 1004 by omega) (show Z 3 0 = 2 by omega) (show (Z 3 3 ≤ Z 3 2 ∧ Z 3 2 ≤ Z 3 1 ∧ (Z 3 4 = 0 ∨ Z 3 4 = 3 ∨ Z 3 3 < Z 3 2) ∧ (Z 3 4 = 3 ∨ Z 3 14 = 0)) by omega) (show ¬ Z 3 4 = 0 by omega) (show ¬ Z 3 4 = 3 by omega)
                have b76 : 0 ≤ Z68 3 2 ∧ Z68 3 2 ≤ 900 := hG68.pr 3 2
                have b77 : 0 ≤ Z68 3 3 ∧ Z68 3 3 ≤ 900 := hG68.pr 3 3
                have b78 : 0 ≤ Z68 3 4 ∧ Z68 3 4 ≤ 400 := hG68.pr 3 4
                have b79 : 0 ≤ Z68 3 7 ∧ Z68 3 7 ≤ 900 := hG68.pr 3 7
                have eq80 : Z68 3 14 = Z 3 14 := (hf68 3 14 rfl)
                have b81 : 0 ≤ Z 3 14 ∧ Z 3 14 ≤ 4 := hG.pr 3 14
                refine Jcv0 hx (show mx_Sn _ _ 137 (mx_callv 45 2 7 140) from sn_44 137) a3 s3 hc68 rfl rfl rfl ?_
                refine mx_J.step (sn_44 140) (fun _ _ => rfl) ?_
                have eq82 : Z68 3 0 = Z 3 0 := (hf68 3 0 rfl)
                have b83 : 2 ≤ Z 3 0 ∧ Z 3 0 ≤ 4 := hG.pr 3 0
                have b84 : 0 ≤ Z68 3 2 ∧ Z68 3 2 ≤ 900 := hG68.pr 3 2
                have b85 : 0 ≤ Z68 3 3 ∧ Z68 3 3 ≤ 900 := hG68.pr 3 3
                have b86 : 0 ≤ Z68 3 4 ∧ Z68 3 4 ≤ 400 := hG68.pr 3 4
                have b87 : 0 ≤ Z68 3 7 ∧ Z68 3 7 ≤ 900 := hG68.pr 3 7
                have eq88 : Z68 3 14 = Z 3 14 := (hf68 3 14 rfl)
                have b89 : 0 ≤ Z 3 14 ∧ Z 3 14 ≤ 4 := hG.pr 3 14
                have b90 : 0 ≤ Z68 3 3 ∧ Z68 3 3 ≤ 900 := hG68.pr 3 3
                have b91 : 0 ≤ Z68 3 7 ∧ Z68 3 7 ≤ 900 := hG68.pr 3 7
                have b92 : 0 ≤ Z68 3 3 ∧ Z68 3 3 ≤ 900 := hG68.pr 3 3
                have b93 : 0 ≤ Z68 3 4 ∧ Z68 3 4 ≤ 400 := hG68.pr 3 4
                exact c148 Z68 h68 (by omega) (by omega) (by omega) hx68 hG68 (fr_tr (M := [(3, 2), (3, 3), (3, 4), (3, 5), (3, 7), (3, 14), (3, 15), (5, (-1))]) fr_rf (hf68) (M1 := []) rfl rfl)
          · skip
            refine mx_J.step (sn_44 94) (fun _ _ => rfl) ?_
            refine JcI (z := 1004) (show mx_Sn _ _ 95 (mx_const (.int 1004) 98) from sn_44 95) rfl ?_
            have b95 : 2 ≤ Z 3 0 ∧ Z 3 0 ≤ 4 := hG.pr 3 0
            have b96 : 0 ≤ Z 3 1 ∧ Z 3 1 ≤ 900 := hG.pr 3 1
            have b97 : 0 ≤ Z 3 2 ∧ Z 3 2 ≤ 900 := hG.pr 3 2
            have b98 : 0 ≤ Z 3 3 ∧ Z 3 3 ≤ 900 := hG.pr 3 3
            have b99 : 0 ≤ Z 3 4 ∧ Z 3 4 ≤ 400 := hG.pr 3 4
            have b100 : 0 ≤ Z 3 7 ∧ Z 3 7 ≤ 900 := hG.pr 3 7
            have b101 : 0 ≤ Z 3 14 ∧ Z 3 14 ≤ 4 := hG.pr 3 14
            obtain ⟨Z94, h94, hc94, hx94, hG94, hf94, b94⟩ := ct_45_3 (d := d + 32) (l := l) (D := D) (b0 := b0) (ad := ad) (Hb := Hb) (tau := tau) hx hG (show 1000 ≤ 1004 ∧ 1004 ≤ 1004 by omega) (show Z 3 0 = 2 by omega) (show (Z 3 3 ≤ Z 3 2 ∧ Z 3 2 ≤ Z 3 1 ∧ (Z 3 4 = 0 ∨ Z 3 4 = 3 ∨ Z 3 3 < Z 3 2) ∧ (Z 3 4 = 3 ∨ Z 3 14 = 0)) by omega) (show ¬ Z 3 4 = 0 by omega) (show ¬ Z 3 4 = 3 by omega)
            have b102 : 0 ≤ Z94 3 2 ∧ Z94 3 2 ≤ 900 := hG94.pr 3 2
            have b103 : 0 ≤ Z94 3 3 ∧ Z94 3 3 ≤ 900 := hG94.pr 3 3
            have b104 : 0 ≤ Z94 3 4 ∧ Z94 3 4 ≤ 400 := hG94.pr 3 4
            have b105 : 0 ≤ Z94 3 7 ∧ Z94 3 7 ≤ 900 := hG94.pr 3 7
            have eq106 : Z94 3 14 = Z 3 14 := (hf94 3 14 rfl)
            have b107 : 0 ≤ Z 3 14 ∧ Z 3 14 ≤ 4 := hG.pr 3 14
            refine Jcv0 hx (show mx_Sn _ _ 98 (mx_callv 45 2 7 101) from sn_44 98) a3 s3 hc94 rfl rfl rfl ?_
            refine mx_J.step (sn_44 101) (fun _ _ => rfl) ?_
            have eq108 : Z94 3 0 = Z 3 0 := (hf94 3 0 rfl)
            have b109 : 2 ≤ Z 3 0 ∧ Z 3 0 ≤ 4 := hG.pr 3 0
            have b110 : 0 ≤ Z94 3 2 ∧ Z94 3 2 ≤ 900 := hG94.pr 3 2
            have b111 : 0 ≤ Z94 3 3 ∧ Z94 3 3 ≤ 900 := hG94.pr 3 3
            have b112 : 0 ≤ Z94 3 4 ∧ Z94 3 4 ≤ 400 := hG94.pr 3 4
            have b113 : 0 ≤ Z94 3 7 ∧ Z94 3 7 ≤ 900 := hG94.pr 3 7
            have eq114 : Z94 3 14 = Z 3 14 := (hf94 3 14 rfl)
            have b115 : 0 ≤ Z 3 14 ∧ Z 3 14 ≤ 4 := hG.pr 3 14
            have b116 : 0 ≤ Z94 3 3 ∧ Z94 3 3 ≤ 900 := hG94.pr 3 3
            have b117 : 0 ≤ Z94 3 7 ∧ Z94 3 7 ≤ 900 := hG94.pr 3 7
            have b118 : 0 ≤ Z94 3 3 ∧ Z94 3 3 ≤ 900 := hG94.pr 3 3
            have b119 : 0 ≤ Z94 3 4 ∧ Z94 3 4 ≤ 400 := hG94.pr 3 4
            exact c148 Z94 h94 (by omega) (by omega) (by omega) hx94 hG94 (fr_tr (M := [(3, 2), (3, 3), (3, 4), (3, 5), (3, 7), (3, 14), (3, 15), (5, (-1))]) fr_rf (hf94) (M1 := []) rfl rfl)
        · skip
          refine mx_J.step (sn_44 66) (fun _ _ => rfl) ?_
          refine mx_J.step (sn_44 67) (fun _ _ => rfl) ?_
          have b121 : 2 ≤ Z 3 0 ∧ Z 3 0 ≤ 4 := hG.pr 3 0
          have b122 : 0 ≤ Z 3 1 ∧ Z 3 1 ≤ 900 := hG.pr 3 1
          have b123 : 0 ≤ Z 3 2 ∧ Z 3 2 ≤ 900 := hG.pr 3 2
          have b124 : 0 ≤ Z 3 3 ∧ Z 3 3 ≤ 900 := hG.pr 3 3
          have b125 : 0 ≤ Z 3 4 ∧ Z 3 4 ≤ 400 := hG.pr 3 4
          have b126 : 0 ≤ Z 3 7 ∧ Z 3 7 ≤ 900 := hG.pr 3 7
          have b127 : 0 ≤ Z 3 14 ∧ Z 3 14 ≤ 4 := hG.pr 3 14
          obtain ⟨z120, Z120, h120, hc120, hx120, hG120, hf120, b120⟩ := ct_51_3_i2 (d := d + 32) (l := l) (D := D) (b0 := b0) (ad := ad) (Hb := Hb) (tau := tau) hx hG  (show Z 3 0 = 2 by omega) (show (Z 3 3 ≤ Z 3 2 ∧ Z 3 2 ≤ Z 3 1 ∧ (Z 3 4 = 0 ∨ Z 3 4 = 3 ∨ Z 3 3 < Z 3 2) ∧ (Z 3 4 = 3 ∨ Z 3 14 = 0)) by omega) (show ¬ Z 3 4 = 0 by omega) (show ¬ Z 3 4 = 3 by omega)
          have b128 : 0 ≤ Z120 3 2 ∧ Z120 3 2 ≤ 900 := hG120.pr 3 2
          have b129 : 0 ≤ Z120 3 3 ∧ Z120 3 3 ≤ 900 := hG120.pr 3 3
          have b130 : 0 ≤ Z120 3 4 ∧ Z120 3 4 ≤ 400 := hG120.pr 3 4
          have eq131 : Z120 3 7 = Z 3 7 := (hf120 3 7 rfl)
          have b132 : 0 ≤ Z 3 7 ∧ Z 3 7 ≤ 900 := hG.pr 3 7
          have eq133 : Z120 3 14 = Z 3 14 := (hf120 3 14 rfl)
          have b134 : 0 ≤ Z 3 14 ∧ Z 3 14 ≤ 4 := hG.pr 3 14
          refine Jcv hx (show mx_Sn _ _ 68 (mx_callv 51 2 7 71) from sn_44 68) a3 s3 hc120 rfl rfl rfl ?_
          refine Jif_eq (show mx_Sn _ _ 71 (mx_if_eq 148 74) from sn_44 71) (by omega) (fun q135 => ?_) (fun q135 => ?_)
          · skip
            have eq136 : Z120 3 0 = Z 3 0 := (hf120 3 0 rfl)
            have b137 : 2 ≤ Z 3 0 ∧ Z 3 0 ≤ 4 := hG.pr 3 0
            have b138 : 0 ≤ Z120 3 2 ∧ Z120 3 2 ≤ 900 := hG120.pr 3 2
            have b139 : 0 ≤ Z120 3 3 ∧ Z120 3 3 ≤ 900 := hG120.pr 3 3
            have b140 : 0 ≤ Z120 3 4 ∧ Z120 3 4 ≤ 400 := hG120.pr 3 4
            have eq141 : Z120 3 7 = Z 3 7 := (hf120 3 7 rfl)
            have b142 : 0 ≤ Z 3 7 ∧ Z 3 7 ≤ 900 := hG.pr 3 7
            have eq143 : Z120 3 14 = Z 3 14 := (hf120 3 14 rfl)
            have b144 : 0 ≤ Z 3 14 ∧ Z 3 14 ≤ 4 := hG.pr 3 14
            have b145 : 0 ≤ Z120 3 3 ∧ Z120 3 3 ≤ 900 := hG120.pr 3 3
            have eq146 : Z120 3 7 = Z 3 7 := (hf120 3 7 rfl)
            have b147 : 0 ≤ Z 3 7 ∧ Z 3 7 ≤ 900 := hG.pr 3 7
            have b148 : 0 ≤ Z120 3 3 ∧ Z120 3 3 ≤ 900 := hG120.pr 3 3
            have b149 : 0 ≤ Z120 3 4 ∧ Z120 3 4 ≤ 400 := hG120.pr 3 4
            exact c148 Z120 h120 (by omega) (by omega) (by omega) hx120 hG120 (fr_tr (M := [(3, 2), (3, 3), (3, 4), (3, 5), (3, 7), (3, 14), (3, 15), (5, (-1))]) fr_rf (hf120) (M1 := []) rfl rfl)
          · skip
            refine mx_J.step (sn_44 74) (fun _ _ => rfl) ?_
            refine mx_J.step (sn_44 75) (fun _ _ => rfl) ?_
            refine JcI (z := 1) (show mx_Sn _ _ 76 (mx_const (.int 1) 77) from sn_44 76) rfl ?_
            refine JiaddE (r := 3) (show mx_Sn _ _ 77 (mx_iadd 78) from sn_44 77) (by decide) ?_
            have eq151 : Z120 3 0 = Z 3 0 := (hf120 3 0 rfl)
            have b152 : 2 ≤ Z 3 0 ∧ Z 3 0 ≤ 4 := hG.pr 3 0
            have eq153 : Z120 3 1 = Z 3 1 := (hf120 3 1 rfl)
            have b154 : 0 ≤ Z 3 1 ∧ Z 3 1 ≤ 900 := hG.pr 3 1
            have b155 : 0 ≤ Z120 3 2 ∧ Z120 3 2 ≤ 900 := hG120.pr 3 2
            have b156 : 0 ≤ Z120 3 3 ∧ Z120 3 3 ≤ 900 := hG120.pr 3 3
            have b157 : 0 ≤ Z120 3 4 ∧ Z120 3 4 ≤ 400 := hG120.pr 3 4
            have eq158 : Z120 3 7 = Z 3 7 := (hf120 3 7 rfl)
            have b159 : 0 ≤ Z 3 7 ∧ Z 3 7 ≤ 900 := hG.pr 3 7
            have eq160 : Z120 3 14 = Z 3 14 := (hf120 3 14 rfl)
            have b161 : 0 ≤ Z 3 14 ∧ Z 3 14 ≤ 4 := hG.pr 3 14
            obtain ⟨Z150, h150, hc150, hx150, hG150, hf150, b150⟩ := ct_46_3_i3 (d := d + 0) (l := l) (D := D) (b0 := b0) (ad := ad) (Hb := Hb) (tau := tau) hx120 hG120  (show Z120 3 0 = 2 by first | omega | (simp only [eq151, eq153, eq158, eq160]; omega)) (show (Z120 3 3 ≤ Z120 3 2 ∧ Z120 3 2 ≤ Z120 3 1 ∧ (Z120 3 4 = 0 ∨ Z120 3 4 = 3 ∨ Z120 3 3 < Z120 3 2) ∧ (Z120 3 4 = 3 ∨ Z120 3 14 = 0)) by first | omega | (simp only [eq151, eq153, eq158, eq160]; omega))
            try rw [eq151] at b150
            try rw [eq153] at b150
            try rw [eq158] at b150
            try rw [eq160] at b150
            have b162 : 0 ≤ Z150 3 2 ∧ Z150 3 2 ≤ 900 := hG150.pr 3 2
            have b163 : 0 ≤ Z150 3 3 ∧ Z150 3 3 ≤ 900 := hG150.pr 3 3
            have b164 : 0 ≤ Z150 3 4 ∧ Z150 3 4 ≤ 400 := hG150.pr 3 4
            have b165 : 0 ≤ Z150 3 7 ∧ Z150 3 7 ≤ 900 := hG150.pr 3 7
            have b166 : 0 ≤ Z150 3 14 ∧ Z150 3 14 ≤ 4 := hG150.pr 3 14
            refine Jcv0 hx120 (show mx_Sn _ _ 78 (mx_callv 46 2 7 81) from sn_44 78) a3 s3 hc150 rfl rfl rfl ?_
            refine mx_J.step (sn_44 81) (fun _ _ => rfl) ?_
            have eq167 : Z150 3 0 = Z 3 0 := ((hf150 3 0 rfl).trans (hf120 3 0 rfl))
            have b168 : 2 ≤ Z 3 0 ∧ Z 3 0 ≤ 4 := hG.pr 3 0
            have b169 : 0 ≤ Z150 3 2 ∧ Z150 3 2 ≤ 900 := hG150.pr 3 2
            have b170 : 0 ≤ Z150 3 3 ∧ Z150 3 3 ≤ 900 := hG150.pr 3 3
            have b171 : 0 ≤ Z150 3 4 ∧ Z150 3 4 ≤ 400 := hG150.pr 3 4
            have b172 : 0 ≤ Z150 3 7 ∧ Z150 3 7 ≤ 900 := hG150.pr 3 7
            have b173 : 0 ≤ Z150 3 14 ∧ Z150 3 14 ≤ 4 := hG150.pr 3 14
            have b174 : 0 ≤ Z150 3 3 ∧ Z150 3 3 ≤ 900 := hG150.pr 3 3
            have b175 : 0 ≤ Z150 3 7 ∧ Z150 3 7 ≤ 900 := hG150.pr 3 7
            have b176 : 0 ≤ Z150 3 3 ∧ Z150 3 3 ≤ 900 := hG150.pr 3 3
            have b177 : 0 ≤ Z150 3 4 ∧ Z150 3 4 ≤ 400 := hG150.pr 3 4
            exact c148 Z150 h150 (by omega) (by omega) (by omega) hx150 hG150 (fr_tr (M := [(3, 2), (3, 3), (3, 4), (3, 5), (3, 7), (3, 14), (3, 15), (5, (-1))]) (fr_tr (M := [(3, 2), (3, 3), (3, 4), (3, 5), (3, 7), (3, 14), (3, 15), (5, (-1))]) fr_rf (hf120) (M1 := []) rfl rfl) (hf150) rfl rfl)
      · skip
        refine mx_J.step (sn_44 32) (fun _ _ => rfl) ?_
        refine mx_J.step (sn_44 33) (fun _ _ => rfl) ?_
        have b179 : 2 ≤ Z 3 0 ∧ Z 3 0 ≤ 4 := hG.pr 3 0
        have b180 : 0 ≤ Z 3 1 ∧ Z 3 1 ≤ 900 := hG.pr 3 1
        have b181 : 0 ≤ Z 3 2 ∧ Z 3 2 ≤ 900 := hG.pr 3 2
        have b182 : 0 ≤ Z 3 3 ∧ Z 3 3 ≤ 900 := hG.pr 3 3
        have b183 : 0 ≤ Z 3 4 ∧ Z 3 4 ≤ 400 := hG.pr 3 4
        have b184 : 0 ≤ Z 3 7 ∧ Z 3 7 ≤ 900 := hG.pr 3 7
        have b185 : 0 ≤ Z 3 14 ∧ Z 3 14 ≤ 4 := hG.pr 3 14
        obtain ⟨z178, Z178, h178, hc178, hx178, hG178, hf178, b178⟩ := ct_51_3_i2 (d := d + 32) (l := l) (D := D) (b0 := b0) (ad := ad) (Hb := Hb) (tau := tau) hx hG  (show Z 3 0 = 2 by omega) (show (Z 3 3 ≤ Z 3 2 ∧ Z 3 2 ≤ Z 3 1 ∧ (Z 3 4 = 0 ∨ Z 3 4 = 3 ∨ Z 3 3 < Z 3 2) ∧ (Z 3 4 = 3 ∨ Z 3 14 = 0)) by omega) (show ¬ Z 3 4 = 0 by omega) (show ¬ Z 3 4 = 3 by omega)
        have b186 : 0 ≤ Z178 3 2 ∧ Z178 3 2 ≤ 900 := hG178.pr 3 2
        have b187 : 0 ≤ Z178 3 3 ∧ Z178 3 3 ≤ 900 := hG178.pr 3 3
        have b188 : 0 ≤ Z178 3 4 ∧ Z178 3 4 ≤ 400 := hG178.pr 3 4
        have eq189 : Z178 3 7 = Z 3 7 := (hf178 3 7 rfl)
        have b190 : 0 ≤ Z 3 7 ∧ Z 3 7 ≤ 900 := hG.pr 3 7
        have eq191 : Z178 3 14 = Z 3 14 := (hf178 3 14 rfl)
        have b192 : 0 ≤ Z 3 14 ∧ Z 3 14 ≤ 4 := hG.pr 3 14
        refine Jcv hx (show mx_Sn _ _ 34 (mx_callv 51 2 7 37) from sn_44 34) a3 s3 hc178 rfl rfl rfl ?_
        refine Jif_eq (show mx_Sn _ _ 37 (mx_if_eq 148 40) from sn_44 37) (by omega) (fun q193 => ?_) (fun q193 => ?_)
        · skip
          have eq194 : Z178 3 0 = Z 3 0 := (hf178 3 0 rfl)
          have b195 : 2 ≤ Z 3 0 ∧ Z 3 0 ≤ 4 := hG.pr 3 0
          have b196 : 0 ≤ Z178 3 2 ∧ Z178 3 2 ≤ 900 := hG178.pr 3 2
          have b197 : 0 ≤ Z178 3 3 ∧ Z178 3 3 ≤ 900 := hG178.pr 3 3
          have b198 : 0 ≤ Z178 3 4 ∧ Z178 3 4 ≤ 400 := hG178.pr 3 4
          have eq199 : Z178 3 7 = Z 3 7 := (hf178 3 7 rfl)
          have b200 : 0 ≤ Z 3 7 ∧ Z 3 7 ≤ 900 := hG.pr 3 7
          have eq201 : Z178 3 14 = Z 3 14 := (hf178 3 14 rfl)
          have b202 : 0 ≤ Z 3 14 ∧ Z 3 14 ≤ 4 := hG.pr 3 14
          have b203 : 0 ≤ Z178 3 3 ∧ Z178 3 3 ≤ 900 := hG178.pr 3 3
          have eq204 : Z178 3 7 = Z 3 7 := (hf178 3 7 rfl)
          have b205 : 0 ≤ Z 3 7 ∧ Z 3 7 ≤ 900 := hG.pr 3 7
          have b206 : 0 ≤ Z178 3 3 ∧ Z178 3 3 ≤ 900 := hG178.pr 3 3
          have b207 : 0 ≤ Z178 3 4 ∧ Z178 3 4 ≤ 400 := hG178.pr 3 4
          exact c148 Z178 h178 (by omega) (by omega) (by omega) hx178 hG178 (fr_tr (M := [(3, 2), (3, 3), (3, 4), (3, 5), (3, 7), (3, 14), (3, 15), (5, (-1))]) fr_rf (hf178) (M1 := []) rfl rfl)
        · skip
          refine mx_J.step (sn_44 40) (fun _ _ => rfl) ?_
          refine mx_J.step (sn_44 41) (fun _ _ => rfl) ?_
          refine JcI (z := 1) (show mx_Sn _ _ 42 (mx_const (.int 1) 43) from sn_44 42) rfl ?_
          refine JiaddE (r := 3) (show mx_Sn _ _ 43 (mx_iadd 44) from sn_44 43) (by decide) ?_
          have eq209 : Z178 3 0 = Z 3 0 := (hf178 3 0 rfl)
          have b210 : 2 ≤ Z 3 0 ∧ Z 3 0 ≤ 4 := hG.pr 3 0
          have eq211 : Z178 3 1 = Z 3 1 := (hf178 3 1 rfl)
          have b212 : 0 ≤ Z 3 1 ∧ Z 3 1 ≤ 900 := hG.pr 3 1
          have b213 : 0 ≤ Z178 3 2 ∧ Z178 3 2 ≤ 900 := hG178.pr 3 2
          have b214 : 0 ≤ Z178 3 3 ∧ Z178 3 3 ≤ 900 := hG178.pr 3 3
          have b215 : 0 ≤ Z178 3 4 ∧ Z178 3 4 ≤ 400 := hG178.pr 3 4
          have eq216 : Z178 3 7 = Z 3 7 := (hf178 3 7 rfl)
          have b217 : 0 ≤ Z 3 7 ∧ Z 3 7 ≤ 900 := hG.pr 3 7
          have eq218 : Z178 3 14 = Z 3 14 := (hf178 3 14 rfl)
          have b219 : 0 ≤ Z 3 14 ∧ Z 3 14 ≤ 4 := hG.pr 3 14
          obtain ⟨Z208, h208, hc208, hx208, hG208, hf208, b208⟩ := ct_42_3_i3 (d := d + 5) (l := l) (D := D) (b0 := b0) (ad := ad) (Hb := Hb) (tau := tau) hx178 hG178  (show Z178 3 0 = 2 by first | omega | (simp only [eq209, eq211, eq216, eq218]; omega)) (show (Z178 3 3 ≤ Z178 3 2 ∧ Z178 3 2 ≤ Z178 3 1 ∧ (Z178 3 4 = 0 ∨ Z178 3 4 = 3 ∨ Z178 3 3 < Z178 3 2) ∧ (Z178 3 4 = 3 ∨ Z178 3 14 = 0)) by first | omega | (simp only [eq209, eq211, eq216, eq218]; omega))
          try rw [eq209] at b208
          try rw [eq211] at b208
          try rw [eq216] at b208
          try rw [eq218] at b208
          have b220 : 0 ≤ Z208 3 2 ∧ Z208 3 2 ≤ 900 := hG208.pr 3 2
          have b221 : 0 ≤ Z208 3 3 ∧ Z208 3 3 ≤ 900 := hG208.pr 3 3
          have b222 : 0 ≤ Z208 3 4 ∧ Z208 3 4 ≤ 400 := hG208.pr 3 4
          have b223 : 0 ≤ Z208 3 7 ∧ Z208 3 7 ≤ 900 := hG208.pr 3 7
          have b224 : 0 ≤ Z208 3 14 ∧ Z208 3 14 ≤ 4 := hG208.pr 3 14
          refine Jcv0 hx178 (show mx_Sn _ _ 44 (mx_callv 42 2 7 47) from sn_44 44) a3 s3 hc208 rfl rfl rfl ?_
          refine mx_J.step (sn_44 47) (fun _ _ => rfl) ?_
          refine JcI (z := 41) (show mx_Sn _ _ 48 (mx_const (.int 41) 50) from sn_44 48) rfl ?_
          have eq226 : Z208 3 0 = Z 3 0 := ((hf208 3 0 rfl).trans (hf178 3 0 rfl))
          have b227 : 2 ≤ Z 3 0 ∧ Z 3 0 ≤ 4 := hG.pr 3 0
          have eq228 : Z208 3 1 = Z 3 1 := ((hf208 3 1 rfl).trans (hf178 3 1 rfl))
          have b229 : 0 ≤ Z 3 1 ∧ Z 3 1 ≤ 900 := hG.pr 3 1
          have b230 : 0 ≤ Z208 3 2 ∧ Z208 3 2 ≤ 900 := hG208.pr 3 2
          have b231 : 0 ≤ Z208 3 3 ∧ Z208 3 3 ≤ 900 := hG208.pr 3 3
          have b232 : 0 ≤ Z208 3 4 ∧ Z208 3 4 ≤ 400 := hG208.pr 3 4
          have b233 : 0 ≤ Z208 3 7 ∧ Z208 3 7 ≤ 900 := hG208.pr 3 7
          have b234 : 0 ≤ Z208 3 14 ∧ Z208 3 14 ≤ 4 := hG208.pr 3 14
          obtain ⟨Z225, h225, hc225, hx225, hG225, hf225, b225⟩ := ct_53_3 (d := d + 32) (l := l) (D := D) (b0 := b0) (ad := ad) (Hb := Hb) (tau := tau) hx208 hG208 (show 40 ≤ 41 ∧ 41 ≤ 320 by omega) (show Z208 3 0 = 2 by first | omega | (simp only [eq226, eq228]; omega)) (show (Z208 3 3 ≤ Z208 3 2 ∧ Z208 3 2 ≤ Z208 3 1 ∧ (Z208 3 4 = 0 ∨ Z208 3 4 = 3 ∨ Z208 3 3 < Z208 3 2) ∧ (Z208 3 4 = 3 ∨ Z208 3 14 = 0)) by first | omega | (simp only [eq226, eq228]; omega))
          try rw [eq226] at b225
          try rw [eq228] at b225
          have b235 : 0 ≤ Z225 3 2 ∧ Z225 3 2 ≤ 900 := hG225.pr 3 2
          have b236 : 0 ≤ Z225 3 3 ∧ Z225 3 3 ≤ 900 := hG225.pr 3 3
          have b237 : 0 ≤ Z225 3 4 ∧ Z225 3 4 ≤ 400 := hG225.pr 3 4
          have eq238 : Z225 3 7 = Z208 3 7 := (hf225 3 7 rfl)
          have b239 : 0 ≤ Z208 3 7 ∧ Z208 3 7 ≤ 900 := hG208.pr 3 7
          have b240 : 0 ≤ Z225 3 14 ∧ Z225 3 14 ≤ 4 := hG225.pr 3 14
          refine Jcv0 hx208 (show mx_Sn _ _ 50 (mx_callv 53 2 7 53) from sn_44 50) a3 s3 hc225 rfl rfl rfl ?_
          refine mx_J.step (sn_44 53) (fun _ _ => rfl) ?_
          have eq241 : Z225 3 0 = Z 3 0 := ((hf225 3 0 rfl).trans ((hf208 3 0 rfl).trans (hf178 3 0 rfl)))
          have b242 : 2 ≤ Z 3 0 ∧ Z 3 0 ≤ 4 := hG.pr 3 0
          have b243 : 0 ≤ Z225 3 2 ∧ Z225 3 2 ≤ 900 := hG225.pr 3 2
          have b244 : 0 ≤ Z225 3 3 ∧ Z225 3 3 ≤ 900 := hG225.pr 3 3
          have b245 : 0 ≤ Z225 3 4 ∧ Z225 3 4 ≤ 400 := hG225.pr 3 4
          have eq246 : Z225 3 7 = Z208 3 7 := (hf225 3 7 rfl)
          have b247 : 0 ≤ Z208 3 7 ∧ Z208 3 7 ≤ 900 := hG208.pr 3 7
          have b248 : 0 ≤ Z225 3 14 ∧ Z225 3 14 ≤ 4 := hG225.pr 3 14
          have b249 : 0 ≤ Z225 3 3 ∧ Z225 3 3 ≤ 900 := hG225.pr 3 3
          have eq250 : Z225 3 7 = Z208 3 7 := (hf225 3 7 rfl)
          have b251 : 0 ≤ Z208 3 7 ∧ Z208 3 7 ≤ 900 := hG208.pr 3 7
          have b252 : 0 ≤ Z225 3 3 ∧ Z225 3 3 ≤ 900 := hG225.pr 3 3
          have b253 : 0 ≤ Z225 3 4 ∧ Z225 3 4 ≤ 400 := hG225.pr 3 4
          exact c148 Z225 h225 (by omega) (by omega) (by omega) hx225 hG225 (fr_tr (M := [(3, 2), (3, 3), (3, 4), (3, 5), (3, 7), (3, 14), (3, 15), (5, (-1))]) (fr_tr (M := [(3, 2), (3, 3), (3, 4), (3, 5), (3, 7), (3, 14), (3, 15), (5, (-1))]) (fr_tr (M := [(3, 2), (3, 3), (3, 4), (3, 5), (3, 7), (3, 14), (3, 15), (5, (-1))]) fr_rf (hf178) (M1 := []) rfl rfl) (hf208) rfl rfl) (hf225) rfl rfl)
    · skip
      refine mx_J.step (sn_44 8) (fun _ _ => rfl) ?_
      refine mx_J.step (sn_44 9) (fun _ _ => rfl) ?_
      refine JcI (z := 0) (show mx_Sn _ _ 10 (mx_const (.int 0) 11) from sn_44 10) rfl ?_
      refine JcI (z := 999) (show mx_Sn _ _ 11 (mx_const (.int 999) 14) from sn_44 11) rfl ?_
      have b255 : 2 ≤ Z 3 0 ∧ Z 3 0 ≤ 4 := hG.pr 3 0
      have b256 : 0 ≤ Z 3 1 ∧ Z 3 1 ≤ 900 := hG.pr 3 1
      have b257 : 0 ≤ Z 3 2 ∧ Z 3 2 ≤ 900 := hG.pr 3 2
      have b258 : 0 ≤ Z 3 3 ∧ Z 3 3 ≤ 900 := hG.pr 3 3
      have b259 : 0 ≤ Z 3 4 ∧ Z 3 4 ≤ 400 := hG.pr 3 4
      have b260 : 0 ≤ Z 3 7 ∧ Z 3 7 ≤ 900 := hG.pr 3 7
      have b261 : 0 ≤ Z 3 14 ∧ Z 3 14 ≤ 4 := hG.pr 3 14
      obtain ⟨z254, Z254, h254, hc254, hx254, hG254, hf254, b254⟩ := ct_54_3 (d := d + 32) (l := l) (D := D) (b0 := b0) (ad := ad) (Hb := Hb) (tau := tau) hx hG (show 0 ≤ 0 ∧ 0 ≤ 1 by omega) (show 0 ≤ 999 ∧ 999 ≤ 999 by omega) (show Z 3 0 = 2 by omega) (show (Z 3 3 ≤ Z 3 2 ∧ Z 3 2 ≤ Z 3 1 ∧ (Z 3 4 = 0 ∨ Z 3 4 = 3 ∨ Z 3 3 < Z 3 2) ∧ (Z 3 4 = 3 ∨ Z 3 14 = 0)) by omega)
      have b262 : 0 ≤ Z254 3 2 ∧ Z254 3 2 ≤ 900 := hG254.pr 3 2
      have b263 : 0 ≤ Z254 3 3 ∧ Z254 3 3 ≤ 900 := hG254.pr 3 3
      have b264 : 0 ≤ Z254 3 4 ∧ Z254 3 4 ≤ 400 := hG254.pr 3 4
      have eq265 : Z254 3 7 = Z 3 7 := (hf254 3 7 rfl)
      have b266 : 0 ≤ Z 3 7 ∧ Z 3 7 ≤ 900 := hG.pr 3 7
      have b267 : 0 ≤ Z254 3 14 ∧ Z254 3 14 ≤ 4 := hG254.pr 3 14
      refine Jcv hx (show mx_Sn _ _ 14 (mx_callv 54 3 7 17) from sn_44 14) a3 s3 hc254 rfl rfl rfl ?_
      have eq269 : Z254 3 7 = Z 3 7 := (hf254 3 7 rfl)
      have b270 : 0 ≤ Z 3 7 ∧ Z 3 7 ≤ 900 := hG.pr 3 7
      obtain ⟨Z268, h268, hc268, hx268, hG268, hf268, b268⟩ := ct_52_3_0 (d := d + 38) (l := l) (D := D) (b0 := b0) (ad := ad) (Hb := Hb) (tau := tau) hx254 hG254 (show 0 ≤ z254 ∧ z254 ≤ 1004 by omega)
      try rw [eq269] at b268
      have b271 : 0 ≤ Z268 3 7 ∧ Z268 3 7 ≤ 900 := hG268.pr 3 7
      refine Jcv0 hx254 (show mx_Sn _ _ 17 (mx_callv 52 2 7 20) from sn_44 17) a3 s3 hc268 rfl rfl rfl ?_
      refine mx_J.step (sn_44 20) (fun _ _ => rfl) ?_
      have eq272 : Z268 3 0 = Z 3 0 := ((hf268 3 0 rfl).trans (hf254 3 0 rfl))
      have b273 : 2 ≤ Z 3 0 ∧ Z 3 0 ≤ 4 := hG.pr 3 0
      have eq274 : Z268 3 2 = Z254 3 2 := (hf268 3 2 rfl)
      have b275 : 0 ≤ Z254 3 2 ∧ Z254 3 2 ≤ 900 := hG254.pr 3 2
      have eq276 : Z268 3 3 = Z254 3 3 := (hf268 3 3 rfl)
      have b277 : 0 ≤ Z254 3 3 ∧ Z254 3 3 ≤ 900 := hG254.pr 3 3
      have eq278 : Z268 3 4 = Z254 3 4 := (hf268 3 4 rfl)
      have b279 : 0 ≤ Z254 3 4 ∧ Z254 3 4 ≤ 400 := hG254.pr 3 4
      have b280 : 0 ≤ Z268 3 7 ∧ Z268 3 7 ≤ 900 := hG268.pr 3 7
      have eq281 : Z268 3 14 = Z254 3 14 := (hf268 3 14 rfl)
      have b282 : 0 ≤ Z254 3 14 ∧ Z254 3 14 ≤ 4 := hG254.pr 3 14
      have eq283 : Z268 3 3 = Z254 3 3 := (hf268 3 3 rfl)
      have b284 : 0 ≤ Z254 3 3 ∧ Z254 3 3 ≤ 900 := hG254.pr 3 3
      have b285 : 0 ≤ Z268 3 7 ∧ Z268 3 7 ≤ 900 := hG268.pr 3 7
      have eq286 : Z268 3 3 = Z254 3 3 := (hf268 3 3 rfl)
      have b287 : 0 ≤ Z254 3 3 ∧ Z254 3 3 ≤ 900 := hG254.pr 3 3
      have eq288 : Z268 3 4 = Z254 3 4 := (hf268 3 4 rfl)
      have b289 : 0 ≤ Z254 3 4 ∧ Z254 3 4 ≤ 400 := hG254.pr 3 4
      exact c148 Z268 h268 (by omega) (by omega) (by omega) hx268 hG268 (fr_tr (M := [(3, 2), (3, 3), (3, 4), (3, 5), (3, 7), (3, 14), (3, 15), (5, (-1))]) (fr_tr (M := [(3, 2), (3, 3), (3, 4), (3, 5), (3, 7), (3, 14), (3, 15), (5, (-1))]) fr_rf (hf254) (M1 := []) rfl rfl) (hf268) rfl rfl)
theorem ct_44_3_i2 {l : Launch} {D : va_G} {b0 : Nat} {ad : Nat → Nat} {Hb : Heap} {tau : Nat → Int64} {d n s : Nat} {S : Nat → xS} {Z : xZ} {h : mx_H} (hx : XH n s S Z h) (hG : GI n S Z)   (k0 : Z 3 0 = 2) (k1 : (Z 3 3 ≤ Z 3 2 ∧ Z 3 2 ≤ Z 3 1 ∧ (Z 3 4 = 0 ∨ Z 3 4 = 3 ∨ Z 3 3 < Z 3 2) ∧ (Z 3 4 = 3 ∨ Z 3 14 = 0))) : ∃ (Z' : xZ) (h' : mx_H), mx_Ca (tB l D b0 ad Hb tau) (d + 40) 44 [.ref 3, xI 2] h (none, h') ∧ XH n s S Z' h' ∧ GI n S Z' ∧ fr' [(3, 2), (3, 3), (3, 4), (3, 5), (3, 7), (3, 14), (3, 15), (5, (-1))] Z Z' ∧ (((Z' 3 3 ≤ Z' 3 2 ∧ Z' 3 2 ≤ Z 3 1 ∧ (Z' 3 4 = 0 ∨ Z' 3 4 = 3 ∨ Z' 3 3 < Z' 3 2) ∧ (Z' 3 4 = 3 ∨ Z' 3 14 = 0)) ∧ Z 3 3 ≤ Z' 3 3 ∧ Z' 3 7 - Z 3 7 ≤ Z' 3 3 - Z 3 3 ∧ (Z' 3 4 = 3 ∨ Z 3 3 + 1 ≤ Z' 3 3) ∧ (Z 3 4 = 3 → Z' 3 4 = 3))) := by
  obtain ⟨r, hca, Z', h', e, q⟩ := Jmt (B := tB l D b0 ad Hb tau) (M := mt_44) (mi := 44) (as := [.ref 3, xI 2]) (d := d + 39) (ls := [some (.ref 3), some (xI 2)]) rfl rfl rfl rfl rfl rfl (cw_44_3_i2 (l := l) (D := D) (b0 := b0) (ad := ad) (Hb := Hb) (tau := tau) (d := d) (Post := fun r => ∃ (Z' : xZ) (h' : mx_H), r = (none, h') ∧ XH n s S Z' h' ∧ GI n S Z' ∧ fr' [(3, 2), (3, 3), (3, 4), (3, 5), (3, 7), (3, 14), (3, 15), (5, (-1))] Z Z' ∧ (((Z' 3 3 ≤ Z' 3 2 ∧ Z' 3 2 ≤ Z 3 1 ∧ (Z' 3 4 = 0 ∨ Z' 3 4 = 3 ∨ Z' 3 3 < Z' 3 2) ∧ (Z' 3 4 = 3 ∨ Z' 3 14 = 0)) ∧ Z 3 3 ≤ Z' 3 3 ∧ Z' 3 7 - Z 3 7 ≤ Z' 3 3 - Z 3 3 ∧ (Z' 3 4 = 3 ∨ Z 3 3 + 1 ≤ Z' 3 3) ∧ (Z 3 4 = 3 → Z' 3 4 = 3)))) hx hG k0 k1 (fun Z' h' q1 q2 q3 q4 => ⟨Z', h', rfl, q1, q2, q3, q4⟩))
  subst e; exact ⟨Z', h', hca, q⟩
set_option maxRecDepth 100000 in
theorem cw_43_3_i2 {l : Launch} {D : va_G} {b0 : Nat} {ad : Nat → Nat} {Hb : Heap} {tau : Nat → Int64} {d n s : Nat} {S : Nat → xS} {Z : xZ} {h : mx_H} {Post : mx_R → Prop} (hx : XH n s S Z h) (hG : GI n S Z)   (k0 : Z 3 0 = 2) (k1 : (Z 3 3 ≤ Z 3 2 ∧ Z 3 2 ≤ Z 3 1 ∧ (Z 3 4 = 0 ∨ Z 3 4 = 3 ∨ Z 3 3 < Z 3 2) ∧ (Z 3 4 = 3 ∨ Z 3 14 = 0))) (hP : ∀ (Z' : xZ) (h' : mx_H), XH n s S Z' h' → GI n S Z' → fr' [(3, 2), (3, 3), (3, 4), (3, 5), (3, 7), (3, 14), (3, 15), (5, (-1))] Z Z' → ((Z' 3 3 ≤ Z' 3 2 ∧ Z' 3 2 ≤ Z 3 1 ∧ (Z' 3 4 = 0 ∨ Z' 3 4 = 3 ∨ Z' 3 3 < Z' 3 2) ∧ (Z' 3 4 = 3 ∨ Z' 3 14 = 0)) ∧ Z 3 3 ≤ Z' 3 3 ∧ Z' 3 7 - Z 3 7 ≤ Z' 3 3 - Z 3 3 ∧ (Z' 3 4 = 3 ∨ Z 3 3 + 1 ≤ Z' 3 3) ∧ (Z 3 4 = 3 → Z' 3 4 = 3)) → Post (none, h')) : mx_J (tB l D b0 ad Hb tau) mt_43 (d + 40) 0 [some (.ref 3), some (xI 2), none] [] h Post := by
    have a3 : 3 < n := lt83 (GI_n hG) rfl
    have s3 : S 3 = .inl (7, [2, 0, 0, 0, 0, 0, 2, 0, 2, 2, 0, 2, 0, 0, 0, 0]) := GI_s hG 3 rfl
    refine mx_J.step (sn_43 0) (fun _ _ => rfl) ?_
    refine mx_J.step (sn_43 1) (fun _ _ => rfl) ?_
    have b2 : 2 ≤ Z 3 0 ∧ Z 3 0 ≤ 4 := hG.pr 3 0
    have b3 : 0 ≤ Z 3 1 ∧ Z 3 1 ≤ 900 := hG.pr 3 1
    have b4 : 0 ≤ Z 3 2 ∧ Z 3 2 ≤ 900 := hG.pr 3 2
    have b5 : 0 ≤ Z 3 3 ∧ Z 3 3 ≤ 900 := hG.pr 3 3
    have b6 : 0 ≤ Z 3 4 ∧ Z 3 4 ≤ 400 := hG.pr 3 4
    have b7 : 0 ≤ Z 3 7 ∧ Z 3 7 ≤ 900 := hG.pr 3 7
    have b8 : 0 ≤ Z 3 14 ∧ Z 3 14 ≤ 4 := hG.pr 3 14
    obtain ⟨Z1, h1, hc1, hx1, hG1, hf1, b1⟩ := ct_44_3_i2 (d := d + 0) (l := l) (D := D) (b0 := b0) (ad := ad) (Hb := Hb) (tau := tau) hx hG  (show Z 3 0 = 2 by omega) (show (Z 3 3 ≤ Z 3 2 ∧ Z 3 2 ≤ Z 3 1 ∧ (Z 3 4 = 0 ∨ Z 3 4 = 3 ∨ Z 3 3 < Z 3 2) ∧ (Z 3 4 = 3 ∨ Z 3 14 = 0)) by omega)
    have b9 : 0 ≤ Z1 3 2 ∧ Z1 3 2 ≤ 900 := hG1.pr 3 2
    have b10 : 0 ≤ Z1 3 3 ∧ Z1 3 3 ≤ 900 := hG1.pr 3 3
    have b11 : 0 ≤ Z1 3 4 ∧ Z1 3 4 ≤ 400 := hG1.pr 3 4
    have b12 : 0 ≤ Z1 3 7 ∧ Z1 3 7 ≤ 900 := hG1.pr 3 7
    have b13 : 0 ≤ Z1 3 14 ∧ Z1 3 14 ≤ 4 := hG1.pr 3 14
    refine Jcv0 hx (show mx_Sn _ _ 2 (mx_callv 44 2 7 5) from sn_43 2) a3 s3 hc1 rfl rfl rfl ?_
    refine JcI (z := 0) (show mx_Sn _ _ 5 (mx_const (.int 0) 6) from sn_43 5) rfl ?_
    refine mx_J.step (ls2 := [some (.ref 3), some (xI 2), some (xI 0)]) (sn_43 6) (fun _ _ => rfl) ?_
    have c7 : ∀ (m14 : Nat) (w14_2 : Int) (Z15 : xZ) (h15 : mx_H), 900 - w14_2 < (m14 : Int) → 0 ≤ w14_2 ∧ w14_2 ≤ 900 → (Z15 3 3 ≤ Z15 3 2 ∧ Z15 3 2 ≤ Z 3 1 ∧ (Z15 3 4 = 0 ∨ Z15 3 4 = 3 ∨ Z15 3 3 < Z15 3 2) ∧ (Z15 3 4 = 3 ∨ Z15 3 14 = 0)) → (Z 3 3 ≤ Z15 3 3 ∧ Z15 3 7 - Z 3 7 ≤ Z15 3 3 - Z 3 3 + 0) → ((Z15 3 4 = 3 ∨ Z 3 3 + 1 ≤ Z15 3 3) ∧ (Z 3 4 = 3 → Z15 3 4 = 3)) → XH n s S Z15 h15 → GI n S Z15 → fr' [(3, 2), (3, 3), (3, 4), (3, 5), (3, 7), (3, 14), (3, 15), (5, (-1))] Z1 Z15 → mx_J (tB l D b0 ad Hb tau) mt_43 (d + 40) 7 [some (.ref 3), some (xI 2), some (xI w14_2)] [] h15 Post := by
      intro m14
      induction m14 with
      | zero => intro w14_2 Z15 h15 q14 f14_0 f14_1 f14_2 f14_3 hx15 hG15 hf15; exact absurd q14 (by omega)
      | succ m14 ih14 =>
        intro w14_2 Z15 h15 q14 f14_0 f14_1 f14_2 f14_3 hx15 hG15 hf15
        have eq16 : Z15 3 0 = Z 3 0 := ((hf15 3 0 rfl).trans (hf1 3 0 rfl))
        have b17 : 2 ≤ Z 3 0 ∧ Z 3 0 ≤ 4 := hG.pr 3 0
        have b18 : 0 ≤ Z15 3 2 ∧ Z15 3 2 ≤ 900 := hG15.pr 3 2
        have b19 : 0 ≤ Z15 3 3 ∧ Z15 3 3 ≤ 900 := hG15.pr 3 3
        have b20 : 0 ≤ Z15 3 4 ∧ Z15 3 4 ≤ 400 := hG15.pr 3 4
        have b21 : 0 ≤ Z15 3 7 ∧ Z15 3 7 ≤ 900 := hG15.pr 3 7
        have b22 : 0 ≤ Z15 3 14 ∧ Z15 3 14 ≤ 4 := hG15.pr 3 14
        have b23 : 0 ≤ Z15 3 3 ∧ Z15 3 3 ≤ 900 := hG15.pr 3 3
        have b24 : 0 ≤ Z15 3 7 ∧ Z15 3 7 ≤ 900 := hG15.pr 3 7
        have b25 : 0 ≤ Z15 3 3 ∧ Z15 3 3 ≤ 900 := hG15.pr 3 3
        have b26 : 0 ≤ Z15 3 4 ∧ Z15 3 4 ≤ 400 := hG15.pr 3 4
        refine mx_J.step (sn_43 7) (fun _ _ => rfl) ?_
        refine mx_J.step (sn_43 8) (fun _ _ => rfl) ?_
        have b28 : 0 ≤ Z 3 1 ∧ Z 3 1 ≤ 900 := hG.pr 3 1
        refine JgetI (g := 1) (z := Z 3 1) hx15 (show mx_Sn _ _ 9 (mx_getf 7 1 12) from sn_43 9) a3 s3 rfl rfl ((hf15 3 1 rfl).trans (hf1 3 1 rfl)) ?_
        have c46 : mx_J (tB l D b0 ad Hb tau) mt_43 (d + 40) 46 [some (.ref 3), some (xI 2), some (xI w14_2)] [] h15 Post := by
          have b30 : 0 ≤ Z15 3 2 ∧ Z15 3 2 ≤ 900 := hG15.pr 3 2
          have b31 : 0 ≤ Z15 3 3 ∧ Z15 3 3 ≤ 900 := hG15.pr 3 3
          have b32 : 0 ≤ Z15 3 4 ∧ Z15 3 4 ≤ 400 := hG15.pr 3 4
          have b33 : 0 ≤ Z15 3 7 ∧ Z15 3 7 ≤ 900 := hG15.pr 3 7
          have b34 : 0 ≤ Z15 3 14 ∧ Z15 3 14 ≤ 4 := hG15.pr 3 14
          have eq35 : Z15 3 0 = Z 3 0 := ((hf15 3 0 rfl).trans (hf1 3 0 rfl))
          have b36 : 2 ≤ Z 3 0 ∧ Z 3 0 ≤ 4 := hG.pr 3 0
          have eq37 : Z15 3 1 = Z 3 1 := ((hf15 3 1 rfl).trans (hf1 3 1 rfl))
          have b38 : 0 ≤ Z 3 1 ∧ Z 3 1 ≤ 900 := hG.pr 3 1
          have b39 : 0 ≤ Z15 3 2 ∧ Z15 3 2 ≤ 900 := hG15.pr 3 2
          have b40 : 0 ≤ Z15 3 3 ∧ Z15 3 3 ≤ 900 := hG15.pr 3 3
          have b41 : 0 ≤ Z15 3 4 ∧ Z15 3 4 ≤ 400 := hG15.pr 3 4
          have b42 : 0 ≤ Z15 3 7 ∧ Z15 3 7 ≤ 900 := hG15.pr 3 7
          have b43 : 0 ≤ Z15 3 14 ∧ Z15 3 14 ≤ 4 := hG15.pr 3 14
          exact mx_J.ret (sn_43 46) (fun _ _ => rfl) (hP Z15 h15 hx15 hG15 (fr_tr (M := [(3, 2), (3, 3), (3, 4), (3, 5), (3, 7), (3, 14), (3, 15), (5, (-1))]) (fr_tr (M := [(3, 2), (3, 3), (3, 4), (3, 5), (3, 7), (3, 14), (3, 15), (5, (-1))]) fr_rf (hf1) (M1 := []) rfl rfl) (hf15) rfl rfl) (by omega))
        refine Jicmp_ge (show mx_Sn _ _ 12 (mx_icmp_ge 46 15) from sn_43 12) (by omega) (by omega) (fun q44 => ?_) (fun q44 => ?_)
        · skip
          exact c46 
        · skip
          refine mx_J.step (sn_43 15) (fun _ _ => rfl) ?_
          have b46 : 0 ≤ Z15 3 4 ∧ Z15 3 4 ≤ 400 := hG15.pr 3 4
          refine JgetI (g := 4) (z := Z15 3 4) hx15 (show mx_Sn _ _ 16 (mx_getf 7 4 19) from sn_43 16) a3 s3 rfl rfl rfl ?_
          refine JcI (z := 42) (show mx_Sn _ _ 19 (mx_const (.int 42) 21) from sn_43 19) rfl ?_
          refine Jicmp_ne (show mx_Sn _ _ 21 (mx_icmp_ne 46 24) from sn_43 21) (by omega) (by omega) (fun q47 => ?_) (fun q47 => ?_)
          · skip
            exact c46 
          · skip
            refine mx_J.step (sn_43 24) (fun _ _ => rfl) ?_
            have eq49 : Z15 3 0 = Z 3 0 := ((hf15 3 0 rfl).trans (hf1 3 0 rfl))
            have b50 : 2 ≤ Z 3 0 ∧ Z 3 0 ≤ 4 := hG.pr 3 0
            have eq51 : Z15 3 1 = Z 3 1 := ((hf15 3 1 rfl).trans (hf1 3 1 rfl))
            have b52 : 0 ≤ Z 3 1 ∧ Z 3 1 ≤ 900 := hG.pr 3 1
            have b53 : 0 ≤ Z15 3 2 ∧ Z15 3 2 ≤ 900 := hG15.pr 3 2
            have b54 : 0 ≤ Z15 3 3 ∧ Z15 3 3 ≤ 900 := hG15.pr 3 3
            have b55 : 0 ≤ Z15 3 4 ∧ Z15 3 4 ≤ 400 := hG15.pr 3 4
            have b56 : 0 ≤ Z15 3 14 ∧ Z15 3 14 ≤ 4 := hG15.pr 3 14
            obtain ⟨Z48, h48, hc48, hx48, hG48, hf48, b48⟩ := ct_56_3 (d := d + 34) (l := l) (D := D) (b0 := b0) (ad := ad) (Hb := Hb) (tau := tau) hx15 hG15  (show Z15 3 0 = 2 by first | omega | (simp only [eq49, eq51]; omega)) (show Z15 3 2 ≤ Z15 3 1 by first | omega | (simp only [eq49, eq51]; omega))
            try rw [eq49] at b48
            try rw [eq51] at b48
            have b57 : 0 ≤ Z48 3 2 ∧ Z48 3 2 ≤ 900 := hG48.pr 3 2
            have b58 : 0 ≤ Z48 3 3 ∧ Z48 3 3 ≤ 900 := hG48.pr 3 3
            have b59 : 0 ≤ Z48 3 4 ∧ Z48 3 4 ≤ 400 := hG48.pr 3 4
            refine Jcv0 hx15 (show mx_Sn _ _ 25 (mx_callv 56 1 7 28) from sn_43 25) a3 s3 hc48 rfl rfl rfl ?_
            refine mx_J.step (sn_43 28) (fun _ _ => rfl) ?_
            refine mx_J.step (sn_43 29) (fun _ _ => rfl) ?_
            have eq61 : Z48 3 0 = Z 3 0 := ((hf48 3 0 rfl).trans ((hf15 3 0 rfl).trans (hf1 3 0 rfl)))
            have b62 : 2 ≤ Z 3 0 ∧ Z 3 0 ≤ 4 := hG.pr 3 0
            have eq63 : Z48 3 1 = Z 3 1 := ((hf48 3 1 rfl).trans ((hf15 3 1 rfl).trans (hf1 3 1 rfl)))
            have b64 : 0 ≤ Z 3 1 ∧ Z 3 1 ≤ 900 := hG.pr 3 1
            have b65 : 0 ≤ Z48 3 2 ∧ Z48 3 2 ≤ 900 := hG48.pr 3 2
            have b66 : 0 ≤ Z48 3 3 ∧ Z48 3 3 ≤ 900 := hG48.pr 3 3
            have b67 : 0 ≤ Z48 3 4 ∧ Z48 3 4 ≤ 400 := hG48.pr 3 4
            have eq68 : Z48 3 7 = Z15 3 7 := (hf48 3 7 rfl)
            have b69 : 0 ≤ Z15 3 7 ∧ Z15 3 7 ≤ 900 := hG15.pr 3 7
            have eq70 : Z48 3 14 = Z15 3 14 := (hf48 3 14 rfl)
            have b71 : 0 ≤ Z15 3 14 ∧ Z15 3 14 ≤ 4 := hG15.pr 3 14
            obtain ⟨Z60, h60, hc60, hx60, hG60, hf60, b60⟩ := ct_44_3_i2 (d := d + 0) (l := l) (D := D) (b0 := b0) (ad := ad) (Hb := Hb) (tau := tau) hx48 hG48  (show Z48 3 0 = 2 by first | omega | (simp only [eq61, eq63, eq68, eq70]; omega)) (show (Z48 3 3 ≤ Z48 3 2 ∧ Z48 3 2 ≤ Z48 3 1 ∧ (Z48 3 4 = 0 ∨ Z48 3 4 = 3 ∨ Z48 3 3 < Z48 3 2) ∧ (Z48 3 4 = 3 ∨ Z48 3 14 = 0)) by first | omega | (simp only [eq61, eq63, eq68, eq70]; omega))
            try rw [eq61] at b60
            try rw [eq63] at b60
            try rw [eq68] at b60
            try rw [eq70] at b60
            have b72 : 0 ≤ Z60 3 2 ∧ Z60 3 2 ≤ 900 := hG60.pr 3 2
            have b73 : 0 ≤ Z60 3 3 ∧ Z60 3 3 ≤ 900 := hG60.pr 3 3
            have b74 : 0 ≤ Z60 3 4 ∧ Z60 3 4 ≤ 400 := hG60.pr 3 4
            have b75 : 0 ≤ Z60 3 7 ∧ Z60 3 7 ≤ 900 := hG60.pr 3 7
            have b76 : 0 ≤ Z60 3 14 ∧ Z60 3 14 ≤ 4 := hG60.pr 3 14
            refine Jcv0 hx48 (show mx_Sn _ _ 30 (mx_callv 44 2 7 33) from sn_43 30) a3 s3 hc60 rfl rfl rfl ?_
            refine mx_J.step (sn_43 33) (fun _ _ => rfl) ?_
            refine JcI (z := 1012) (show mx_Sn _ _ 34 (mx_const (.int 1012) 37) from sn_43 34) rfl ?_
            have b78 : 0 ≤ Z60 3 7 ∧ Z60 3 7 ≤ 900 := hG60.pr 3 7
            obtain ⟨Z77, h77, hc77, hx77, hG77, hf77, b77⟩ := ct_52_3_1010 (d := d + 39) (l := l) (D := D) (b0 := b0) (ad := ad) (Hb := Hb) (tau := tau) hx60 hG60 (show 1010 ≤ 1012 ∧ 1012 ≤ 1019 by omega)
            have b79 : 0 ≤ Z77 3 7 ∧ Z77 3 7 ≤ 900 := hG77.pr 3 7
            refine Jcv0 hx60 (show mx_Sn _ _ 37 (mx_callv 52 2 7 40) from sn_43 37) a3 s3 hc77 rfl rfl rfl ?_
            refine Jiinc (z := w14_2) (cz := 1) (ls2 := [some (.ref 3), some (xI 2), some (xI (w14_2 + 1))]) (show mx_Sn _ _ 40 (mx_iinc 2 1 43) from sn_43 40) rfl rfl rfl rfl ?_
            refine mx_J.step (sn_43 43) (fun _ _ => rfl) ?_
            have eq80 : Z77 3 0 = Z 3 0 := ((hf77 3 0 rfl).trans ((hf60 3 0 rfl).trans ((hf48 3 0 rfl).trans ((hf15 3 0 rfl).trans (hf1 3 0 rfl)))))
            have b81 : 2 ≤ Z 3 0 ∧ Z 3 0 ≤ 4 := hG.pr 3 0
            have eq82 : Z77 3 2 = Z60 3 2 := (hf77 3 2 rfl)
            have b83 : 0 ≤ Z60 3 2 ∧ Z60 3 2 ≤ 900 := hG60.pr 3 2
            have eq84 : Z77 3 3 = Z60 3 3 := (hf77 3 3 rfl)
            have b85 : 0 ≤ Z60 3 3 ∧ Z60 3 3 ≤ 900 := hG60.pr 3 3
            have eq86 : Z77 3 4 = Z60 3 4 := (hf77 3 4 rfl)
            have b87 : 0 ≤ Z60 3 4 ∧ Z60 3 4 ≤ 400 := hG60.pr 3 4
            have b88 : 0 ≤ Z77 3 7 ∧ Z77 3 7 ≤ 900 := hG77.pr 3 7
            have eq89 : Z77 3 14 = Z60 3 14 := (hf77 3 14 rfl)
            have b90 : 0 ≤ Z60 3 14 ∧ Z60 3 14 ≤ 4 := hG60.pr 3 14
            have eq91 : Z77 3 3 = Z60 3 3 := (hf77 3 3 rfl)
            have b92 : 0 ≤ Z60 3 3 ∧ Z60 3 3 ≤ 900 := hG60.pr 3 3
            have b93 : 0 ≤ Z77 3 7 ∧ Z77 3 7 ≤ 900 := hG77.pr 3 7
            have eq94 : Z77 3 3 = Z60 3 3 := (hf77 3 3 rfl)
            have b95 : 0 ≤ Z60 3 3 ∧ Z60 3 3 ≤ 900 := hG60.pr 3 3
            have eq96 : Z77 3 4 = Z60 3 4 := (hf77 3 4 rfl)
            have b97 : 0 ≤ Z60 3 4 ∧ Z60 3 4 ≤ 400 := hG60.pr 3 4
            exact ih14 (w14_2 + 1) Z77 h77 (by omega) (by omega) (by omega) (by omega) (by omega) hx77 hG77 (fr_tr (M := [(3, 2), (3, 3), (3, 4), (3, 5), (3, 7), (3, 14), (3, 15), (5, (-1))]) (fr_tr (M := [(3, 2), (3, 3), (3, 4), (3, 5), (3, 7), (3, 14), (3, 15), (5, (-1))]) (fr_tr (M := [(3, 2), (3, 3), (3, 4), (3, 5), (3, 7), (3, 14), (3, 15), (5, (-1))]) (fr_tr (M := [(3, 2), (3, 3), (3, 4), (3, 5), (3, 7), (3, 14), (3, 15), (5, (-1))]) fr_rf (hf15) (M1 := []) rfl rfl) (hf48) rfl rfl) (hf60) rfl rfl) (hf77) rfl rfl)
    have eq98 : Z1 3 0 = Z 3 0 := (hf1 3 0 rfl)
    have b99 : 2 ≤ Z 3 0 ∧ Z 3 0 ≤ 4 := hG.pr 3 0
    have b100 : 0 ≤ Z1 3 2 ∧ Z1 3 2 ≤ 900 := hG1.pr 3 2
    have b101 : 0 ≤ Z1 3 3 ∧ Z1 3 3 ≤ 900 := hG1.pr 3 3
    have b102 : 0 ≤ Z1 3 4 ∧ Z1 3 4 ≤ 400 := hG1.pr 3 4
    have b103 : 0 ≤ Z1 3 7 ∧ Z1 3 7 ≤ 900 := hG1.pr 3 7
    have b104 : 0 ≤ Z1 3 14 ∧ Z1 3 14 ≤ 4 := hG1.pr 3 14
    have b105 : 0 ≤ Z1 3 3 ∧ Z1 3 3 ≤ 900 := hG1.pr 3 3
    have b106 : 0 ≤ Z1 3 7 ∧ Z1 3 7 ≤ 900 := hG1.pr 3 7
    have b107 : 0 ≤ Z1 3 3 ∧ Z1 3 3 ≤ 900 := hG1.pr 3 3
    have b108 : 0 ≤ Z1 3 4 ∧ Z1 3 4 ≤ 400 := hG1.pr 3 4
    exact c7 (Int.toNat (900 - 0) + 1) 0 Z1 h1 (by omega) (by omega) (by omega) (by omega) (by omega) hx1 hG1 fr_rf
theorem ct_43_3_i2 {l : Launch} {D : va_G} {b0 : Nat} {ad : Nat → Nat} {Hb : Heap} {tau : Nat → Int64} {d n s : Nat} {S : Nat → xS} {Z : xZ} {h : mx_H} (hx : XH n s S Z h) (hG : GI n S Z)   (k0 : Z 3 0 = 2) (k1 : (Z 3 3 ≤ Z 3 2 ∧ Z 3 2 ≤ Z 3 1 ∧ (Z 3 4 = 0 ∨ Z 3 4 = 3 ∨ Z 3 3 < Z 3 2) ∧ (Z 3 4 = 3 ∨ Z 3 14 = 0))) : ∃ (Z' : xZ) (h' : mx_H), mx_Ca (tB l D b0 ad Hb tau) (d + 41) 43 [.ref 3, xI 2] h (none, h') ∧ XH n s S Z' h' ∧ GI n S Z' ∧ fr' [(3, 2), (3, 3), (3, 4), (3, 5), (3, 7), (3, 14), (3, 15), (5, (-1))] Z Z' ∧ (((Z' 3 3 ≤ Z' 3 2 ∧ Z' 3 2 ≤ Z 3 1 ∧ (Z' 3 4 = 0 ∨ Z' 3 4 = 3 ∨ Z' 3 3 < Z' 3 2) ∧ (Z' 3 4 = 3 ∨ Z' 3 14 = 0)) ∧ Z 3 3 ≤ Z' 3 3 ∧ Z' 3 7 - Z 3 7 ≤ Z' 3 3 - Z 3 3 ∧ (Z' 3 4 = 3 ∨ Z 3 3 + 1 ≤ Z' 3 3) ∧ (Z 3 4 = 3 → Z' 3 4 = 3))) := by
  obtain ⟨r, hca, Z', h', e, q⟩ := Jmt (B := tB l D b0 ad Hb tau) (M := mt_43) (mi := 43) (as := [.ref 3, xI 2]) (d := d + 40) (ls := [some (.ref 3), some (xI 2), none]) rfl rfl rfl rfl rfl rfl (cw_43_3_i2 (l := l) (D := D) (b0 := b0) (ad := ad) (Hb := Hb) (tau := tau) (d := d) (Post := fun r => ∃ (Z' : xZ) (h' : mx_H), r = (none, h') ∧ XH n s S Z' h' ∧ GI n S Z' ∧ fr' [(3, 2), (3, 3), (3, 4), (3, 5), (3, 7), (3, 14), (3, 15), (5, (-1))] Z Z' ∧ (((Z' 3 3 ≤ Z' 3 2 ∧ Z' 3 2 ≤ Z 3 1 ∧ (Z' 3 4 = 0 ∨ Z' 3 4 = 3 ∨ Z' 3 3 < Z' 3 2) ∧ (Z' 3 4 = 3 ∨ Z' 3 14 = 0)) ∧ Z 3 3 ≤ Z' 3 3 ∧ Z' 3 7 - Z 3 7 ≤ Z' 3 3 - Z 3 3 ∧ (Z' 3 4 = 3 ∨ Z 3 3 + 1 ≤ Z' 3 3) ∧ (Z 3 4 = 3 → Z' 3 4 = 3)))) hx hG k0 k1 (fun Z' h' q1 q2 q3 q4 => ⟨Z', h', rfl, q1, q2, q3, q4⟩))
  subst e; exact ⟨Z', h', hca, q⟩
set_option maxRecDepth 100000 in
theorem cw_42_3_i2 {l : Launch} {D : va_G} {b0 : Nat} {ad : Nat → Nat} {Hb : Heap} {tau : Nat → Int64} {d n s : Nat} {S : Nat → xS} {Z : xZ} {h : mx_H} {Post : mx_R → Prop} (hx : XH n s S Z h) (hG : GI n S Z)   (k0 : Z 3 0 = 2) (k1 : (Z 3 3 ≤ Z 3 2 ∧ Z 3 2 ≤ Z 3 1 ∧ (Z 3 4 = 0 ∨ Z 3 4 = 3 ∨ Z 3 3 < Z 3 2) ∧ (Z 3 4 = 3 ∨ Z 3 14 = 0))) (hP : ∀ (Z' : xZ) (h' : mx_H), XH n s S Z' h' → GI n S Z' → fr' [(3, 2), (3, 3), (3, 4), (3, 5), (3, 7), (3, 14), (3, 15), (5, (-1))] Z Z' → ((Z' 3 3 ≤ Z' 3 2 ∧ Z' 3 2 ≤ Z 3 1 ∧ (Z' 3 4 = 0 ∨ Z' 3 4 = 3 ∨ Z' 3 3 < Z' 3 2) ∧ (Z' 3 4 = 3 ∨ Z' 3 14 = 0)) ∧ Z 3 3 ≤ Z' 3 3 ∧ Z' 3 7 - Z 3 7 ≤ Z' 3 3 - Z 3 3 ∧ (Z' 3 4 = 3 ∨ Z 3 3 + 1 ≤ Z' 3 3) ∧ (Z 3 4 = 3 → Z' 3 4 = 3)) → Post (none, h')) : mx_J (tB l D b0 ad Hb tau) mt_42 (d + 41) 0 [some (.ref 3), some (xI 2), none, none] [] h Post := by
    have a3 : 3 < n := lt83 (GI_n hG) rfl
    have s3 : S 3 = .inl (7, [2, 0, 0, 0, 0, 0, 2, 0, 2, 2, 0, 2, 0, 0, 0, 0]) := GI_s hG 3 rfl
    refine mx_J.step (sn_42 0) (fun _ _ => rfl) ?_
    refine mx_J.step (sn_42 1) (fun _ _ => rfl) ?_
    have b2 : 2 ≤ Z 3 0 ∧ Z 3 0 ≤ 4 := hG.pr 3 0
    have b3 : 0 ≤ Z 3 1 ∧ Z 3 1 ≤ 900 := hG.pr 3 1
    have b4 : 0 ≤ Z 3 2 ∧ Z 3 2 ≤ 900 := hG.pr 3 2
    have b5 : 0 ≤ Z 3 3 ∧ Z 3 3 ≤ 900 := hG.pr 3 3
    have b6 : 0 ≤ Z 3 4 ∧ Z 3 4 ≤ 400 := hG.pr 3 4
    have b7 : 0 ≤ Z 3 7 ∧ Z 3 7 ≤ 900 := hG.pr 3 7
    have b8 : 0 ≤ Z 3 14 ∧ Z 3 14 ≤ 4 := hG.pr 3 14
    obtain ⟨Z1, h1, hc1, hx1, hG1, hf1, b1⟩ := ct_43_3_i2 (d := d + 0) (l := l) (D := D) (b0 := b0) (ad := ad) (Hb := Hb) (tau := tau) hx hG  (show Z 3 0 = 2 by omega) (show (Z 3 3 ≤ Z 3 2 ∧ Z 3 2 ≤ Z 3 1 ∧ (Z 3 4 = 0 ∨ Z 3 4 = 3 ∨ Z 3 3 < Z 3 2) ∧ (Z 3 4 = 3 ∨ Z 3 14 = 0)) by omega)
    have b9 : 0 ≤ Z1 3 2 ∧ Z1 3 2 ≤ 900 := hG1.pr 3 2
    have b10 : 0 ≤ Z1 3 3 ∧ Z1 3 3 ≤ 900 := hG1.pr 3 3
    have b11 : 0 ≤ Z1 3 4 ∧ Z1 3 4 ≤ 400 := hG1.pr 3 4
    have b12 : 0 ≤ Z1 3 7 ∧ Z1 3 7 ≤ 900 := hG1.pr 3 7
    have b13 : 0 ≤ Z1 3 14 ∧ Z1 3 14 ≤ 4 := hG1.pr 3 14
    refine Jcv0 hx (show mx_Sn _ _ 2 (mx_callv 43 2 7 5) from sn_42 2) a3 s3 hc1 rfl rfl rfl ?_
    refine JcI (z := 0) (show mx_Sn _ _ 5 (mx_const (.int 0) 6) from sn_42 5) rfl ?_
    refine mx_J.step (ls2 := [some (.ref 3), some (xI 2), some (xI 0), none]) (sn_42 6) (fun _ _ => rfl) ?_
    have c7 : ∀ (m14 : Nat) (w14_2 : Int) (u14_3 : Option Value) (Z15 : xZ) (h15 : mx_H), 900 - w14_2 < (m14 : Int) → 0 ≤ w14_2 ∧ w14_2 ≤ 900 → (Z15 3 3 ≤ Z15 3 2 ∧ Z15 3 2 ≤ Z 3 1 ∧ (Z15 3 4 = 0 ∨ Z15 3 4 = 3 ∨ Z15 3 3 < Z15 3 2) ∧ (Z15 3 4 = 3 ∨ Z15 3 14 = 0)) → (Z 3 3 ≤ Z15 3 3 ∧ Z15 3 7 - Z 3 7 ≤ Z15 3 3 - Z 3 3 + 0) → ((Z15 3 4 = 3 ∨ Z 3 3 + 1 ≤ Z15 3 3) ∧ (Z 3 4 = 3 → Z15 3 4 = 3)) → XH n s S Z15 h15 → GI n S Z15 → fr' [(3, 2), (3, 3), (3, 4), (3, 5), (3, 7), (3, 14), (3, 15), (5, (-1))] Z1 Z15 → mx_J (tB l D b0 ad Hb tau) mt_42 (d + 41) 7 [some (.ref 3), some (xI 2), some (xI w14_2), u14_3] [] h15 Post := by
      intro m14
      induction m14 with
      | zero => intro w14_2 u14_3 Z15 h15 q14 f14_0 f14_1 f14_2 f14_3 hx15 hG15 hf15; exact absurd q14 (by omega)
      | succ m14 ih14 =>
        intro w14_2 u14_3 Z15 h15 q14 f14_0 f14_1 f14_2 f14_3 hx15 hG15 hf15
        have eq16 : Z15 3 0 = Z 3 0 := ((hf15 3 0 rfl).trans (hf1 3 0 rfl))
        have b17 : 2 ≤ Z 3 0 ∧ Z 3 0 ≤ 4 := hG.pr 3 0
        have b18 : 0 ≤ Z15 3 2 ∧ Z15 3 2 ≤ 900 := hG15.pr 3 2
        have b19 : 0 ≤ Z15 3 3 ∧ Z15 3 3 ≤ 900 := hG15.pr 3 3
        have b20 : 0 ≤ Z15 3 4 ∧ Z15 3 4 ≤ 400 := hG15.pr 3 4
        have b21 : 0 ≤ Z15 3 7 ∧ Z15 3 7 ≤ 900 := hG15.pr 3 7
        have b22 : 0 ≤ Z15 3 14 ∧ Z15 3 14 ≤ 4 := hG15.pr 3 14
        have b23 : 0 ≤ Z15 3 3 ∧ Z15 3 3 ≤ 900 := hG15.pr 3 3
        have b24 : 0 ≤ Z15 3 7 ∧ Z15 3 7 ≤ 900 := hG15.pr 3 7
        have b25 : 0 ≤ Z15 3 3 ∧ Z15 3 3 ≤ 900 := hG15.pr 3 3
        have b26 : 0 ≤ Z15 3 4 ∧ Z15 3 4 ≤ 400 := hG15.pr 3 4
        refine mx_J.step (sn_42 7) (fun _ _ => rfl) ?_
        refine mx_J.step (sn_42 8) (fun _ _ => rfl) ?_
        have b28 : 0 ≤ Z 3 1 ∧ Z 3 1 ≤ 900 := hG.pr 3 1
        refine JgetI (g := 1) (z := Z 3 1) hx15 (show mx_Sn _ _ 9 (mx_getf 7 1 12) from sn_42 9) a3 s3 rfl rfl ((hf15 3 1 rfl).trans (hf1 3 1 rfl)) ?_
        have c72 : mx_J (tB l D b0 ad Hb tau) mt_42 (d + 41) 72 [some (.ref 3), some (xI 2), some (xI w14_2), u14_3] [] h15 Post := by
          have b30 : 0 ≤ Z15 3 2 ∧ Z15 3 2 ≤ 900 := hG15.pr 3 2
          have b31 : 0 ≤ Z15 3 3 ∧ Z15 3 3 ≤ 900 := hG15.pr 3 3
          have b32 : 0 ≤ Z15 3 4 ∧ Z15 3 4 ≤ 400 := hG15.pr 3 4
          have b33 : 0 ≤ Z15 3 7 ∧ Z15 3 7 ≤ 900 := hG15.pr 3 7
          have b34 : 0 ≤ Z15 3 14 ∧ Z15 3 14 ≤ 4 := hG15.pr 3 14
          have eq35 : Z15 3 0 = Z 3 0 := ((hf15 3 0 rfl).trans (hf1 3 0 rfl))
          have b36 : 2 ≤ Z 3 0 ∧ Z 3 0 ≤ 4 := hG.pr 3 0
          have eq37 : Z15 3 1 = Z 3 1 := ((hf15 3 1 rfl).trans (hf1 3 1 rfl))
          have b38 : 0 ≤ Z 3 1 ∧ Z 3 1 ≤ 900 := hG.pr 3 1
          have b39 : 0 ≤ Z15 3 2 ∧ Z15 3 2 ≤ 900 := hG15.pr 3 2
          have b40 : 0 ≤ Z15 3 3 ∧ Z15 3 3 ≤ 900 := hG15.pr 3 3
          have b41 : 0 ≤ Z15 3 4 ∧ Z15 3 4 ≤ 400 := hG15.pr 3 4
          have b42 : 0 ≤ Z15 3 7 ∧ Z15 3 7 ≤ 900 := hG15.pr 3 7
          have b43 : 0 ≤ Z15 3 14 ∧ Z15 3 14 ≤ 4 := hG15.pr 3 14
          exact mx_J.ret (sn_42 72) (fun _ _ => rfl) (hP Z15 h15 hx15 hG15 (fr_tr (M := [(3, 2), (3, 3), (3, 4), (3, 5), (3, 7), (3, 14), (3, 15), (5, (-1))]) (fr_tr (M := [(3, 2), (3, 3), (3, 4), (3, 5), (3, 7), (3, 14), (3, 15), (5, (-1))]) fr_rf (hf1) (M1 := []) rfl rfl) (hf15) rfl rfl) (by omega))
        refine Jicmp_ge (show mx_Sn _ _ 12 (mx_icmp_ge 72 15) from sn_42 12) (by omega) (by omega) (fun q44 => ?_) (fun q44 => ?_)
        · skip
          exact c72 
        · skip
          refine mx_J.step (sn_42 15) (fun _ _ => rfl) ?_
          have b46 : 0 ≤ Z15 3 4 ∧ Z15 3 4 ≤ 400 := hG15.pr 3 4
          refine JgetI (g := 4) (z := Z15 3 4) hx15 (show mx_Sn _ _ 16 (mx_getf 7 4 19) from sn_42 16) a3 s3 rfl rfl rfl ?_
          refine JcI (z := 43) (show mx_Sn _ _ 19 (mx_const (.int 43) 21) from sn_42 19) rfl ?_
          have c33 : (Z15 3 4 = 43 ∨ Z15 3 4 = 45) → mx_J (tB l D b0 ad Hb tau) mt_42 (d + 41) 33 [some (.ref 3), some (xI 2), some (xI w14_2), u14_3] [] h15 Post := by
            intro f47_0
            have b48 : 0 ≤ Z15 3 4 ∧ Z15 3 4 ≤ 400 := hG15.pr 3 4
            refine mx_J.step (sn_42 33) (fun _ _ => rfl) ?_
            have b50 : 0 ≤ Z15 3 4 ∧ Z15 3 4 ≤ 400 := hG15.pr 3 4
            refine JgetI (g := 4) (z := Z15 3 4) hx15 (show mx_Sn _ _ 34 (mx_getf 7 4 37) from sn_42 34) a3 s3 rfl rfl rfl ?_
            refine mx_J.step (ls2 := [some (.ref 3), some (xI 2), some (xI w14_2), some (xI (Z15 3 4))]) (sn_42 37) (fun _ _ => rfl) ?_
            refine mx_J.step (sn_42 38) (fun _ _ => rfl) ?_
            have eq52 : Z15 3 0 = Z 3 0 := ((hf15 3 0 rfl).trans (hf1 3 0 rfl))
            have b53 : 2 ≤ Z 3 0 ∧ Z 3 0 ≤ 4 := hG.pr 3 0
            have eq54 : Z15 3 1 = Z 3 1 := ((hf15 3 1 rfl).trans (hf1 3 1 rfl))
            have b55 : 0 ≤ Z 3 1 ∧ Z 3 1 ≤ 900 := hG.pr 3 1
            have b56 : 0 ≤ Z15 3 2 ∧ Z15 3 2 ≤ 900 := hG15.pr 3 2
            have b57 : 0 ≤ Z15 3 3 ∧ Z15 3 3 ≤ 900 := hG15.pr 3 3
            have b58 : 0 ≤ Z15 3 4 ∧ Z15 3 4 ≤ 400 := hG15.pr 3 4
            have b59 : 0 ≤ Z15 3 14 ∧ Z15 3 14 ≤ 4 := hG15.pr 3 14
            obtain ⟨Z51, h51, hc51, hx51, hG51, hf51, b51⟩ := ct_56_3 (d := d + 35) (l := l) (D := D) (b0 := b0) (ad := ad) (Hb := Hb) (tau := tau) hx15 hG15  (show Z15 3 0 = 2 by first | omega | (simp only [eq52, eq54]; omega)) (show Z15 3 2 ≤ Z15 3 1 by first | omega | (simp only [eq52, eq54]; omega))
            try rw [eq52] at b51
            try rw [eq54] at b51
            have b60 : 0 ≤ Z51 3 2 ∧ Z51 3 2 ≤ 900 := hG51.pr 3 2
            have b61 : 0 ≤ Z51 3 3 ∧ Z51 3 3 ≤ 900 := hG51.pr 3 3
            have b62 : 0 ≤ Z51 3 4 ∧ Z51 3 4 ≤ 400 := hG51.pr 3 4
            refine Jcv0 hx15 (show mx_Sn _ _ 39 (mx_callv 56 1 7 42) from sn_42 39) a3 s3 hc51 rfl rfl rfl ?_
            refine mx_J.step (sn_42 42) (fun _ _ => rfl) ?_
            refine mx_J.step (sn_42 43) (fun _ _ => rfl) ?_
            have eq64 : Z51 3 0 = Z 3 0 := ((hf51 3 0 rfl).trans ((hf15 3 0 rfl).trans (hf1 3 0 rfl)))
            have b65 : 2 ≤ Z 3 0 ∧ Z 3 0 ≤ 4 := hG.pr 3 0
            have eq66 : Z51 3 1 = Z 3 1 := ((hf51 3 1 rfl).trans ((hf15 3 1 rfl).trans (hf1 3 1 rfl)))
            have b67 : 0 ≤ Z 3 1 ∧ Z 3 1 ≤ 900 := hG.pr 3 1
            have b68 : 0 ≤ Z51 3 2 ∧ Z51 3 2 ≤ 900 := hG51.pr 3 2
            have b69 : 0 ≤ Z51 3 3 ∧ Z51 3 3 ≤ 900 := hG51.pr 3 3
            have b70 : 0 ≤ Z51 3 4 ∧ Z51 3 4 ≤ 400 := hG51.pr 3 4
            have eq71 : Z51 3 7 = Z15 3 7 := (hf51 3 7 rfl)
            have b72 : 0 ≤ Z15 3 7 ∧ Z15 3 7 ≤ 900 := hG15.pr 3 7
            have eq73 : Z51 3 14 = Z15 3 14 := (hf51 3 14 rfl)
            have b74 : 0 ≤ Z15 3 14 ∧ Z15 3 14 ≤ 4 := hG15.pr 3 14
            obtain ⟨Z63, h63, hc63, hx63, hG63, hf63, b63⟩ := ct_43_3_i2 (d := d + 0) (l := l) (D := D) (b0 := b0) (ad := ad) (Hb := Hb) (tau := tau) hx51 hG51  (show Z51 3 0 = 2 by first | omega | (simp only [eq64, eq66, eq71, eq73]; omega)) (show (Z51 3 3 ≤ Z51 3 2 ∧ Z51 3 2 ≤ Z51 3 1 ∧ (Z51 3 4 = 0 ∨ Z51 3 4 = 3 ∨ Z51 3 3 < Z51 3 2) ∧ (Z51 3 4 = 3 ∨ Z51 3 14 = 0)) by first | omega | (simp only [eq64, eq66, eq71, eq73]; omega))
            try rw [eq64] at b63
            try rw [eq66] at b63
            try rw [eq71] at b63
            try rw [eq73] at b63
            have b75 : 0 ≤ Z63 3 2 ∧ Z63 3 2 ≤ 900 := hG63.pr 3 2
            have b76 : 0 ≤ Z63 3 3 ∧ Z63 3 3 ≤ 900 := hG63.pr 3 3
            have b77 : 0 ≤ Z63 3 4 ∧ Z63 3 4 ≤ 400 := hG63.pr 3 4
            have b78 : 0 ≤ Z63 3 7 ∧ Z63 3 7 ≤ 900 := hG63.pr 3 7
            have b79 : 0 ≤ Z63 3 14 ∧ Z63 3 14 ≤ 4 := hG63.pr 3 14
            refine Jcv0 hx51 (show mx_Sn _ _ 44 (mx_callv 43 2 7 47) from sn_42 44) a3 s3 hc63 rfl rfl rfl ?_
            refine mx_J.step (sn_42 47) (fun _ _ => rfl) ?_
            refine mx_J.step (sn_42 48) (fun _ _ => rfl) ?_
            refine JcI (z := 43) (show mx_Sn _ _ 49 (mx_const (.int 43) 51) from sn_42 49) rfl ?_
            have c63 : ∀ (k80_1 : Int), 1010 ≤ k80_1 ∧ k80_1 ≤ 1011 → mx_J (tB l D b0 ad Hb tau) mt_42 (d + 41) 63 [some (.ref 3), some (xI 2), some (xI w14_2), some (xI (Z15 3 4))] [xI k80_1, .ref 3] h63 Post := by
              intro k80_1 f80_0
              have b82 : 0 ≤ Z63 3 7 ∧ Z63 3 7 ≤ 900 := hG63.pr 3 7
              obtain ⟨Z81, h81, hc81, hx81, hG81, hf81, b81⟩ := ct_52_3_1010 (d := d + 40) (l := l) (D := D) (b0 := b0) (ad := ad) (Hb := Hb) (tau := tau) hx63 hG63 (show 1010 ≤ k80_1 ∧ k80_1 ≤ 1019 by omega)
              have b83 : 0 ≤ Z81 3 7 ∧ Z81 3 7 ≤ 900 := hG81.pr 3 7
              refine Jcv0 hx63 (show mx_Sn _ _ 63 (mx_callv 52 2 7 66) from sn_42 63) a3 s3 hc81 rfl rfl rfl ?_
              refine Jiinc (z := w14_2) (cz := 1) (ls2 := [some (.ref 3), some (xI 2), some (xI (w14_2 + 1)), some (xI (Z15 3 4))]) (show mx_Sn _ _ 66 (mx_iinc 2 1 69) from sn_42 66) rfl rfl rfl rfl ?_
              refine mx_J.step (sn_42 69) (fun _ _ => rfl) ?_
              have eq84 : Z81 3 0 = Z 3 0 := ((hf81 3 0 rfl).trans ((hf63 3 0 rfl).trans ((hf51 3 0 rfl).trans ((hf15 3 0 rfl).trans (hf1 3 0 rfl)))))
              have b85 : 2 ≤ Z 3 0 ∧ Z 3 0 ≤ 4 := hG.pr 3 0
              have eq86 : Z81 3 2 = Z63 3 2 := (hf81 3 2 rfl)
              have b87 : 0 ≤ Z63 3 2 ∧ Z63 3 2 ≤ 900 := hG63.pr 3 2
              have eq88 : Z81 3 3 = Z63 3 3 := (hf81 3 3 rfl)
              have b89 : 0 ≤ Z63 3 3 ∧ Z63 3 3 ≤ 900 := hG63.pr 3 3
              have eq90 : Z81 3 4 = Z63 3 4 := (hf81 3 4 rfl)
              have b91 : 0 ≤ Z63 3 4 ∧ Z63 3 4 ≤ 400 := hG63.pr 3 4
              have b92 : 0 ≤ Z81 3 7 ∧ Z81 3 7 ≤ 900 := hG81.pr 3 7
              have eq93 : Z81 3 14 = Z63 3 14 := (hf81 3 14 rfl)
              have b94 : 0 ≤ Z63 3 14 ∧ Z63 3 14 ≤ 4 := hG63.pr 3 14
              have eq95 : Z81 3 3 = Z63 3 3 := (hf81 3 3 rfl)
              have b96 : 0 ≤ Z63 3 3 ∧ Z63 3 3 ≤ 900 := hG63.pr 3 3
              have b97 : 0 ≤ Z81 3 7 ∧ Z81 3 7 ≤ 900 := hG81.pr 3 7
              have eq98 : Z81 3 3 = Z63 3 3 := (hf81 3 3 rfl)
              have b99 : 0 ≤ Z63 3 3 ∧ Z63 3 3 ≤ 900 := hG63.pr 3 3
              have eq100 : Z81 3 4 = Z63 3 4 := (hf81 3 4 rfl)
              have b101 : 0 ≤ Z63 3 4 ∧ Z63 3 4 ≤ 400 := hG63.pr 3 4
              exact ih14 (w14_2 + 1) (some (xI (Z15 3 4))) Z81 h81 (by omega) (by omega) (by omega) (by omega) (by omega) hx81 hG81 (fr_tr (M := [(3, 2), (3, 3), (3, 4), (3, 5), (3, 7), (3, 14), (3, 15), (5, (-1))]) (fr_tr (M := [(3, 2), (3, 3), (3, 4), (3, 5), (3, 7), (3, 14), (3, 15), (5, (-1))]) (fr_tr (M := [(3, 2), (3, 3), (3, 4), (3, 5), (3, 7), (3, 14), (3, 15), (5, (-1))]) (fr_tr (M := [(3, 2), (3, 3), (3, 4), (3, 5), (3, 7), (3, 14), (3, 15), (5, (-1))]) fr_rf (hf15) (M1 := []) rfl rfl) (hf51) rfl rfl) (hf63) rfl rfl) (hf81) rfl rfl)
            refine Jicmp_ne (show mx_Sn _ _ 51 (mx_icmp_ne 60 54) from sn_42 51) (by omega) (by omega) (fun q102 => ?_) (fun q102 => ?_)
            · skip
              refine JcI (z := 1011) (show mx_Sn _ _ 60 (mx_const (.int 1011) 63) from sn_42 60) rfl ?_
              exact c63 1011 (by omega)
            · skip
              refine JcI (z := 1010) (show mx_Sn _ _ 54 (mx_const (.int 1010) 57) from sn_42 54) rfl ?_
              refine mx_J.step (sn_42 57) (fun _ _ => rfl) ?_
              exact c63 1010 (by omega)
          refine Jicmp_eq (show mx_Sn _ _ 21 (mx_icmp_eq 33 24) from sn_42 21) (by omega) (by omega) (fun q103 => ?_) (fun q103 => ?_)
          · skip
            have b104 : 0 ≤ Z15 3 4 ∧ Z15 3 4 ≤ 400 := hG15.pr 3 4
            exact c33 (by omega)
          · skip
            refine mx_J.step (sn_42 24) (fun _ _ => rfl) ?_
            have b106 : 0 ≤ Z15 3 4 ∧ Z15 3 4 ≤ 400 := hG15.pr 3 4
            refine JgetI (g := 4) (z := Z15 3 4) hx15 (show mx_Sn _ _ 25 (mx_getf 7 4 28) from sn_42 25) a3 s3 rfl rfl rfl ?_
            refine JcI (z := 45) (show mx_Sn _ _ 28 (mx_const (.int 45) 30) from sn_42 28) rfl ?_
            refine Jicmp_ne (show mx_Sn _ _ 30 (mx_icmp_ne 72 33) from sn_42 30) (by omega) (by omega) (fun q107 => ?_) (fun q107 => ?_)
            · skip
              exact c72 
            · skip
              have b108 : 0 ≤ Z15 3 4 ∧ Z15 3 4 ≤ 400 := hG15.pr 3 4
              exact c33 (by omega)
    have eq109 : Z1 3 0 = Z 3 0 := (hf1 3 0 rfl)
    have b110 : 2 ≤ Z 3 0 ∧ Z 3 0 ≤ 4 := hG.pr 3 0
    have b111 : 0 ≤ Z1 3 2 ∧ Z1 3 2 ≤ 900 := hG1.pr 3 2
    have b112 : 0 ≤ Z1 3 3 ∧ Z1 3 3 ≤ 900 := hG1.pr 3 3
    have b113 : 0 ≤ Z1 3 4 ∧ Z1 3 4 ≤ 400 := hG1.pr 3 4
    have b114 : 0 ≤ Z1 3 7 ∧ Z1 3 7 ≤ 900 := hG1.pr 3 7
    have b115 : 0 ≤ Z1 3 14 ∧ Z1 3 14 ≤ 4 := hG1.pr 3 14
    have b116 : 0 ≤ Z1 3 3 ∧ Z1 3 3 ≤ 900 := hG1.pr 3 3
    have b117 : 0 ≤ Z1 3 7 ∧ Z1 3 7 ≤ 900 := hG1.pr 3 7
    have b118 : 0 ≤ Z1 3 3 ∧ Z1 3 3 ≤ 900 := hG1.pr 3 3
    have b119 : 0 ≤ Z1 3 4 ∧ Z1 3 4 ≤ 400 := hG1.pr 3 4
    exact c7 (Int.toNat (900 - 0) + 1) 0 none Z1 h1 (by omega) (by omega) (by omega) (by omega) (by omega) hx1 hG1 fr_rf
theorem ct_42_3_i2 {l : Launch} {D : va_G} {b0 : Nat} {ad : Nat → Nat} {Hb : Heap} {tau : Nat → Int64} {d n s : Nat} {S : Nat → xS} {Z : xZ} {h : mx_H} (hx : XH n s S Z h) (hG : GI n S Z)   (k0 : Z 3 0 = 2) (k1 : (Z 3 3 ≤ Z 3 2 ∧ Z 3 2 ≤ Z 3 1 ∧ (Z 3 4 = 0 ∨ Z 3 4 = 3 ∨ Z 3 3 < Z 3 2) ∧ (Z 3 4 = 3 ∨ Z 3 14 = 0))) : ∃ (Z' : xZ) (h' : mx_H), mx_Ca (tB l D b0 ad Hb tau) (d + 42) 42 [.ref 3, xI 2] h (none, h') ∧ XH n s S Z' h' ∧ GI n S Z' ∧ fr' [(3, 2), (3, 3), (3, 4), (3, 5), (3, 7), (3, 14), (3, 15), (5, (-1))] Z Z' ∧ (((Z' 3 3 ≤ Z' 3 2 ∧ Z' 3 2 ≤ Z 3 1 ∧ (Z' 3 4 = 0 ∨ Z' 3 4 = 3 ∨ Z' 3 3 < Z' 3 2) ∧ (Z' 3 4 = 3 ∨ Z' 3 14 = 0)) ∧ Z 3 3 ≤ Z' 3 3 ∧ Z' 3 7 - Z 3 7 ≤ Z' 3 3 - Z 3 3 ∧ (Z' 3 4 = 3 ∨ Z 3 3 + 1 ≤ Z' 3 3) ∧ (Z 3 4 = 3 → Z' 3 4 = 3))) := by
  obtain ⟨r, hca, Z', h', e, q⟩ := Jmt (B := tB l D b0 ad Hb tau) (M := mt_42) (mi := 42) (as := [.ref 3, xI 2]) (d := d + 41) (ls := [some (.ref 3), some (xI 2), none, none]) rfl rfl rfl rfl rfl rfl (cw_42_3_i2 (l := l) (D := D) (b0 := b0) (ad := ad) (Hb := Hb) (tau := tau) (d := d) (Post := fun r => ∃ (Z' : xZ) (h' : mx_H), r = (none, h') ∧ XH n s S Z' h' ∧ GI n S Z' ∧ fr' [(3, 2), (3, 3), (3, 4), (3, 5), (3, 7), (3, 14), (3, 15), (5, (-1))] Z Z' ∧ (((Z' 3 3 ≤ Z' 3 2 ∧ Z' 3 2 ≤ Z 3 1 ∧ (Z' 3 4 = 0 ∨ Z' 3 4 = 3 ∨ Z' 3 3 < Z' 3 2) ∧ (Z' 3 4 = 3 ∨ Z' 3 14 = 0)) ∧ Z 3 3 ≤ Z' 3 3 ∧ Z' 3 7 - Z 3 7 ≤ Z' 3 3 - Z 3 3 ∧ (Z' 3 4 = 3 ∨ Z 3 3 + 1 ≤ Z' 3 3) ∧ (Z 3 4 = 3 → Z' 3 4 = 3)))) hx hG k0 k1 (fun Z' h' q1 q2 q3 q4 => ⟨Z', h', rfl, q1, q2, q3, q4⟩))
  subst e; exact ⟨Z', h', hca, q⟩
set_option maxRecDepth 100000 in
theorem cw_50_3_i2 {l : Launch} {D : va_G} {b0 : Nat} {ad : Nat → Nat} {Hb : Heap} {tau : Nat → Int64} {d n s : Nat} {S : Nat → xS} {Z : xZ} {h : mx_H} {Post : mx_R → Prop} (hx : XH n s S Z h) (hG : GI n S Z)   (k0 : Z 3 0 = 2) (k1 : (Z 3 3 ≤ Z 3 2 ∧ Z 3 2 ≤ Z 3 1 ∧ (Z 3 4 = 0 ∨ Z 3 4 = 3 ∨ Z 3 3 < Z 3 2) ∧ (Z 3 4 = 3 ∨ Z 3 14 = 0))) (hP : ∀ (Z' : xZ) (h' : mx_H), XH n s S Z' h' → GI n S Z' → fr' [(3, 2), (3, 3), (3, 4), (3, 5), (3, 7), (3, 14), (3, 15), (5, (-1))] Z Z' → ((Z' 3 3 ≤ Z' 3 2 ∧ Z' 3 2 ≤ Z 3 1 ∧ (Z' 3 4 = 0 ∨ Z' 3 4 = 3 ∨ Z' 3 3 < Z' 3 2) ∧ (Z' 3 4 = 3 ∨ Z' 3 14 = 0)) ∧ Z 3 3 ≤ Z' 3 3 ∧ Z' 3 7 - Z 3 7 ≤ Z' 3 3 - Z 3 3 ∧ (Z' 3 4 = 3 ∨ Z 3 3 + 1 ≤ Z' 3 3) ∧ (Z 3 4 = 3 → Z' 3 4 = 3)) → Post (none, h')) : mx_J (tB l D b0 ad Hb tau) mt_50 (d + 42) 0 [some (.ref 3), some (xI 2), none] [] h Post := by
    have a3 : 3 < n := lt83 (GI_n hG) rfl
    have s3 : S 3 = .inl (7, [2, 0, 0, 0, 0, 0, 2, 0, 2, 2, 0, 2, 0, 0, 0, 0]) := GI_s hG 3 rfl
    refine mx_J.step (sn_50 0) (fun _ _ => rfl) ?_
    refine mx_J.step (sn_50 1) (fun _ _ => rfl) ?_
    have b2 : 2 ≤ Z 3 0 ∧ Z 3 0 ≤ 4 := hG.pr 3 0
    have b3 : 0 ≤ Z 3 1 ∧ Z 3 1 ≤ 900 := hG.pr 3 1
    have b4 : 0 ≤ Z 3 2 ∧ Z 3 2 ≤ 900 := hG.pr 3 2
    have b5 : 0 ≤ Z 3 3 ∧ Z 3 3 ≤ 900 := hG.pr 3 3
    have b6 : 0 ≤ Z 3 4 ∧ Z 3 4 ≤ 400 := hG.pr 3 4
    have b7 : 0 ≤ Z 3 7 ∧ Z 3 7 ≤ 900 := hG.pr 3 7
    have b8 : 0 ≤ Z 3 14 ∧ Z 3 14 ≤ 4 := hG.pr 3 14
    obtain ⟨Z1, h1, hc1, hx1, hG1, hf1, b1⟩ := ct_42_3_i2 (d := d + 0) (l := l) (D := D) (b0 := b0) (ad := ad) (Hb := Hb) (tau := tau) hx hG  (show Z 3 0 = 2 by omega) (show (Z 3 3 ≤ Z 3 2 ∧ Z 3 2 ≤ Z 3 1 ∧ (Z 3 4 = 0 ∨ Z 3 4 = 3 ∨ Z 3 3 < Z 3 2) ∧ (Z 3 4 = 3 ∨ Z 3 14 = 0)) by omega)
    have b9 : 0 ≤ Z1 3 2 ∧ Z1 3 2 ≤ 900 := hG1.pr 3 2
    have b10 : 0 ≤ Z1 3 3 ∧ Z1 3 3 ≤ 900 := hG1.pr 3 3
    have b11 : 0 ≤ Z1 3 4 ∧ Z1 3 4 ≤ 400 := hG1.pr 3 4
    have b12 : 0 ≤ Z1 3 7 ∧ Z1 3 7 ≤ 900 := hG1.pr 3 7
    have b13 : 0 ≤ Z1 3 14 ∧ Z1 3 14 ≤ 4 := hG1.pr 3 14
    refine Jcv0 hx (show mx_Sn _ _ 2 (mx_callv 42 2 7 5) from sn_50 2) a3 s3 hc1 rfl rfl rfl ?_
    refine mx_J.step (sn_50 5) (fun _ _ => rfl) ?_
    have b15 : 0 ≤ Z1 3 4 ∧ Z1 3 4 ≤ 400 := hG1.pr 3 4
    refine JgetI (g := 4) (z := Z1 3 4) hx1 (show mx_Sn _ _ 6 (mx_getf 7 4 9) from sn_50 6) a3 s3 rfl rfl rfl ?_
    refine mx_J.step (ls2 := [some (.ref 3), some (xI 2), some (xI (Z1 3 4))]) (sn_50 9) (fun _ _ => rfl) ?_
    refine mx_J.step (sn_50 10) (fun _ _ => rfl) ?_
    refine JcI (z := 61) (show mx_Sn _ _ 11 (mx_const (.int 61) 13) from sn_50 11) rfl ?_
    have c34 : ((Z1 3 4) = 61 ∨ (Z1 3 4) = 60 ∨ (Z1 3 4) = 62) → mx_J (tB l D b0 ad Hb tau) mt_50 (d + 42) 34 [some (.ref 3), some (xI 2), some (xI (Z1 3 4))] [] h1 Post := by
      intro f16_0
      refine mx_J.step (sn_50 34) (fun _ _ => rfl) ?_
      have eq18 : Z1 3 0 = Z 3 0 := (hf1 3 0 rfl)
      have b19 : 2 ≤ Z 3 0 ∧ Z 3 0 ≤ 4 := hG.pr 3 0
      have eq20 : Z1 3 1 = Z 3 1 := (hf1 3 1 rfl)
      have b21 : 0 ≤ Z 3 1 ∧ Z 3 1 ≤ 900 := hG.pr 3 1
      have b22 : 0 ≤ Z1 3 2 ∧ Z1 3 2 ≤ 900 := hG1.pr 3 2
      have b23 : 0 ≤ Z1 3 3 ∧ Z1 3 3 ≤ 900 := hG1.pr 3 3
      have b24 : 0 ≤ Z1 3 4 ∧ Z1 3 4 ≤ 400 := hG1.pr 3 4
      have b25 : 0 ≤ Z1 3 14 ∧ Z1 3 14 ≤ 4 := hG1.pr 3 14
      obtain ⟨Z17, h17, hc17, hx17, hG17, hf17, b17⟩ := ct_56_3 (d := d + 36) (l := l) (D := D) (b0 := b0) (ad := ad) (Hb := Hb) (tau := tau) hx1 hG1  (show Z1 3 0 = 2 by first | omega | (simp only [eq18, eq20]; omega)) (show Z1 3 2 ≤ Z1 3 1 by first | omega | (simp only [eq18, eq20]; omega))
      try rw [eq18] at b17
      try rw [eq20] at b17
      have b26 : 0 ≤ Z17 3 2 ∧ Z17 3 2 ≤ 900 := hG17.pr 3 2
      have b27 : 0 ≤ Z17 3 3 ∧ Z17 3 3 ≤ 900 := hG17.pr 3 3
      have b28 : 0 ≤ Z17 3 4 ∧ Z17 3 4 ≤ 400 := hG17.pr 3 4
      refine Jcv0 hx1 (show mx_Sn _ _ 35 (mx_callv 56 1 7 38) from sn_50 35) a3 s3 hc17 rfl rfl rfl ?_
      refine mx_J.step (sn_50 38) (fun _ _ => rfl) ?_
      refine mx_J.step (sn_50 39) (fun _ _ => rfl) ?_
      have eq30 : Z17 3 0 = Z 3 0 := ((hf17 3 0 rfl).trans (hf1 3 0 rfl))
      have b31 : 2 ≤ Z 3 0 ∧ Z 3 0 ≤ 4 := hG.pr 3 0
      have eq32 : Z17 3 1 = Z 3 1 := ((hf17 3 1 rfl).trans (hf1 3 1 rfl))
      have b33 : 0 ≤ Z 3 1 ∧ Z 3 1 ≤ 900 := hG.pr 3 1
      have b34 : 0 ≤ Z17 3 2 ∧ Z17 3 2 ≤ 900 := hG17.pr 3 2
      have b35 : 0 ≤ Z17 3 3 ∧ Z17 3 3 ≤ 900 := hG17.pr 3 3
      have b36 : 0 ≤ Z17 3 4 ∧ Z17 3 4 ≤ 400 := hG17.pr 3 4
      have eq37 : Z17 3 7 = Z1 3 7 := (hf17 3 7 rfl)
      have b38 : 0 ≤ Z1 3 7 ∧ Z1 3 7 ≤ 900 := hG1.pr 3 7
      have eq39 : Z17 3 14 = Z1 3 14 := (hf17 3 14 rfl)
      have b40 : 0 ≤ Z1 3 14 ∧ Z1 3 14 ≤ 4 := hG1.pr 3 14
      obtain ⟨Z29, h29, hc29, hx29, hG29, hf29, b29⟩ := ct_42_3_i2 (d := d + 0) (l := l) (D := D) (b0 := b0) (ad := ad) (Hb := Hb) (tau := tau) hx17 hG17  (show Z17 3 0 = 2 by first | omega | (simp only [eq30, eq32, eq37, eq39]; omega)) (show (Z17 3 3 ≤ Z17 3 2 ∧ Z17 3 2 ≤ Z17 3 1 ∧ (Z17 3 4 = 0 ∨ Z17 3 4 = 3 ∨ Z17 3 3 < Z17 3 2) ∧ (Z17 3 4 = 3 ∨ Z17 3 14 = 0)) by first | omega | (simp only [eq30, eq32, eq37, eq39]; omega))
      try rw [eq30] at b29
      try rw [eq32] at b29
      try rw [eq37] at b29
      try rw [eq39] at b29
      have b41 : 0 ≤ Z29 3 2 ∧ Z29 3 2 ≤ 900 := hG29.pr 3 2
      have b42 : 0 ≤ Z29 3 3 ∧ Z29 3 3 ≤ 900 := hG29.pr 3 3
      have b43 : 0 ≤ Z29 3 4 ∧ Z29 3 4 ≤ 400 := hG29.pr 3 4
      have b44 : 0 ≤ Z29 3 7 ∧ Z29 3 7 ≤ 900 := hG29.pr 3 7
      have b45 : 0 ≤ Z29 3 14 ∧ Z29 3 14 ≤ 4 := hG29.pr 3 14
      refine Jcv0 hx17 (show mx_Sn _ _ 40 (mx_callv 42 2 7 43) from sn_50 40) a3 s3 hc29 rfl rfl rfl ?_
      refine mx_J.step (sn_50 43) (fun _ _ => rfl) ?_
      refine mx_J.step (sn_50 44) (fun _ _ => rfl) ?_
      refine JcI (z := 61) (show mx_Sn _ _ 45 (mx_const (.int 61) 47) from sn_50 45) rfl ?_
      have c71 : ∀ (k46_1 : Int), 1013 ≤ k46_1 ∧ k46_1 ≤ 1015 → mx_J (tB l D b0 ad Hb tau) mt_50 (d + 42) 71 [some (.ref 3), some (xI 2), some (xI (Z1 3 4))] [xI k46_1, .ref 3] h29 Post := by
        intro k46_1 f46_0
        have b48 : 0 ≤ Z29 3 7 ∧ Z29 3 7 ≤ 900 := hG29.pr 3 7
        obtain ⟨Z47, h47, hc47, hx47, hG47, hf47, b47⟩ := ct_52_3_1010 (d := d + 41) (l := l) (D := D) (b0 := b0) (ad := ad) (Hb := Hb) (tau := tau) hx29 hG29 (show 1010 ≤ k46_1 ∧ k46_1 ≤ 1019 by omega)
        have b49 : 0 ≤ Z47 3 7 ∧ Z47 3 7 ≤ 900 := hG47.pr 3 7
        refine Jcv0 hx29 (show mx_Sn _ _ 71 (mx_callv 52 2 7 74) from sn_50 71) a3 s3 hc47 rfl rfl rfl ?_
        have eq50 : Z47 3 2 = Z29 3 2 := (hf47 3 2 rfl)
        have b51 : 0 ≤ Z29 3 2 ∧ Z29 3 2 ≤ 900 := hG29.pr 3 2
        have eq52 : Z47 3 3 = Z29 3 3 := (hf47 3 3 rfl)
        have b53 : 0 ≤ Z29 3 3 ∧ Z29 3 3 ≤ 900 := hG29.pr 3 3
        have eq54 : Z47 3 4 = Z29 3 4 := (hf47 3 4 rfl)
        have b55 : 0 ≤ Z29 3 4 ∧ Z29 3 4 ≤ 400 := hG29.pr 3 4
        have b56 : 0 ≤ Z47 3 7 ∧ Z47 3 7 ≤ 900 := hG47.pr 3 7
        have eq57 : Z47 3 14 = Z29 3 14 := (hf47 3 14 rfl)
        have b58 : 0 ≤ Z29 3 14 ∧ Z29 3 14 ≤ 4 := hG29.pr 3 14
        have eq59 : Z47 3 0 = Z 3 0 := ((hf47 3 0 rfl).trans ((hf29 3 0 rfl).trans ((hf17 3 0 rfl).trans (hf1 3 0 rfl))))
        have b60 : 2 ≤ Z 3 0 ∧ Z 3 0 ≤ 4 := hG.pr 3 0
        have eq61 : Z47 3 1 = Z 3 1 := ((hf47 3 1 rfl).trans ((hf29 3 1 rfl).trans ((hf17 3 1 rfl).trans (hf1 3 1 rfl))))
        have b62 : 0 ≤ Z 3 1 ∧ Z 3 1 ≤ 900 := hG.pr 3 1
        have eq63 : Z47 3 2 = Z29 3 2 := (hf47 3 2 rfl)
        have b64 : 0 ≤ Z29 3 2 ∧ Z29 3 2 ≤ 900 := hG29.pr 3 2
        have eq65 : Z47 3 3 = Z29 3 3 := (hf47 3 3 rfl)
        have b66 : 0 ≤ Z29 3 3 ∧ Z29 3 3 ≤ 900 := hG29.pr 3 3
        have eq67 : Z47 3 4 = Z29 3 4 := (hf47 3 4 rfl)
        have b68 : 0 ≤ Z29 3 4 ∧ Z29 3 4 ≤ 400 := hG29.pr 3 4
        have b69 : 0 ≤ Z47 3 7 ∧ Z47 3 7 ≤ 900 := hG47.pr 3 7
        have eq70 : Z47 3 14 = Z29 3 14 := (hf47 3 14 rfl)
        have b71 : 0 ≤ Z29 3 14 ∧ Z29 3 14 ≤ 4 := hG29.pr 3 14
        exact mx_J.ret (sn_50 74) (fun _ _ => rfl) (hP Z47 h47 hx47 hG47 (fr_tr (M := [(3, 2), (3, 3), (3, 4), (3, 5), (3, 7), (3, 14), (3, 15), (5, (-1))]) (fr_tr (M := [(3, 2), (3, 3), (3, 4), (3, 5), (3, 7), (3, 14), (3, 15), (5, (-1))]) (fr_tr (M := [(3, 2), (3, 3), (3, 4), (3, 5), (3, 7), (3, 14), (3, 15), (5, (-1))]) (fr_tr (M := [(3, 2), (3, 3), (3, 4), (3, 5), (3, 7), (3, 14), (3, 15), (5, (-1))]) fr_rf (hf1) (M1 := []) rfl rfl) (hf17) rfl rfl) (hf29) rfl rfl) (hf47) rfl rfl) (by omega))
      refine Jicmp_ne (show mx_Sn _ _ 47 (mx_icmp_ne 56 50) from sn_50 47) (by omega) (by omega) (fun q72 => ?_) (fun q72 => ?_)
      · skip
        refine mx_J.step (sn_50 56) (fun _ _ => rfl) ?_
        refine JcI (z := 60) (show mx_Sn _ _ 57 (mx_const (.int 60) 59) from sn_50 57) rfl ?_
        refine Jicmp_ne (show mx_Sn _ _ 59 (mx_icmp_ne 68 62) from sn_50 59) (by omega) (by omega) (fun q73 => ?_) (fun q73 => ?_)
        · skip
          refine JcI (z := 1015) (show mx_Sn _ _ 68 (mx_const (.int 1015) 71) from sn_50 68) rfl ?_
          exact c71 1015 (by omega)
        · skip
          refine JcI (z := 1014) (show mx_Sn _ _ 62 (mx_const (.int 1014) 65) from sn_50 62) rfl ?_
          refine mx_J.step (sn_50 65) (fun _ _ => rfl) ?_
          exact c71 1014 (by omega)
      · skip
        refine JcI (z := 1013) (show mx_Sn _ _ 50 (mx_const (.int 1013) 53) from sn_50 50) rfl ?_
        refine mx_J.step (sn_50 53) (fun _ _ => rfl) ?_
        exact c71 1013 (by omega)
    refine Jicmp_eq (show mx_Sn _ _ 13 (mx_icmp_eq 34 16) from sn_50 13) (by omega) (by omega) (fun q74 => ?_) (fun q74 => ?_)
    · skip
      exact c34 (by omega)
    · skip
      refine mx_J.step (sn_50 16) (fun _ _ => rfl) ?_
      refine JcI (z := 60) (show mx_Sn _ _ 17 (mx_const (.int 60) 19) from sn_50 17) rfl ?_
      refine Jicmp_eq (show mx_Sn _ _ 19 (mx_icmp_eq 34 22) from sn_50 19) (by omega) (by omega) (fun q75 => ?_) (fun q75 => ?_)
      · skip
        exact c34 (by omega)
      · skip
        refine mx_J.step (sn_50 22) (fun _ _ => rfl) ?_
        refine JcI (z := 62) (show mx_Sn _ _ 23 (mx_const (.int 62) 25) from sn_50 23) rfl ?_
        refine Jicmp_eq (show mx_Sn _ _ 25 (mx_icmp_eq 34 28) from sn_50 25) (by omega) (by omega) (fun q76 => ?_) (fun q76 => ?_)
        · skip
          exact c34 (by omega)
        · skip
          refine mx_J.step (sn_50 28) (fun _ _ => rfl) ?_
          refine JcI (z := 2) (show mx_Sn _ _ 29 (mx_const (.int 2) 30) from sn_50 29) rfl ?_
          obtain ⟨Z77, h77, hc77, hx77, hG77, hf77, b77⟩ := ct_55_3 (d := d + 41) (l := l) (D := D) (b0 := b0) (ad := ad) (Hb := Hb) (tau := tau) hx1 hG1 (show 2 ≤ 2 ∧ 2 ≤ 4 by omega)
          have b78 : 0 ≤ Z77 3 4 ∧ Z77 3 4 ≤ 400 := hG77.pr 3 4
          refine Jcv0 hx1 (show mx_Sn _ _ 30 (mx_callv 55 2 7 33) from sn_50 30) a3 s3 hc77 rfl rfl rfl ?_
          have eq79 : Z77 3 2 = Z1 3 2 := (hf77 3 2 rfl)
          have b80 : 0 ≤ Z1 3 2 ∧ Z1 3 2 ≤ 900 := hG1.pr 3 2
          have eq81 : Z77 3 3 = Z1 3 3 := (hf77 3 3 rfl)
          have b82 : 0 ≤ Z1 3 3 ∧ Z1 3 3 ≤ 900 := hG1.pr 3 3
          have b83 : 0 ≤ Z77 3 4 ∧ Z77 3 4 ≤ 400 := hG77.pr 3 4
          have eq84 : Z77 3 7 = Z1 3 7 := (hf77 3 7 rfl)
          have b85 : 0 ≤ Z1 3 7 ∧ Z1 3 7 ≤ 900 := hG1.pr 3 7
          have b86 : 0 ≤ Z77 3 14 ∧ Z77 3 14 ≤ 4 := hG77.pr 3 14
          have eq87 : Z77 3 0 = Z 3 0 := ((hf77 3 0 rfl).trans (hf1 3 0 rfl))
          have b88 : 2 ≤ Z 3 0 ∧ Z 3 0 ≤ 4 := hG.pr 3 0
          have eq89 : Z77 3 1 = Z 3 1 := ((hf77 3 1 rfl).trans (hf1 3 1 rfl))
          have b90 : 0 ≤ Z 3 1 ∧ Z 3 1 ≤ 900 := hG.pr 3 1
          have eq91 : Z77 3 2 = Z1 3 2 := (hf77 3 2 rfl)
          have b92 : 0 ≤ Z1 3 2 ∧ Z1 3 2 ≤ 900 := hG1.pr 3 2
          have eq93 : Z77 3 3 = Z1 3 3 := (hf77 3 3 rfl)
          have b94 : 0 ≤ Z1 3 3 ∧ Z1 3 3 ≤ 900 := hG1.pr 3 3
          have b95 : 0 ≤ Z77 3 4 ∧ Z77 3 4 ≤ 400 := hG77.pr 3 4
          have eq96 : Z77 3 7 = Z1 3 7 := (hf77 3 7 rfl)
          have b97 : 0 ≤ Z1 3 7 ∧ Z1 3 7 ≤ 900 := hG1.pr 3 7
          have b98 : 0 ≤ Z77 3 14 ∧ Z77 3 14 ≤ 4 := hG77.pr 3 14
          exact mx_J.ret (sn_50 33) (fun _ _ => rfl) (hP Z77 h77 hx77 hG77 (fr_tr (M := [(3, 2), (3, 3), (3, 4), (3, 5), (3, 7), (3, 14), (3, 15), (5, (-1))]) (fr_tr (M := [(3, 2), (3, 3), (3, 4), (3, 5), (3, 7), (3, 14), (3, 15), (5, (-1))]) fr_rf (hf1) (M1 := []) rfl rfl) (hf77) rfl rfl) (by omega))
theorem ct_50_3_i2 {l : Launch} {D : va_G} {b0 : Nat} {ad : Nat → Nat} {Hb : Heap} {tau : Nat → Int64} {d n s : Nat} {S : Nat → xS} {Z : xZ} {h : mx_H} (hx : XH n s S Z h) (hG : GI n S Z)   (k0 : Z 3 0 = 2) (k1 : (Z 3 3 ≤ Z 3 2 ∧ Z 3 2 ≤ Z 3 1 ∧ (Z 3 4 = 0 ∨ Z 3 4 = 3 ∨ Z 3 3 < Z 3 2) ∧ (Z 3 4 = 3 ∨ Z 3 14 = 0))) : ∃ (Z' : xZ) (h' : mx_H), mx_Ca (tB l D b0 ad Hb tau) (d + 43) 50 [.ref 3, xI 2] h (none, h') ∧ XH n s S Z' h' ∧ GI n S Z' ∧ fr' [(3, 2), (3, 3), (3, 4), (3, 5), (3, 7), (3, 14), (3, 15), (5, (-1))] Z Z' ∧ (((Z' 3 3 ≤ Z' 3 2 ∧ Z' 3 2 ≤ Z 3 1 ∧ (Z' 3 4 = 0 ∨ Z' 3 4 = 3 ∨ Z' 3 3 < Z' 3 2) ∧ (Z' 3 4 = 3 ∨ Z' 3 14 = 0)) ∧ Z 3 3 ≤ Z' 3 3 ∧ Z' 3 7 - Z 3 7 ≤ Z' 3 3 - Z 3 3 ∧ (Z' 3 4 = 3 ∨ Z 3 3 + 1 ≤ Z' 3 3) ∧ (Z 3 4 = 3 → Z' 3 4 = 3))) := by
  obtain ⟨r, hca, Z', h', e, q⟩ := Jmt (B := tB l D b0 ad Hb tau) (M := mt_50) (mi := 50) (as := [.ref 3, xI 2]) (d := d + 42) (ls := [some (.ref 3), some (xI 2), none]) rfl rfl rfl rfl rfl rfl (cw_50_3_i2 (l := l) (D := D) (b0 := b0) (ad := ad) (Hb := Hb) (tau := tau) (d := d) (Post := fun r => ∃ (Z' : xZ) (h' : mx_H), r = (none, h') ∧ XH n s S Z' h' ∧ GI n S Z' ∧ fr' [(3, 2), (3, 3), (3, 4), (3, 5), (3, 7), (3, 14), (3, 15), (5, (-1))] Z Z' ∧ (((Z' 3 3 ≤ Z' 3 2 ∧ Z' 3 2 ≤ Z 3 1 ∧ (Z' 3 4 = 0 ∨ Z' 3 4 = 3 ∨ Z' 3 3 < Z' 3 2) ∧ (Z' 3 4 = 3 ∨ Z' 3 14 = 0)) ∧ Z 3 3 ≤ Z' 3 3 ∧ Z' 3 7 - Z 3 7 ≤ Z' 3 3 - Z 3 3 ∧ (Z' 3 4 = 3 ∨ Z 3 3 + 1 ≤ Z' 3 3) ∧ (Z 3 4 = 3 → Z' 3 4 = 3)))) hx hG k0 k1 (fun Z' h' q1 q2 q3 q4 => ⟨Z', h', rfl, q1, q2, q3, q4⟩))
  subst e; exact ⟨Z', h', hca, q⟩
set_option maxRecDepth 100000 in
theorem cw_49_3_i2 {l : Launch} {D : va_G} {b0 : Nat} {ad : Nat → Nat} {Hb : Heap} {tau : Nat → Int64} {d n s : Nat} {S : Nat → xS} {Z : xZ} {h : mx_H} {Post : mx_R → Prop} (hx : XH n s S Z h) (hG : GI n S Z)   (k0 : Z 3 0 = 2) (k1 : (Z 3 3 ≤ Z 3 2 ∧ Z 3 2 ≤ Z 3 1 ∧ (Z 3 4 = 0 ∨ Z 3 4 = 3 ∨ Z 3 3 < Z 3 2) ∧ (Z 3 4 = 3 ∨ Z 3 14 = 0))) (hP : ∀ (Z' : xZ) (h' : mx_H), XH n s S Z' h' → GI n S Z' → fr' [(3, 2), (3, 3), (3, 4), (3, 5), (3, 7), (3, 14), (3, 15), (5, (-1))] Z Z' → ((Z' 3 3 ≤ Z' 3 2 ∧ Z' 3 2 ≤ Z 3 1 ∧ (Z' 3 4 = 0 ∨ Z' 3 4 = 3 ∨ Z' 3 3 < Z' 3 2) ∧ (Z' 3 4 = 3 ∨ Z' 3 14 = 0)) ∧ Z 3 3 ≤ Z' 3 3 ∧ Z' 3 7 - Z 3 7 ≤ Z' 3 3 - Z 3 3 ∧ (Z' 3 4 = 3 ∨ Z 3 3 + 1 ≤ Z' 3 3) ∧ (Z 3 4 = 3 → Z' 3 4 = 3)) → Post (none, h')) : mx_J (tB l D b0 ad Hb tau) mt_49 (d + 43) 0 [some (.ref 3), some (xI 2)] [] h Post := by
    have a3 : 3 < n := lt83 (GI_n hG) rfl
    have s3 : S 3 = .inl (7, [2, 0, 0, 0, 0, 0, 2, 0, 2, 2, 0, 2, 0, 0, 0, 0]) := GI_s hG 3 rfl
    refine mx_J.step (sn_49 0) (fun _ _ => rfl) ?_
    have b2 : 0 ≤ Z 3 4 ∧ Z 3 4 ≤ 400 := hG.pr 3 4
    refine JgetI (g := 4) (z := Z 3 4) hx (show mx_Sn _ _ 1 (mx_getf 7 4 4) from sn_49 1) a3 s3 rfl rfl rfl ?_
    refine JcI (z := 315) (show mx_Sn _ _ 4 (mx_const (.int 315) 7) from sn_49 4) rfl ?_
    have c73 : ∀  (Z4 : xZ) (h4 : mx_H), (Z4 3 3 ≤ Z4 3 2 ∧ Z4 3 2 ≤ Z 3 1 ∧ (Z4 3 4 = 0 ∨ Z4 3 4 = 3 ∨ Z4 3 3 < Z4 3 2) ∧ (Z4 3 4 = 3 ∨ Z4 3 14 = 0)) → (Z 3 3 ≤ Z4 3 3 ∧ Z4 3 7 - Z 3 7 ≤ Z4 3 3 - Z 3 3 + 0) → ((Z4 3 4 = 3 ∨ Z 3 3 + 1 ≤ Z4 3 3) ∧ (Z 3 4 = 3 → Z4 3 4 = 3)) → XH n s S Z4 h4 → GI n S Z4 → fr' [(3, 2), (3, 3), (3, 4), (3, 5), (3, 7), (3, 14), (3, 15), (5, (-1))] Z Z4 → mx_J (tB l D b0 ad Hb tau) mt_49 (d + 43) 73 [some (.ref 3), some (xI 2)] [] h4 Post := by
      intro Z4 h4 f3_0 f3_1 f3_2 hx4 hG4 hf4
      have eq5 : Z4 3 0 = Z 3 0 := (hf4 3 0 rfl)
      have b6 : 2 ≤ Z 3 0 ∧ Z 3 0 ≤ 4 := hG.pr 3 0
      have b7 : 0 ≤ Z4 3 2 ∧ Z4 3 2 ≤ 900 := hG4.pr 3 2
      have b8 : 0 ≤ Z4 3 3 ∧ Z4 3 3 ≤ 900 := hG4.pr 3 3
      have b9 : 0 ≤ Z4 3 4 ∧ Z4 3 4 ≤ 400 := hG4.pr 3 4
      have b10 : 0 ≤ Z4 3 7 ∧ Z4 3 7 ≤ 900 := hG4.pr 3 7
      have b11 : 0 ≤ Z4 3 14 ∧ Z4 3 14 ≤ 4 := hG4.pr 3 14
      have b12 : 0 ≤ Z4 3 3 ∧ Z4 3 3 ≤ 900 := hG4.pr 3 3
      have b13 : 0 ≤ Z4 3 7 ∧ Z4 3 7 ≤ 900 := hG4.pr 3 7
      have b14 : 0 ≤ Z4 3 3 ∧ Z4 3 3 ≤ 900 := hG4.pr 3 3
      have b15 : 0 ≤ Z4 3 4 ∧ Z4 3 4 ≤ 400 := hG4.pr 3 4
      have b16 : 0 ≤ Z4 3 2 ∧ Z4 3 2 ≤ 900 := hG4.pr 3 2
      have b17 : 0 ≤ Z4 3 3 ∧ Z4 3 3 ≤ 900 := hG4.pr 3 3
      have b18 : 0 ≤ Z4 3 4 ∧ Z4 3 4 ≤ 400 := hG4.pr 3 4
      have b19 : 0 ≤ Z4 3 7 ∧ Z4 3 7 ≤ 900 := hG4.pr 3 7
      have b20 : 0 ≤ Z4 3 14 ∧ Z4 3 14 ≤ 4 := hG4.pr 3 14
      have eq21 : Z4 3 0 = Z 3 0 := (hf4 3 0 rfl)
      have b22 : 2 ≤ Z 3 0 ∧ Z 3 0 ≤ 4 := hG.pr 3 0
      have eq23 : Z4 3 1 = Z 3 1 := (hf4 3 1 rfl)
      have b24 : 0 ≤ Z 3 1 ∧ Z 3 1 ≤ 900 := hG.pr 3 1
      have b25 : 0 ≤ Z4 3 2 ∧ Z4 3 2 ≤ 900 := hG4.pr 3 2
      have b26 : 0 ≤ Z4 3 3 ∧ Z4 3 3 ≤ 900 := hG4.pr 3 3
      have b27 : 0 ≤ Z4 3 4 ∧ Z4 3 4 ≤ 400 := hG4.pr 3 4
      have b28 : 0 ≤ Z4 3 7 ∧ Z4 3 7 ≤ 900 := hG4.pr 3 7
      have b29 : 0 ≤ Z4 3 14 ∧ Z4 3 14 ≤ 4 := hG4.pr 3 14
      exact mx_J.ret (sn_49 73) (fun _ _ => rfl) (hP Z4 h4 hx4 hG4 (fr_tr (M := [(3, 2), (3, 3), (3, 4), (3, 5), (3, 7), (3, 14), (3, 15), (5, (-1))]) fr_rf (hf4) (M1 := []) rfl rfl) (by omega))
    refine Jicmp_ne (show mx_Sn _ _ 7 (mx_icmp_ne 35 10) from sn_49 7) (by omega) (by omega) (fun q30 => ?_) (fun q30 => ?_)
    · skip
      refine mx_J.step (sn_49 35) (fun _ _ => rfl) ?_
      have b32 : 0 ≤ Z 3 4 ∧ Z 3 4 ≤ 400 := hG.pr 3 4
      refine JgetI (g := 4) (z := Z 3 4) hx (show mx_Sn _ _ 36 (mx_getf 7 4 39) from sn_49 36) a3 s3 rfl rfl rfl ?_
      refine JcI (z := 91) (show mx_Sn _ _ 39 (mx_const (.int 91) 41) from sn_49 39) rfl ?_
      refine Jicmp_ne (show mx_Sn _ _ 41 (mx_icmp_ne 68 44) from sn_49 41) (by omega) (by omega) (fun q33 => ?_) (fun q33 => ?_)
      · skip
        refine mx_J.step (sn_49 68) (fun _ _ => rfl) ?_
        refine mx_J.step (sn_49 69) (fun _ _ => rfl) ?_
        have b35 : 2 ≤ Z 3 0 ∧ Z 3 0 ≤ 4 := hG.pr 3 0
        have b36 : 0 ≤ Z 3 1 ∧ Z 3 1 ≤ 900 := hG.pr 3 1
        have b37 : 0 ≤ Z 3 2 ∧ Z 3 2 ≤ 900 := hG.pr 3 2
        have b38 : 0 ≤ Z 3 3 ∧ Z 3 3 ≤ 900 := hG.pr 3 3
        have b39 : 0 ≤ Z 3 4 ∧ Z 3 4 ≤ 400 := hG.pr 3 4
        have b40 : 0 ≤ Z 3 7 ∧ Z 3 7 ≤ 900 := hG.pr 3 7
        have b41 : 0 ≤ Z 3 14 ∧ Z 3 14 ≤ 4 := hG.pr 3 14
        obtain ⟨Z34, h34, hc34, hx34, hG34, hf34, b34⟩ := ct_50_3_i2 (d := d + 0) (l := l) (D := D) (b0 := b0) (ad := ad) (Hb := Hb) (tau := tau) hx hG  (show Z 3 0 = 2 by omega) (show (Z 3 3 ≤ Z 3 2 ∧ Z 3 2 ≤ Z 3 1 ∧ (Z 3 4 = 0 ∨ Z 3 4 = 3 ∨ Z 3 3 < Z 3 2) ∧ (Z 3 4 = 3 ∨ Z 3 14 = 0)) by omega)
        have b42 : 0 ≤ Z34 3 2 ∧ Z34 3 2 ≤ 900 := hG34.pr 3 2
        have b43 : 0 ≤ Z34 3 3 ∧ Z34 3 3 ≤ 900 := hG34.pr 3 3
        have b44 : 0 ≤ Z34 3 4 ∧ Z34 3 4 ≤ 400 := hG34.pr 3 4
        have b45 : 0 ≤ Z34 3 7 ∧ Z34 3 7 ≤ 900 := hG34.pr 3 7
        have b46 : 0 ≤ Z34 3 14 ∧ Z34 3 14 ≤ 4 := hG34.pr 3 14
        refine Jcv0 hx (show mx_Sn _ _ 70 (mx_callv 50 2 7 73) from sn_49 70) a3 s3 hc34 rfl rfl rfl ?_
        have eq47 : Z34 3 0 = Z 3 0 := (hf34 3 0 rfl)
        have b48 : 2 ≤ Z 3 0 ∧ Z 3 0 ≤ 4 := hG.pr 3 0
        have b49 : 0 ≤ Z34 3 2 ∧ Z34 3 2 ≤ 900 := hG34.pr 3 2
        have b50 : 0 ≤ Z34 3 3 ∧ Z34 3 3 ≤ 900 := hG34.pr 3 3
        have b51 : 0 ≤ Z34 3 4 ∧ Z34 3 4 ≤ 400 := hG34.pr 3 4
        have b52 : 0 ≤ Z34 3 7 ∧ Z34 3 7 ≤ 900 := hG34.pr 3 7
        have b53 : 0 ≤ Z34 3 14 ∧ Z34 3 14 ≤ 4 := hG34.pr 3 14
        have b54 : 0 ≤ Z34 3 3 ∧ Z34 3 3 ≤ 900 := hG34.pr 3 3
        have b55 : 0 ≤ Z34 3 7 ∧ Z34 3 7 ≤ 900 := hG34.pr 3 7
        have b56 : 0 ≤ Z34 3 3 ∧ Z34 3 3 ≤ 900 := hG34.pr 3 3
        have b57 : 0 ≤ Z34 3 4 ∧ Z34 3 4 ≤ 400 := hG34.pr 3 4
        exact c73 Z34 h34 (by omega) (by omega) (by omega) hx34 hG34 (fr_tr (M := [(3, 2), (3, 3), (3, 4), (3, 5), (3, 7), (3, 14), (3, 15), (5, (-1))]) fr_rf (hf34) (M1 := []) rfl rfl)
      · skip
        refine mx_J.step (sn_49 44) (fun _ _ => rfl) ?_
        refine mx_J.step (sn_49 45) (fun _ _ => rfl) ?_
        have b59 : 2 ≤ Z 3 0 ∧ Z 3 0 ≤ 4 := hG.pr 3 0
        have b60 : 0 ≤ Z 3 1 ∧ Z 3 1 ≤ 900 := hG.pr 3 1
        have b61 : 0 ≤ Z 3 2 ∧ Z 3 2 ≤ 900 := hG.pr 3 2
        have b62 : 0 ≤ Z 3 3 ∧ Z 3 3 ≤ 900 := hG.pr 3 3
        have b63 : 0 ≤ Z 3 4 ∧ Z 3 4 ≤ 400 := hG.pr 3 4
        have b64 : 0 ≤ Z 3 7 ∧ Z 3 7 ≤ 900 := hG.pr 3 7
        have b65 : 0 ≤ Z 3 14 ∧ Z 3 14 ≤ 4 := hG.pr 3 14
        obtain ⟨z58, Z58, h58, hc58, hx58, hG58, hf58, b58⟩ := ct_51_3_i2 (d := d + 36) (l := l) (D := D) (b0 := b0) (ad := ad) (Hb := Hb) (tau := tau) hx hG  (show Z 3 0 = 2 by omega) (show (Z 3 3 ≤ Z 3 2 ∧ Z 3 2 ≤ Z 3 1 ∧ (Z 3 4 = 0 ∨ Z 3 4 = 3 ∨ Z 3 3 < Z 3 2) ∧ (Z 3 4 = 3 ∨ Z 3 14 = 0)) by omega) (show ¬ Z 3 4 = 0 by omega) (show ¬ Z 3 4 = 3 by omega)
        have b66 : 0 ≤ Z58 3 2 ∧ Z58 3 2 ≤ 900 := hG58.pr 3 2
        have b67 : 0 ≤ Z58 3 3 ∧ Z58 3 3 ≤ 900 := hG58.pr 3 3
        have b68 : 0 ≤ Z58 3 4 ∧ Z58 3 4 ≤ 400 := hG58.pr 3 4
        have eq69 : Z58 3 7 = Z 3 7 := (hf58 3 7 rfl)
        have b70 : 0 ≤ Z 3 7 ∧ Z 3 7 ≤ 900 := hG.pr 3 7
        have eq71 : Z58 3 14 = Z 3 14 := (hf58 3 14 rfl)
        have b72 : 0 ≤ Z 3 14 ∧ Z 3 14 ≤ 4 := hG.pr 3 14
        refine Jcv hx (show mx_Sn _ _ 46 (mx_callv 51 2 7 49) from sn_49 46) a3 s3 hc58 rfl rfl rfl ?_
        refine Jif_eq (show mx_Sn _ _ 49 (mx_if_eq 73 52) from sn_49 49) (by omega) (fun q73 => ?_) (fun q73 => ?_)
        · skip
          have eq74 : Z58 3 0 = Z 3 0 := (hf58 3 0 rfl)
          have b75 : 2 ≤ Z 3 0 ∧ Z 3 0 ≤ 4 := hG.pr 3 0
          have b76 : 0 ≤ Z58 3 2 ∧ Z58 3 2 ≤ 900 := hG58.pr 3 2
          have b77 : 0 ≤ Z58 3 3 ∧ Z58 3 3 ≤ 900 := hG58.pr 3 3
          have b78 : 0 ≤ Z58 3 4 ∧ Z58 3 4 ≤ 400 := hG58.pr 3 4
          have eq79 : Z58 3 7 = Z 3 7 := (hf58 3 7 rfl)
          have b80 : 0 ≤ Z 3 7 ∧ Z 3 7 ≤ 900 := hG.pr 3 7
          have eq81 : Z58 3 14 = Z 3 14 := (hf58 3 14 rfl)
          have b82 : 0 ≤ Z 3 14 ∧ Z 3 14 ≤ 4 := hG.pr 3 14
          have b83 : 0 ≤ Z58 3 3 ∧ Z58 3 3 ≤ 900 := hG58.pr 3 3
          have eq84 : Z58 3 7 = Z 3 7 := (hf58 3 7 rfl)
          have b85 : 0 ≤ Z 3 7 ∧ Z 3 7 ≤ 900 := hG.pr 3 7
          have b86 : 0 ≤ Z58 3 3 ∧ Z58 3 3 ≤ 900 := hG58.pr 3 3
          have b87 : 0 ≤ Z58 3 4 ∧ Z58 3 4 ≤ 400 := hG58.pr 3 4
          exact c73 Z58 h58 (by omega) (by omega) (by omega) hx58 hG58 (fr_tr (M := [(3, 2), (3, 3), (3, 4), (3, 5), (3, 7), (3, 14), (3, 15), (5, (-1))]) fr_rf (hf58) (M1 := []) rfl rfl)
        · skip
          refine mx_J.step (sn_49 52) (fun _ _ => rfl) ?_
          refine mx_J.step (sn_49 53) (fun _ _ => rfl) ?_
          refine JcI (z := 1) (show mx_Sn _ _ 54 (mx_const (.int 1) 55) from sn_49 54) rfl ?_
          refine JiaddE (r := 3) (show mx_Sn _ _ 55 (mx_iadd 56) from sn_49 55) (by decide) ?_
          have eq89 : Z58 3 0 = Z 3 0 := (hf58 3 0 rfl)
          have b90 : 2 ≤ Z 3 0 ∧ Z 3 0 ≤ 4 := hG.pr 3 0
          have eq91 : Z58 3 1 = Z 3 1 := (hf58 3 1 rfl)
          have b92 : 0 ≤ Z 3 1 ∧ Z 3 1 ≤ 900 := hG.pr 3 1
          have b93 : 0 ≤ Z58 3 2 ∧ Z58 3 2 ≤ 900 := hG58.pr 3 2
          have b94 : 0 ≤ Z58 3 3 ∧ Z58 3 3 ≤ 900 := hG58.pr 3 3
          have b95 : 0 ≤ Z58 3 4 ∧ Z58 3 4 ≤ 400 := hG58.pr 3 4
          have eq96 : Z58 3 7 = Z 3 7 := (hf58 3 7 rfl)
          have b97 : 0 ≤ Z 3 7 ∧ Z 3 7 ≤ 900 := hG.pr 3 7
          have eq98 : Z58 3 14 = Z 3 14 := (hf58 3 14 rfl)
          have b99 : 0 ≤ Z 3 14 ∧ Z 3 14 ≤ 4 := hG.pr 3 14
          obtain ⟨Z88, h88, hc88, hx88, hG88, hf88, b88⟩ := ct_47_3_i3 (d := d + 5) (l := l) (D := D) (b0 := b0) (ad := ad) (Hb := Hb) (tau := tau) hx58 hG58  (show Z58 3 0 = 2 by first | omega | (simp only [eq89, eq91, eq96, eq98]; omega)) (show (Z58 3 3 ≤ Z58 3 2 ∧ Z58 3 2 ≤ Z58 3 1 ∧ (Z58 3 4 = 0 ∨ Z58 3 4 = 3 ∨ Z58 3 3 < Z58 3 2) ∧ (Z58 3 4 = 3 ∨ Z58 3 14 = 0)) by first | omega | (simp only [eq89, eq91, eq96, eq98]; omega))
          try rw [eq89] at b88
          try rw [eq91] at b88
          try rw [eq96] at b88
          try rw [eq98] at b88
          have b100 : 0 ≤ Z88 3 2 ∧ Z88 3 2 ≤ 900 := hG88.pr 3 2
          have b101 : 0 ≤ Z88 3 3 ∧ Z88 3 3 ≤ 900 := hG88.pr 3 3
          have b102 : 0 ≤ Z88 3 4 ∧ Z88 3 4 ≤ 400 := hG88.pr 3 4
          have b103 : 0 ≤ Z88 3 7 ∧ Z88 3 7 ≤ 900 := hG88.pr 3 7
          have b104 : 0 ≤ Z88 3 14 ∧ Z88 3 14 ≤ 4 := hG88.pr 3 14
          refine Jcv0 hx58 (show mx_Sn _ _ 56 (mx_callv 47 2 7 59) from sn_49 56) a3 s3 hc88 rfl rfl rfl ?_
          refine mx_J.step (sn_49 59) (fun _ _ => rfl) ?_
          refine JcI (z := 93) (show mx_Sn _ _ 60 (mx_const (.int 93) 62) from sn_49 60) rfl ?_
          have eq106 : Z88 3 0 = Z 3 0 := ((hf88 3 0 rfl).trans (hf58 3 0 rfl))
          have b107 : 2 ≤ Z 3 0 ∧ Z 3 0 ≤ 4 := hG.pr 3 0
          have eq108 : Z88 3 1 = Z 3 1 := ((hf88 3 1 rfl).trans (hf58 3 1 rfl))
          have b109 : 0 ≤ Z 3 1 ∧ Z 3 1 ≤ 900 := hG.pr 3 1
          have b110 : 0 ≤ Z88 3 2 ∧ Z88 3 2 ≤ 900 := hG88.pr 3 2
          have b111 : 0 ≤ Z88 3 3 ∧ Z88 3 3 ≤ 900 := hG88.pr 3 3
          have b112 : 0 ≤ Z88 3 4 ∧ Z88 3 4 ≤ 400 := hG88.pr 3 4
          have b113 : 0 ≤ Z88 3 7 ∧ Z88 3 7 ≤ 900 := hG88.pr 3 7
          have b114 : 0 ≤ Z88 3 14 ∧ Z88 3 14 ≤ 4 := hG88.pr 3 14
          obtain ⟨Z105, h105, hc105, hx105, hG105, hf105, b105⟩ := ct_53_3 (d := d + 36) (l := l) (D := D) (b0 := b0) (ad := ad) (Hb := Hb) (tau := tau) hx88 hG88 (show 40 ≤ 93 ∧ 93 ≤ 320 by omega) (show Z88 3 0 = 2 by first | omega | (simp only [eq106, eq108]; omega)) (show (Z88 3 3 ≤ Z88 3 2 ∧ Z88 3 2 ≤ Z88 3 1 ∧ (Z88 3 4 = 0 ∨ Z88 3 4 = 3 ∨ Z88 3 3 < Z88 3 2) ∧ (Z88 3 4 = 3 ∨ Z88 3 14 = 0)) by first | omega | (simp only [eq106, eq108]; omega))
          try rw [eq106] at b105
          try rw [eq108] at b105
          have b115 : 0 ≤ Z105 3 2 ∧ Z105 3 2 ≤ 900 := hG105.pr 3 2
          have b116 : 0 ≤ Z105 3 3 ∧ Z105 3 3 ≤ 900 := hG105.pr 3 3
          have b117 : 0 ≤ Z105 3 4 ∧ Z105 3 4 ≤ 400 := hG105.pr 3 4
          have eq118 : Z105 3 7 = Z88 3 7 := (hf105 3 7 rfl)
          have b119 : 0 ≤ Z88 3 7 ∧ Z88 3 7 ≤ 900 := hG88.pr 3 7
          have b120 : 0 ≤ Z105 3 14 ∧ Z105 3 14 ≤ 4 := hG105.pr 3 14
          refine Jcv0 hx88 (show mx_Sn _ _ 62 (mx_callv 53 2 7 65) from sn_49 62) a3 s3 hc105 rfl rfl rfl ?_
          refine mx_J.step (sn_49 65) (fun _ _ => rfl) ?_
          have eq121 : Z105 3 0 = Z 3 0 := ((hf105 3 0 rfl).trans ((hf88 3 0 rfl).trans (hf58 3 0 rfl)))
          have b122 : 2 ≤ Z 3 0 ∧ Z 3 0 ≤ 4 := hG.pr 3 0
          have b123 : 0 ≤ Z105 3 2 ∧ Z105 3 2 ≤ 900 := hG105.pr 3 2
          have b124 : 0 ≤ Z105 3 3 ∧ Z105 3 3 ≤ 900 := hG105.pr 3 3
          have b125 : 0 ≤ Z105 3 4 ∧ Z105 3 4 ≤ 400 := hG105.pr 3 4
          have eq126 : Z105 3 7 = Z88 3 7 := (hf105 3 7 rfl)
          have b127 : 0 ≤ Z88 3 7 ∧ Z88 3 7 ≤ 900 := hG88.pr 3 7
          have b128 : 0 ≤ Z105 3 14 ∧ Z105 3 14 ≤ 4 := hG105.pr 3 14
          have b129 : 0 ≤ Z105 3 3 ∧ Z105 3 3 ≤ 900 := hG105.pr 3 3
          have eq130 : Z105 3 7 = Z88 3 7 := (hf105 3 7 rfl)
          have b131 : 0 ≤ Z88 3 7 ∧ Z88 3 7 ≤ 900 := hG88.pr 3 7
          have b132 : 0 ≤ Z105 3 3 ∧ Z105 3 3 ≤ 900 := hG105.pr 3 3
          have b133 : 0 ≤ Z105 3 4 ∧ Z105 3 4 ≤ 400 := hG105.pr 3 4
          exact c73 Z105 h105 (by omega) (by omega) (by omega) hx105 hG105 (fr_tr (M := [(3, 2), (3, 3), (3, 4), (3, 5), (3, 7), (3, 14), (3, 15), (5, (-1))]) (fr_tr (M := [(3, 2), (3, 3), (3, 4), (3, 5), (3, 7), (3, 14), (3, 15), (5, (-1))]) (fr_tr (M := [(3, 2), (3, 3), (3, 4), (3, 5), (3, 7), (3, 14), (3, 15), (5, (-1))]) fr_rf (hf58) (M1 := []) rfl rfl) (hf88) rfl rfl) (hf105) rfl rfl)
    · skip
      refine mx_J.step (sn_49 10) (fun _ _ => rfl) ?_
      refine mx_J.step (sn_49 11) (fun _ _ => rfl) ?_
      have b135 : 2 ≤ Z 3 0 ∧ Z 3 0 ≤ 4 := hG.pr 3 0
      have b136 : 0 ≤ Z 3 1 ∧ Z 3 1 ≤ 900 := hG.pr 3 1
      have b137 : 0 ≤ Z 3 2 ∧ Z 3 2 ≤ 900 := hG.pr 3 2
      have b138 : 0 ≤ Z 3 3 ∧ Z 3 3 ≤ 900 := hG.pr 3 3
      have b139 : 0 ≤ Z 3 4 ∧ Z 3 4 ≤ 400 := hG.pr 3 4
      have b140 : 0 ≤ Z 3 7 ∧ Z 3 7 ≤ 900 := hG.pr 3 7
      have b141 : 0 ≤ Z 3 14 ∧ Z 3 14 ≤ 4 := hG.pr 3 14
      obtain ⟨z134, Z134, h134, hc134, hx134, hG134, hf134, b134⟩ := ct_51_3_i2 (d := d + 36) (l := l) (D := D) (b0 := b0) (ad := ad) (Hb := Hb) (tau := tau) hx hG  (show Z 3 0 = 2 by omega) (show (Z 3 3 ≤ Z 3 2 ∧ Z 3 2 ≤ Z 3 1 ∧ (Z 3 4 = 0 ∨ Z 3 4 = 3 ∨ Z 3 3 < Z 3 2) ∧ (Z 3 4 = 3 ∨ Z 3 14 = 0)) by omega) (show ¬ Z 3 4 = 0 by omega) (show ¬ Z 3 4 = 3 by omega)
      have b142 : 0 ≤ Z134 3 2 ∧ Z134 3 2 ≤ 900 := hG134.pr 3 2
      have b143 : 0 ≤ Z134 3 3 ∧ Z134 3 3 ≤ 900 := hG134.pr 3 3
      have b144 : 0 ≤ Z134 3 4 ∧ Z134 3 4 ≤ 400 := hG134.pr 3 4
      have eq145 : Z134 3 7 = Z 3 7 := (hf134 3 7 rfl)
      have b146 : 0 ≤ Z 3 7 ∧ Z 3 7 ≤ 900 := hG.pr 3 7
      have eq147 : Z134 3 14 = Z 3 14 := (hf134 3 14 rfl)
      have b148 : 0 ≤ Z 3 14 ∧ Z 3 14 ≤ 4 := hG.pr 3 14
      refine Jcv hx (show mx_Sn _ _ 12 (mx_callv 51 2 7 15) from sn_49 12) a3 s3 hc134 rfl rfl rfl ?_
      refine Jif_eq (show mx_Sn _ _ 15 (mx_if_eq 73 18) from sn_49 15) (by omega) (fun q149 => ?_) (fun q149 => ?_)
      · skip
        have eq150 : Z134 3 0 = Z 3 0 := (hf134 3 0 rfl)
        have b151 : 2 ≤ Z 3 0 ∧ Z 3 0 ≤ 4 := hG.pr 3 0
        have b152 : 0 ≤ Z134 3 2 ∧ Z134 3 2 ≤ 900 := hG134.pr 3 2
        have b153 : 0 ≤ Z134 3 3 ∧ Z134 3 3 ≤ 900 := hG134.pr 3 3
        have b154 : 0 ≤ Z134 3 4 ∧ Z134 3 4 ≤ 400 := hG134.pr 3 4
        have eq155 : Z134 3 7 = Z 3 7 := (hf134 3 7 rfl)
        have b156 : 0 ≤ Z 3 7 ∧ Z 3 7 ≤ 900 := hG.pr 3 7
        have eq157 : Z134 3 14 = Z 3 14 := (hf134 3 14 rfl)
        have b158 : 0 ≤ Z 3 14 ∧ Z 3 14 ≤ 4 := hG.pr 3 14
        have b159 : 0 ≤ Z134 3 3 ∧ Z134 3 3 ≤ 900 := hG134.pr 3 3
        have eq160 : Z134 3 7 = Z 3 7 := (hf134 3 7 rfl)
        have b161 : 0 ≤ Z 3 7 ∧ Z 3 7 ≤ 900 := hG.pr 3 7
        have b162 : 0 ≤ Z134 3 3 ∧ Z134 3 3 ≤ 900 := hG134.pr 3 3
        have b163 : 0 ≤ Z134 3 4 ∧ Z134 3 4 ≤ 400 := hG134.pr 3 4
        exact c73 Z134 h134 (by omega) (by omega) (by omega) hx134 hG134 (fr_tr (M := [(3, 2), (3, 3), (3, 4), (3, 5), (3, 7), (3, 14), (3, 15), (5, (-1))]) fr_rf (hf134) (M1 := []) rfl rfl)
      · skip
        refine mx_J.step (sn_49 18) (fun _ _ => rfl) ?_
        refine mx_J.step (sn_49 19) (fun _ _ => rfl) ?_
        refine JcI (z := 1) (show mx_Sn _ _ 20 (mx_const (.int 1) 21) from sn_49 20) rfl ?_
        refine JiaddE (r := 3) (show mx_Sn _ _ 21 (mx_iadd 22) from sn_49 21) (by decide) ?_
        have eq165 : Z134 3 0 = Z 3 0 := (hf134 3 0 rfl)
        have b166 : 2 ≤ Z 3 0 ∧ Z 3 0 ≤ 4 := hG.pr 3 0
        have eq167 : Z134 3 1 = Z 3 1 := (hf134 3 1 rfl)
        have b168 : 0 ≤ Z 3 1 ∧ Z 3 1 ≤ 900 := hG.pr 3 1
        have b169 : 0 ≤ Z134 3 2 ∧ Z134 3 2 ≤ 900 := hG134.pr 3 2
        have b170 : 0 ≤ Z134 3 3 ∧ Z134 3 3 ≤ 900 := hG134.pr 3 3
        have b171 : 0 ≤ Z134 3 4 ∧ Z134 3 4 ≤ 400 := hG134.pr 3 4
        have eq172 : Z134 3 7 = Z 3 7 := (hf134 3 7 rfl)
        have b173 : 0 ≤ Z 3 7 ∧ Z 3 7 ≤ 900 := hG.pr 3 7
        have eq174 : Z134 3 14 = Z 3 14 := (hf134 3 14 rfl)
        have b175 : 0 ≤ Z 3 14 ∧ Z 3 14 ≤ 4 := hG.pr 3 14
        obtain ⟨Z164, h164, hc164, hx164, hG164, hf164, b164⟩ := ct_49_3_i3 (d := d + 7) (l := l) (D := D) (b0 := b0) (ad := ad) (Hb := Hb) (tau := tau) hx134 hG134  (show Z134 3 0 = 2 by first | omega | (simp only [eq165, eq167, eq172, eq174]; omega)) (show (Z134 3 3 ≤ Z134 3 2 ∧ Z134 3 2 ≤ Z134 3 1 ∧ (Z134 3 4 = 0 ∨ Z134 3 4 = 3 ∨ Z134 3 3 < Z134 3 2) ∧ (Z134 3 4 = 3 ∨ Z134 3 14 = 0)) by first | omega | (simp only [eq165, eq167, eq172, eq174]; omega))
        try rw [eq165] at b164
        try rw [eq167] at b164
        try rw [eq172] at b164
        try rw [eq174] at b164
        have b176 : 0 ≤ Z164 3 2 ∧ Z164 3 2 ≤ 900 := hG164.pr 3 2
        have b177 : 0 ≤ Z164 3 3 ∧ Z164 3 3 ≤ 900 := hG164.pr 3 3
        have b178 : 0 ≤ Z164 3 4 ∧ Z164 3 4 ≤ 400 := hG164.pr 3 4
        have b179 : 0 ≤ Z164 3 7 ∧ Z164 3 7 ≤ 900 := hG164.pr 3 7
        have b180 : 0 ≤ Z164 3 14 ∧ Z164 3 14 ≤ 4 := hG164.pr 3 14
        refine Jcv0 hx134 (show mx_Sn _ _ 22 (mx_callv 49 2 7 25) from sn_49 22) a3 s3 hc164 rfl rfl rfl ?_
        refine mx_J.step (sn_49 25) (fun _ _ => rfl) ?_
        refine JcI (z := 1018) (show mx_Sn _ _ 26 (mx_const (.int 1018) 29) from sn_49 26) rfl ?_
        have b182 : 0 ≤ Z164 3 7 ∧ Z164 3 7 ≤ 900 := hG164.pr 3 7
        obtain ⟨Z181, h181, hc181, hx181, hG181, hf181, b181⟩ := ct_52_3_1010 (d := d + 42) (l := l) (D := D) (b0 := b0) (ad := ad) (Hb := Hb) (tau := tau) hx164 hG164 (show 1010 ≤ 1018 ∧ 1018 ≤ 1019 by omega)
        have b183 : 0 ≤ Z181 3 7 ∧ Z181 3 7 ≤ 900 := hG181.pr 3 7
        refine Jcv0 hx164 (show mx_Sn _ _ 29 (mx_callv 52 2 7 32) from sn_49 29) a3 s3 hc181 rfl rfl rfl ?_
        refine mx_J.step (sn_49 32) (fun _ _ => rfl) ?_
        have eq184 : Z181 3 0 = Z 3 0 := ((hf181 3 0 rfl).trans ((hf164 3 0 rfl).trans (hf134 3 0 rfl)))
        have b185 : 2 ≤ Z 3 0 ∧ Z 3 0 ≤ 4 := hG.pr 3 0
        have eq186 : Z181 3 2 = Z164 3 2 := (hf181 3 2 rfl)
        have b187 : 0 ≤ Z164 3 2 ∧ Z164 3 2 ≤ 900 := hG164.pr 3 2
        have eq188 : Z181 3 3 = Z164 3 3 := (hf181 3 3 rfl)
        have b189 : 0 ≤ Z164 3 3 ∧ Z164 3 3 ≤ 900 := hG164.pr 3 3
        have eq190 : Z181 3 4 = Z164 3 4 := (hf181 3 4 rfl)
        have b191 : 0 ≤ Z164 3 4 ∧ Z164 3 4 ≤ 400 := hG164.pr 3 4
        have b192 : 0 ≤ Z181 3 7 ∧ Z181 3 7 ≤ 900 := hG181.pr 3 7
        have eq193 : Z181 3 14 = Z164 3 14 := (hf181 3 14 rfl)
        have b194 : 0 ≤ Z164 3 14 ∧ Z164 3 14 ≤ 4 := hG164.pr 3 14
        have eq195 : Z181 3 3 = Z164 3 3 := (hf181 3 3 rfl)
        have b196 : 0 ≤ Z164 3 3 ∧ Z164 3 3 ≤ 900 := hG164.pr 3 3
        have b197 : 0 ≤ Z181 3 7 ∧ Z181 3 7 ≤ 900 := hG181.pr 3 7
        have eq198 : Z181 3 3 = Z164 3 3 := (hf181 3 3 rfl)
        have b199 : 0 ≤ Z164 3 3 ∧ Z164 3 3 ≤ 900 := hG164.pr 3 3
        have eq200 : Z181 3 4 = Z164 3 4 := (hf181 3 4 rfl)
        have b201 : 0 ≤ Z164 3 4 ∧ Z164 3 4 ≤ 400 := hG164.pr 3 4
        exact c73 Z181 h181 (by omega) (by omega) (by omega) hx181 hG181 (fr_tr (M := [(3, 2), (3, 3), (3, 4), (3, 5), (3, 7), (3, 14), (3, 15), (5, (-1))]) (fr_tr (M := [(3, 2), (3, 3), (3, 4), (3, 5), (3, 7), (3, 14), (3, 15), (5, (-1))]) (fr_tr (M := [(3, 2), (3, 3), (3, 4), (3, 5), (3, 7), (3, 14), (3, 15), (5, (-1))]) fr_rf (hf134) (M1 := []) rfl rfl) (hf164) rfl rfl) (hf181) rfl rfl)
theorem ct_49_3_i2 {l : Launch} {D : va_G} {b0 : Nat} {ad : Nat → Nat} {Hb : Heap} {tau : Nat → Int64} {d n s : Nat} {S : Nat → xS} {Z : xZ} {h : mx_H} (hx : XH n s S Z h) (hG : GI n S Z)   (k0 : Z 3 0 = 2) (k1 : (Z 3 3 ≤ Z 3 2 ∧ Z 3 2 ≤ Z 3 1 ∧ (Z 3 4 = 0 ∨ Z 3 4 = 3 ∨ Z 3 3 < Z 3 2) ∧ (Z 3 4 = 3 ∨ Z 3 14 = 0))) : ∃ (Z' : xZ) (h' : mx_H), mx_Ca (tB l D b0 ad Hb tau) (d + 44) 49 [.ref 3, xI 2] h (none, h') ∧ XH n s S Z' h' ∧ GI n S Z' ∧ fr' [(3, 2), (3, 3), (3, 4), (3, 5), (3, 7), (3, 14), (3, 15), (5, (-1))] Z Z' ∧ (((Z' 3 3 ≤ Z' 3 2 ∧ Z' 3 2 ≤ Z 3 1 ∧ (Z' 3 4 = 0 ∨ Z' 3 4 = 3 ∨ Z' 3 3 < Z' 3 2) ∧ (Z' 3 4 = 3 ∨ Z' 3 14 = 0)) ∧ Z 3 3 ≤ Z' 3 3 ∧ Z' 3 7 - Z 3 7 ≤ Z' 3 3 - Z 3 3 ∧ (Z' 3 4 = 3 ∨ Z 3 3 + 1 ≤ Z' 3 3) ∧ (Z 3 4 = 3 → Z' 3 4 = 3))) := by
  obtain ⟨r, hca, Z', h', e, q⟩ := Jmt (B := tB l D b0 ad Hb tau) (M := mt_49) (mi := 49) (as := [.ref 3, xI 2]) (d := d + 43) (ls := [some (.ref 3), some (xI 2)]) rfl rfl rfl rfl rfl rfl (cw_49_3_i2 (l := l) (D := D) (b0 := b0) (ad := ad) (Hb := Hb) (tau := tau) (d := d) (Post := fun r => ∃ (Z' : xZ) (h' : mx_H), r = (none, h') ∧ XH n s S Z' h' ∧ GI n S Z' ∧ fr' [(3, 2), (3, 3), (3, 4), (3, 5), (3, 7), (3, 14), (3, 15), (5, (-1))] Z Z' ∧ (((Z' 3 3 ≤ Z' 3 2 ∧ Z' 3 2 ≤ Z 3 1 ∧ (Z' 3 4 = 0 ∨ Z' 3 4 = 3 ∨ Z' 3 3 < Z' 3 2) ∧ (Z' 3 4 = 3 ∨ Z' 3 14 = 0)) ∧ Z 3 3 ≤ Z' 3 3 ∧ Z' 3 7 - Z 3 7 ≤ Z' 3 3 - Z 3 3 ∧ (Z' 3 4 = 3 ∨ Z 3 3 + 1 ≤ Z' 3 3) ∧ (Z 3 4 = 3 → Z' 3 4 = 3)))) hx hG k0 k1 (fun Z' h' q1 q2 q3 q4 => ⟨Z', h', rfl, q1, q2, q3, q4⟩))
  subst e; exact ⟨Z', h', hca, q⟩
set_option maxRecDepth 100000 in
theorem cw_48_3_i2 {l : Launch} {D : va_G} {b0 : Nat} {ad : Nat → Nat} {Hb : Heap} {tau : Nat → Int64} {d n s : Nat} {S : Nat → xS} {Z : xZ} {h : mx_H} {Post : mx_R → Prop} (hx : XH n s S Z h) (hG : GI n S Z)   (k0 : Z 3 0 = 2) (k1 : (Z 3 3 ≤ Z 3 2 ∧ Z 3 2 ≤ Z 3 1 ∧ (Z 3 4 = 0 ∨ Z 3 4 = 3 ∨ Z 3 3 < Z 3 2) ∧ (Z 3 4 = 3 ∨ Z 3 14 = 0))) (hP : ∀ (Z' : xZ) (h' : mx_H), XH n s S Z' h' → GI n S Z' → fr' [(3, 2), (3, 3), (3, 4), (3, 5), (3, 7), (3, 14), (3, 15), (5, (-1))] Z Z' → ((Z' 3 3 ≤ Z' 3 2 ∧ Z' 3 2 ≤ Z 3 1 ∧ (Z' 3 4 = 0 ∨ Z' 3 4 = 3 ∨ Z' 3 3 < Z' 3 2) ∧ (Z' 3 4 = 3 ∨ Z' 3 14 = 0)) ∧ Z 3 3 ≤ Z' 3 3 ∧ Z' 3 7 - Z 3 7 ≤ Z' 3 3 - Z 3 3 ∧ (Z' 3 4 = 3 ∨ Z 3 3 + 1 ≤ Z' 3 3) ∧ (Z 3 4 = 3 → Z' 3 4 = 3)) → Post (none, h')) : mx_J (tB l D b0 ad Hb tau) mt_48 (d + 44) 0 [some (.ref 3), some (xI 2), none] [] h Post := by
    have a3 : 3 < n := lt83 (GI_n hG) rfl
    have s3 : S 3 = .inl (7, [2, 0, 0, 0, 0, 0, 2, 0, 2, 2, 0, 2, 0, 0, 0, 0]) := GI_s hG 3 rfl
    refine mx_J.step (sn_48 0) (fun _ _ => rfl) ?_
    refine mx_J.step (sn_48 1) (fun _ _ => rfl) ?_
    have b2 : 2 ≤ Z 3 0 ∧ Z 3 0 ≤ 4 := hG.pr 3 0
    have b3 : 0 ≤ Z 3 1 ∧ Z 3 1 ≤ 900 := hG.pr 3 1
    have b4 : 0 ≤ Z 3 2 ∧ Z 3 2 ≤ 900 := hG.pr 3 2
    have b5 : 0 ≤ Z 3 3 ∧ Z 3 3 ≤ 900 := hG.pr 3 3
    have b6 : 0 ≤ Z 3 4 ∧ Z 3 4 ≤ 400 := hG.pr 3 4
    have b7 : 0 ≤ Z 3 7 ∧ Z 3 7 ≤ 900 := hG.pr 3 7
    have b8 : 0 ≤ Z 3 14 ∧ Z 3 14 ≤ 4 := hG.pr 3 14
    obtain ⟨Z1, h1, hc1, hx1, hG1, hf1, b1⟩ := ct_49_3_i2 (d := d + 0) (l := l) (D := D) (b0 := b0) (ad := ad) (Hb := Hb) (tau := tau) hx hG  (show Z 3 0 = 2 by omega) (show (Z 3 3 ≤ Z 3 2 ∧ Z 3 2 ≤ Z 3 1 ∧ (Z 3 4 = 0 ∨ Z 3 4 = 3 ∨ Z 3 3 < Z 3 2) ∧ (Z 3 4 = 3 ∨ Z 3 14 = 0)) by omega)
    have b9 : 0 ≤ Z1 3 2 ∧ Z1 3 2 ≤ 900 := hG1.pr 3 2
    have b10 : 0 ≤ Z1 3 3 ∧ Z1 3 3 ≤ 900 := hG1.pr 3 3
    have b11 : 0 ≤ Z1 3 4 ∧ Z1 3 4 ≤ 400 := hG1.pr 3 4
    have b12 : 0 ≤ Z1 3 7 ∧ Z1 3 7 ≤ 900 := hG1.pr 3 7
    have b13 : 0 ≤ Z1 3 14 ∧ Z1 3 14 ≤ 4 := hG1.pr 3 14
    refine Jcv0 hx (show mx_Sn _ _ 2 (mx_callv 49 2 7 5) from sn_48 2) a3 s3 hc1 rfl rfl rfl ?_
    refine JcI (z := 0) (show mx_Sn _ _ 5 (mx_const (.int 0) 6) from sn_48 5) rfl ?_
    refine mx_J.step (ls2 := [some (.ref 3), some (xI 2), some (xI 0)]) (sn_48 6) (fun _ _ => rfl) ?_
    have c7 : ∀ (m14 : Nat) (w14_2 : Int) (Z15 : xZ) (h15 : mx_H), 900 - w14_2 < (m14 : Int) → 0 ≤ w14_2 ∧ w14_2 ≤ 900 → (Z15 3 3 ≤ Z15 3 2 ∧ Z15 3 2 ≤ Z 3 1 ∧ (Z15 3 4 = 0 ∨ Z15 3 4 = 3 ∨ Z15 3 3 < Z15 3 2) ∧ (Z15 3 4 = 3 ∨ Z15 3 14 = 0)) → (Z 3 3 ≤ Z15 3 3 ∧ Z15 3 7 - Z 3 7 ≤ Z15 3 3 - Z 3 3 + 0) → ((Z15 3 4 = 3 ∨ Z 3 3 + 1 ≤ Z15 3 3) ∧ (Z 3 4 = 3 → Z15 3 4 = 3)) → XH n s S Z15 h15 → GI n S Z15 → fr' [(3, 2), (3, 3), (3, 4), (3, 5), (3, 7), (3, 14), (3, 15), (5, (-1))] Z1 Z15 → mx_J (tB l D b0 ad Hb tau) mt_48 (d + 44) 7 [some (.ref 3), some (xI 2), some (xI w14_2)] [] h15 Post := by
      intro m14
      induction m14 with
      | zero => intro w14_2 Z15 h15 q14 f14_0 f14_1 f14_2 f14_3 hx15 hG15 hf15; exact absurd q14 (by omega)
      | succ m14 ih14 =>
        intro w14_2 Z15 h15 q14 f14_0 f14_1 f14_2 f14_3 hx15 hG15 hf15
        have eq16 : Z15 3 0 = Z 3 0 := ((hf15 3 0 rfl).trans (hf1 3 0 rfl))
        have b17 : 2 ≤ Z 3 0 ∧ Z 3 0 ≤ 4 := hG.pr 3 0
        have b18 : 0 ≤ Z15 3 2 ∧ Z15 3 2 ≤ 900 := hG15.pr 3 2
        have b19 : 0 ≤ Z15 3 3 ∧ Z15 3 3 ≤ 900 := hG15.pr 3 3
        have b20 : 0 ≤ Z15 3 4 ∧ Z15 3 4 ≤ 400 := hG15.pr 3 4
        have b21 : 0 ≤ Z15 3 7 ∧ Z15 3 7 ≤ 900 := hG15.pr 3 7
        have b22 : 0 ≤ Z15 3 14 ∧ Z15 3 14 ≤ 4 := hG15.pr 3 14
        have b23 : 0 ≤ Z15 3 3 ∧ Z15 3 3 ≤ 900 := hG15.pr 3 3
        have b24 : 0 ≤ Z15 3 7 ∧ Z15 3 7 ≤ 900 := hG15.pr 3 7
        have b25 : 0 ≤ Z15 3 3 ∧ Z15 3 3 ≤ 900 := hG15.pr 3 3
        have b26 : 0 ≤ Z15 3 4 ∧ Z15 3 4 ≤ 400 := hG15.pr 3 4
        refine mx_J.step (sn_48 7) (fun _ _ => rfl) ?_
        refine mx_J.step (sn_48 8) (fun _ _ => rfl) ?_
        have b28 : 0 ≤ Z 3 1 ∧ Z 3 1 ≤ 900 := hG.pr 3 1
        refine JgetI (g := 1) (z := Z 3 1) hx15 (show mx_Sn _ _ 9 (mx_getf 7 1 12) from sn_48 9) a3 s3 rfl rfl ((hf15 3 1 rfl).trans (hf1 3 1 rfl)) ?_
        have c47 : mx_J (tB l D b0 ad Hb tau) mt_48 (d + 44) 47 [some (.ref 3), some (xI 2), some (xI w14_2)] [] h15 Post := by
          have b30 : 0 ≤ Z15 3 2 ∧ Z15 3 2 ≤ 900 := hG15.pr 3 2
          have b31 : 0 ≤ Z15 3 3 ∧ Z15 3 3 ≤ 900 := hG15.pr 3 3
          have b32 : 0 ≤ Z15 3 4 ∧ Z15 3 4 ≤ 400 := hG15.pr 3 4
          have b33 : 0 ≤ Z15 3 7 ∧ Z15 3 7 ≤ 900 := hG15.pr 3 7
          have b34 : 0 ≤ Z15 3 14 ∧ Z15 3 14 ≤ 4 := hG15.pr 3 14
          have eq35 : Z15 3 0 = Z 3 0 := ((hf15 3 0 rfl).trans (hf1 3 0 rfl))
          have b36 : 2 ≤ Z 3 0 ∧ Z 3 0 ≤ 4 := hG.pr 3 0
          have eq37 : Z15 3 1 = Z 3 1 := ((hf15 3 1 rfl).trans (hf1 3 1 rfl))
          have b38 : 0 ≤ Z 3 1 ∧ Z 3 1 ≤ 900 := hG.pr 3 1
          have b39 : 0 ≤ Z15 3 2 ∧ Z15 3 2 ≤ 900 := hG15.pr 3 2
          have b40 : 0 ≤ Z15 3 3 ∧ Z15 3 3 ≤ 900 := hG15.pr 3 3
          have b41 : 0 ≤ Z15 3 4 ∧ Z15 3 4 ≤ 400 := hG15.pr 3 4
          have b42 : 0 ≤ Z15 3 7 ∧ Z15 3 7 ≤ 900 := hG15.pr 3 7
          have b43 : 0 ≤ Z15 3 14 ∧ Z15 3 14 ≤ 4 := hG15.pr 3 14
          exact mx_J.ret (sn_48 47) (fun _ _ => rfl) (hP Z15 h15 hx15 hG15 (fr_tr (M := [(3, 2), (3, 3), (3, 4), (3, 5), (3, 7), (3, 14), (3, 15), (5, (-1))]) (fr_tr (M := [(3, 2), (3, 3), (3, 4), (3, 5), (3, 7), (3, 14), (3, 15), (5, (-1))]) fr_rf (hf1) (M1 := []) rfl rfl) (hf15) rfl rfl) (by omega))
        refine Jicmp_ge (show mx_Sn _ _ 12 (mx_icmp_ge 47 15) from sn_48 12) (by omega) (by omega) (fun q44 => ?_) (fun q44 => ?_)
        · skip
          exact c47 
        · skip
          refine mx_J.step (sn_48 15) (fun _ _ => rfl) ?_
          have b46 : 0 ≤ Z15 3 4 ∧ Z15 3 4 ≤ 400 := hG15.pr 3 4
          refine JgetI (g := 4) (z := Z15 3 4) hx15 (show mx_Sn _ _ 16 (mx_getf 7 4 19) from sn_48 16) a3 s3 rfl rfl rfl ?_
          refine JcI (z := 314) (show mx_Sn _ _ 19 (mx_const (.int 314) 22) from sn_48 19) rfl ?_
          refine Jicmp_ne (show mx_Sn _ _ 22 (mx_icmp_ne 47 25) from sn_48 22) (by omega) (by omega) (fun q47 => ?_) (fun q47 => ?_)
          · skip
            exact c47 
          · skip
            refine mx_J.step (sn_48 25) (fun _ _ => rfl) ?_
            have eq49 : Z15 3 0 = Z 3 0 := ((hf15 3 0 rfl).trans (hf1 3 0 rfl))
            have b50 : 2 ≤ Z 3 0 ∧ Z 3 0 ≤ 4 := hG.pr 3 0
            have eq51 : Z15 3 1 = Z 3 1 := ((hf15 3 1 rfl).trans (hf1 3 1 rfl))
            have b52 : 0 ≤ Z 3 1 ∧ Z 3 1 ≤ 900 := hG.pr 3 1
            have b53 : 0 ≤ Z15 3 2 ∧ Z15 3 2 ≤ 900 := hG15.pr 3 2
            have b54 : 0 ≤ Z15 3 3 ∧ Z15 3 3 ≤ 900 := hG15.pr 3 3
            have b55 : 0 ≤ Z15 3 4 ∧ Z15 3 4 ≤ 400 := hG15.pr 3 4
            have b56 : 0 ≤ Z15 3 14 ∧ Z15 3 14 ≤ 4 := hG15.pr 3 14
            obtain ⟨Z48, h48, hc48, hx48, hG48, hf48, b48⟩ := ct_56_3 (d := d + 38) (l := l) (D := D) (b0 := b0) (ad := ad) (Hb := Hb) (tau := tau) hx15 hG15  (show Z15 3 0 = 2 by first | omega | (simp only [eq49, eq51]; omega)) (show Z15 3 2 ≤ Z15 3 1 by first | omega | (simp only [eq49, eq51]; omega))
            try rw [eq49] at b48
            try rw [eq51] at b48
            have b57 : 0 ≤ Z48 3 2 ∧ Z48 3 2 ≤ 900 := hG48.pr 3 2
            have b58 : 0 ≤ Z48 3 3 ∧ Z48 3 3 ≤ 900 := hG48.pr 3 3
            have b59 : 0 ≤ Z48 3 4 ∧ Z48 3 4 ≤ 400 := hG48.pr 3 4
            refine Jcv0 hx15 (show mx_Sn _ _ 26 (mx_callv 56 1 7 29) from sn_48 26) a3 s3 hc48 rfl rfl rfl ?_
            refine mx_J.step (sn_48 29) (fun _ _ => rfl) ?_
            refine mx_J.step (sn_48 30) (fun _ _ => rfl) ?_
            have eq61 : Z48 3 0 = Z 3 0 := ((hf48 3 0 rfl).trans ((hf15 3 0 rfl).trans (hf1 3 0 rfl)))
            have b62 : 2 ≤ Z 3 0 ∧ Z 3 0 ≤ 4 := hG.pr 3 0
            have eq63 : Z48 3 1 = Z 3 1 := ((hf48 3 1 rfl).trans ((hf15 3 1 rfl).trans (hf1 3 1 rfl)))
            have b64 : 0 ≤ Z 3 1 ∧ Z 3 1 ≤ 900 := hG.pr 3 1
            have b65 : 0 ≤ Z48 3 2 ∧ Z48 3 2 ≤ 900 := hG48.pr 3 2
            have b66 : 0 ≤ Z48 3 3 ∧ Z48 3 3 ≤ 900 := hG48.pr 3 3
            have b67 : 0 ≤ Z48 3 4 ∧ Z48 3 4 ≤ 400 := hG48.pr 3 4
            have eq68 : Z48 3 7 = Z15 3 7 := (hf48 3 7 rfl)
            have b69 : 0 ≤ Z15 3 7 ∧ Z15 3 7 ≤ 900 := hG15.pr 3 7
            have eq70 : Z48 3 14 = Z15 3 14 := (hf48 3 14 rfl)
            have b71 : 0 ≤ Z15 3 14 ∧ Z15 3 14 ≤ 4 := hG15.pr 3 14
            obtain ⟨Z60, h60, hc60, hx60, hG60, hf60, b60⟩ := ct_49_3_i2 (d := d + 0) (l := l) (D := D) (b0 := b0) (ad := ad) (Hb := Hb) (tau := tau) hx48 hG48  (show Z48 3 0 = 2 by first | omega | (simp only [eq61, eq63, eq68, eq70]; omega)) (show (Z48 3 3 ≤ Z48 3 2 ∧ Z48 3 2 ≤ Z48 3 1 ∧ (Z48 3 4 = 0 ∨ Z48 3 4 = 3 ∨ Z48 3 3 < Z48 3 2) ∧ (Z48 3 4 = 3 ∨ Z48 3 14 = 0)) by first | omega | (simp only [eq61, eq63, eq68, eq70]; omega))
            try rw [eq61] at b60
            try rw [eq63] at b60
            try rw [eq68] at b60
            try rw [eq70] at b60
            have b72 : 0 ≤ Z60 3 2 ∧ Z60 3 2 ≤ 900 := hG60.pr 3 2
            have b73 : 0 ≤ Z60 3 3 ∧ Z60 3 3 ≤ 900 := hG60.pr 3 3
            have b74 : 0 ≤ Z60 3 4 ∧ Z60 3 4 ≤ 400 := hG60.pr 3 4
            have b75 : 0 ≤ Z60 3 7 ∧ Z60 3 7 ≤ 900 := hG60.pr 3 7
            have b76 : 0 ≤ Z60 3 14 ∧ Z60 3 14 ≤ 4 := hG60.pr 3 14
            refine Jcv0 hx48 (show mx_Sn _ _ 31 (mx_callv 49 2 7 34) from sn_48 31) a3 s3 hc60 rfl rfl rfl ?_
            refine mx_J.step (sn_48 34) (fun _ _ => rfl) ?_
            refine JcI (z := 1016) (show mx_Sn _ _ 35 (mx_const (.int 1016) 38) from sn_48 35) rfl ?_
            have b78 : 0 ≤ Z60 3 7 ∧ Z60 3 7 ≤ 900 := hG60.pr 3 7
            obtain ⟨Z77, h77, hc77, hx77, hG77, hf77, b77⟩ := ct_52_3_1010 (d := d + 43) (l := l) (D := D) (b0 := b0) (ad := ad) (Hb := Hb) (tau := tau) hx60 hG60 (show 1010 ≤ 1016 ∧ 1016 ≤ 1019 by omega)
            have b79 : 0 ≤ Z77 3 7 ∧ Z77 3 7 ≤ 900 := hG77.pr 3 7
            refine Jcv0 hx60 (show mx_Sn _ _ 38 (mx_callv 52 2 7 41) from sn_48 38) a3 s3 hc77 rfl rfl rfl ?_
            refine Jiinc (z := w14_2) (cz := 1) (ls2 := [some (.ref 3), some (xI 2), some (xI (w14_2 + 1))]) (show mx_Sn _ _ 41 (mx_iinc 2 1 44) from sn_48 41) rfl rfl rfl rfl ?_
            refine mx_J.step (sn_48 44) (fun _ _ => rfl) ?_
            have eq80 : Z77 3 0 = Z 3 0 := ((hf77 3 0 rfl).trans ((hf60 3 0 rfl).trans ((hf48 3 0 rfl).trans ((hf15 3 0 rfl).trans (hf1 3 0 rfl)))))
            have b81 : 2 ≤ Z 3 0 ∧ Z 3 0 ≤ 4 := hG.pr 3 0
            have eq82 : Z77 3 2 = Z60 3 2 := (hf77 3 2 rfl)
            have b83 : 0 ≤ Z60 3 2 ∧ Z60 3 2 ≤ 900 := hG60.pr 3 2
            have eq84 : Z77 3 3 = Z60 3 3 := (hf77 3 3 rfl)
            have b85 : 0 ≤ Z60 3 3 ∧ Z60 3 3 ≤ 900 := hG60.pr 3 3
            have eq86 : Z77 3 4 = Z60 3 4 := (hf77 3 4 rfl)
            have b87 : 0 ≤ Z60 3 4 ∧ Z60 3 4 ≤ 400 := hG60.pr 3 4
            have b88 : 0 ≤ Z77 3 7 ∧ Z77 3 7 ≤ 900 := hG77.pr 3 7
            have eq89 : Z77 3 14 = Z60 3 14 := (hf77 3 14 rfl)
            have b90 : 0 ≤ Z60 3 14 ∧ Z60 3 14 ≤ 4 := hG60.pr 3 14
            have eq91 : Z77 3 3 = Z60 3 3 := (hf77 3 3 rfl)
            have b92 : 0 ≤ Z60 3 3 ∧ Z60 3 3 ≤ 900 := hG60.pr 3 3
            have b93 : 0 ≤ Z77 3 7 ∧ Z77 3 7 ≤ 900 := hG77.pr 3 7
            have eq94 : Z77 3 3 = Z60 3 3 := (hf77 3 3 rfl)
            have b95 : 0 ≤ Z60 3 3 ∧ Z60 3 3 ≤ 900 := hG60.pr 3 3
            have eq96 : Z77 3 4 = Z60 3 4 := (hf77 3 4 rfl)
            have b97 : 0 ≤ Z60 3 4 ∧ Z60 3 4 ≤ 400 := hG60.pr 3 4
            exact ih14 (w14_2 + 1) Z77 h77 (by omega) (by omega) (by omega) (by omega) (by omega) hx77 hG77 (fr_tr (M := [(3, 2), (3, 3), (3, 4), (3, 5), (3, 7), (3, 14), (3, 15), (5, (-1))]) (fr_tr (M := [(3, 2), (3, 3), (3, 4), (3, 5), (3, 7), (3, 14), (3, 15), (5, (-1))]) (fr_tr (M := [(3, 2), (3, 3), (3, 4), (3, 5), (3, 7), (3, 14), (3, 15), (5, (-1))]) (fr_tr (M := [(3, 2), (3, 3), (3, 4), (3, 5), (3, 7), (3, 14), (3, 15), (5, (-1))]) fr_rf (hf15) (M1 := []) rfl rfl) (hf48) rfl rfl) (hf60) rfl rfl) (hf77) rfl rfl)
    have eq98 : Z1 3 0 = Z 3 0 := (hf1 3 0 rfl)
    have b99 : 2 ≤ Z 3 0 ∧ Z 3 0 ≤ 4 := hG.pr 3 0
    have b100 : 0 ≤ Z1 3 2 ∧ Z1 3 2 ≤ 900 := hG1.pr 3 2
    have b101 : 0 ≤ Z1 3 3 ∧ Z1 3 3 ≤ 900 := hG1.pr 3 3
    have b102 : 0 ≤ Z1 3 4 ∧ Z1 3 4 ≤ 400 := hG1.pr 3 4
    have b103 : 0 ≤ Z1 3 7 ∧ Z1 3 7 ≤ 900 := hG1.pr 3 7
    have b104 : 0 ≤ Z1 3 14 ∧ Z1 3 14 ≤ 4 := hG1.pr 3 14
    have b105 : 0 ≤ Z1 3 3 ∧ Z1 3 3 ≤ 900 := hG1.pr 3 3
    have b106 : 0 ≤ Z1 3 7 ∧ Z1 3 7 ≤ 900 := hG1.pr 3 7
    have b107 : 0 ≤ Z1 3 3 ∧ Z1 3 3 ≤ 900 := hG1.pr 3 3
    have b108 : 0 ≤ Z1 3 4 ∧ Z1 3 4 ≤ 400 := hG1.pr 3 4
    exact c7 (Int.toNat (900 - 0) + 1) 0 Z1 h1 (by omega) (by omega) (by omega) (by omega) (by omega) hx1 hG1 fr_rf
theorem ct_48_3_i2 {l : Launch} {D : va_G} {b0 : Nat} {ad : Nat → Nat} {Hb : Heap} {tau : Nat → Int64} {d n s : Nat} {S : Nat → xS} {Z : xZ} {h : mx_H} (hx : XH n s S Z h) (hG : GI n S Z)   (k0 : Z 3 0 = 2) (k1 : (Z 3 3 ≤ Z 3 2 ∧ Z 3 2 ≤ Z 3 1 ∧ (Z 3 4 = 0 ∨ Z 3 4 = 3 ∨ Z 3 3 < Z 3 2) ∧ (Z 3 4 = 3 ∨ Z 3 14 = 0))) : ∃ (Z' : xZ) (h' : mx_H), mx_Ca (tB l D b0 ad Hb tau) (d + 45) 48 [.ref 3, xI 2] h (none, h') ∧ XH n s S Z' h' ∧ GI n S Z' ∧ fr' [(3, 2), (3, 3), (3, 4), (3, 5), (3, 7), (3, 14), (3, 15), (5, (-1))] Z Z' ∧ (((Z' 3 3 ≤ Z' 3 2 ∧ Z' 3 2 ≤ Z 3 1 ∧ (Z' 3 4 = 0 ∨ Z' 3 4 = 3 ∨ Z' 3 3 < Z' 3 2) ∧ (Z' 3 4 = 3 ∨ Z' 3 14 = 0)) ∧ Z 3 3 ≤ Z' 3 3 ∧ Z' 3 7 - Z 3 7 ≤ Z' 3 3 - Z 3 3 ∧ (Z' 3 4 = 3 ∨ Z 3 3 + 1 ≤ Z' 3 3) ∧ (Z 3 4 = 3 → Z' 3 4 = 3))) := by
  obtain ⟨r, hca, Z', h', e, q⟩ := Jmt (B := tB l D b0 ad Hb tau) (M := mt_48) (mi := 48) (as := [.ref 3, xI 2]) (d := d + 44) (ls := [some (.ref 3), some (xI 2), none]) rfl rfl rfl rfl rfl rfl (cw_48_3_i2 (l := l) (D := D) (b0 := b0) (ad := ad) (Hb := Hb) (tau := tau) (d := d) (Post := fun r => ∃ (Z' : xZ) (h' : mx_H), r = (none, h') ∧ XH n s S Z' h' ∧ GI n S Z' ∧ fr' [(3, 2), (3, 3), (3, 4), (3, 5), (3, 7), (3, 14), (3, 15), (5, (-1))] Z Z' ∧ (((Z' 3 3 ≤ Z' 3 2 ∧ Z' 3 2 ≤ Z 3 1 ∧ (Z' 3 4 = 0 ∨ Z' 3 4 = 3 ∨ Z' 3 3 < Z' 3 2) ∧ (Z' 3 4 = 3 ∨ Z' 3 14 = 0)) ∧ Z 3 3 ≤ Z' 3 3 ∧ Z' 3 7 - Z 3 7 ≤ Z' 3 3 - Z 3 3 ∧ (Z' 3 4 = 3 ∨ Z 3 3 + 1 ≤ Z' 3 3) ∧ (Z 3 4 = 3 → Z' 3 4 = 3)))) hx hG k0 k1 (fun Z' h' q1 q2 q3 q4 => ⟨Z', h', rfl, q1, q2, q3, q4⟩))
  subst e; exact ⟨Z', h', hca, q⟩
set_option maxRecDepth 100000 in
theorem cw_47_3_i2 {l : Launch} {D : va_G} {b0 : Nat} {ad : Nat → Nat} {Hb : Heap} {tau : Nat → Int64} {d n s : Nat} {S : Nat → xS} {Z : xZ} {h : mx_H} {Post : mx_R → Prop} (hx : XH n s S Z h) (hG : GI n S Z)   (k0 : Z 3 0 = 2) (k1 : (Z 3 3 ≤ Z 3 2 ∧ Z 3 2 ≤ Z 3 1 ∧ (Z 3 4 = 0 ∨ Z 3 4 = 3 ∨ Z 3 3 < Z 3 2) ∧ (Z 3 4 = 3 ∨ Z 3 14 = 0))) (hP : ∀ (Z' : xZ) (h' : mx_H), XH n s S Z' h' → GI n S Z' → fr' [(3, 2), (3, 3), (3, 4), (3, 5), (3, 7), (3, 14), (3, 15), (5, (-1))] Z Z' → ((Z' 3 3 ≤ Z' 3 2 ∧ Z' 3 2 ≤ Z 3 1 ∧ (Z' 3 4 = 0 ∨ Z' 3 4 = 3 ∨ Z' 3 3 < Z' 3 2) ∧ (Z' 3 4 = 3 ∨ Z' 3 14 = 0)) ∧ Z 3 3 ≤ Z' 3 3 ∧ Z' 3 7 - Z 3 7 ≤ Z' 3 3 - Z 3 3 ∧ (Z' 3 4 = 3 ∨ Z 3 3 + 1 ≤ Z' 3 3) ∧ (Z 3 4 = 3 → Z' 3 4 = 3)) → Post (none, h')) : mx_J (tB l D b0 ad Hb tau) mt_47 (d + 45) 0 [some (.ref 3), some (xI 2), none] [] h Post := by
    have a3 : 3 < n := lt83 (GI_n hG) rfl
    have s3 : S 3 = .inl (7, [2, 0, 0, 0, 0, 0, 2, 0, 2, 2, 0, 2, 0, 0, 0, 0]) := GI_s hG 3 rfl
    refine mx_J.step (sn_47 0) (fun _ _ => rfl) ?_
    refine mx_J.step (sn_47 1) (fun _ _ => rfl) ?_
    have b2 : 2 ≤ Z 3 0 ∧ Z 3 0 ≤ 4 := hG.pr 3 0
    have b3 : 0 ≤ Z 3 1 ∧ Z 3 1 ≤ 900 := hG.pr 3 1
    have b4 : 0 ≤ Z 3 2 ∧ Z 3 2 ≤ 900 := hG.pr 3 2
    have b5 : 0 ≤ Z 3 3 ∧ Z 3 3 ≤ 900 := hG.pr 3 3
    have b6 : 0 ≤ Z 3 4 ∧ Z 3 4 ≤ 400 := hG.pr 3 4
    have b7 : 0 ≤ Z 3 7 ∧ Z 3 7 ≤ 900 := hG.pr 3 7
    have b8 : 0 ≤ Z 3 14 ∧ Z 3 14 ≤ 4 := hG.pr 3 14
    obtain ⟨Z1, h1, hc1, hx1, hG1, hf1, b1⟩ := ct_48_3_i2 (d := d + 0) (l := l) (D := D) (b0 := b0) (ad := ad) (Hb := Hb) (tau := tau) hx hG  (show Z 3 0 = 2 by omega) (show (Z 3 3 ≤ Z 3 2 ∧ Z 3 2 ≤ Z 3 1 ∧ (Z 3 4 = 0 ∨ Z 3 4 = 3 ∨ Z 3 3 < Z 3 2) ∧ (Z 3 4 = 3 ∨ Z 3 14 = 0)) by omega)
    have b9 : 0 ≤ Z1 3 2 ∧ Z1 3 2 ≤ 900 := hG1.pr 3 2
    have b10 : 0 ≤ Z1 3 3 ∧ Z1 3 3 ≤ 900 := hG1.pr 3 3
    have b11 : 0 ≤ Z1 3 4 ∧ Z1 3 4 ≤ 400 := hG1.pr 3 4
    have b12 : 0 ≤ Z1 3 7 ∧ Z1 3 7 ≤ 900 := hG1.pr 3 7
    have b13 : 0 ≤ Z1 3 14 ∧ Z1 3 14 ≤ 4 := hG1.pr 3 14
    refine Jcv0 hx (show mx_Sn _ _ 2 (mx_callv 48 2 7 5) from sn_47 2) a3 s3 hc1 rfl rfl rfl ?_
    refine JcI (z := 0) (show mx_Sn _ _ 5 (mx_const (.int 0) 6) from sn_47 5) rfl ?_
    refine mx_J.step (ls2 := [some (.ref 3), some (xI 2), some (xI 0)]) (sn_47 6) (fun _ _ => rfl) ?_
    have c7 : ∀ (m14 : Nat) (w14_2 : Int) (Z15 : xZ) (h15 : mx_H), 900 - w14_2 < (m14 : Int) → 0 ≤ w14_2 ∧ w14_2 ≤ 900 → (Z15 3 3 ≤ Z15 3 2 ∧ Z15 3 2 ≤ Z 3 1 ∧ (Z15 3 4 = 0 ∨ Z15 3 4 = 3 ∨ Z15 3 3 < Z15 3 2) ∧ (Z15 3 4 = 3 ∨ Z15 3 14 = 0)) → (Z 3 3 ≤ Z15 3 3 ∧ Z15 3 7 - Z 3 7 ≤ Z15 3 3 - Z 3 3 + 0) → ((Z15 3 4 = 3 ∨ Z 3 3 + 1 ≤ Z15 3 3) ∧ (Z 3 4 = 3 → Z15 3 4 = 3)) → XH n s S Z15 h15 → GI n S Z15 → fr' [(3, 2), (3, 3), (3, 4), (3, 5), (3, 7), (3, 14), (3, 15), (5, (-1))] Z1 Z15 → mx_J (tB l D b0 ad Hb tau) mt_47 (d + 45) 7 [some (.ref 3), some (xI 2), some (xI w14_2)] [] h15 Post := by
      intro m14
      induction m14 with
      | zero => intro w14_2 Z15 h15 q14 f14_0 f14_1 f14_2 f14_3 hx15 hG15 hf15; exact absurd q14 (by omega)
      | succ m14 ih14 =>
        intro w14_2 Z15 h15 q14 f14_0 f14_1 f14_2 f14_3 hx15 hG15 hf15
        have eq16 : Z15 3 0 = Z 3 0 := ((hf15 3 0 rfl).trans (hf1 3 0 rfl))
        have b17 : 2 ≤ Z 3 0 ∧ Z 3 0 ≤ 4 := hG.pr 3 0
        have b18 : 0 ≤ Z15 3 2 ∧ Z15 3 2 ≤ 900 := hG15.pr 3 2
        have b19 : 0 ≤ Z15 3 3 ∧ Z15 3 3 ≤ 900 := hG15.pr 3 3
        have b20 : 0 ≤ Z15 3 4 ∧ Z15 3 4 ≤ 400 := hG15.pr 3 4
        have b21 : 0 ≤ Z15 3 7 ∧ Z15 3 7 ≤ 900 := hG15.pr 3 7
        have b22 : 0 ≤ Z15 3 14 ∧ Z15 3 14 ≤ 4 := hG15.pr 3 14
        have b23 : 0 ≤ Z15 3 3 ∧ Z15 3 3 ≤ 900 := hG15.pr 3 3
        have b24 : 0 ≤ Z15 3 7 ∧ Z15 3 7 ≤ 900 := hG15.pr 3 7
        have b25 : 0 ≤ Z15 3 3 ∧ Z15 3 3 ≤ 900 := hG15.pr 3 3
        have b26 : 0 ≤ Z15 3 4 ∧ Z15 3 4 ≤ 400 := hG15.pr 3 4
        refine mx_J.step (sn_47 7) (fun _ _ => rfl) ?_
        refine mx_J.step (sn_47 8) (fun _ _ => rfl) ?_
        have b28 : 0 ≤ Z 3 1 ∧ Z 3 1 ≤ 900 := hG.pr 3 1
        refine JgetI (g := 1) (z := Z 3 1) hx15 (show mx_Sn _ _ 9 (mx_getf 7 1 12) from sn_47 9) a3 s3 rfl rfl ((hf15 3 1 rfl).trans (hf1 3 1 rfl)) ?_
        have c47 : mx_J (tB l D b0 ad Hb tau) mt_47 (d + 45) 47 [some (.ref 3), some (xI 2), some (xI w14_2)] [] h15 Post := by
          have b30 : 0 ≤ Z15 3 2 ∧ Z15 3 2 ≤ 900 := hG15.pr 3 2
          have b31 : 0 ≤ Z15 3 3 ∧ Z15 3 3 ≤ 900 := hG15.pr 3 3
          have b32 : 0 ≤ Z15 3 4 ∧ Z15 3 4 ≤ 400 := hG15.pr 3 4
          have b33 : 0 ≤ Z15 3 7 ∧ Z15 3 7 ≤ 900 := hG15.pr 3 7
          have b34 : 0 ≤ Z15 3 14 ∧ Z15 3 14 ≤ 4 := hG15.pr 3 14
          have eq35 : Z15 3 0 = Z 3 0 := ((hf15 3 0 rfl).trans (hf1 3 0 rfl))
          have b36 : 2 ≤ Z 3 0 ∧ Z 3 0 ≤ 4 := hG.pr 3 0
          have eq37 : Z15 3 1 = Z 3 1 := ((hf15 3 1 rfl).trans (hf1 3 1 rfl))
          have b38 : 0 ≤ Z 3 1 ∧ Z 3 1 ≤ 900 := hG.pr 3 1
          have b39 : 0 ≤ Z15 3 2 ∧ Z15 3 2 ≤ 900 := hG15.pr 3 2
          have b40 : 0 ≤ Z15 3 3 ∧ Z15 3 3 ≤ 900 := hG15.pr 3 3
          have b41 : 0 ≤ Z15 3 4 ∧ Z15 3 4 ≤ 400 := hG15.pr 3 4
          have b42 : 0 ≤ Z15 3 7 ∧ Z15 3 7 ≤ 900 := hG15.pr 3 7
          have b43 : 0 ≤ Z15 3 14 ∧ Z15 3 14 ≤ 4 := hG15.pr 3 14
          exact mx_J.ret (sn_47 47) (fun _ _ => rfl) (hP Z15 h15 hx15 hG15 (fr_tr (M := [(3, 2), (3, 3), (3, 4), (3, 5), (3, 7), (3, 14), (3, 15), (5, (-1))]) (fr_tr (M := [(3, 2), (3, 3), (3, 4), (3, 5), (3, 7), (3, 14), (3, 15), (5, (-1))]) fr_rf (hf1) (M1 := []) rfl rfl) (hf15) rfl rfl) (by omega))
        refine Jicmp_ge (show mx_Sn _ _ 12 (mx_icmp_ge 47 15) from sn_47 12) (by omega) (by omega) (fun q44 => ?_) (fun q44 => ?_)
        · skip
          exact c47 
        · skip
          refine mx_J.step (sn_47 15) (fun _ _ => rfl) ?_
          have b46 : 0 ≤ Z15 3 4 ∧ Z15 3 4 ≤ 400 := hG15.pr 3 4
          refine JgetI (g := 4) (z := Z15 3 4) hx15 (show mx_Sn _ _ 16 (mx_getf 7 4 19) from sn_47 16) a3 s3 rfl rfl rfl ?_
          refine JcI (z := 313) (show mx_Sn _ _ 19 (mx_const (.int 313) 22) from sn_47 19) rfl ?_
          refine Jicmp_ne (show mx_Sn _ _ 22 (mx_icmp_ne 47 25) from sn_47 22) (by omega) (by omega) (fun q47 => ?_) (fun q47 => ?_)
          · skip
            exact c47 
          · skip
            refine mx_J.step (sn_47 25) (fun _ _ => rfl) ?_
            have eq49 : Z15 3 0 = Z 3 0 := ((hf15 3 0 rfl).trans (hf1 3 0 rfl))
            have b50 : 2 ≤ Z 3 0 ∧ Z 3 0 ≤ 4 := hG.pr 3 0
            have eq51 : Z15 3 1 = Z 3 1 := ((hf15 3 1 rfl).trans (hf1 3 1 rfl))
            have b52 : 0 ≤ Z 3 1 ∧ Z 3 1 ≤ 900 := hG.pr 3 1
            have b53 : 0 ≤ Z15 3 2 ∧ Z15 3 2 ≤ 900 := hG15.pr 3 2
            have b54 : 0 ≤ Z15 3 3 ∧ Z15 3 3 ≤ 900 := hG15.pr 3 3
            have b55 : 0 ≤ Z15 3 4 ∧ Z15 3 4 ≤ 400 := hG15.pr 3 4
            have b56 : 0 ≤ Z15 3 14 ∧ Z15 3 14 ≤ 4 := hG15.pr 3 14
            obtain ⟨Z48, h48, hc48, hx48, hG48, hf48, b48⟩ := ct_56_3 (d := d + 39) (l := l) (D := D) (b0 := b0) (ad := ad) (Hb := Hb) (tau := tau) hx15 hG15  (show Z15 3 0 = 2 by first | omega | (simp only [eq49, eq51]; omega)) (show Z15 3 2 ≤ Z15 3 1 by first | omega | (simp only [eq49, eq51]; omega))
            try rw [eq49] at b48
            try rw [eq51] at b48
            have b57 : 0 ≤ Z48 3 2 ∧ Z48 3 2 ≤ 900 := hG48.pr 3 2
            have b58 : 0 ≤ Z48 3 3 ∧ Z48 3 3 ≤ 900 := hG48.pr 3 3
            have b59 : 0 ≤ Z48 3 4 ∧ Z48 3 4 ≤ 400 := hG48.pr 3 4
            refine Jcv0 hx15 (show mx_Sn _ _ 26 (mx_callv 56 1 7 29) from sn_47 26) a3 s3 hc48 rfl rfl rfl ?_
            refine mx_J.step (sn_47 29) (fun _ _ => rfl) ?_
            refine mx_J.step (sn_47 30) (fun _ _ => rfl) ?_
            have eq61 : Z48 3 0 = Z 3 0 := ((hf48 3 0 rfl).trans ((hf15 3 0 rfl).trans (hf1 3 0 rfl)))
            have b62 : 2 ≤ Z 3 0 ∧ Z 3 0 ≤ 4 := hG.pr 3 0
            have eq63 : Z48 3 1 = Z 3 1 := ((hf48 3 1 rfl).trans ((hf15 3 1 rfl).trans (hf1 3 1 rfl)))
            have b64 : 0 ≤ Z 3 1 ∧ Z 3 1 ≤ 900 := hG.pr 3 1
            have b65 : 0 ≤ Z48 3 2 ∧ Z48 3 2 ≤ 900 := hG48.pr 3 2
            have b66 : 0 ≤ Z48 3 3 ∧ Z48 3 3 ≤ 900 := hG48.pr 3 3
            have b67 : 0 ≤ Z48 3 4 ∧ Z48 3 4 ≤ 400 := hG48.pr 3 4
            have eq68 : Z48 3 7 = Z15 3 7 := (hf48 3 7 rfl)
            have b69 : 0 ≤ Z15 3 7 ∧ Z15 3 7 ≤ 900 := hG15.pr 3 7
            have eq70 : Z48 3 14 = Z15 3 14 := (hf48 3 14 rfl)
            have b71 : 0 ≤ Z15 3 14 ∧ Z15 3 14 ≤ 4 := hG15.pr 3 14
            obtain ⟨Z60, h60, hc60, hx60, hG60, hf60, b60⟩ := ct_48_3_i2 (d := d + 0) (l := l) (D := D) (b0 := b0) (ad := ad) (Hb := Hb) (tau := tau) hx48 hG48  (show Z48 3 0 = 2 by first | omega | (simp only [eq61, eq63, eq68, eq70]; omega)) (show (Z48 3 3 ≤ Z48 3 2 ∧ Z48 3 2 ≤ Z48 3 1 ∧ (Z48 3 4 = 0 ∨ Z48 3 4 = 3 ∨ Z48 3 3 < Z48 3 2) ∧ (Z48 3 4 = 3 ∨ Z48 3 14 = 0)) by first | omega | (simp only [eq61, eq63, eq68, eq70]; omega))
            try rw [eq61] at b60
            try rw [eq63] at b60
            try rw [eq68] at b60
            try rw [eq70] at b60
            have b72 : 0 ≤ Z60 3 2 ∧ Z60 3 2 ≤ 900 := hG60.pr 3 2
            have b73 : 0 ≤ Z60 3 3 ∧ Z60 3 3 ≤ 900 := hG60.pr 3 3
            have b74 : 0 ≤ Z60 3 4 ∧ Z60 3 4 ≤ 400 := hG60.pr 3 4
            have b75 : 0 ≤ Z60 3 7 ∧ Z60 3 7 ≤ 900 := hG60.pr 3 7
            have b76 : 0 ≤ Z60 3 14 ∧ Z60 3 14 ≤ 4 := hG60.pr 3 14
            refine Jcv0 hx48 (show mx_Sn _ _ 31 (mx_callv 48 2 7 34) from sn_47 31) a3 s3 hc60 rfl rfl rfl ?_
            refine mx_J.step (sn_47 34) (fun _ _ => rfl) ?_
            refine JcI (z := 1017) (show mx_Sn _ _ 35 (mx_const (.int 1017) 38) from sn_47 35) rfl ?_
            have b78 : 0 ≤ Z60 3 7 ∧ Z60 3 7 ≤ 900 := hG60.pr 3 7
            obtain ⟨Z77, h77, hc77, hx77, hG77, hf77, b77⟩ := ct_52_3_1010 (d := d + 44) (l := l) (D := D) (b0 := b0) (ad := ad) (Hb := Hb) (tau := tau) hx60 hG60 (show 1010 ≤ 1017 ∧ 1017 ≤ 1019 by omega)
            have b79 : 0 ≤ Z77 3 7 ∧ Z77 3 7 ≤ 900 := hG77.pr 3 7
            refine Jcv0 hx60 (show mx_Sn _ _ 38 (mx_callv 52 2 7 41) from sn_47 38) a3 s3 hc77 rfl rfl rfl ?_
            refine Jiinc (z := w14_2) (cz := 1) (ls2 := [some (.ref 3), some (xI 2), some (xI (w14_2 + 1))]) (show mx_Sn _ _ 41 (mx_iinc 2 1 44) from sn_47 41) rfl rfl rfl rfl ?_
            refine mx_J.step (sn_47 44) (fun _ _ => rfl) ?_
            have eq80 : Z77 3 0 = Z 3 0 := ((hf77 3 0 rfl).trans ((hf60 3 0 rfl).trans ((hf48 3 0 rfl).trans ((hf15 3 0 rfl).trans (hf1 3 0 rfl)))))
            have b81 : 2 ≤ Z 3 0 ∧ Z 3 0 ≤ 4 := hG.pr 3 0
            have eq82 : Z77 3 2 = Z60 3 2 := (hf77 3 2 rfl)
            have b83 : 0 ≤ Z60 3 2 ∧ Z60 3 2 ≤ 900 := hG60.pr 3 2
            have eq84 : Z77 3 3 = Z60 3 3 := (hf77 3 3 rfl)
            have b85 : 0 ≤ Z60 3 3 ∧ Z60 3 3 ≤ 900 := hG60.pr 3 3
            have eq86 : Z77 3 4 = Z60 3 4 := (hf77 3 4 rfl)
            have b87 : 0 ≤ Z60 3 4 ∧ Z60 3 4 ≤ 400 := hG60.pr 3 4
            have b88 : 0 ≤ Z77 3 7 ∧ Z77 3 7 ≤ 900 := hG77.pr 3 7
            have eq89 : Z77 3 14 = Z60 3 14 := (hf77 3 14 rfl)
            have b90 : 0 ≤ Z60 3 14 ∧ Z60 3 14 ≤ 4 := hG60.pr 3 14
            have eq91 : Z77 3 3 = Z60 3 3 := (hf77 3 3 rfl)
            have b92 : 0 ≤ Z60 3 3 ∧ Z60 3 3 ≤ 900 := hG60.pr 3 3
            have b93 : 0 ≤ Z77 3 7 ∧ Z77 3 7 ≤ 900 := hG77.pr 3 7
            have eq94 : Z77 3 3 = Z60 3 3 := (hf77 3 3 rfl)
            have b95 : 0 ≤ Z60 3 3 ∧ Z60 3 3 ≤ 900 := hG60.pr 3 3
            have eq96 : Z77 3 4 = Z60 3 4 := (hf77 3 4 rfl)
            have b97 : 0 ≤ Z60 3 4 ∧ Z60 3 4 ≤ 400 := hG60.pr 3 4
            exact ih14 (w14_2 + 1) Z77 h77 (by omega) (by omega) (by omega) (by omega) (by omega) hx77 hG77 (fr_tr (M := [(3, 2), (3, 3), (3, 4), (3, 5), (3, 7), (3, 14), (3, 15), (5, (-1))]) (fr_tr (M := [(3, 2), (3, 3), (3, 4), (3, 5), (3, 7), (3, 14), (3, 15), (5, (-1))]) (fr_tr (M := [(3, 2), (3, 3), (3, 4), (3, 5), (3, 7), (3, 14), (3, 15), (5, (-1))]) (fr_tr (M := [(3, 2), (3, 3), (3, 4), (3, 5), (3, 7), (3, 14), (3, 15), (5, (-1))]) fr_rf (hf15) (M1 := []) rfl rfl) (hf48) rfl rfl) (hf60) rfl rfl) (hf77) rfl rfl)
    have eq98 : Z1 3 0 = Z 3 0 := (hf1 3 0 rfl)
    have b99 : 2 ≤ Z 3 0 ∧ Z 3 0 ≤ 4 := hG.pr 3 0
    have b100 : 0 ≤ Z1 3 2 ∧ Z1 3 2 ≤ 900 := hG1.pr 3 2
    have b101 : 0 ≤ Z1 3 3 ∧ Z1 3 3 ≤ 900 := hG1.pr 3 3
    have b102 : 0 ≤ Z1 3 4 ∧ Z1 3 4 ≤ 400 := hG1.pr 3 4
    have b103 : 0 ≤ Z1 3 7 ∧ Z1 3 7 ≤ 900 := hG1.pr 3 7
    have b104 : 0 ≤ Z1 3 14 ∧ Z1 3 14 ≤ 4 := hG1.pr 3 14
    have b105 : 0 ≤ Z1 3 3 ∧ Z1 3 3 ≤ 900 := hG1.pr 3 3
    have b106 : 0 ≤ Z1 3 7 ∧ Z1 3 7 ≤ 900 := hG1.pr 3 7
    have b107 : 0 ≤ Z1 3 3 ∧ Z1 3 3 ≤ 900 := hG1.pr 3 3
    have b108 : 0 ≤ Z1 3 4 ∧ Z1 3 4 ≤ 400 := hG1.pr 3 4
    exact c7 (Int.toNat (900 - 0) + 1) 0 Z1 h1 (by omega) (by omega) (by omega) (by omega) (by omega) hx1 hG1 fr_rf
theorem ct_47_3_i2 {l : Launch} {D : va_G} {b0 : Nat} {ad : Nat → Nat} {Hb : Heap} {tau : Nat → Int64} {d n s : Nat} {S : Nat → xS} {Z : xZ} {h : mx_H} (hx : XH n s S Z h) (hG : GI n S Z)   (k0 : Z 3 0 = 2) (k1 : (Z 3 3 ≤ Z 3 2 ∧ Z 3 2 ≤ Z 3 1 ∧ (Z 3 4 = 0 ∨ Z 3 4 = 3 ∨ Z 3 3 < Z 3 2) ∧ (Z 3 4 = 3 ∨ Z 3 14 = 0))) : ∃ (Z' : xZ) (h' : mx_H), mx_Ca (tB l D b0 ad Hb tau) (d + 46) 47 [.ref 3, xI 2] h (none, h') ∧ XH n s S Z' h' ∧ GI n S Z' ∧ fr' [(3, 2), (3, 3), (3, 4), (3, 5), (3, 7), (3, 14), (3, 15), (5, (-1))] Z Z' ∧ (((Z' 3 3 ≤ Z' 3 2 ∧ Z' 3 2 ≤ Z 3 1 ∧ (Z' 3 4 = 0 ∨ Z' 3 4 = 3 ∨ Z' 3 3 < Z' 3 2) ∧ (Z' 3 4 = 3 ∨ Z' 3 14 = 0)) ∧ Z 3 3 ≤ Z' 3 3 ∧ Z' 3 7 - Z 3 7 ≤ Z' 3 3 - Z 3 3 ∧ (Z' 3 4 = 3 ∨ Z 3 3 + 1 ≤ Z' 3 3) ∧ (Z 3 4 = 3 → Z' 3 4 = 3))) := by
  obtain ⟨r, hca, Z', h', e, q⟩ := Jmt (B := tB l D b0 ad Hb tau) (M := mt_47) (mi := 47) (as := [.ref 3, xI 2]) (d := d + 45) (ls := [some (.ref 3), some (xI 2), none]) rfl rfl rfl rfl rfl rfl (cw_47_3_i2 (l := l) (D := D) (b0 := b0) (ad := ad) (Hb := Hb) (tau := tau) (d := d) (Post := fun r => ∃ (Z' : xZ) (h' : mx_H), r = (none, h') ∧ XH n s S Z' h' ∧ GI n S Z' ∧ fr' [(3, 2), (3, 3), (3, 4), (3, 5), (3, 7), (3, 14), (3, 15), (5, (-1))] Z Z' ∧ (((Z' 3 3 ≤ Z' 3 2 ∧ Z' 3 2 ≤ Z 3 1 ∧ (Z' 3 4 = 0 ∨ Z' 3 4 = 3 ∨ Z' 3 3 < Z' 3 2) ∧ (Z' 3 4 = 3 ∨ Z' 3 14 = 0)) ∧ Z 3 3 ≤ Z' 3 3 ∧ Z' 3 7 - Z 3 7 ≤ Z' 3 3 - Z 3 3 ∧ (Z' 3 4 = 3 ∨ Z 3 3 + 1 ≤ Z' 3 3) ∧ (Z 3 4 = 3 → Z' 3 4 = 3)))) hx hG k0 k1 (fun Z' h' q1 q2 q3 q4 => ⟨Z', h', rfl, q1, q2, q3, q4⟩))
  subst e; exact ⟨Z', h', hca, q⟩
set_option maxRecDepth 100000 in
theorem cw_46_3_i2 {l : Launch} {D : va_G} {b0 : Nat} {ad : Nat → Nat} {Hb : Heap} {tau : Nat → Int64} {d n s : Nat} {S : Nat → xS} {Z : xZ} {h : mx_H} {Post : mx_R → Prop} (hx : XH n s S Z h) (hG : GI n S Z)   (k0 : Z 3 0 = 2) (k1 : (Z 3 3 ≤ Z 3 2 ∧ Z 3 2 ≤ Z 3 1 ∧ (Z 3 4 = 0 ∨ Z 3 4 = 3 ∨ Z 3 3 < Z 3 2) ∧ (Z 3 4 = 3 ∨ Z 3 14 = 0))) (hP : ∀ (Z' : xZ) (h' : mx_H), XH n s S Z' h' → GI n S Z' → fr' [(3, 2), (3, 3), (3, 4), (3, 5), (3, 7), (3, 14), (3, 15), (5, (-1))] Z Z' → ((Z' 3 3 ≤ Z' 3 2 ∧ Z' 3 2 ≤ Z 3 1 ∧ (Z' 3 4 = 0 ∨ Z' 3 4 = 3 ∨ Z' 3 3 < Z' 3 2) ∧ (Z' 3 4 = 3 ∨ Z' 3 14 = 0)) ∧ Z 3 3 ≤ Z' 3 3 ∧ Z' 3 7 - Z 3 7 ≤ Z' 3 3 - Z 3 3 + 1 ∧ (Z 3 4 = 3 → Z' 3 4 = 3)) → Post (none, h')) : mx_J (tB l D b0 ad Hb tau) mt_46 (d + 46) 0 [some (.ref 3), some (xI 2)] [] h Post := by
    have a3 : 3 < n := lt83 (GI_n hG) rfl
    have s3 : S 3 = .inl (7, [2, 0, 0, 0, 0, 0, 2, 0, 2, 2, 0, 2, 0, 0, 0, 0]) := GI_s hG 3 rfl
    refine mx_J.step (sn_46 0) (fun _ _ => rfl) ?_
    refine mx_J.step (sn_46 1) (fun _ _ => rfl) ?_
    have b2 : 2 ≤ Z 3 0 ∧ Z 3 0 ≤ 4 := hG.pr 3 0
    have b3 : 0 ≤ Z 3 1 ∧ Z 3 1 ≤ 900 := hG.pr 3 1
    have b4 : 0 ≤ Z 3 2 ∧ Z 3 2 ≤ 900 := hG.pr 3 2
    have b5 : 0 ≤ Z 3 3 ∧ Z 3 3 ≤ 900 := hG.pr 3 3
    have b6 : 0 ≤ Z 3 4 ∧ Z 3 4 ≤ 400 := hG.pr 3 4
    have b7 : 0 ≤ Z 3 7 ∧ Z 3 7 ≤ 900 := hG.pr 3 7
    have b8 : 0 ≤ Z 3 14 ∧ Z 3 14 ≤ 4 := hG.pr 3 14
    obtain ⟨Z1, h1, hc1, hx1, hG1, hf1, b1⟩ := ct_47_3_i2 (d := d + 0) (l := l) (D := D) (b0 := b0) (ad := ad) (Hb := Hb) (tau := tau) hx hG  (show Z 3 0 = 2 by omega) (show (Z 3 3 ≤ Z 3 2 ∧ Z 3 2 ≤ Z 3 1 ∧ (Z 3 4 = 0 ∨ Z 3 4 = 3 ∨ Z 3 3 < Z 3 2) ∧ (Z 3 4 = 3 ∨ Z 3 14 = 0)) by omega)
    have b9 : 0 ≤ Z1 3 2 ∧ Z1 3 2 ≤ 900 := hG1.pr 3 2
    have b10 : 0 ≤ Z1 3 3 ∧ Z1 3 3 ≤ 900 := hG1.pr 3 3
    have b11 : 0 ≤ Z1 3 4 ∧ Z1 3 4 ≤ 400 := hG1.pr 3 4
    have b12 : 0 ≤ Z1 3 7 ∧ Z1 3 7 ≤ 900 := hG1.pr 3 7
    have b13 : 0 ≤ Z1 3 14 ∧ Z1 3 14 ≤ 4 := hG1.pr 3 14
    refine Jcv0 hx (show mx_Sn _ _ 2 (mx_callv 47 2 7 5) from sn_46 2) a3 s3 hc1 rfl rfl rfl ?_
    refine mx_J.step (sn_46 5) (fun _ _ => rfl) ?_
    refine JcI (z := 306) (show mx_Sn _ _ 6 (mx_const (.int 306) 9) from sn_46 6) rfl ?_
    have eq15 : Z1 3 0 = Z 3 0 := (hf1 3 0 rfl)
    have b16 : 2 ≤ Z 3 0 ∧ Z 3 0 ≤ 4 := hG.pr 3 0
    have eq17 : Z1 3 1 = Z 3 1 := (hf1 3 1 rfl)
    have b18 : 0 ≤ Z 3 1 ∧ Z 3 1 ≤ 900 := hG.pr 3 1
    have b19 : 0 ≤ Z1 3 2 ∧ Z1 3 2 ≤ 900 := hG1.pr 3 2
    have b20 : 0 ≤ Z1 3 3 ∧ Z1 3 3 ≤ 900 := hG1.pr 3 3
    have b21 : 0 ≤ Z1 3 4 ∧ Z1 3 4 ≤ 400 := hG1.pr 3 4
    have b22 : 0 ≤ Z1 3 7 ∧ Z1 3 7 ≤ 900 := hG1.pr 3 7
    have b23 : 0 ≤ Z1 3 14 ∧ Z1 3 14 ≤ 4 := hG1.pr 3 14
    obtain ⟨Z14, h14, hc14, hx14, hG14, hf14, b14⟩ := ct_53_3 (d := d + 39) (l := l) (D := D) (b0 := b0) (ad := ad) (Hb := Hb) (tau := tau) hx1 hG1 (show 40 ≤ 306 ∧ 306 ≤ 320 by omega) (show Z1 3 0 = 2 by first | omega | (simp only [eq15, eq17]; omega)) (show (Z1 3 3 ≤ Z1 3 2 ∧ Z1 3 2 ≤ Z1 3 1 ∧ (Z1 3 4 = 0 ∨ Z1 3 4 = 3 ∨ Z1 3 3 < Z1 3 2) ∧ (Z1 3 4 = 3 ∨ Z1 3 14 = 0)) by first | omega | (simp only [eq15, eq17]; omega))
    try rw [eq15] at b14
    try rw [eq17] at b14
    have b24 : 0 ≤ Z14 3 2 ∧ Z14 3 2 ≤ 900 := hG14.pr 3 2
    have b25 : 0 ≤ Z14 3 3 ∧ Z14 3 3 ≤ 900 := hG14.pr 3 3
    have b26 : 0 ≤ Z14 3 4 ∧ Z14 3 4 ≤ 400 := hG14.pr 3 4
    have eq27 : Z14 3 7 = Z1 3 7 := (hf14 3 7 rfl)
    have b28 : 0 ≤ Z1 3 7 ∧ Z1 3 7 ≤ 900 := hG1.pr 3 7
    have b29 : 0 ≤ Z14 3 14 ∧ Z14 3 14 ≤ 4 := hG14.pr 3 14
    refine Jcv0 hx1 (show mx_Sn _ _ 9 (mx_callv 53 2 7 12) from sn_46 9) a3 s3 hc14 rfl rfl rfl ?_
    refine mx_J.step (sn_46 12) (fun _ _ => rfl) ?_
    refine mx_J.step (sn_46 13) (fun _ _ => rfl) ?_
    have eq31 : Z14 3 0 = Z 3 0 := ((hf14 3 0 rfl).trans (hf1 3 0 rfl))
    have b32 : 2 ≤ Z 3 0 ∧ Z 3 0 ≤ 4 := hG.pr 3 0
    have eq33 : Z14 3 1 = Z 3 1 := ((hf14 3 1 rfl).trans (hf1 3 1 rfl))
    have b34 : 0 ≤ Z 3 1 ∧ Z 3 1 ≤ 900 := hG.pr 3 1
    have b35 : 0 ≤ Z14 3 2 ∧ Z14 3 2 ≤ 900 := hG14.pr 3 2
    have b36 : 0 ≤ Z14 3 3 ∧ Z14 3 3 ≤ 900 := hG14.pr 3 3
    have b37 : 0 ≤ Z14 3 4 ∧ Z14 3 4 ≤ 400 := hG14.pr 3 4
    have eq38 : Z14 3 7 = Z1 3 7 := (hf14 3 7 rfl)
    have b39 : 0 ≤ Z1 3 7 ∧ Z1 3 7 ≤ 900 := hG1.pr 3 7
    have b40 : 0 ≤ Z14 3 14 ∧ Z14 3 14 ≤ 4 := hG14.pr 3 14
    obtain ⟨Z30, h30, hc30, hx30, hG30, hf30, b30⟩ := ct_42_3_i2 (d := d + 4) (l := l) (D := D) (b0 := b0) (ad := ad) (Hb := Hb) (tau := tau) hx14 hG14  (show Z14 3 0 = 2 by first | omega | (simp only [eq31, eq33, eq38]; omega)) (show (Z14 3 3 ≤ Z14 3 2 ∧ Z14 3 2 ≤ Z14 3 1 ∧ (Z14 3 4 = 0 ∨ Z14 3 4 = 3 ∨ Z14 3 3 < Z14 3 2) ∧ (Z14 3 4 = 3 ∨ Z14 3 14 = 0)) by first | omega | (simp only [eq31, eq33, eq38]; omega))
    try rw [eq31] at b30
    try rw [eq33] at b30
    try rw [eq38] at b30
    have b41 : 0 ≤ Z30 3 2 ∧ Z30 3 2 ≤ 900 := hG30.pr 3 2
    have b42 : 0 ≤ Z30 3 3 ∧ Z30 3 3 ≤ 900 := hG30.pr 3 3
    have b43 : 0 ≤ Z30 3 4 ∧ Z30 3 4 ≤ 400 := hG30.pr 3 4
    have b44 : 0 ≤ Z30 3 7 ∧ Z30 3 7 ≤ 900 := hG30.pr 3 7
    have b45 : 0 ≤ Z30 3 14 ∧ Z30 3 14 ≤ 4 := hG30.pr 3 14
    refine Jcv0 hx14 (show mx_Sn _ _ 14 (mx_callv 42 2 7 17) from sn_46 14) a3 s3 hc30 rfl rfl rfl ?_
    refine mx_J.step (sn_46 17) (fun _ _ => rfl) ?_
    refine JcI (z := 307) (show mx_Sn _ _ 18 (mx_const (.int 307) 21) from sn_46 18) rfl ?_
    have eq47 : Z30 3 0 = Z 3 0 := ((hf30 3 0 rfl).trans ((hf14 3 0 rfl).trans (hf1 3 0 rfl)))
    have b48 : 2 ≤ Z 3 0 ∧ Z 3 0 ≤ 4 := hG.pr 3 0
    have eq49 : Z30 3 1 = Z 3 1 := ((hf30 3 1 rfl).trans ((hf14 3 1 rfl).trans (hf1 3 1 rfl)))
    have b50 : 0 ≤ Z 3 1 ∧ Z 3 1 ≤ 900 := hG.pr 3 1
    have b51 : 0 ≤ Z30 3 2 ∧ Z30 3 2 ≤ 900 := hG30.pr 3 2
    have b52 : 0 ≤ Z30 3 3 ∧ Z30 3 3 ≤ 900 := hG30.pr 3 3
    have b53 : 0 ≤ Z30 3 4 ∧ Z30 3 4 ≤ 400 := hG30.pr 3 4
    have b54 : 0 ≤ Z30 3 7 ∧ Z30 3 7 ≤ 900 := hG30.pr 3 7
    have b55 : 0 ≤ Z30 3 14 ∧ Z30 3 14 ≤ 4 := hG30.pr 3 14
    obtain ⟨Z46, h46, hc46, hx46, hG46, hf46, b46⟩ := ct_53_3 (d := d + 39) (l := l) (D := D) (b0 := b0) (ad := ad) (Hb := Hb) (tau := tau) hx30 hG30 (show 40 ≤ 307 ∧ 307 ≤ 320 by omega) (show Z30 3 0 = 2 by first | omega | (simp only [eq47, eq49]; omega)) (show (Z30 3 3 ≤ Z30 3 2 ∧ Z30 3 2 ≤ Z30 3 1 ∧ (Z30 3 4 = 0 ∨ Z30 3 4 = 3 ∨ Z30 3 3 < Z30 3 2) ∧ (Z30 3 4 = 3 ∨ Z30 3 14 = 0)) by first | omega | (simp only [eq47, eq49]; omega))
    try rw [eq47] at b46
    try rw [eq49] at b46
    have b56 : 0 ≤ Z46 3 2 ∧ Z46 3 2 ≤ 900 := hG46.pr 3 2
    have b57 : 0 ≤ Z46 3 3 ∧ Z46 3 3 ≤ 900 := hG46.pr 3 3
    have b58 : 0 ≤ Z46 3 4 ∧ Z46 3 4 ≤ 400 := hG46.pr 3 4
    have eq59 : Z46 3 7 = Z30 3 7 := (hf46 3 7 rfl)
    have b60 : 0 ≤ Z30 3 7 ∧ Z30 3 7 ≤ 900 := hG30.pr 3 7
    have b61 : 0 ≤ Z46 3 14 ∧ Z46 3 14 ≤ 4 := hG46.pr 3 14
    refine Jcv0 hx30 (show mx_Sn _ _ 21 (mx_callv 53 2 7 24) from sn_46 21) a3 s3 hc46 rfl rfl rfl ?_
    refine mx_J.step (sn_46 24) (fun _ _ => rfl) ?_
    refine mx_J.step (sn_46 25) (fun _ _ => rfl) ?_
    have eq63 : Z46 3 0 = Z 3 0 := ((hf46 3 0 rfl).trans ((hf30 3 0 rfl).trans ((hf14 3 0 rfl).trans (hf1 3 0 rfl))))
    have b64 : 2 ≤ Z 3 0 ∧ Z 3 0 ≤ 4 := hG.pr 3 0
    have eq65 : Z46 3 1 = Z 3 1 := ((hf46 3 1 rfl).trans ((hf30 3 1 rfl).trans ((hf14 3 1 rfl).trans (hf1 3 1 rfl))))
    have b66 : 0 ≤ Z 3 1 ∧ Z 3 1 ≤ 900 := hG.pr 3 1
    have b67 : 0 ≤ Z46 3 2 ∧ Z46 3 2 ≤ 900 := hG46.pr 3 2
    have b68 : 0 ≤ Z46 3 3 ∧ Z46 3 3 ≤ 900 := hG46.pr 3 3
    have b69 : 0 ≤ Z46 3 4 ∧ Z46 3 4 ≤ 400 := hG46.pr 3 4
    have eq70 : Z46 3 7 = Z30 3 7 := (hf46 3 7 rfl)
    have b71 : 0 ≤ Z30 3 7 ∧ Z30 3 7 ≤ 900 := hG30.pr 3 7
    have b72 : 0 ≤ Z46 3 14 ∧ Z46 3 14 ≤ 4 := hG46.pr 3 14
    obtain ⟨Z62, h62, hc62, hx62, hG62, hf62, b62⟩ := ct_42_3_i2 (d := d + 4) (l := l) (D := D) (b0 := b0) (ad := ad) (Hb := Hb) (tau := tau) hx46 hG46  (show Z46 3 0 = 2 by first | omega | (simp only [eq63, eq65, eq70]; omega)) (show (Z46 3 3 ≤ Z46 3 2 ∧ Z46 3 2 ≤ Z46 3 1 ∧ (Z46 3 4 = 0 ∨ Z46 3 4 = 3 ∨ Z46 3 3 < Z46 3 2) ∧ (Z46 3 4 = 3 ∨ Z46 3 14 = 0)) by first | omega | (simp only [eq63, eq65, eq70]; omega))
    try rw [eq63] at b62
    try rw [eq65] at b62
    try rw [eq70] at b62
    have b73 : 0 ≤ Z62 3 2 ∧ Z62 3 2 ≤ 900 := hG62.pr 3 2
    have b74 : 0 ≤ Z62 3 3 ∧ Z62 3 3 ≤ 900 := hG62.pr 3 3
    have b75 : 0 ≤ Z62 3 4 ∧ Z62 3 4 ≤ 400 := hG62.pr 3 4
    have b76 : 0 ≤ Z62 3 7 ∧ Z62 3 7 ≤ 900 := hG62.pr 3 7
    have b77 : 0 ≤ Z62 3 14 ∧ Z62 3 14 ≤ 4 := hG62.pr 3 14
    refine Jcv0 hx46 (show mx_Sn _ _ 26 (mx_callv 42 2 7 29) from sn_46 26) a3 s3 hc62 rfl rfl rfl ?_
    refine mx_J.step (sn_46 29) (fun _ _ => rfl) ?_
    refine JcI (z := 308) (show mx_Sn _ _ 30 (mx_const (.int 308) 33) from sn_46 30) rfl ?_
    have eq79 : Z62 3 0 = Z 3 0 := ((hf62 3 0 rfl).trans ((hf46 3 0 rfl).trans ((hf30 3 0 rfl).trans ((hf14 3 0 rfl).trans (hf1 3 0 rfl)))))
    have b80 : 2 ≤ Z 3 0 ∧ Z 3 0 ≤ 4 := hG.pr 3 0
    have eq81 : Z62 3 1 = Z 3 1 := ((hf62 3 1 rfl).trans ((hf46 3 1 rfl).trans ((hf30 3 1 rfl).trans ((hf14 3 1 rfl).trans (hf1 3 1 rfl)))))
    have b82 : 0 ≤ Z 3 1 ∧ Z 3 1 ≤ 900 := hG.pr 3 1
    have b83 : 0 ≤ Z62 3 2 ∧ Z62 3 2 ≤ 900 := hG62.pr 3 2
    have b84 : 0 ≤ Z62 3 3 ∧ Z62 3 3 ≤ 900 := hG62.pr 3 3
    have b85 : 0 ≤ Z62 3 4 ∧ Z62 3 4 ≤ 400 := hG62.pr 3 4
    have b86 : 0 ≤ Z62 3 7 ∧ Z62 3 7 ≤ 900 := hG62.pr 3 7
    have b87 : 0 ≤ Z62 3 14 ∧ Z62 3 14 ≤ 4 := hG62.pr 3 14
    obtain ⟨Z78, h78, hc78, hx78, hG78, hf78, b78⟩ := ct_53_3 (d := d + 39) (l := l) (D := D) (b0 := b0) (ad := ad) (Hb := Hb) (tau := tau) hx62 hG62 (show 40 ≤ 308 ∧ 308 ≤ 320 by omega) (show Z62 3 0 = 2 by first | omega | (simp only [eq79, eq81]; omega)) (show (Z62 3 3 ≤ Z62 3 2 ∧ Z62 3 2 ≤ Z62 3 1 ∧ (Z62 3 4 = 0 ∨ Z62 3 4 = 3 ∨ Z62 3 3 < Z62 3 2) ∧ (Z62 3 4 = 3 ∨ Z62 3 14 = 0)) by first | omega | (simp only [eq79, eq81]; omega))
    try rw [eq79] at b78
    try rw [eq81] at b78
    have b88 : 0 ≤ Z78 3 2 ∧ Z78 3 2 ≤ 900 := hG78.pr 3 2
    have b89 : 0 ≤ Z78 3 3 ∧ Z78 3 3 ≤ 900 := hG78.pr 3 3
    have b90 : 0 ≤ Z78 3 4 ∧ Z78 3 4 ≤ 400 := hG78.pr 3 4
    have eq91 : Z78 3 7 = Z62 3 7 := (hf78 3 7 rfl)
    have b92 : 0 ≤ Z62 3 7 ∧ Z62 3 7 ≤ 900 := hG62.pr 3 7
    have b93 : 0 ≤ Z78 3 14 ∧ Z78 3 14 ≤ 4 := hG78.pr 3 14
    refine Jcv0 hx62 (show mx_Sn _ _ 33 (mx_callv 53 2 7 36) from sn_46 33) a3 s3 hc78 rfl rfl rfl ?_
    refine mx_J.step (sn_46 36) (fun _ _ => rfl) ?_
    refine JcI (z := 1019) (show mx_Sn _ _ 37 (mx_const (.int 1019) 40) from sn_46 37) rfl ?_
    have eq95 : Z78 3 7 = Z62 3 7 := (hf78 3 7 rfl)
    have b96 : 0 ≤ Z62 3 7 ∧ Z62 3 7 ≤ 900 := hG62.pr 3 7
    obtain ⟨Z94, h94, hc94, hx94, hG94, hf94, b94⟩ := ct_52_3_1010 (d := d + 45) (l := l) (D := D) (b0 := b0) (ad := ad) (Hb := Hb) (tau := tau) hx78 hG78 (show 1010 ≤ 1019 ∧ 1019 ≤ 1019 by omega)
    try rw [eq95] at b94
    have b97 : 0 ≤ Z94 3 7 ∧ Z94 3 7 ≤ 900 := hG94.pr 3 7
    refine Jcv0 hx78 (show mx_Sn _ _ 40 (mx_callv 52 2 7 43) from sn_46 40) a3 s3 hc94 rfl rfl rfl ?_
    have eq98 : Z94 3 2 = Z78 3 2 := (hf94 3 2 rfl)
    have b99 : 0 ≤ Z78 3 2 ∧ Z78 3 2 ≤ 900 := hG78.pr 3 2
    have eq100 : Z94 3 3 = Z78 3 3 := (hf94 3 3 rfl)
    have b101 : 0 ≤ Z78 3 3 ∧ Z78 3 3 ≤ 900 := hG78.pr 3 3
    have eq102 : Z94 3 4 = Z78 3 4 := (hf94 3 4 rfl)
    have b103 : 0 ≤ Z78 3 4 ∧ Z78 3 4 ≤ 400 := hG78.pr 3 4
    have b104 : 0 ≤ Z94 3 7 ∧ Z94 3 7 ≤ 900 := hG94.pr 3 7
    have eq105 : Z94 3 14 = Z78 3 14 := (hf94 3 14 rfl)
    have b106 : 0 ≤ Z78 3 14 ∧ Z78 3 14 ≤ 4 := hG78.pr 3 14
    have eq107 : Z94 3 0 = Z 3 0 := ((hf94 3 0 rfl).trans ((hf78 3 0 rfl).trans ((hf62 3 0 rfl).trans ((hf46 3 0 rfl).trans ((hf30 3 0 rfl).trans ((hf14 3 0 rfl).trans (hf1 3 0 rfl)))))))
    have b108 : 2 ≤ Z 3 0 ∧ Z 3 0 ≤ 4 := hG.pr 3 0
    have eq109 : Z94 3 1 = Z 3 1 := ((hf94 3 1 rfl).trans ((hf78 3 1 rfl).trans ((hf62 3 1 rfl).trans ((hf46 3 1 rfl).trans ((hf30 3 1 rfl).trans ((hf14 3 1 rfl).trans (hf1 3 1 rfl)))))))
    have b110 : 0 ≤ Z 3 1 ∧ Z 3 1 ≤ 900 := hG.pr 3 1
    have eq111 : Z94 3 2 = Z78 3 2 := (hf94 3 2 rfl)
    have b112 : 0 ≤ Z78 3 2 ∧ Z78 3 2 ≤ 900 := hG78.pr 3 2
    have eq113 : Z94 3 3 = Z78 3 3 := (hf94 3 3 rfl)
    have b114 : 0 ≤ Z78 3 3 ∧ Z78 3 3 ≤ 900 := hG78.pr 3 3
    have eq115 : Z94 3 4 = Z78 3 4 := (hf94 3 4 rfl)
    have b116 : 0 ≤ Z78 3 4 ∧ Z78 3 4 ≤ 400 := hG78.pr 3 4
    have b117 : 0 ≤ Z94 3 7 ∧ Z94 3 7 ≤ 900 := hG94.pr 3 7
    have eq118 : Z94 3 14 = Z78 3 14 := (hf94 3 14 rfl)
    have b119 : 0 ≤ Z78 3 14 ∧ Z78 3 14 ≤ 4 := hG78.pr 3 14
    exact mx_J.ret (sn_46 43) (fun _ _ => rfl) (hP Z94 h94 hx94 hG94 (fr_tr (M := [(3, 2), (3, 3), (3, 4), (3, 5), (3, 7), (3, 14), (3, 15), (5, (-1))]) (fr_tr (M := [(3, 2), (3, 3), (3, 4), (3, 5), (3, 7), (3, 14), (3, 15), (5, (-1))]) (fr_tr (M := [(3, 2), (3, 3), (3, 4), (3, 5), (3, 7), (3, 14), (3, 15), (5, (-1))]) (fr_tr (M := [(3, 2), (3, 3), (3, 4), (3, 5), (3, 7), (3, 14), (3, 15), (5, (-1))]) (fr_tr (M := [(3, 2), (3, 3), (3, 4), (3, 5), (3, 7), (3, 14), (3, 15), (5, (-1))]) (fr_tr (M := [(3, 2), (3, 3), (3, 4), (3, 5), (3, 7), (3, 14), (3, 15), (5, (-1))]) (fr_tr (M := [(3, 2), (3, 3), (3, 4), (3, 5), (3, 7), (3, 14), (3, 15), (5, (-1))]) fr_rf (hf1) (M1 := []) rfl rfl) (hf14) rfl rfl) (hf30) rfl rfl) (hf46) rfl rfl) (hf62) rfl rfl) (hf78) rfl rfl) (hf94) rfl rfl) (by omega))
theorem ct_46_3_i2 {l : Launch} {D : va_G} {b0 : Nat} {ad : Nat → Nat} {Hb : Heap} {tau : Nat → Int64} {d n s : Nat} {S : Nat → xS} {Z : xZ} {h : mx_H} (hx : XH n s S Z h) (hG : GI n S Z)   (k0 : Z 3 0 = 2) (k1 : (Z 3 3 ≤ Z 3 2 ∧ Z 3 2 ≤ Z 3 1 ∧ (Z 3 4 = 0 ∨ Z 3 4 = 3 ∨ Z 3 3 < Z 3 2) ∧ (Z 3 4 = 3 ∨ Z 3 14 = 0))) : ∃ (Z' : xZ) (h' : mx_H), mx_Ca (tB l D b0 ad Hb tau) (d + 47) 46 [.ref 3, xI 2] h (none, h') ∧ XH n s S Z' h' ∧ GI n S Z' ∧ fr' [(3, 2), (3, 3), (3, 4), (3, 5), (3, 7), (3, 14), (3, 15), (5, (-1))] Z Z' ∧ (((Z' 3 3 ≤ Z' 3 2 ∧ Z' 3 2 ≤ Z 3 1 ∧ (Z' 3 4 = 0 ∨ Z' 3 4 = 3 ∨ Z' 3 3 < Z' 3 2) ∧ (Z' 3 4 = 3 ∨ Z' 3 14 = 0)) ∧ Z 3 3 ≤ Z' 3 3 ∧ Z' 3 7 - Z 3 7 ≤ Z' 3 3 - Z 3 3 + 1 ∧ (Z 3 4 = 3 → Z' 3 4 = 3))) := by
  obtain ⟨r, hca, Z', h', e, q⟩ := Jmt (B := tB l D b0 ad Hb tau) (M := mt_46) (mi := 46) (as := [.ref 3, xI 2]) (d := d + 46) (ls := [some (.ref 3), some (xI 2)]) rfl rfl rfl rfl rfl rfl (cw_46_3_i2 (l := l) (D := D) (b0 := b0) (ad := ad) (Hb := Hb) (tau := tau) (d := d) (Post := fun r => ∃ (Z' : xZ) (h' : mx_H), r = (none, h') ∧ XH n s S Z' h' ∧ GI n S Z' ∧ fr' [(3, 2), (3, 3), (3, 4), (3, 5), (3, 7), (3, 14), (3, 15), (5, (-1))] Z Z' ∧ (((Z' 3 3 ≤ Z' 3 2 ∧ Z' 3 2 ≤ Z 3 1 ∧ (Z' 3 4 = 0 ∨ Z' 3 4 = 3 ∨ Z' 3 3 < Z' 3 2) ∧ (Z' 3 4 = 3 ∨ Z' 3 14 = 0)) ∧ Z 3 3 ≤ Z' 3 3 ∧ Z' 3 7 - Z 3 7 ≤ Z' 3 3 - Z 3 3 + 1 ∧ (Z 3 4 = 3 → Z' 3 4 = 3)))) hx hG k0 k1 (fun Z' h' q1 q2 q3 q4 => ⟨Z', h', rfl, q1, q2, q3, q4⟩))
  subst e; exact ⟨Z', h', hca, q⟩
