set_option maxRecDepth 100000 in
theorem cw_49_3_s {l : Launch} {D : va_G} {b0 : Nat} {ad : Nat → Nat} {Hb : Heap} {tau : Nat → Int64} {d n s : Nat} {S : Nat → xS} {Z : xZ} {h : mx_H} {Post : mx_R → Prop} (hx : XH n s S Z h) (hG : GI n S Z)  {x0 : Int} (p0 : 0 ≤ x0 ∧ x0 ≤ 6) (k0 : Z 3 0 = 2) (k1 : (Z 3 3 ≤ Z 3 2 ∧ Z 3 2 ≤ Z 3 1 ∧ (Z 3 4 = 0 ∨ Z 3 4 = 3 ∨ Z 3 3 < Z 3 2) ∧ (Z 3 4 = 3 ∨ Z 3 14 = 0))) {kk : Nat} (IH : RBch l D b0 ad Hb tau kk x0) (hd : kk ≤ d) (hP : ∀ (Z' : xZ) (h' : mx_H), XH n s S Z' h' → GI n S Z' → fr' [(3, 2), (3, 3), (3, 4), (3, 5), (3, 7), (3, 14), (3, 15), (5, (-1))] Z Z' → ((Z' 3 3 ≤ Z' 3 2 ∧ Z' 3 2 ≤ Z 3 1 ∧ (Z' 3 4 = 0 ∨ Z' 3 4 = 3 ∨ Z' 3 3 < Z' 3 2) ∧ (Z' 3 4 = 3 ∨ Z' 3 14 = 0)) ∧ Z 3 3 ≤ Z' 3 3 ∧ Z' 3 7 - Z 3 7 ≤ Z' 3 3 - Z 3 3 ∧ (Z' 3 4 = 3 ∨ Z 3 3 + 1 ≤ Z' 3 3) ∧ (Z 3 4 = 3 → Z' 3 4 = 3)) → Post (none, h')) : mx_J (tB l D b0 ad Hb tau) mt_49 (d + 11) 0 [some (.ref 3), some (xI x0)] [] h Post := by
    have a3 : 3 < n := lt83 (GI_n hG) rfl
    have s3 : S 3 = .inl (7, [2, 0, 0, 0, 0, 0, 2, 0, 2, 2, 0, 2, 0, 0, 0, 0]) := GI_s hG 3 rfl
    refine mx_J.step (sn_49 0) (fun _ _ => rfl) ?_
    have b2 : 0 ≤ Z 3 4 ∧ Z 3 4 ≤ 400 := hG.pr 3 4
    refine JgetI (g := 4) (z := Z 3 4) hx (show mx_Sn _ _ 1 (mx_getf 7 4 4) from sn_49 1) a3 s3 rfl rfl rfl ?_
    refine JcI (z := 315) (show mx_Sn _ _ 4 (mx_const (.int 315) 7) from sn_49 4) rfl ?_
    have c73 : ∀  (Z4 : xZ) (h4 : mx_H), (Z4 3 3 ≤ Z4 3 2 ∧ Z4 3 2 ≤ Z 3 1 ∧ (Z4 3 4 = 0 ∨ Z4 3 4 = 3 ∨ Z4 3 3 < Z4 3 2) ∧ (Z4 3 4 = 3 ∨ Z4 3 14 = 0)) → (Z 3 3 ≤ Z4 3 3 ∧ Z4 3 7 - Z 3 7 ≤ Z4 3 3 - Z 3 3 + 0) → ((Z4 3 4 = 3 ∨ Z 3 3 + 1 ≤ Z4 3 3) ∧ (Z 3 4 = 3 → Z4 3 4 = 3)) → XH n s S Z4 h4 → GI n S Z4 → fr' [(3, 2), (3, 3), (3, 4), (3, 5), (3, 7), (3, 14), (3, 15), (5, (-1))] Z Z4 → mx_J (tB l D b0 ad Hb tau) mt_49 (d + 11) 73 [some (.ref 3), some (xI x0)] [] h4 Post := by
      intro Z4 h4 f3_0 f3_1 f3_2 hx4 hG4 hf4
      have eq5 : Z4 3 0 = Z 3 0 := (hf4 3 0 rfl)
      have b6 : 2 ≤ Z 3 0 ∧ Z 3 0 ≤ 4 := hG.pr 3 0
      have b7 : 0 ≤ Z4 3 2 ∧ Z4 3 2 ≤ 900 := hG4.pr 3 2
      have b8 : 0 ≤ Z4 3 3 ∧ Z4 3 3 ≤ 900 := hG4.pr 3 3
      have b9 : 0 ≤ Z4 3 4 ∧ Z4 3 4 ≤ 400 := hG4.pr 3 4
      have b10 : 0 ≤ Z4 3 7 ∧ Z4 3 7 ≤ 900 := hG4.pr 3 7
      have b11 : 0 ≤ Z4 3 14 ∧ Z4 3 14 ≤ 4 := hG4.pr 3 14
      have b12 : 0 ≤ Z4 3 3 ∧ Z4 3 3 ≤ 900 := hG4.pr 3 3
      have b13 : 0 ≤ Z4 3 7 ∧ Z4 3 7 ≤ 900 := hG4.pr 3 7
      have b14 : 0 ≤ Z4 3 3 ∧ Z4 3 3 ≤ 900 := hG4.pr 3 3
      have b15 : 0 ≤ Z4 3 4 ∧ Z4 3 4 ≤ 400 := hG4.pr 3 4
      have b16 : 0 ≤ Z4 3 2 ∧ Z4 3 2 ≤ 900 := hG4.pr 3 2
      have b17 : 0 ≤ Z4 3 3 ∧ Z4 3 3 ≤ 900 := hG4.pr 3 3
      have b18 : 0 ≤ Z4 3 4 ∧ Z4 3 4 ≤ 400 := hG4.pr 3 4
      have b19 : 0 ≤ Z4 3 7 ∧ Z4 3 7 ≤ 900 := hG4.pr 3 7
      have b20 : 0 ≤ Z4 3 14 ∧ Z4 3 14 ≤ 4 := hG4.pr 3 14
      have eq21 : Z4 3 0 = Z 3 0 := (hf4 3 0 rfl)
      have b22 : 2 ≤ Z 3 0 ∧ Z 3 0 ≤ 4 := hG.pr 3 0
      have eq23 : Z4 3 1 = Z 3 1 := (hf4 3 1 rfl)
      have b24 : 0 ≤ Z 3 1 ∧ Z 3 1 ≤ 900 := hG.pr 3 1
      have b25 : 0 ≤ Z4 3 2 ∧ Z4 3 2 ≤ 900 := hG4.pr 3 2
      have b26 : 0 ≤ Z4 3 3 ∧ Z4 3 3 ≤ 900 := hG4.pr 3 3
      have b27 : 0 ≤ Z4 3 4 ∧ Z4 3 4 ≤ 400 := hG4.pr 3 4
      have b28 : 0 ≤ Z4 3 7 ∧ Z4 3 7 ≤ 900 := hG4.pr 3 7
      have b29 : 0 ≤ Z4 3 14 ∧ Z4 3 14 ≤ 4 := hG4.pr 3 14
      exact mx_J.ret (sn_49 73) (fun _ _ => rfl) (hP Z4 h4 hx4 hG4 (fr_tr (M := [(3, 2), (3, 3), (3, 4), (3, 5), (3, 7), (3, 14), (3, 15), (5, (-1))]) fr_rf (hf4) (M1 := []) rfl rfl) (by omega))
    refine Jicmp_ne (show mx_Sn _ _ 7 (mx_icmp_ne 35 10) from sn_49 7) (by omega) (by omega) (fun q30 => ?_) (fun q30 => ?_)
    · skip
      refine mx_J.step (sn_49 35) (fun _ _ => rfl) ?_
      have b32 : 0 ≤ Z 3 4 ∧ Z 3 4 ≤ 400 := hG.pr 3 4
      refine JgetI (g := 4) (z := Z 3 4) hx (show mx_Sn _ _ 36 (mx_getf 7 4 39) from sn_49 36) a3 s3 rfl rfl rfl ?_
      refine JcI (z := 91) (show mx_Sn _ _ 39 (mx_const (.int 91) 41) from sn_49 39) rfl ?_
      refine Jicmp_ne (show mx_Sn _ _ 41 (mx_icmp_ne 68 44) from sn_49 41) (by omega) (by omega) (fun q33 => ?_) (fun q33 => ?_)
      · skip
        refine mx_J.step (sn_49 68) (fun _ _ => rfl) ?_
        refine mx_J.step (sn_49 69) (fun _ _ => rfl) ?_
        have b35 : 2 ≤ Z 3 0 ∧ Z 3 0 ≤ 4 := hG.pr 3 0
        have b36 : 0 ≤ Z 3 1 ∧ Z 3 1 ≤ 900 := hG.pr 3 1
        have b37 : 0 ≤ Z 3 2 ∧ Z 3 2 ≤ 900 := hG.pr 3 2
        have b38 : 0 ≤ Z 3 3 ∧ Z 3 3 ≤ 900 := hG.pr 3 3
        have b39 : 0 ≤ Z 3 4 ∧ Z 3 4 ≤ 400 := hG.pr 3 4
        have b40 : 0 ≤ Z 3 7 ∧ Z 3 7 ≤ 900 := hG.pr 3 7
        have b41 : 0 ≤ Z 3 14 ∧ Z 3 14 ≤ 4 := hG.pr 3 14
        obtain ⟨Z34, h34, hc34, hx34, hG34, hf34, b34⟩ := ct_50_3_s (d := d + 0) (l := l) (D := D) (b0 := b0) (ad := ad) (Hb := Hb) (tau := tau) hx hG (show 0 ≤ x0 ∧ x0 ≤ 6 by omega) (show Z 3 0 = 2 by omega) (show (Z 3 3 ≤ Z 3 2 ∧ Z 3 2 ≤ Z 3 1 ∧ (Z 3 4 = 0 ∨ Z 3 4 = 3 ∨ Z 3 3 < Z 3 2) ∧ (Z 3 4 = 3 ∨ Z 3 14 = 0)) by omega) IH (by omega)
        have b42 : 0 ≤ Z34 3 2 ∧ Z34 3 2 ≤ 900 := hG34.pr 3 2
        have b43 : 0 ≤ Z34 3 3 ∧ Z34 3 3 ≤ 900 := hG34.pr 3 3
        have b44 : 0 ≤ Z34 3 4 ∧ Z34 3 4 ≤ 400 := hG34.pr 3 4
        have b45 : 0 ≤ Z34 3 7 ∧ Z34 3 7 ≤ 900 := hG34.pr 3 7
        have b46 : 0 ≤ Z34 3 14 ∧ Z34 3 14 ≤ 4 := hG34.pr 3 14
        refine Jcv0 hx (show mx_Sn _ _ 70 (mx_callv 50 2 7 73) from sn_49 70) a3 s3 hc34 rfl rfl rfl ?_
        have eq47 : Z34 3 0 = Z 3 0 := (hf34 3 0 rfl)
        have b48 : 2 ≤ Z 3 0 ∧ Z 3 0 ≤ 4 := hG.pr 3 0
        have b49 : 0 ≤ Z34 3 2 ∧ Z34 3 2 ≤ 900 := hG34.pr 3 2
        have b50 : 0 ≤ Z34 3 3 ∧ Z34 3 3 ≤ 900 := hG34.pr 3 3
        have b51 : 0 ≤ Z34 3 4 ∧ Z34 3 4 ≤ 400 := hG34.pr 3 4
        have b52 : 0 ≤ Z34 3 7 ∧ Z34 3 7 ≤ 900 := hG34.pr 3 7
        have b53 : 0 ≤ Z34 3 14 ∧ Z34 3 14 ≤ 4 := hG34.pr 3 14
        have b54 : 0 ≤ Z34 3 3 ∧ Z34 3 3 ≤ 900 := hG34.pr 3 3
        have b55 : 0 ≤ Z34 3 7 ∧ Z34 3 7 ≤ 900 := hG34.pr 3 7
        have b56 : 0 ≤ Z34 3 3 ∧ Z34 3 3 ≤ 900 := hG34.pr 3 3
        have b57 : 0 ≤ Z34 3 4 ∧ Z34 3 4 ≤ 400 := hG34.pr 3 4
        exact c73 Z34 h34 (by omega) (by omega) (by omega) hx34 hG34 (fr_tr (M := [(3, 2), (3, 3), (3, 4), (3, 5), (3, 7), (3, 14), (3, 15), (5, (-1))]) fr_rf (hf34) (M1 := []) rfl rfl)
      · skip
        refine mx_J.step (sn_49 44) (fun _ _ => rfl) ?_
        refine mx_J.step (sn_49 45) (fun _ _ => rfl) ?_
        have b59 : 2 ≤ Z 3 0 ∧ Z 3 0 ≤ 4 := hG.pr 3 0
        have b60 : 0 ≤ Z 3 1 ∧ Z 3 1 ≤ 900 := hG.pr 3 1
        have b61 : 0 ≤ Z 3 2 ∧ Z 3 2 ≤ 900 := hG.pr 3 2
        have b62 : 0 ≤ Z 3 3 ∧ Z 3 3 ≤ 900 := hG.pr 3 3
        have b63 : 0 ≤ Z 3 4 ∧ Z 3 4 ≤ 400 := hG.pr 3 4
        have b64 : 0 ≤ Z 3 7 ∧ Z 3 7 ≤ 900 := hG.pr 3 7
        have b65 : 0 ≤ Z 3 14 ∧ Z 3 14 ≤ 4 := hG.pr 3 14
        obtain ⟨z58, Z58, h58, hc58, hx58, hG58, hf58, b58⟩ := ct_51_3 (d := d + 4) (l := l) (D := D) (b0 := b0) (ad := ad) (Hb := Hb) (tau := tau) hx hG (show 0 ≤ x0 ∧ x0 ≤ 6 by omega) (show Z 3 0 = 2 by omega) (show (Z 3 3 ≤ Z 3 2 ∧ Z 3 2 ≤ Z 3 1 ∧ (Z 3 4 = 0 ∨ Z 3 4 = 3 ∨ Z 3 3 < Z 3 2) ∧ (Z 3 4 = 3 ∨ Z 3 14 = 0)) by omega) (show ¬ Z 3 4 = 0 by omega) (show ¬ Z 3 4 = 3 by omega)
        have b66 : 0 ≤ Z58 3 2 ∧ Z58 3 2 ≤ 900 := hG58.pr 3 2
        have b67 : 0 ≤ Z58 3 3 ∧ Z58 3 3 ≤ 900 := hG58.pr 3 3
        have b68 : 0 ≤ Z58 3 4 ∧ Z58 3 4 ≤ 400 := hG58.pr 3 4
        have eq69 : Z58 3 7 = Z 3 7 := (hf58 3 7 rfl)
        have b70 : 0 ≤ Z 3 7 ∧ Z 3 7 ≤ 900 := hG.pr 3 7
        have b71 : 0 ≤ Z58 3 14 ∧ Z58 3 14 ≤ 4 := hG58.pr 3 14
        refine Jcv hx (show mx_Sn _ _ 46 (mx_callv 51 2 7 49) from sn_49 46) a3 s3 hc58 rfl rfl rfl ?_
        refine Jif_eq (show mx_Sn _ _ 49 (mx_if_eq 73 52) from sn_49 49) (by omega) (fun q72 => ?_) (fun q72 => ?_)
        · skip
          have eq73 : Z58 3 0 = Z 3 0 := (hf58 3 0 rfl)
          have b74 : 2 ≤ Z 3 0 ∧ Z 3 0 ≤ 4 := hG.pr 3 0
          have b75 : 0 ≤ Z58 3 2 ∧ Z58 3 2 ≤ 900 := hG58.pr 3 2
          have b76 : 0 ≤ Z58 3 3 ∧ Z58 3 3 ≤ 900 := hG58.pr 3 3
          have b77 : 0 ≤ Z58 3 4 ∧ Z58 3 4 ≤ 400 := hG58.pr 3 4
          have eq78 : Z58 3 7 = Z 3 7 := (hf58 3 7 rfl)
          have b79 : 0 ≤ Z 3 7 ∧ Z 3 7 ≤ 900 := hG.pr 3 7
          have b80 : 0 ≤ Z58 3 14 ∧ Z58 3 14 ≤ 4 := hG58.pr 3 14
          have b81 : 0 ≤ Z58 3 3 ∧ Z58 3 3 ≤ 900 := hG58.pr 3 3
          have eq82 : Z58 3 7 = Z 3 7 := (hf58 3 7 rfl)
          have b83 : 0 ≤ Z 3 7 ∧ Z 3 7 ≤ 900 := hG.pr 3 7
          have b84 : 0 ≤ Z58 3 3 ∧ Z58 3 3 ≤ 900 := hG58.pr 3 3
          have b85 : 0 ≤ Z58 3 4 ∧ Z58 3 4 ≤ 400 := hG58.pr 3 4
          exact c73 Z58 h58 (by omega) (by omega) (by omega) hx58 hG58 (fr_tr (M := [(3, 2), (3, 3), (3, 4), (3, 5), (3, 7), (3, 14), (3, 15), (5, (-1))]) fr_rf (hf58) (M1 := []) rfl rfl)
        · skip
          refine mx_J.step (sn_49 52) (fun _ _ => rfl) ?_
          refine mx_J.step (sn_49 53) (fun _ _ => rfl) ?_
          refine JcI (z := 1) (show mx_Sn _ _ 54 (mx_const (.int 1) 55) from sn_49 54) rfl ?_
          refine Jiadd (show mx_Sn _ _ 55 (mx_iadd 56) from sn_49 55) ?_
          have eq87 : Z58 3 0 = Z 3 0 := (hf58 3 0 rfl)
          have b88 : 2 ≤ Z 3 0 ∧ Z 3 0 ≤ 4 := hG.pr 3 0
          have eq89 : Z58 3 1 = Z 3 1 := (hf58 3 1 rfl)
          have b90 : 0 ≤ Z 3 1 ∧ Z 3 1 ≤ 900 := hG.pr 3 1
          have b91 : 0 ≤ Z58 3 2 ∧ Z58 3 2 ≤ 900 := hG58.pr 3 2
          have b92 : 0 ≤ Z58 3 3 ∧ Z58 3 3 ≤ 900 := hG58.pr 3 3
          have b93 : 0 ≤ Z58 3 4 ∧ Z58 3 4 ≤ 400 := hG58.pr 3 4
          have eq94 : Z58 3 7 = Z 3 7 := (hf58 3 7 rfl)
          have b95 : 0 ≤ Z 3 7 ∧ Z 3 7 ≤ 900 := hG.pr 3 7
          have b96 : 0 ≤ Z58 3 14 ∧ Z58 3 14 ≤ 4 := hG58.pr 3 14
          obtain ⟨Z86, h86, hc86, hx86, hG86, hf86, b86⟩ := ri_47 IH (by omega) (hd := by omega) (d := d + 11) (l := l) (D := D) (b0 := b0) (ad := ad) (Hb := Hb) (tau := tau) hx58 hG58 (show 1 ≤ x0 + 1 ∧ x0 + 1 ≤ 6 by omega) (show Z58 3 0 = 2 by first | omega | (simp only [eq87, eq89, eq94]; omega)) (show (Z58 3 3 ≤ Z58 3 2 ∧ Z58 3 2 ≤ Z58 3 1 ∧ (Z58 3 4 = 0 ∨ Z58 3 4 = 3 ∨ Z58 3 3 < Z58 3 2) ∧ (Z58 3 4 = 3 ∨ Z58 3 14 = 0)) by first | omega | (simp only [eq87, eq89, eq94]; omega))
          try rw [eq87] at b86
          try rw [eq89] at b86
          try rw [eq94] at b86
          have b97 : 0 ≤ Z86 3 2 ∧ Z86 3 2 ≤ 900 := hG86.pr 3 2
          have b98 : 0 ≤ Z86 3 3 ∧ Z86 3 3 ≤ 900 := hG86.pr 3 3
          have b99 : 0 ≤ Z86 3 4 ∧ Z86 3 4 ≤ 400 := hG86.pr 3 4
          have b100 : 0 ≤ Z86 3 7 ∧ Z86 3 7 ≤ 900 := hG86.pr 3 7
          have b101 : 0 ≤ Z86 3 14 ∧ Z86 3 14 ≤ 4 := hG86.pr 3 14
          refine Jcv0 hx58 (show mx_Sn _ _ 56 (mx_callv 47 2 7 59) from sn_49 56) a3 s3 hc86 rfl rfl rfl ?_
          refine mx_J.step (sn_49 59) (fun _ _ => rfl) ?_
          refine JcI (z := 93) (show mx_Sn _ _ 60 (mx_const (.int 93) 62) from sn_49 60) rfl ?_
          have eq103 : Z86 3 0 = Z 3 0 := ((hf86 3 0 rfl).trans (hf58 3 0 rfl))
          have b104 : 2 ≤ Z 3 0 ∧ Z 3 0 ≤ 4 := hG.pr 3 0
          have eq105 : Z86 3 1 = Z 3 1 := ((hf86 3 1 rfl).trans (hf58 3 1 rfl))
          have b106 : 0 ≤ Z 3 1 ∧ Z 3 1 ≤ 900 := hG.pr 3 1
          have b107 : 0 ≤ Z86 3 2 ∧ Z86 3 2 ≤ 900 := hG86.pr 3 2
          have b108 : 0 ≤ Z86 3 3 ∧ Z86 3 3 ≤ 900 := hG86.pr 3 3
          have b109 : 0 ≤ Z86 3 4 ∧ Z86 3 4 ≤ 400 := hG86.pr 3 4
          have b110 : 0 ≤ Z86 3 7 ∧ Z86 3 7 ≤ 900 := hG86.pr 3 7
          have b111 : 0 ≤ Z86 3 14 ∧ Z86 3 14 ≤ 4 := hG86.pr 3 14
          obtain ⟨Z102, h102, hc102, hx102, hG102, hf102, b102⟩ := ct_53_3 (d := d + 4) (l := l) (D := D) (b0 := b0) (ad := ad) (Hb := Hb) (tau := tau) hx86 hG86 (show 40 ≤ 93 ∧ 93 ≤ 320 by omega) (show Z86 3 0 = 2 by first | omega | (simp only [eq103, eq105]; omega)) (show (Z86 3 3 ≤ Z86 3 2 ∧ Z86 3 2 ≤ Z86 3 1 ∧ (Z86 3 4 = 0 ∨ Z86 3 4 = 3 ∨ Z86 3 3 < Z86 3 2) ∧ (Z86 3 4 = 3 ∨ Z86 3 14 = 0)) by first | omega | (simp only [eq103, eq105]; omega))
          try rw [eq103] at b102
          try rw [eq105] at b102
          have b112 : 0 ≤ Z102 3 2 ∧ Z102 3 2 ≤ 900 := hG102.pr 3 2
          have b113 : 0 ≤ Z102 3 3 ∧ Z102 3 3 ≤ 900 := hG102.pr 3 3
          have b114 : 0 ≤ Z102 3 4 ∧ Z102 3 4 ≤ 400 := hG102.pr 3 4
          have eq115 : Z102 3 7 = Z86 3 7 := (hf102 3 7 rfl)
          have b116 : 0 ≤ Z86 3 7 ∧ Z86 3 7 ≤ 900 := hG86.pr 3 7
          have b117 : 0 ≤ Z102 3 14 ∧ Z102 3 14 ≤ 4 := hG102.pr 3 14
          refine Jcv0 hx86 (show mx_Sn _ _ 62 (mx_callv 53 2 7 65) from sn_49 62) a3 s3 hc102 rfl rfl rfl ?_
          refine mx_J.step (sn_49 65) (fun _ _ => rfl) ?_
          have eq118 : Z102 3 0 = Z 3 0 := ((hf102 3 0 rfl).trans ((hf86 3 0 rfl).trans (hf58 3 0 rfl)))
          have b119 : 2 ≤ Z 3 0 ∧ Z 3 0 ≤ 4 := hG.pr 3 0
          have b120 : 0 ≤ Z102 3 2 ∧ Z102 3 2 ≤ 900 := hG102.pr 3 2
          have b121 : 0 ≤ Z102 3 3 ∧ Z102 3 3 ≤ 900 := hG102.pr 3 3
          have b122 : 0 ≤ Z102 3 4 ∧ Z102 3 4 ≤ 400 := hG102.pr 3 4
          have eq123 : Z102 3 7 = Z86 3 7 := (hf102 3 7 rfl)
          have b124 : 0 ≤ Z86 3 7 ∧ Z86 3 7 ≤ 900 := hG86.pr 3 7
          have b125 : 0 ≤ Z102 3 14 ∧ Z102 3 14 ≤ 4 := hG102.pr 3 14
          have b126 : 0 ≤ Z102 3 3 ∧ Z102 3 3 ≤ 900 := hG102.pr 3 3
          have eq127 : Z102 3 7 = Z86 3 7 := (hf102 3 7 rfl)
          have b128 : 0 ≤ Z86 3 7 ∧ Z86 3 7 ≤ 900 := hG86.pr 3 7
          have b129 : 0 ≤ Z102 3 3 ∧ Z102 3 3 ≤ 900 := hG102.pr 3 3
          have b130 : 0 ≤ Z102 3 4 ∧ Z102 3 4 ≤ 400 := hG102.pr 3 4
          exact c73 Z102 h102 (by omega) (by omega) (by omega) hx102 hG102 (fr_tr (M := [(3, 2), (3, 3), (3, 4), (3, 5), (3, 7), (3, 14), (3, 15), (5, (-1))]) (fr_tr (M := [(3, 2), (3, 3), (3, 4), (3, 5), (3, 7), (3, 14), (3, 15), (5, (-1))]) (fr_tr (M := [(3, 2), (3, 3), (3, 4), (3, 5), (3, 7), (3, 14), (3, 15), (5, (-1))]) fr_rf (hf58) (M1 := []) rfl rfl) (hf86) rfl rfl) (hf102) rfl rfl)
    · skip
      refine mx_J.step (sn_49 10) (fun _ _ => rfl) ?_
      refine mx_J.step (sn_49 11) (fun _ _ => rfl) ?_
      have b132 : 2 ≤ Z 3 0 ∧ Z 3 0 ≤ 4 := hG.pr 3 0
      have b133 : 0 ≤ Z 3 1 ∧ Z 3 1 ≤ 900 := hG.pr 3 1
      have b134 : 0 ≤ Z 3 2 ∧ Z 3 2 ≤ 900 := hG.pr 3 2
      have b135 : 0 ≤ Z 3 3 ∧ Z 3 3 ≤ 900 := hG.pr 3 3
      have b136 : 0 ≤ Z 3 4 ∧ Z 3 4 ≤ 400 := hG.pr 3 4
      have b137 : 0 ≤ Z 3 7 ∧ Z 3 7 ≤ 900 := hG.pr 3 7
      have b138 : 0 ≤ Z 3 14 ∧ Z 3 14 ≤ 4 := hG.pr 3 14
      obtain ⟨z131, Z131, h131, hc131, hx131, hG131, hf131, b131⟩ := ct_51_3 (d := d + 4) (l := l) (D := D) (b0 := b0) (ad := ad) (Hb := Hb) (tau := tau) hx hG (show 0 ≤ x0 ∧ x0 ≤ 6 by omega) (show Z 3 0 = 2 by omega) (show (Z 3 3 ≤ Z 3 2 ∧ Z 3 2 ≤ Z 3 1 ∧ (Z 3 4 = 0 ∨ Z 3 4 = 3 ∨ Z 3 3 < Z 3 2) ∧ (Z 3 4 = 3 ∨ Z 3 14 = 0)) by omega) (show ¬ Z 3 4 = 0 by omega) (show ¬ Z 3 4 = 3 by omega)
      have b139 : 0 ≤ Z131 3 2 ∧ Z131 3 2 ≤ 900 := hG131.pr 3 2
      have b140 : 0 ≤ Z131 3 3 ∧ Z131 3 3 ≤ 900 := hG131.pr 3 3
      have b141 : 0 ≤ Z131 3 4 ∧ Z131 3 4 ≤ 400 := hG131.pr 3 4
      have eq142 : Z131 3 7 = Z 3 7 := (hf131 3 7 rfl)
      have b143 : 0 ≤ Z 3 7 ∧ Z 3 7 ≤ 900 := hG.pr 3 7
      have b144 : 0 ≤ Z131 3 14 ∧ Z131 3 14 ≤ 4 := hG131.pr 3 14
      refine Jcv hx (show mx_Sn _ _ 12 (mx_callv 51 2 7 15) from sn_49 12) a3 s3 hc131 rfl rfl rfl ?_
      refine Jif_eq (show mx_Sn _ _ 15 (mx_if_eq 73 18) from sn_49 15) (by omega) (fun q145 => ?_) (fun q145 => ?_)
      · skip
        have eq146 : Z131 3 0 = Z 3 0 := (hf131 3 0 rfl)
        have b147 : 2 ≤ Z 3 0 ∧ Z 3 0 ≤ 4 := hG.pr 3 0
        have b148 : 0 ≤ Z131 3 2 ∧ Z131 3 2 ≤ 900 := hG131.pr 3 2
        have b149 : 0 ≤ Z131 3 3 ∧ Z131 3 3 ≤ 900 := hG131.pr 3 3
        have b150 : 0 ≤ Z131 3 4 ∧ Z131 3 4 ≤ 400 := hG131.pr 3 4
        have eq151 : Z131 3 7 = Z 3 7 := (hf131 3 7 rfl)
        have b152 : 0 ≤ Z 3 7 ∧ Z 3 7 ≤ 900 := hG.pr 3 7
        have b153 : 0 ≤ Z131 3 14 ∧ Z131 3 14 ≤ 4 := hG131.pr 3 14
        have b154 : 0 ≤ Z131 3 3 ∧ Z131 3 3 ≤ 900 := hG131.pr 3 3
        have eq155 : Z131 3 7 = Z 3 7 := (hf131 3 7 rfl)
        have b156 : 0 ≤ Z 3 7 ∧ Z 3 7 ≤ 900 := hG.pr 3 7
        have b157 : 0 ≤ Z131 3 3 ∧ Z131 3 3 ≤ 900 := hG131.pr 3 3
        have b158 : 0 ≤ Z131 3 4 ∧ Z131 3 4 ≤ 400 := hG131.pr 3 4
        exact c73 Z131 h131 (by omega) (by omega) (by omega) hx131 hG131 (fr_tr (M := [(3, 2), (3, 3), (3, 4), (3, 5), (3, 7), (3, 14), (3, 15), (5, (-1))]) fr_rf (hf131) (M1 := []) rfl rfl)
      · skip
        refine mx_J.step (sn_49 18) (fun _ _ => rfl) ?_
        refine mx_J.step (sn_49 19) (fun _ _ => rfl) ?_
        refine JcI (z := 1) (show mx_Sn _ _ 20 (mx_const (.int 1) 21) from sn_49 20) rfl ?_
        refine Jiadd (show mx_Sn _ _ 21 (mx_iadd 22) from sn_49 21) ?_
        have eq160 : Z131 3 0 = Z 3 0 := (hf131 3 0 rfl)
        have b161 : 2 ≤ Z 3 0 ∧ Z 3 0 ≤ 4 := hG.pr 3 0
        have eq162 : Z131 3 1 = Z 3 1 := (hf131 3 1 rfl)
        have b163 : 0 ≤ Z 3 1 ∧ Z 3 1 ≤ 900 := hG.pr 3 1
        have b164 : 0 ≤ Z131 3 2 ∧ Z131 3 2 ≤ 900 := hG131.pr 3 2
        have b165 : 0 ≤ Z131 3 3 ∧ Z131 3 3 ≤ 900 := hG131.pr 3 3
        have b166 : 0 ≤ Z131 3 4 ∧ Z131 3 4 ≤ 400 := hG131.pr 3 4
        have eq167 : Z131 3 7 = Z 3 7 := (hf131 3 7 rfl)
        have b168 : 0 ≤ Z 3 7 ∧ Z 3 7 ≤ 900 := hG.pr 3 7
        have b169 : 0 ≤ Z131 3 14 ∧ Z131 3 14 ≤ 4 := hG131.pr 3 14
        obtain ⟨Z159, h159, hc159, hx159, hG159, hf159, b159⟩ := ri_49 IH (by omega) (hd := by omega) (d := d + 11) (l := l) (D := D) (b0 := b0) (ad := ad) (Hb := Hb) (tau := tau) hx131 hG131 (show 1 ≤ x0 + 1 ∧ x0 + 1 ≤ 6 by omega) (show Z131 3 0 = 2 by first | omega | (simp only [eq160, eq162, eq167]; omega)) (show (Z131 3 3 ≤ Z131 3 2 ∧ Z131 3 2 ≤ Z131 3 1 ∧ (Z131 3 4 = 0 ∨ Z131 3 4 = 3 ∨ Z131 3 3 < Z131 3 2) ∧ (Z131 3 4 = 3 ∨ Z131 3 14 = 0)) by first | omega | (simp only [eq160, eq162, eq167]; omega))
        try rw [eq160] at b159
        try rw [eq162] at b159
        try rw [eq167] at b159
        have b170 : 0 ≤ Z159 3 2 ∧ Z159 3 2 ≤ 900 := hG159.pr 3 2
        have b171 : 0 ≤ Z159 3 3 ∧ Z159 3 3 ≤ 900 := hG159.pr 3 3
        have b172 : 0 ≤ Z159 3 4 ∧ Z159 3 4 ≤ 400 := hG159.pr 3 4
        have b173 : 0 ≤ Z159 3 7 ∧ Z159 3 7 ≤ 900 := hG159.pr 3 7
        have b174 : 0 ≤ Z159 3 14 ∧ Z159 3 14 ≤ 4 := hG159.pr 3 14
        refine Jcv0 hx131 (show mx_Sn _ _ 22 (mx_callv 49 2 7 25) from sn_49 22) a3 s3 hc159 rfl rfl rfl ?_
        refine mx_J.step (sn_49 25) (fun _ _ => rfl) ?_
        refine JcI (z := 1018) (show mx_Sn _ _ 26 (mx_const (.int 1018) 29) from sn_49 26) rfl ?_
        have b176 : 0 ≤ Z159 3 7 ∧ Z159 3 7 ≤ 900 := hG159.pr 3 7
        obtain ⟨Z175, h175, hc175, hx175, hG175, hf175, b175⟩ := ct_52_3_1010 (d := d + 10) (l := l) (D := D) (b0 := b0) (ad := ad) (Hb := Hb) (tau := tau) hx159 hG159 (show 1010 ≤ 1018 ∧ 1018 ≤ 1019 by omega)
        have b177 : 0 ≤ Z175 3 7 ∧ Z175 3 7 ≤ 900 := hG175.pr 3 7
        refine Jcv0 hx159 (show mx_Sn _ _ 29 (mx_callv 52 2 7 32) from sn_49 29) a3 s3 hc175 rfl rfl rfl ?_
        refine mx_J.step (sn_49 32) (fun _ _ => rfl) ?_
        have eq178 : Z175 3 0 = Z 3 0 := ((hf175 3 0 rfl).trans ((hf159 3 0 rfl).trans (hf131 3 0 rfl)))
        have b179 : 2 ≤ Z 3 0 ∧ Z 3 0 ≤ 4 := hG.pr 3 0
        have eq180 : Z175 3 2 = Z159 3 2 := (hf175 3 2 rfl)
        have b181 : 0 ≤ Z159 3 2 ∧ Z159 3 2 ≤ 900 := hG159.pr 3 2
        have eq182 : Z175 3 3 = Z159 3 3 := (hf175 3 3 rfl)
        have b183 : 0 ≤ Z159 3 3 ∧ Z159 3 3 ≤ 900 := hG159.pr 3 3
        have eq184 : Z175 3 4 = Z159 3 4 := (hf175 3 4 rfl)
        have b185 : 0 ≤ Z159 3 4 ∧ Z159 3 4 ≤ 400 := hG159.pr 3 4
        have b186 : 0 ≤ Z175 3 7 ∧ Z175 3 7 ≤ 900 := hG175.pr 3 7
        have eq187 : Z175 3 14 = Z159 3 14 := (hf175 3 14 rfl)
        have b188 : 0 ≤ Z159 3 14 ∧ Z159 3 14 ≤ 4 := hG159.pr 3 14
        have eq189 : Z175 3 3 = Z159 3 3 := (hf175 3 3 rfl)
        have b190 : 0 ≤ Z159 3 3 ∧ Z159 3 3 ≤ 900 := hG159.pr 3 3
        have b191 : 0 ≤ Z175 3 7 ∧ Z175 3 7 ≤ 900 := hG175.pr 3 7
        have eq192 : Z175 3 3 = Z159 3 3 := (hf175 3 3 rfl)
        have b193 : 0 ≤ Z159 3 3 ∧ Z159 3 3 ≤ 900 := hG159.pr 3 3
        have eq194 : Z175 3 4 = Z159 3 4 := (hf175 3 4 rfl)
        have b195 : 0 ≤ Z159 3 4 ∧ Z159 3 4 ≤ 400 := hG159.pr 3 4
        exact c73 Z175 h175 (by omega) (by omega) (by omega) hx175 hG175 (fr_tr (M := [(3, 2), (3, 3), (3, 4), (3, 5), (3, 7), (3, 14), (3, 15), (5, (-1))]) (fr_tr (M := [(3, 2), (3, 3), (3, 4), (3, 5), (3, 7), (3, 14), (3, 15), (5, (-1))]) (fr_tr (M := [(3, 2), (3, 3), (3, 4), (3, 5), (3, 7), (3, 14), (3, 15), (5, (-1))]) fr_rf (hf131) (M1 := []) rfl rfl) (hf159) rfl rfl) (hf175) rfl rfl)
theorem ct_49_3_s {l : Launch} {D : va_G} {b0 : Nat} {ad : Nat → Nat} {Hb : Heap} {tau : Nat → Int64} {d n s : Nat} {S : Nat → xS} {Z : xZ} {h : mx_H} (hx : XH n s S Z h) (hG : GI n S Z)  {x0 : Int} (p0 : 0 ≤ x0 ∧ x0 ≤ 6) (k0 : Z 3 0 = 2) (k1 : (Z 3 3 ≤ Z 3 2 ∧ Z 3 2 ≤ Z 3 1 ∧ (Z 3 4 = 0 ∨ Z 3 4 = 3 ∨ Z 3 3 < Z 3 2) ∧ (Z 3 4 = 3 ∨ Z 3 14 = 0))) {kk : Nat} (IH : RBch l D b0 ad Hb tau kk x0) (hd : kk ≤ d) : ∃ (Z' : xZ) (h' : mx_H), mx_Ca (tB l D b0 ad Hb tau) (d + 12) 49 [.ref 3, xI x0] h (none, h') ∧ XH n s S Z' h' ∧ GI n S Z' ∧ fr' [(3, 2), (3, 3), (3, 4), (3, 5), (3, 7), (3, 14), (3, 15), (5, (-1))] Z Z' ∧ (((Z' 3 3 ≤ Z' 3 2 ∧ Z' 3 2 ≤ Z 3 1 ∧ (Z' 3 4 = 0 ∨ Z' 3 4 = 3 ∨ Z' 3 3 < Z' 3 2) ∧ (Z' 3 4 = 3 ∨ Z' 3 14 = 0)) ∧ Z 3 3 ≤ Z' 3 3 ∧ Z' 3 7 - Z 3 7 ≤ Z' 3 3 - Z 3 3 ∧ (Z' 3 4 = 3 ∨ Z 3 3 + 1 ≤ Z' 3 3) ∧ (Z 3 4 = 3 → Z' 3 4 = 3))) := by
  obtain ⟨r, hca, Z', h', e, q⟩ := Jmt (B := tB l D b0 ad Hb tau) (M := mt_49) (mi := 49) (as := [.ref 3, xI x0]) (d := d + 11) (ls := [some (.ref 3), some (xI x0)]) rfl rfl rfl rfl rfl rfl (cw_49_3_s (l := l) (D := D) (b0 := b0) (ad := ad) (Hb := Hb) (tau := tau) (d := d) (Post := fun r => ∃ (Z' : xZ) (h' : mx_H), r = (none, h') ∧ XH n s S Z' h' ∧ GI n S Z' ∧ fr' [(3, 2), (3, 3), (3, 4), (3, 5), (3, 7), (3, 14), (3, 15), (5, (-1))] Z Z' ∧ (((Z' 3 3 ≤ Z' 3 2 ∧ Z' 3 2 ≤ Z 3 1 ∧ (Z' 3 4 = 0 ∨ Z' 3 4 = 3 ∨ Z' 3 3 < Z' 3 2) ∧ (Z' 3 4 = 3 ∨ Z' 3 14 = 0)) ∧ Z 3 3 ≤ Z' 3 3 ∧ Z' 3 7 - Z 3 7 ≤ Z' 3 3 - Z 3 3 ∧ (Z' 3 4 = 3 ∨ Z 3 3 + 1 ≤ Z' 3 3) ∧ (Z 3 4 = 3 → Z' 3 4 = 3)))) hx hG p0 k0 k1 IH hd (fun Z' h' q1 q2 q3 q4 => ⟨Z', h', rfl, q1, q2, q3, q4⟩))
  subst e; exact ⟨Z', h', hca, q⟩
set_option maxRecDepth 100000 in
theorem cw_48_3_s {l : Launch} {D : va_G} {b0 : Nat} {ad : Nat → Nat} {Hb : Heap} {tau : Nat → Int64} {d n s : Nat} {S : Nat → xS} {Z : xZ} {h : mx_H} {Post : mx_R → Prop} (hx : XH n s S Z h) (hG : GI n S Z)  {x0 : Int} (p0 : 0 ≤ x0 ∧ x0 ≤ 6) (k0 : Z 3 0 = 2) (k1 : (Z 3 3 ≤ Z 3 2 ∧ Z 3 2 ≤ Z 3 1 ∧ (Z 3 4 = 0 ∨ Z 3 4 = 3 ∨ Z 3 3 < Z 3 2) ∧ (Z 3 4 = 3 ∨ Z 3 14 = 0))) {kk : Nat} (IH : RBch l D b0 ad Hb tau kk x0) (hd : kk ≤ d) (hP : ∀ (Z' : xZ) (h' : mx_H), XH n s S Z' h' → GI n S Z' → fr' [(3, 2), (3, 3), (3, 4), (3, 5), (3, 7), (3, 14), (3, 15), (5, (-1))] Z Z' → ((Z' 3 3 ≤ Z' 3 2 ∧ Z' 3 2 ≤ Z 3 1 ∧ (Z' 3 4 = 0 ∨ Z' 3 4 = 3 ∨ Z' 3 3 < Z' 3 2) ∧ (Z' 3 4 = 3 ∨ Z' 3 14 = 0)) ∧ Z 3 3 ≤ Z' 3 3 ∧ Z' 3 7 - Z 3 7 ≤ Z' 3 3 - Z 3 3 ∧ (Z' 3 4 = 3 ∨ Z 3 3 + 1 ≤ Z' 3 3) ∧ (Z 3 4 = 3 → Z' 3 4 = 3)) → Post (none, h')) : mx_J (tB l D b0 ad Hb tau) mt_48 (d + 12) 0 [some (.ref 3), some (xI x0), none] [] h Post := by
    have a3 : 3 < n := lt83 (GI_n hG) rfl
    have s3 : S 3 = .inl (7, [2, 0, 0, 0, 0, 0, 2, 0, 2, 2, 0, 2, 0, 0, 0, 0]) := GI_s hG 3 rfl
    refine mx_J.step (sn_48 0) (fun _ _ => rfl) ?_
    refine mx_J.step (sn_48 1) (fun _ _ => rfl) ?_
    have b2 : 2 ≤ Z 3 0 ∧ Z 3 0 ≤ 4 := hG.pr 3 0
    have b3 : 0 ≤ Z 3 1 ∧ Z 3 1 ≤ 900 := hG.pr 3 1
    have b4 : 0 ≤ Z 3 2 ∧ Z 3 2 ≤ 900 := hG.pr 3 2
    have b5 : 0 ≤ Z 3 3 ∧ Z 3 3 ≤ 900 := hG.pr 3 3
    have b6 : 0 ≤ Z 3 4 ∧ Z 3 4 ≤ 400 := hG.pr 3 4
    have b7 : 0 ≤ Z 3 7 ∧ Z 3 7 ≤ 900 := hG.pr 3 7
    have b8 : 0 ≤ Z 3 14 ∧ Z 3 14 ≤ 4 := hG.pr 3 14
    obtain ⟨Z1, h1, hc1, hx1, hG1, hf1, b1⟩ := ct_49_3_s (d := d + 0) (l := l) (D := D) (b0 := b0) (ad := ad) (Hb := Hb) (tau := tau) hx hG (show 0 ≤ x0 ∧ x0 ≤ 6 by omega) (show Z 3 0 = 2 by omega) (show (Z 3 3 ≤ Z 3 2 ∧ Z 3 2 ≤ Z 3 1 ∧ (Z 3 4 = 0 ∨ Z 3 4 = 3 ∨ Z 3 3 < Z 3 2) ∧ (Z 3 4 = 3 ∨ Z 3 14 = 0)) by omega) IH (by omega)
    have b9 : 0 ≤ Z1 3 2 ∧ Z1 3 2 ≤ 900 := hG1.pr 3 2
    have b10 : 0 ≤ Z1 3 3 ∧ Z1 3 3 ≤ 900 := hG1.pr 3 3
    have b11 : 0 ≤ Z1 3 4 ∧ Z1 3 4 ≤ 400 := hG1.pr 3 4
    have b12 : 0 ≤ Z1 3 7 ∧ Z1 3 7 ≤ 900 := hG1.pr 3 7
    have b13 : 0 ≤ Z1 3 14 ∧ Z1 3 14 ≤ 4 := hG1.pr 3 14
    refine Jcv0 hx (show mx_Sn _ _ 2 (mx_callv 49 2 7 5) from sn_48 2) a3 s3 hc1 rfl rfl rfl ?_
    refine JcI (z := 0) (show mx_Sn _ _ 5 (mx_const (.int 0) 6) from sn_48 5) rfl ?_
    refine mx_J.step (ls2 := [some (.ref 3), some (xI x0), some (xI 0)]) (sn_48 6) (fun _ _ => rfl) ?_
    have c7 : ∀ (m14 : Nat) (w14_2 : Int) (Z15 : xZ) (h15 : mx_H), 900 - w14_2 < (m14 : Int) → 0 ≤ w14_2 ∧ w14_2 ≤ 900 → (Z15 3 3 ≤ Z15 3 2 ∧ Z15 3 2 ≤ Z 3 1 ∧ (Z15 3 4 = 0 ∨ Z15 3 4 = 3 ∨ Z15 3 3 < Z15 3 2) ∧ (Z15 3 4 = 3 ∨ Z15 3 14 = 0)) → (Z 3 3 ≤ Z15 3 3 ∧ Z15 3 7 - Z 3 7 ≤ Z15 3 3 - Z 3 3 + 0) → ((Z15 3 4 = 3 ∨ Z 3 3 + 1 ≤ Z15 3 3) ∧ (Z 3 4 = 3 → Z15 3 4 = 3)) → XH n s S Z15 h15 → GI n S Z15 → fr' [(3, 2), (3, 3), (3, 4), (3, 5), (3, 7), (3, 14), (3, 15), (5, (-1))] Z1 Z15 → mx_J (tB l D b0 ad Hb tau) mt_48 (d + 12) 7 [some (.ref 3), some (xI x0), some (xI w14_2)] [] h15 Post := by
      intro m14
      induction m14 with
      | zero => intro w14_2 Z15 h15 q14 f14_0 f14_1 f14_2 f14_3 hx15 hG15 hf15; exact absurd q14 (by omega)
      | succ m14 ih14 =>
        intro w14_2 Z15 h15 q14 f14_0 f14_1 f14_2 f14_3 hx15 hG15 hf15
        have eq16 : Z15 3 0 = Z 3 0 := ((hf15 3 0 rfl).trans (hf1 3 0 rfl))
        have b17 : 2 ≤ Z 3 0 ∧ Z 3 0 ≤ 4 := hG.pr 3 0
        have b18 : 0 ≤ Z15 3 2 ∧ Z15 3 2 ≤ 900 := hG15.pr 3 2
        have b19 : 0 ≤ Z15 3 3 ∧ Z15 3 3 ≤ 900 := hG15.pr 3 3
        have b20 : 0 ≤ Z15 3 4 ∧ Z15 3 4 ≤ 400 := hG15.pr 3 4
        have b21 : 0 ≤ Z15 3 7 ∧ Z15 3 7 ≤ 900 := hG15.pr 3 7
        have b22 : 0 ≤ Z15 3 14 ∧ Z15 3 14 ≤ 4 := hG15.pr 3 14
        have b23 : 0 ≤ Z15 3 3 ∧ Z15 3 3 ≤ 900 := hG15.pr 3 3
        have b24 : 0 ≤ Z15 3 7 ∧ Z15 3 7 ≤ 900 := hG15.pr 3 7
        have b25 : 0 ≤ Z15 3 3 ∧ Z15 3 3 ≤ 900 := hG15.pr 3 3
        have b26 : 0 ≤ Z15 3 4 ∧ Z15 3 4 ≤ 400 := hG15.pr 3 4
        refine mx_J.step (sn_48 7) (fun _ _ => rfl) ?_
        refine mx_J.step (sn_48 8) (fun _ _ => rfl) ?_
        have b28 : 0 ≤ Z 3 1 ∧ Z 3 1 ≤ 900 := hG.pr 3 1
        refine JgetI (g := 1) (z := Z 3 1) hx15 (show mx_Sn _ _ 9 (mx_getf 7 1 12) from sn_48 9) a3 s3 rfl rfl ((hf15 3 1 rfl).trans (hf1 3 1 rfl)) ?_
        have c47 : mx_J (tB l D b0 ad Hb tau) mt_48 (d + 12) 47 [some (.ref 3), some (xI x0), some (xI w14_2)] [] h15 Post := by
          have b30 : 0 ≤ Z15 3 2 ∧ Z15 3 2 ≤ 900 := hG15.pr 3 2
          have b31 : 0 ≤ Z15 3 3 ∧ Z15 3 3 ≤ 900 := hG15.pr 3 3
          have b32 : 0 ≤ Z15 3 4 ∧ Z15 3 4 ≤ 400 := hG15.pr 3 4
          have b33 : 0 ≤ Z15 3 7 ∧ Z15 3 7 ≤ 900 := hG15.pr 3 7
          have b34 : 0 ≤ Z15 3 14 ∧ Z15 3 14 ≤ 4 := hG15.pr 3 14
          have eq35 : Z15 3 0 = Z 3 0 := ((hf15 3 0 rfl).trans (hf1 3 0 rfl))
          have b36 : 2 ≤ Z 3 0 ∧ Z 3 0 ≤ 4 := hG.pr 3 0
          have eq37 : Z15 3 1 = Z 3 1 := ((hf15 3 1 rfl).trans (hf1 3 1 rfl))
          have b38 : 0 ≤ Z 3 1 ∧ Z 3 1 ≤ 900 := hG.pr 3 1
          have b39 : 0 ≤ Z15 3 2 ∧ Z15 3 2 ≤ 900 := hG15.pr 3 2
          have b40 : 0 ≤ Z15 3 3 ∧ Z15 3 3 ≤ 900 := hG15.pr 3 3
          have b41 : 0 ≤ Z15 3 4 ∧ Z15 3 4 ≤ 400 := hG15.pr 3 4
          have b42 : 0 ≤ Z15 3 7 ∧ Z15 3 7 ≤ 900 := hG15.pr 3 7
          have b43 : 0 ≤ Z15 3 14 ∧ Z15 3 14 ≤ 4 := hG15.pr 3 14
          exact mx_J.ret (sn_48 47) (fun _ _ => rfl) (hP Z15 h15 hx15 hG15 (fr_tr (M := [(3, 2), (3, 3), (3, 4), (3, 5), (3, 7), (3, 14), (3, 15), (5, (-1))]) (fr_tr (M := [(3, 2), (3, 3), (3, 4), (3, 5), (3, 7), (3, 14), (3, 15), (5, (-1))]) fr_rf (hf1) (M1 := []) rfl rfl) (hf15) rfl rfl) (by omega))
        refine Jicmp_ge (show mx_Sn _ _ 12 (mx_icmp_ge 47 15) from sn_48 12) (by omega) (by omega) (fun q44 => ?_) (fun q44 => ?_)
        · skip
          exact c47 
        · skip
          refine mx_J.step (sn_48 15) (fun _ _ => rfl) ?_
          have b46 : 0 ≤ Z15 3 4 ∧ Z15 3 4 ≤ 400 := hG15.pr 3 4
          refine JgetI (g := 4) (z := Z15 3 4) hx15 (show mx_Sn _ _ 16 (mx_getf 7 4 19) from sn_48 16) a3 s3 rfl rfl rfl ?_
          refine JcI (z := 314) (show mx_Sn _ _ 19 (mx_const (.int 314) 22) from sn_48 19) rfl ?_
          refine Jicmp_ne (show mx_Sn _ _ 22 (mx_icmp_ne 47 25) from sn_48 22) (by omega) (by omega) (fun q47 => ?_) (fun q47 => ?_)
          · skip
            exact c47 
          · skip
            refine mx_J.step (sn_48 25) (fun _ _ => rfl) ?_
            have eq49 : Z15 3 0 = Z 3 0 := ((hf15 3 0 rfl).trans (hf1 3 0 rfl))
            have b50 : 2 ≤ Z 3 0 ∧ Z 3 0 ≤ 4 := hG.pr 3 0
            have eq51 : Z15 3 1 = Z 3 1 := ((hf15 3 1 rfl).trans (hf1 3 1 rfl))
            have b52 : 0 ≤ Z 3 1 ∧ Z 3 1 ≤ 900 := hG.pr 3 1
            have b53 : 0 ≤ Z15 3 2 ∧ Z15 3 2 ≤ 900 := hG15.pr 3 2
            have b54 : 0 ≤ Z15 3 3 ∧ Z15 3 3 ≤ 900 := hG15.pr 3 3
            have b55 : 0 ≤ Z15 3 4 ∧ Z15 3 4 ≤ 400 := hG15.pr 3 4
            have b56 : 0 ≤ Z15 3 14 ∧ Z15 3 14 ≤ 4 := hG15.pr 3 14
            obtain ⟨Z48, h48, hc48, hx48, hG48, hf48, b48⟩ := ct_56_3 (d := d + 6) (l := l) (D := D) (b0 := b0) (ad := ad) (Hb := Hb) (tau := tau) hx15 hG15  (show Z15 3 0 = 2 by first | omega | (simp only [eq49, eq51]; omega)) (show Z15 3 2 ≤ Z15 3 1 by first | omega | (simp only [eq49, eq51]; omega))
            try rw [eq49] at b48
            try rw [eq51] at b48
            have b57 : 0 ≤ Z48 3 2 ∧ Z48 3 2 ≤ 900 := hG48.pr 3 2
            have b58 : 0 ≤ Z48 3 3 ∧ Z48 3 3 ≤ 900 := hG48.pr 3 3
            have b59 : 0 ≤ Z48 3 4 ∧ Z48 3 4 ≤ 400 := hG48.pr 3 4
            refine Jcv0 hx15 (show mx_Sn _ _ 26 (mx_callv 56 1 7 29) from sn_48 26) a3 s3 hc48 rfl rfl rfl ?_
            refine mx_J.step (sn_48 29) (fun _ _ => rfl) ?_
            refine mx_J.step (sn_48 30) (fun _ _ => rfl) ?_
            have eq61 : Z48 3 0 = Z 3 0 := ((hf48 3 0 rfl).trans ((hf15 3 0 rfl).trans (hf1 3 0 rfl)))
            have b62 : 2 ≤ Z 3 0 ∧ Z 3 0 ≤ 4 := hG.pr 3 0
            have eq63 : Z48 3 1 = Z 3 1 := ((hf48 3 1 rfl).trans ((hf15 3 1 rfl).trans (hf1 3 1 rfl)))
            have b64 : 0 ≤ Z 3 1 ∧ Z 3 1 ≤ 900 := hG.pr 3 1
            have b65 : 0 ≤ Z48 3 2 ∧ Z48 3 2 ≤ 900 := hG48.pr 3 2
            have b66 : 0 ≤ Z48 3 3 ∧ Z48 3 3 ≤ 900 := hG48.pr 3 3
            have b67 : 0 ≤ Z48 3 4 ∧ Z48 3 4 ≤ 400 := hG48.pr 3 4
            have eq68 : Z48 3 7 = Z15 3 7 := (hf48 3 7 rfl)
            have b69 : 0 ≤ Z15 3 7 ∧ Z15 3 7 ≤ 900 := hG15.pr 3 7
            have eq70 : Z48 3 14 = Z15 3 14 := (hf48 3 14 rfl)
            have b71 : 0 ≤ Z15 3 14 ∧ Z15 3 14 ≤ 4 := hG15.pr 3 14
            obtain ⟨Z60, h60, hc60, hx60, hG60, hf60, b60⟩ := ct_49_3_s (d := d + 0) (l := l) (D := D) (b0 := b0) (ad := ad) (Hb := Hb) (tau := tau) hx48 hG48 (show 0 ≤ x0 ∧ x0 ≤ 6 by omega) (show Z48 3 0 = 2 by first | omega | (simp only [eq61, eq63, eq68, eq70]; omega)) (show (Z48 3 3 ≤ Z48 3 2 ∧ Z48 3 2 ≤ Z48 3 1 ∧ (Z48 3 4 = 0 ∨ Z48 3 4 = 3 ∨ Z48 3 3 < Z48 3 2) ∧ (Z48 3 4 = 3 ∨ Z48 3 14 = 0)) by first | omega | (simp only [eq61, eq63, eq68, eq70]; omega)) IH (by omega)
            try rw [eq61] at b60
            try rw [eq63] at b60
            try rw [eq68] at b60
            try rw [eq70] at b60
            have b72 : 0 ≤ Z60 3 2 ∧ Z60 3 2 ≤ 900 := hG60.pr 3 2
            have b73 : 0 ≤ Z60 3 3 ∧ Z60 3 3 ≤ 900 := hG60.pr 3 3
            have b74 : 0 ≤ Z60 3 4 ∧ Z60 3 4 ≤ 400 := hG60.pr 3 4
            have b75 : 0 ≤ Z60 3 7 ∧ Z60 3 7 ≤ 900 := hG60.pr 3 7
            have b76 : 0 ≤ Z60 3 14 ∧ Z60 3 14 ≤ 4 := hG60.pr 3 14
            refine Jcv0 hx48 (show mx_Sn _ _ 31 (mx_callv 49 2 7 34) from sn_48 31) a3 s3 hc60 rfl rfl rfl ?_
            refine mx_J.step (sn_48 34) (fun _ _ => rfl) ?_
            refine JcI (z := 1016) (show mx_Sn _ _ 35 (mx_const (.int 1016) 38) from sn_48 35) rfl ?_
            have b78 : 0 ≤ Z60 3 7 ∧ Z60 3 7 ≤ 900 := hG60.pr 3 7
            obtain ⟨Z77, h77, hc77, hx77, hG77, hf77, b77⟩ := ct_52_3_1010 (d := d + 11) (l := l) (D := D) (b0 := b0) (ad := ad) (Hb := Hb) (tau := tau) hx60 hG60 (show 1010 ≤ 1016 ∧ 1016 ≤ 1019 by omega)
            have b79 : 0 ≤ Z77 3 7 ∧ Z77 3 7 ≤ 900 := hG77.pr 3 7
            refine Jcv0 hx60 (show mx_Sn _ _ 38 (mx_callv 52 2 7 41) from sn_48 38) a3 s3 hc77 rfl rfl rfl ?_
            refine Jiinc (z := w14_2) (cz := 1) (ls2 := [some (.ref 3), some (xI x0), some (xI (w14_2 + 1))]) (show mx_Sn _ _ 41 (mx_iinc 2 1 44) from sn_48 41) rfl rfl rfl rfl ?_
            refine mx_J.step (sn_48 44) (fun _ _ => rfl) ?_
            have eq80 : Z77 3 0 = Z 3 0 := ((hf77 3 0 rfl).trans ((hf60 3 0 rfl).trans ((hf48 3 0 rfl).trans ((hf15 3 0 rfl).trans (hf1 3 0 rfl)))))
            have b81 : 2 ≤ Z 3 0 ∧ Z 3 0 ≤ 4 := hG.pr 3 0
            have eq82 : Z77 3 2 = Z60 3 2 := (hf77 3 2 rfl)
            have b83 : 0 ≤ Z60 3 2 ∧ Z60 3 2 ≤ 900 := hG60.pr 3 2
            have eq84 : Z77 3 3 = Z60 3 3 := (hf77 3 3 rfl)
            have b85 : 0 ≤ Z60 3 3 ∧ Z60 3 3 ≤ 900 := hG60.pr 3 3
            have eq86 : Z77 3 4 = Z60 3 4 := (hf77 3 4 rfl)
            have b87 : 0 ≤ Z60 3 4 ∧ Z60 3 4 ≤ 400 := hG60.pr 3 4
            have b88 : 0 ≤ Z77 3 7 ∧ Z77 3 7 ≤ 900 := hG77.pr 3 7
            have eq89 : Z77 3 14 = Z60 3 14 := (hf77 3 14 rfl)
            have b90 : 0 ≤ Z60 3 14 ∧ Z60 3 14 ≤ 4 := hG60.pr 3 14
            have eq91 : Z77 3 3 = Z60 3 3 := (hf77 3 3 rfl)
            have b92 : 0 ≤ Z60 3 3 ∧ Z60 3 3 ≤ 900 := hG60.pr 3 3
            have b93 : 0 ≤ Z77 3 7 ∧ Z77 3 7 ≤ 900 := hG77.pr 3 7
            have eq94 : Z77 3 3 = Z60 3 3 := (hf77 3 3 rfl)
            have b95 : 0 ≤ Z60 3 3 ∧ Z60 3 3 ≤ 900 := hG60.pr 3 3
            have eq96 : Z77 3 4 = Z60 3 4 := (hf77 3 4 rfl)
            have b97 : 0 ≤ Z60 3 4 ∧ Z60 3 4 ≤ 400 := hG60.pr 3 4
            exact ih14 (w14_2 + 1) Z77 h77 (by omega) (by omega) (by omega) (by omega) (by omega) hx77 hG77 (fr_tr (M := [(3, 2), (3, 3), (3, 4), (3, 5), (3, 7), (3, 14), (3, 15), (5, (-1))]) (fr_tr (M := [(3, 2), (3, 3), (3, 4), (3, 5), (3, 7), (3, 14), (3, 15), (5, (-1))]) (fr_tr (M := [(3, 2), (3, 3), (3, 4), (3, 5), (3, 7), (3, 14), (3, 15), (5, (-1))]) (fr_tr (M := [(3, 2), (3, 3), (3, 4), (3, 5), (3, 7), (3, 14), (3, 15), (5, (-1))]) fr_rf (hf15) (M1 := []) rfl rfl) (hf48) rfl rfl) (hf60) rfl rfl) (hf77) rfl rfl)
    have eq98 : Z1 3 0 = Z 3 0 := (hf1 3 0 rfl)
    have b99 : 2 ≤ Z 3 0 ∧ Z 3 0 ≤ 4 := hG.pr 3 0
    have b100 : 0 ≤ Z1 3 2 ∧ Z1 3 2 ≤ 900 := hG1.pr 3 2
    have b101 : 0 ≤ Z1 3 3 ∧ Z1 3 3 ≤ 900 := hG1.pr 3 3
    have b102 : 0 ≤ Z1 3 4 ∧ Z1 3 4 ≤ 400 := hG1.pr 3 4
    have b103 : 0 ≤ Z1 3 7 ∧ Z1 3 7 ≤ 900 := hG1.pr 3 7
    have b104 : 0 ≤ Z1 3 14 ∧ Z1 3 14 ≤ 4 := hG1.pr 3 14
    have b105 : 0 ≤ Z1 3 3 ∧ Z1 3 3 ≤ 900 := hG1.pr 3 3
    have b106 : 0 ≤ Z1 3 7 ∧ Z1 3 7 ≤ 900 := hG1.pr 3 7
    have b107 : 0 ≤ Z1 3 3 ∧ Z1 3 3 ≤ 900 := hG1.pr 3 3
    have b108 : 0 ≤ Z1 3 4 ∧ Z1 3 4 ≤ 400 := hG1.pr 3 4
    exact c7 (Int.toNat (900 - 0) + 1) 0 Z1 h1 (by omega) (by omega) (by omega) (by omega) (by omega) hx1 hG1 fr_rf
theorem ct_48_3_s {l : Launch} {D : va_G} {b0 : Nat} {ad : Nat → Nat} {Hb : Heap} {tau : Nat → Int64} {d n s : Nat} {S : Nat → xS} {Z : xZ} {h : mx_H} (hx : XH n s S Z h) (hG : GI n S Z)  {x0 : Int} (p0 : 0 ≤ x0 ∧ x0 ≤ 6) (k0 : Z 3 0 = 2) (k1 : (Z 3 3 ≤ Z 3 2 ∧ Z 3 2 ≤ Z 3 1 ∧ (Z 3 4 = 0 ∨ Z 3 4 = 3 ∨ Z 3 3 < Z 3 2) ∧ (Z 3 4 = 3 ∨ Z 3 14 = 0))) {kk : Nat} (IH : RBch l D b0 ad Hb tau kk x0) (hd : kk ≤ d) : ∃ (Z' : xZ) (h' : mx_H), mx_Ca (tB l D b0 ad Hb tau) (d + 13) 48 [.ref 3, xI x0] h (none, h') ∧ XH n s S Z' h' ∧ GI n S Z' ∧ fr' [(3, 2), (3, 3), (3, 4), (3, 5), (3, 7), (3, 14), (3, 15), (5, (-1))] Z Z' ∧ (((Z' 3 3 ≤ Z' 3 2 ∧ Z' 3 2 ≤ Z 3 1 ∧ (Z' 3 4 = 0 ∨ Z' 3 4 = 3 ∨ Z' 3 3 < Z' 3 2) ∧ (Z' 3 4 = 3 ∨ Z' 3 14 = 0)) ∧ Z 3 3 ≤ Z' 3 3 ∧ Z' 3 7 - Z 3 7 ≤ Z' 3 3 - Z 3 3 ∧ (Z' 3 4 = 3 ∨ Z 3 3 + 1 ≤ Z' 3 3) ∧ (Z 3 4 = 3 → Z' 3 4 = 3))) := by
  obtain ⟨r, hca, Z', h', e, q⟩ := Jmt (B := tB l D b0 ad Hb tau) (M := mt_48) (mi := 48) (as := [.ref 3, xI x0]) (d := d + 12) (ls := [some (.ref 3), some (xI x0), none]) rfl rfl rfl rfl rfl rfl (cw_48_3_s (l := l) (D := D) (b0 := b0) (ad := ad) (Hb := Hb) (tau := tau) (d := d) (Post := fun r => ∃ (Z' : xZ) (h' : mx_H), r = (none, h') ∧ XH n s S Z' h' ∧ GI n S Z' ∧ fr' [(3, 2), (3, 3), (3, 4), (3, 5), (3, 7), (3, 14), (3, 15), (5, (-1))] Z Z' ∧ (((Z' 3 3 ≤ Z' 3 2 ∧ Z' 3 2 ≤ Z 3 1 ∧ (Z' 3 4 = 0 ∨ Z' 3 4 = 3 ∨ Z' 3 3 < Z' 3 2) ∧ (Z' 3 4 = 3 ∨ Z' 3 14 = 0)) ∧ Z 3 3 ≤ Z' 3 3 ∧ Z' 3 7 - Z 3 7 ≤ Z' 3 3 - Z 3 3 ∧ (Z' 3 4 = 3 ∨ Z 3 3 + 1 ≤ Z' 3 3) ∧ (Z 3 4 = 3 → Z' 3 4 = 3)))) hx hG p0 k0 k1 IH hd (fun Z' h' q1 q2 q3 q4 => ⟨Z', h', rfl, q1, q2, q3, q4⟩))
  subst e; exact ⟨Z', h', hca, q⟩
set_option maxRecDepth 100000 in
theorem cw_47_3_s {l : Launch} {D : va_G} {b0 : Nat} {ad : Nat → Nat} {Hb : Heap} {tau : Nat → Int64} {d n s : Nat} {S : Nat → xS} {Z : xZ} {h : mx_H} {Post : mx_R → Prop} (hx : XH n s S Z h) (hG : GI n S Z)  {x0 : Int} (p0 : 0 ≤ x0 ∧ x0 ≤ 6) (k0 : Z 3 0 = 2) (k1 : (Z 3 3 ≤ Z 3 2 ∧ Z 3 2 ≤ Z 3 1 ∧ (Z 3 4 = 0 ∨ Z 3 4 = 3 ∨ Z 3 3 < Z 3 2) ∧ (Z 3 4 = 3 ∨ Z 3 14 = 0))) {kk : Nat} (IH : RBch l D b0 ad Hb tau kk x0) (hd : kk ≤ d) (hP : ∀ (Z' : xZ) (h' : mx_H), XH n s S Z' h' → GI n S Z' → fr' [(3, 2), (3, 3), (3, 4), (3, 5), (3, 7), (3, 14), (3, 15), (5, (-1))] Z Z' → ((Z' 3 3 ≤ Z' 3 2 ∧ Z' 3 2 ≤ Z 3 1 ∧ (Z' 3 4 = 0 ∨ Z' 3 4 = 3 ∨ Z' 3 3 < Z' 3 2) ∧ (Z' 3 4 = 3 ∨ Z' 3 14 = 0)) ∧ Z 3 3 ≤ Z' 3 3 ∧ Z' 3 7 - Z 3 7 ≤ Z' 3 3 - Z 3 3 ∧ (Z' 3 4 = 3 ∨ Z 3 3 + 1 ≤ Z' 3 3) ∧ (Z 3 4 = 3 → Z' 3 4 = 3)) → Post (none, h')) : mx_J (tB l D b0 ad Hb tau) mt_47 (d + 13) 0 [some (.ref 3), some (xI x0), none] [] h Post := by
    have a3 : 3 < n := lt83 (GI_n hG) rfl
    have s3 : S 3 = .inl (7, [2, 0, 0, 0, 0, 0, 2, 0, 2, 2, 0, 2, 0, 0, 0, 0]) := GI_s hG 3 rfl
    refine mx_J.step (sn_47 0) (fun _ _ => rfl) ?_
    refine mx_J.step (sn_47 1) (fun _ _ => rfl) ?_
    have b2 : 2 ≤ Z 3 0 ∧ Z 3 0 ≤ 4 := hG.pr 3 0
    have b3 : 0 ≤ Z 3 1 ∧ Z 3 1 ≤ 900 := hG.pr 3 1
    have b4 : 0 ≤ Z 3 2 ∧ Z 3 2 ≤ 900 := hG.pr 3 2
    have b5 : 0 ≤ Z 3 3 ∧ Z 3 3 ≤ 900 := hG.pr 3 3
    have b6 : 0 ≤ Z 3 4 ∧ Z 3 4 ≤ 400 := hG.pr 3 4
    have b7 : 0 ≤ Z 3 7 ∧ Z 3 7 ≤ 900 := hG.pr 3 7
    have b8 : 0 ≤ Z 3 14 ∧ Z 3 14 ≤ 4 := hG.pr 3 14
    obtain ⟨Z1, h1, hc1, hx1, hG1, hf1, b1⟩ := ct_48_3_s (d := d + 0) (l := l) (D := D) (b0 := b0) (ad := ad) (Hb := Hb) (tau := tau) hx hG (show 0 ≤ x0 ∧ x0 ≤ 6 by omega) (show Z 3 0 = 2 by omega) (show (Z 3 3 ≤ Z 3 2 ∧ Z 3 2 ≤ Z 3 1 ∧ (Z 3 4 = 0 ∨ Z 3 4 = 3 ∨ Z 3 3 < Z 3 2) ∧ (Z 3 4 = 3 ∨ Z 3 14 = 0)) by omega) IH (by omega)
    have b9 : 0 ≤ Z1 3 2 ∧ Z1 3 2 ≤ 900 := hG1.pr 3 2
    have b10 : 0 ≤ Z1 3 3 ∧ Z1 3 3 ≤ 900 := hG1.pr 3 3
    have b11 : 0 ≤ Z1 3 4 ∧ Z1 3 4 ≤ 400 := hG1.pr 3 4
    have b12 : 0 ≤ Z1 3 7 ∧ Z1 3 7 ≤ 900 := hG1.pr 3 7
    have b13 : 0 ≤ Z1 3 14 ∧ Z1 3 14 ≤ 4 := hG1.pr 3 14
    refine Jcv0 hx (show mx_Sn _ _ 2 (mx_callv 48 2 7 5) from sn_47 2) a3 s3 hc1 rfl rfl rfl ?_
    refine JcI (z := 0) (show mx_Sn _ _ 5 (mx_const (.int 0) 6) from sn_47 5) rfl ?_
    refine mx_J.step (ls2 := [some (.ref 3), some (xI x0), some (xI 0)]) (sn_47 6) (fun _ _ => rfl) ?_
    have c7 : ∀ (m14 : Nat) (w14_2 : Int) (Z15 : xZ) (h15 : mx_H), 900 - w14_2 < (m14 : Int) → 0 ≤ w14_2 ∧ w14_2 ≤ 900 → (Z15 3 3 ≤ Z15 3 2 ∧ Z15 3 2 ≤ Z 3 1 ∧ (Z15 3 4 = 0 ∨ Z15 3 4 = 3 ∨ Z15 3 3 < Z15 3 2) ∧ (Z15 3 4 = 3 ∨ Z15 3 14 = 0)) → (Z 3 3 ≤ Z15 3 3 ∧ Z15 3 7 - Z 3 7 ≤ Z15 3 3 - Z 3 3 + 0) → ((Z15 3 4 = 3 ∨ Z 3 3 + 1 ≤ Z15 3 3) ∧ (Z 3 4 = 3 → Z15 3 4 = 3)) → XH n s S Z15 h15 → GI n S Z15 → fr' [(3, 2), (3, 3), (3, 4), (3, 5), (3, 7), (3, 14), (3, 15), (5, (-1))] Z1 Z15 → mx_J (tB l D b0 ad Hb tau) mt_47 (d + 13) 7 [some (.ref 3), some (xI x0), some (xI w14_2)] [] h15 Post := by
      intro m14
      induction m14 with
      | zero => intro w14_2 Z15 h15 q14 f14_0 f14_1 f14_2 f14_3 hx15 hG15 hf15; exact absurd q14 (by omega)
      | succ m14 ih14 =>
        intro w14_2 Z15 h15 q14 f14_0 f14_1 f14_2 f14_3 hx15 hG15 hf15
        have eq16 : Z15 3 0 = Z 3 0 := ((hf15 3 0 rfl).trans (hf1 3 0 rfl))
        have b17 : 2 ≤ Z 3 0 ∧ Z 3 0 ≤ 4 := hG.pr 3 0
        have b18 : 0 ≤ Z15 3 2 ∧ Z15 3 2 ≤ 900 := hG15.pr 3 2
        have b19 : 0 ≤ Z15 3 3 ∧ Z15 3 3 ≤ 900 := hG15.pr 3 3
        have b20 : 0 ≤ Z15 3 4 ∧ Z15 3 4 ≤ 400 := hG15.pr 3 4
        have b21 : 0 ≤ Z15 3 7 ∧ Z15 3 7 ≤ 900 := hG15.pr 3 7
        have b22 : 0 ≤ Z15 3 14 ∧ Z15 3 14 ≤ 4 := hG15.pr 3 14
        have b23 : 0 ≤ Z15 3 3 ∧ Z15 3 3 ≤ 900 := hG15.pr 3 3
        have b24 : 0 ≤ Z15 3 7 ∧ Z15 3 7 ≤ 900 := hG15.pr 3 7
        have b25 : 0 ≤ Z15 3 3 ∧ Z15 3 3 ≤ 900 := hG15.pr 3 3
        have b26 : 0 ≤ Z15 3 4 ∧ Z15 3 4 ≤ 400 := hG15.pr 3 4
        refine mx_J.step (sn_47 7) (fun _ _ => rfl) ?_
        refine mx_J.step (sn_47 8) (fun _ _ => rfl) ?_
        have b28 : 0 ≤ Z 3 1 ∧ Z 3 1 ≤ 900 := hG.pr 3 1
        refine JgetI (g := 1) (z := Z 3 1) hx15 (show mx_Sn _ _ 9 (mx_getf 7 1 12) from sn_47 9) a3 s3 rfl rfl ((hf15 3 1 rfl).trans (hf1 3 1 rfl)) ?_
        have c47 : mx_J (tB l D b0 ad Hb tau) mt_47 (d + 13) 47 [some (.ref 3), some (xI x0), some (xI w14_2)] [] h15 Post := by
          have b30 : 0 ≤ Z15 3 2 ∧ Z15 3 2 ≤ 900 := hG15.pr 3 2
          have b31 : 0 ≤ Z15 3 3 ∧ Z15 3 3 ≤ 900 := hG15.pr 3 3
          have b32 : 0 ≤ Z15 3 4 ∧ Z15 3 4 ≤ 400 := hG15.pr 3 4
          have b33 : 0 ≤ Z15 3 7 ∧ Z15 3 7 ≤ 900 := hG15.pr 3 7
          have b34 : 0 ≤ Z15 3 14 ∧ Z15 3 14 ≤ 4 := hG15.pr 3 14
          have eq35 : Z15 3 0 = Z 3 0 := ((hf15 3 0 rfl).trans (hf1 3 0 rfl))
          have b36 : 2 ≤ Z 3 0 ∧ Z 3 0 ≤ 4 := hG.pr 3 0
          have eq37 : Z15 3 1 = Z 3 1 := ((hf15 3 1 rfl).trans (hf1 3 1 rfl))
          have b38 : 0 ≤ Z 3 1 ∧ Z 3 1 ≤ 900 := hG.pr 3 1
          have b39 : 0 ≤ Z15 3 2 ∧ Z15 3 2 ≤ 900 := hG15.pr 3 2
          have b40 : 0 ≤ Z15 3 3 ∧ Z15 3 3 ≤ 900 := hG15.pr 3 3
          have b41 : 0 ≤ Z15 3 4 ∧ Z15 3 4 ≤ 400 := hG15.pr 3 4
          have b42 : 0 ≤ Z15 3 7 ∧ Z15 3 7 ≤ 900 := hG15.pr 3 7
          have b43 : 0 ≤ Z15 3 14 ∧ Z15 3 14 ≤ 4 := hG15.pr 3 14
          exact mx_J.ret (sn_47 47) (fun _ _ => rfl) (hP Z15 h15 hx15 hG15 (fr_tr (M := [(3, 2), (3, 3), (3, 4), (3, 5), (3, 7), (3, 14), (3, 15), (5, (-1))]) (fr_tr (M := [(3, 2), (3, 3), (3, 4), (3, 5), (3, 7), (3, 14), (3, 15), (5, (-1))]) fr_rf (hf1) (M1 := []) rfl rfl) (hf15) rfl rfl) (by omega))
        refine Jicmp_ge (show mx_Sn _ _ 12 (mx_icmp_ge 47 15) from sn_47 12) (by omega) (by omega) (fun q44 => ?_) (fun q44 => ?_)
        · skip
          exact c47 
        · skip
          refine mx_J.step (sn_47 15) (fun _ _ => rfl) ?_
          have b46 : 0 ≤ Z15 3 4 ∧ Z15 3 4 ≤ 400 := hG15.pr 3 4
          refine JgetI (g := 4) (z := Z15 3 4) hx15 (show mx_Sn _ _ 16 (mx_getf 7 4 19) from sn_47 16) a3 s3 rfl rfl rfl ?_
          refine JcI (z := 313) (show mx_Sn _ _ 19 (mx_const (.int 313) 22) from sn_47 19) rfl ?_
          refine Jicmp_ne (show mx_Sn _ _ 22 (mx_icmp_ne 47 25) from sn_47 22) (by omega) (by omega) (fun q47 => ?_) (fun q47 => ?_)
          · skip
            exact c47 
          · skip
            refine mx_J.step (sn_47 25) (fun _ _ => rfl) ?_
            have eq49 : Z15 3 0 = Z 3 0 := ((hf15 3 0 rfl).trans (hf1 3 0 rfl))
            have b50 : 2 ≤ Z 3 0 ∧ Z 3 0 ≤ 4 := hG.pr 3 0
            have eq51 : Z15 3 1 = Z 3 1 := ((hf15 3 1 rfl).trans (hf1 3 1 rfl))
            have b52 : 0 ≤ Z 3 1 ∧ Z 3 1 ≤ 900 := hG.pr 3 1
            have b53 : 0 ≤ Z15 3 2 ∧ Z15 3 2 ≤ 900 := hG15.pr 3 2
            have b54 : 0 ≤ Z15 3 3 ∧ Z15 3 3 ≤ 900 := hG15.pr 3 3
            have b55 : 0 ≤ Z15 3 4 ∧ Z15 3 4 ≤ 400 := hG15.pr 3 4
            have b56 : 0 ≤ Z15 3 14 ∧ Z15 3 14 ≤ 4 := hG15.pr 3 14
            obtain ⟨Z48, h48, hc48, hx48, hG48, hf48, b48⟩ := ct_56_3 (d := d + 7) (l := l) (D := D) (b0 := b0) (ad := ad) (Hb := Hb) (tau := tau) hx15 hG15  (show Z15 3 0 = 2 by first | omega | (simp only [eq49, eq51]; omega)) (show Z15 3 2 ≤ Z15 3 1 by first | omega | (simp only [eq49, eq51]; omega))
            try rw [eq49] at b48
            try rw [eq51] at b48
            have b57 : 0 ≤ Z48 3 2 ∧ Z48 3 2 ≤ 900 := hG48.pr 3 2
            have b58 : 0 ≤ Z48 3 3 ∧ Z48 3 3 ≤ 900 := hG48.pr 3 3
            have b59 : 0 ≤ Z48 3 4 ∧ Z48 3 4 ≤ 400 := hG48.pr 3 4
            refine Jcv0 hx15 (show mx_Sn _ _ 26 (mx_callv 56 1 7 29) from sn_47 26) a3 s3 hc48 rfl rfl rfl ?_
            refine mx_J.step (sn_47 29) (fun _ _ => rfl) ?_
            refine mx_J.step (sn_47 30) (fun _ _ => rfl) ?_
            have eq61 : Z48 3 0 = Z 3 0 := ((hf48 3 0 rfl).trans ((hf15 3 0 rfl).trans (hf1 3 0 rfl)))
            have b62 : 2 ≤ Z 3 0 ∧ Z 3 0 ≤ 4 := hG.pr 3 0
            have eq63 : Z48 3 1 = Z 3 1 := ((hf48 3 1 rfl).trans ((hf15 3 1 rfl).trans (hf1 3 1 rfl)))
            have b64 : 0 ≤ Z 3 1 ∧ Z 3 1 ≤ 900 := hG.pr 3 1
            have b65 : 0 ≤ Z48 3 2 ∧ Z48 3 2 ≤ 900 := hG48.pr 3 2
            have b66 : 0 ≤ Z48 3 3 ∧ Z48 3 3 ≤ 900 := hG48.pr 3 3
            have b67 : 0 ≤ Z48 3 4 ∧ Z48 3 4 ≤ 400 := hG48.pr 3 4
            have eq68 : Z48 3 7 = Z15 3 7 := (hf48 3 7 rfl)
            have b69 : 0 ≤ Z15 3 7 ∧ Z15 3 7 ≤ 900 := hG15.pr 3 7
            have eq70 : Z48 3 14 = Z15 3 14 := (hf48 3 14 rfl)
            have b71 : 0 ≤ Z15 3 14 ∧ Z15 3 14 ≤ 4 := hG15.pr 3 14
            obtain ⟨Z60, h60, hc60, hx60, hG60, hf60, b60⟩ := ct_48_3_s (d := d + 0) (l := l) (D := D) (b0 := b0) (ad := ad) (Hb := Hb) (tau := tau) hx48 hG48 (show 0 ≤ x0 ∧ x0 ≤ 6 by omega) (show Z48 3 0 = 2 by first | omega | (simp only [eq61, eq63, eq68, eq70]; omega)) (show (Z48 3 3 ≤ Z48 3 2 ∧ Z48 3 2 ≤ Z48 3 1 ∧ (Z48 3 4 = 0 ∨ Z48 3 4 = 3 ∨ Z48 3 3 < Z48 3 2) ∧ (Z48 3 4 = 3 ∨ Z48 3 14 = 0)) by first | omega | (simp only [eq61, eq63, eq68, eq70]; omega)) IH (by omega)
            try rw [eq61] at b60
            try rw [eq63] at b60
            try rw [eq68] at b60
            try rw [eq70] at b60
            have b72 : 0 ≤ Z60 3 2 ∧ Z60 3 2 ≤ 900 := hG60.pr 3 2
            have b73 : 0 ≤ Z60 3 3 ∧ Z60 3 3 ≤ 900 := hG60.pr 3 3
            have b74 : 0 ≤ Z60 3 4 ∧ Z60 3 4 ≤ 400 := hG60.pr 3 4
            have b75 : 0 ≤ Z60 3 7 ∧ Z60 3 7 ≤ 900 := hG60.pr 3 7
            have b76 : 0 ≤ Z60 3 14 ∧ Z60 3 14 ≤ 4 := hG60.pr 3 14
            refine Jcv0 hx48 (show mx_Sn _ _ 31 (mx_callv 48 2 7 34) from sn_47 31) a3 s3 hc60 rfl rfl rfl ?_
            refine mx_J.step (sn_47 34) (fun _ _ => rfl) ?_
            refine JcI (z := 1017) (show mx_Sn _ _ 35 (mx_const (.int 1017) 38) from sn_47 35) rfl ?_
            have b78 : 0 ≤ Z60 3 7 ∧ Z60 3 7 ≤ 900 := hG60.pr 3 7
            obtain ⟨Z77, h77, hc77, hx77, hG77, hf77, b77⟩ := ct_52_3_1010 (d := d + 12) (l := l) (D := D) (b0 := b0) (ad := ad) (Hb := Hb) (tau := tau) hx60 hG60 (show 1010 ≤ 1017 ∧ 1017 ≤ 1019 by omega)
            have b79 : 0 ≤ Z77 3 7 ∧ Z77 3 7 ≤ 900 := hG77.pr 3 7
            refine Jcv0 hx60 (show mx_Sn _ _ 38 (mx_callv 52 2 7 41) from sn_47 38) a3 s3 hc77 rfl rfl rfl ?_
            refine Jiinc (z := w14_2) (cz := 1) (ls2 := [some (.ref 3), some (xI x0), some (xI (w14_2 + 1))]) (show mx_Sn _ _ 41 (mx_iinc 2 1 44) from sn_47 41) rfl rfl rfl rfl ?_
            refine mx_J.step (sn_47 44) (fun _ _ => rfl) ?_
            have eq80 : Z77 3 0 = Z 3 0 := ((hf77 3 0 rfl).trans ((hf60 3 0 rfl).trans ((hf48 3 0 rfl).trans ((hf15 3 0 rfl).trans (hf1 3 0 rfl)))))
            have b81 : 2 ≤ Z 3 0 ∧ Z 3 0 ≤ 4 := hG.pr 3 0
            have eq82 : Z77 3 2 = Z60 3 2 := (hf77 3 2 rfl)
            have b83 : 0 ≤ Z60 3 2 ∧ Z60 3 2 ≤ 900 := hG60.pr 3 2
            have eq84 : Z77 3 3 = Z60 3 3 := (hf77 3 3 rfl)
            have b85 : 0 ≤ Z60 3 3 ∧ Z60 3 3 ≤ 900 := hG60.pr 3 3
            have eq86 : Z77 3 4 = Z60 3 4 := (hf77 3 4 rfl)
            have b87 : 0 ≤ Z60 3 4 ∧ Z60 3 4 ≤ 400 := hG60.pr 3 4
            have b88 : 0 ≤ Z77 3 7 ∧ Z77 3 7 ≤ 900 := hG77.pr 3 7
            have eq89 : Z77 3 14 = Z60 3 14 := (hf77 3 14 rfl)
            have b90 : 0 ≤ Z60 3 14 ∧ Z60 3 14 ≤ 4 := hG60.pr 3 14
            have eq91 : Z77 3 3 = Z60 3 3 := (hf77 3 3 rfl)
            have b92 : 0 ≤ Z60 3 3 ∧ Z60 3 3 ≤ 900 := hG60.pr 3 3
            have b93 : 0 ≤ Z77 3 7 ∧ Z77 3 7 ≤ 900 := hG77.pr 3 7
            have eq94 : Z77 3 3 = Z60 3 3 := (hf77 3 3 rfl)
            have b95 : 0 ≤ Z60 3 3 ∧ Z60 3 3 ≤ 900 := hG60.pr 3 3
            have eq96 : Z77 3 4 = Z60 3 4 := (hf77 3 4 rfl)
            have b97 : 0 ≤ Z60 3 4 ∧ Z60 3 4 ≤ 400 := hG60.pr 3 4
            exact ih14 (w14_2 + 1) Z77 h77 (by omega) (by omega) (by omega) (by omega) (by omega) hx77 hG77 (fr_tr (M := [(3, 2), (3, 3), (3, 4), (3, 5), (3, 7), (3, 14), (3, 15), (5, (-1))]) (fr_tr (M := [(3, 2), (3, 3), (3, 4), (3, 5), (3, 7), (3, 14), (3, 15), (5, (-1))]) (fr_tr (M := [(3, 2), (3, 3), (3, 4), (3, 5), (3, 7), (3, 14), (3, 15), (5, (-1))]) (fr_tr (M := [(3, 2), (3, 3), (3, 4), (3, 5), (3, 7), (3, 14), (3, 15), (5, (-1))]) fr_rf (hf15) (M1 := []) rfl rfl) (hf48) rfl rfl) (hf60) rfl rfl) (hf77) rfl rfl)
    have eq98 : Z1 3 0 = Z 3 0 := (hf1 3 0 rfl)
    have b99 : 2 ≤ Z 3 0 ∧ Z 3 0 ≤ 4 := hG.pr 3 0
    have b100 : 0 ≤ Z1 3 2 ∧ Z1 3 2 ≤ 900 := hG1.pr 3 2
    have b101 : 0 ≤ Z1 3 3 ∧ Z1 3 3 ≤ 900 := hG1.pr 3 3
    have b102 : 0 ≤ Z1 3 4 ∧ Z1 3 4 ≤ 400 := hG1.pr 3 4
    have b103 : 0 ≤ Z1 3 7 ∧ Z1 3 7 ≤ 900 := hG1.pr 3 7
    have b104 : 0 ≤ Z1 3 14 ∧ Z1 3 14 ≤ 4 := hG1.pr 3 14
    have b105 : 0 ≤ Z1 3 3 ∧ Z1 3 3 ≤ 900 := hG1.pr 3 3
    have b106 : 0 ≤ Z1 3 7 ∧ Z1 3 7 ≤ 900 := hG1.pr 3 7
    have b107 : 0 ≤ Z1 3 3 ∧ Z1 3 3 ≤ 900 := hG1.pr 3 3
    have b108 : 0 ≤ Z1 3 4 ∧ Z1 3 4 ≤ 400 := hG1.pr 3 4
    exact c7 (Int.toNat (900 - 0) + 1) 0 Z1 h1 (by omega) (by omega) (by omega) (by omega) (by omega) hx1 hG1 fr_rf
theorem ct_47_3_s {l : Launch} {D : va_G} {b0 : Nat} {ad : Nat → Nat} {Hb : Heap} {tau : Nat → Int64} {d n s : Nat} {S : Nat → xS} {Z : xZ} {h : mx_H} (hx : XH n s S Z h) (hG : GI n S Z)  {x0 : Int} (p0 : 0 ≤ x0 ∧ x0 ≤ 6) (k0 : Z 3 0 = 2) (k1 : (Z 3 3 ≤ Z 3 2 ∧ Z 3 2 ≤ Z 3 1 ∧ (Z 3 4 = 0 ∨ Z 3 4 = 3 ∨ Z 3 3 < Z 3 2) ∧ (Z 3 4 = 3 ∨ Z 3 14 = 0))) {kk : Nat} (IH : RBch l D b0 ad Hb tau kk x0) (hd : kk ≤ d) : ∃ (Z' : xZ) (h' : mx_H), mx_Ca (tB l D b0 ad Hb tau) (d + 14) 47 [.ref 3, xI x0] h (none, h') ∧ XH n s S Z' h' ∧ GI n S Z' ∧ fr' [(3, 2), (3, 3), (3, 4), (3, 5), (3, 7), (3, 14), (3, 15), (5, (-1))] Z Z' ∧ (((Z' 3 3 ≤ Z' 3 2 ∧ Z' 3 2 ≤ Z 3 1 ∧ (Z' 3 4 = 0 ∨ Z' 3 4 = 3 ∨ Z' 3 3 < Z' 3 2) ∧ (Z' 3 4 = 3 ∨ Z' 3 14 = 0)) ∧ Z 3 3 ≤ Z' 3 3 ∧ Z' 3 7 - Z 3 7 ≤ Z' 3 3 - Z 3 3 ∧ (Z' 3 4 = 3 ∨ Z 3 3 + 1 ≤ Z' 3 3) ∧ (Z 3 4 = 3 → Z' 3 4 = 3))) := by
  obtain ⟨r, hca, Z', h', e, q⟩ := Jmt (B := tB l D b0 ad Hb tau) (M := mt_47) (mi := 47) (as := [.ref 3, xI x0]) (d := d + 13) (ls := [some (.ref 3), some (xI x0), none]) rfl rfl rfl rfl rfl rfl (cw_47_3_s (l := l) (D := D) (b0 := b0) (ad := ad) (Hb := Hb) (tau := tau) (d := d) (Post := fun r => ∃ (Z' : xZ) (h' : mx_H), r = (none, h') ∧ XH n s S Z' h' ∧ GI n S Z' ∧ fr' [(3, 2), (3, 3), (3, 4), (3, 5), (3, 7), (3, 14), (3, 15), (5, (-1))] Z Z' ∧ (((Z' 3 3 ≤ Z' 3 2 ∧ Z' 3 2 ≤ Z 3 1 ∧ (Z' 3 4 = 0 ∨ Z' 3 4 = 3 ∨ Z' 3 3 < Z' 3 2) ∧ (Z' 3 4 = 3 ∨ Z' 3 14 = 0)) ∧ Z 3 3 ≤ Z' 3 3 ∧ Z' 3 7 - Z 3 7 ≤ Z' 3 3 - Z 3 3 ∧ (Z' 3 4 = 3 ∨ Z 3 3 + 1 ≤ Z' 3 3) ∧ (Z 3 4 = 3 → Z' 3 4 = 3)))) hx hG p0 k0 k1 IH hd (fun Z' h' q1 q2 q3 q4 => ⟨Z', h', rfl, q1, q2, q3, q4⟩))
  subst e; exact ⟨Z', h', hca, q⟩
set_option maxRecDepth 100000 in
theorem cw_46_3_s {l : Launch} {D : va_G} {b0 : Nat} {ad : Nat → Nat} {Hb : Heap} {tau : Nat → Int64} {d n s : Nat} {S : Nat → xS} {Z : xZ} {h : mx_H} {Post : mx_R → Prop} (hx : XH n s S Z h) (hG : GI n S Z)  {x0 : Int} (p0 : 0 ≤ x0 ∧ x0 ≤ 6) (k0 : Z 3 0 = 2) (k1 : (Z 3 3 ≤ Z 3 2 ∧ Z 3 2 ≤ Z 3 1 ∧ (Z 3 4 = 0 ∨ Z 3 4 = 3 ∨ Z 3 3 < Z 3 2) ∧ (Z 3 4 = 3 ∨ Z 3 14 = 0))) {kk : Nat} (IH : RBch l D b0 ad Hb tau kk x0) (hd : kk ≤ d) (hP : ∀ (Z' : xZ) (h' : mx_H), XH n s S Z' h' → GI n S Z' → fr' [(3, 2), (3, 3), (3, 4), (3, 5), (3, 7), (3, 14), (3, 15), (5, (-1))] Z Z' → ((Z' 3 3 ≤ Z' 3 2 ∧ Z' 3 2 ≤ Z 3 1 ∧ (Z' 3 4 = 0 ∨ Z' 3 4 = 3 ∨ Z' 3 3 < Z' 3 2) ∧ (Z' 3 4 = 3 ∨ Z' 3 14 = 0)) ∧ Z 3 3 ≤ Z' 3 3 ∧ Z' 3 7 - Z 3 7 ≤ Z' 3 3 - Z 3 3 + 1 ∧ (Z 3 4 = 3 → Z' 3 4 = 3)) → Post (none, h')) : mx_J (tB l D b0 ad Hb tau) mt_46 (d + 14) 0 [some (.ref 3), some (xI x0)] [] h Post := by
    have a3 : 3 < n := lt83 (GI_n hG) rfl
    have s3 : S 3 = .inl (7, [2, 0, 0, 0, 0, 0, 2, 0, 2, 2, 0, 2, 0, 0, 0, 0]) := GI_s hG 3 rfl
    refine mx_J.step (sn_46 0) (fun _ _ => rfl) ?_
    refine mx_J.step (sn_46 1) (fun _ _ => rfl) ?_
    have b2 : 2 ≤ Z 3 0 ∧ Z 3 0 ≤ 4 := hG.pr 3 0
    have b3 : 0 ≤ Z 3 1 ∧ Z 3 1 ≤ 900 := hG.pr 3 1
    have b4 : 0 ≤ Z 3 2 ∧ Z 3 2 ≤ 900 := hG.pr 3 2
    have b5 : 0 ≤ Z 3 3 ∧ Z 3 3 ≤ 900 := hG.pr 3 3
    have b6 : 0 ≤ Z 3 4 ∧ Z 3 4 ≤ 400 := hG.pr 3 4
    have b7 : 0 ≤ Z 3 7 ∧ Z 3 7 ≤ 900 := hG.pr 3 7
    have b8 : 0 ≤ Z 3 14 ∧ Z 3 14 ≤ 4 := hG.pr 3 14
    obtain ⟨Z1, h1, hc1, hx1, hG1, hf1, b1⟩ := ct_47_3_s (d := d + 0) (l := l) (D := D) (b0 := b0) (ad := ad) (Hb := Hb) (tau := tau) hx hG (show 0 ≤ x0 ∧ x0 ≤ 6 by omega) (show Z 3 0 = 2 by omega) (show (Z 3 3 ≤ Z 3 2 ∧ Z 3 2 ≤ Z 3 1 ∧ (Z 3 4 = 0 ∨ Z 3 4 = 3 ∨ Z 3 3 < Z 3 2) ∧ (Z 3 4 = 3 ∨ Z 3 14 = 0)) by omega) IH (by omega)
    have b9 : 0 ≤ Z1 3 2 ∧ Z1 3 2 ≤ 900 := hG1.pr 3 2
    have b10 : 0 ≤ Z1 3 3 ∧ Z1 3 3 ≤ 900 := hG1.pr 3 3
    have b11 : 0 ≤ Z1 3 4 ∧ Z1 3 4 ≤ 400 := hG1.pr 3 4
    have b12 : 0 ≤ Z1 3 7 ∧ Z1 3 7 ≤ 900 := hG1.pr 3 7
    have b13 : 0 ≤ Z1 3 14 ∧ Z1 3 14 ≤ 4 := hG1.pr 3 14
    refine Jcv0 hx (show mx_Sn _ _ 2 (mx_callv 47 2 7 5) from sn_46 2) a3 s3 hc1 rfl rfl rfl ?_
    refine mx_J.step (sn_46 5) (fun _ _ => rfl) ?_
    refine JcI (z := 306) (show mx_Sn _ _ 6 (mx_const (.int 306) 9) from sn_46 6) rfl ?_
    have eq15 : Z1 3 0 = Z 3 0 := (hf1 3 0 rfl)
    have b16 : 2 ≤ Z 3 0 ∧ Z 3 0 ≤ 4 := hG.pr 3 0
    have eq17 : Z1 3 1 = Z 3 1 := (hf1 3 1 rfl)
    have b18 : 0 ≤ Z 3 1 ∧ Z 3 1 ≤ 900 := hG.pr 3 1
    have b19 : 0 ≤ Z1 3 2 ∧ Z1 3 2 ≤ 900 := hG1.pr 3 2
    have b20 : 0 ≤ Z1 3 3 ∧ Z1 3 3 ≤ 900 := hG1.pr 3 3
    have b21 : 0 ≤ Z1 3 4 ∧ Z1 3 4 ≤ 400 := hG1.pr 3 4
    have b22 : 0 ≤ Z1 3 7 ∧ Z1 3 7 ≤ 900 := hG1.pr 3 7
    have b23 : 0 ≤ Z1 3 14 ∧ Z1 3 14 ≤ 4 := hG1.pr 3 14
    obtain ⟨Z14, h14, hc14, hx14, hG14, hf14, b14⟩ := ct_53_3 (d := d + 7) (l := l) (D := D) (b0 := b0) (ad := ad) (Hb := Hb) (tau := tau) hx1 hG1 (show 40 ≤ 306 ∧ 306 ≤ 320 by omega) (show Z1 3 0 = 2 by first | omega | (simp only [eq15, eq17]; omega)) (show (Z1 3 3 ≤ Z1 3 2 ∧ Z1 3 2 ≤ Z1 3 1 ∧ (Z1 3 4 = 0 ∨ Z1 3 4 = 3 ∨ Z1 3 3 < Z1 3 2) ∧ (Z1 3 4 = 3 ∨ Z1 3 14 = 0)) by first | omega | (simp only [eq15, eq17]; omega))
    try rw [eq15] at b14
    try rw [eq17] at b14
    have b24 : 0 ≤ Z14 3 2 ∧ Z14 3 2 ≤ 900 := hG14.pr 3 2
    have b25 : 0 ≤ Z14 3 3 ∧ Z14 3 3 ≤ 900 := hG14.pr 3 3
    have b26 : 0 ≤ Z14 3 4 ∧ Z14 3 4 ≤ 400 := hG14.pr 3 4
    have eq27 : Z14 3 7 = Z1 3 7 := (hf14 3 7 rfl)
    have b28 : 0 ≤ Z1 3 7 ∧ Z1 3 7 ≤ 900 := hG1.pr 3 7
    have b29 : 0 ≤ Z14 3 14 ∧ Z14 3 14 ≤ 4 := hG14.pr 3 14
    refine Jcv0 hx1 (show mx_Sn _ _ 9 (mx_callv 53 2 7 12) from sn_46 9) a3 s3 hc14 rfl rfl rfl ?_
    refine mx_J.step (sn_46 12) (fun _ _ => rfl) ?_
    refine mx_J.step (sn_46 13) (fun _ _ => rfl) ?_
    have eq31 : Z14 3 0 = Z 3 0 := ((hf14 3 0 rfl).trans (hf1 3 0 rfl))
    have b32 : 2 ≤ Z 3 0 ∧ Z 3 0 ≤ 4 := hG.pr 3 0
    have eq33 : Z14 3 1 = Z 3 1 := ((hf14 3 1 rfl).trans (hf1 3 1 rfl))
    have b34 : 0 ≤ Z 3 1 ∧ Z 3 1 ≤ 900 := hG.pr 3 1
    have b35 : 0 ≤ Z14 3 2 ∧ Z14 3 2 ≤ 900 := hG14.pr 3 2
    have b36 : 0 ≤ Z14 3 3 ∧ Z14 3 3 ≤ 900 := hG14.pr 3 3
    have b37 : 0 ≤ Z14 3 4 ∧ Z14 3 4 ≤ 400 := hG14.pr 3 4
    have eq38 : Z14 3 7 = Z1 3 7 := (hf14 3 7 rfl)
    have b39 : 0 ≤ Z1 3 7 ∧ Z1 3 7 ≤ 900 := hG1.pr 3 7
    have b40 : 0 ≤ Z14 3 14 ∧ Z14 3 14 ≤ 4 := hG14.pr 3 14
    obtain ⟨Z30, h30, hc30, hx30, hG30, hf30, b30⟩ := ct_42_3_s (d := d + 4) (l := l) (D := D) (b0 := b0) (ad := ad) (Hb := Hb) (tau := tau) hx14 hG14 (show 0 ≤ x0 ∧ x0 ≤ 6 by omega) (show Z14 3 0 = 2 by first | omega | (simp only [eq31, eq33, eq38]; omega)) (show (Z14 3 3 ≤ Z14 3 2 ∧ Z14 3 2 ≤ Z14 3 1 ∧ (Z14 3 4 = 0 ∨ Z14 3 4 = 3 ∨ Z14 3 3 < Z14 3 2) ∧ (Z14 3 4 = 3 ∨ Z14 3 14 = 0)) by first | omega | (simp only [eq31, eq33, eq38]; omega)) IH (by omega)
    try rw [eq31] at b30
    try rw [eq33] at b30
    try rw [eq38] at b30
    have b41 : 0 ≤ Z30 3 2 ∧ Z30 3 2 ≤ 900 := hG30.pr 3 2
    have b42 : 0 ≤ Z30 3 3 ∧ Z30 3 3 ≤ 900 := hG30.pr 3 3
    have b43 : 0 ≤ Z30 3 4 ∧ Z30 3 4 ≤ 400 := hG30.pr 3 4
    have b44 : 0 ≤ Z30 3 7 ∧ Z30 3 7 ≤ 900 := hG30.pr 3 7
    have b45 : 0 ≤ Z30 3 14 ∧ Z30 3 14 ≤ 4 := hG30.pr 3 14
    refine Jcv0 hx14 (show mx_Sn _ _ 14 (mx_callv 42 2 7 17) from sn_46 14) a3 s3 hc30 rfl rfl rfl ?_
    refine mx_J.step (sn_46 17) (fun _ _ => rfl) ?_
    refine JcI (z := 307) (show mx_Sn _ _ 18 (mx_const (.int 307) 21) from sn_46 18) rfl ?_
    have eq47 : Z30 3 0 = Z 3 0 := ((hf30 3 0 rfl).trans ((hf14 3 0 rfl).trans (hf1 3 0 rfl)))
    have b48 : 2 ≤ Z 3 0 ∧ Z 3 0 ≤ 4 := hG.pr 3 0
    have eq49 : Z30 3 1 = Z 3 1 := ((hf30 3 1 rfl).trans ((hf14 3 1 rfl).trans (hf1 3 1 rfl)))
    have b50 : 0 ≤ Z 3 1 ∧ Z 3 1 ≤ 900 := hG.pr 3 1
    have b51 : 0 ≤ Z30 3 2 ∧ Z30 3 2 ≤ 900 := hG30.pr 3 2
    have b52 : 0 ≤ Z30 3 3 ∧ Z30 3 3 ≤ 900 := hG30.pr 3 3
    have b53 : 0 ≤ Z30 3 4 ∧ Z30 3 4 ≤ 400 := hG30.pr 3 4
    have b54 : 0 ≤ Z30 3 7 ∧ Z30 3 7 ≤ 900 := hG30.pr 3 7
    have b55 : 0 ≤ Z30 3 14 ∧ Z30 3 14 ≤ 4 := hG30.pr 3 14
    obtain ⟨Z46, h46, hc46, hx46, hG46, hf46, b46⟩ := ct_53_3 (d := d + 7) (l := l) (D := D) (b0 := b0) (ad := ad) (Hb := Hb) (tau := tau) hx30 hG30 (show 40 ≤ 307 ∧ 307 ≤ 320 by omega) (show Z30 3 0 = 2 by first | omega | (simp only [eq47, eq49]; omega)) (show (Z30 3 3 ≤ Z30 3 2 ∧ Z30 3 2 ≤ Z30 3 1 ∧ (Z30 3 4 = 0 ∨ Z30 3 4 = 3 ∨ Z30 3 3 < Z30 3 2) ∧ (Z30 3 4 = 3 ∨ Z30 3 14 = 0)) by first | omega | (simp only [eq47, eq49]; omega))
    try rw [eq47] at b46
    try rw [eq49] at b46
    have b56 : 0 ≤ Z46 3 2 ∧ Z46 3 2 ≤ 900 := hG46.pr 3 2
    have b57 : 0 ≤ Z46 3 3 ∧ Z46 3 3 ≤ 900 := hG46.pr 3 3
    have b58 : 0 ≤ Z46 3 4 ∧ Z46 3 4 ≤ 400 := hG46.pr 3 4
    have eq59 : Z46 3 7 = Z30 3 7 := (hf46 3 7 rfl)
    have b60 : 0 ≤ Z30 3 7 ∧ Z30 3 7 ≤ 900 := hG30.pr 3 7
    have b61 : 0 ≤ Z46 3 14 ∧ Z46 3 14 ≤ 4 := hG46.pr 3 14
    refine Jcv0 hx30 (show mx_Sn _ _ 21 (mx_callv 53 2 7 24) from sn_46 21) a3 s3 hc46 rfl rfl rfl ?_
    refine mx_J.step (sn_46 24) (fun _ _ => rfl) ?_
    refine mx_J.step (sn_46 25) (fun _ _ => rfl) ?_
    have eq63 : Z46 3 0 = Z 3 0 := ((hf46 3 0 rfl).trans ((hf30 3 0 rfl).trans ((hf14 3 0 rfl).trans (hf1 3 0 rfl))))
    have b64 : 2 ≤ Z 3 0 ∧ Z 3 0 ≤ 4 := hG.pr 3 0
    have eq65 : Z46 3 1 = Z 3 1 := ((hf46 3 1 rfl).trans ((hf30 3 1 rfl).trans ((hf14 3 1 rfl).trans (hf1 3 1 rfl))))
    have b66 : 0 ≤ Z 3 1 ∧ Z 3 1 ≤ 900 := hG.pr 3 1
    have b67 : 0 ≤ Z46 3 2 ∧ Z46 3 2 ≤ 900 := hG46.pr 3 2
    have b68 : 0 ≤ Z46 3 3 ∧ Z46 3 3 ≤ 900 := hG46.pr 3 3
    have b69 : 0 ≤ Z46 3 4 ∧ Z46 3 4 ≤ 400 := hG46.pr 3 4
    have eq70 : Z46 3 7 = Z30 3 7 := (hf46 3 7 rfl)
    have b71 : 0 ≤ Z30 3 7 ∧ Z30 3 7 ≤ 900 := hG30.pr 3 7
    have b72 : 0 ≤ Z46 3 14 ∧ Z46 3 14 ≤ 4 := hG46.pr 3 14
    obtain ⟨Z62, h62, hc62, hx62, hG62, hf62, b62⟩ := ct_42_3_s (d := d + 4) (l := l) (D := D) (b0 := b0) (ad := ad) (Hb := Hb) (tau := tau) hx46 hG46 (show 0 ≤ x0 ∧ x0 ≤ 6 by omega) (show Z46 3 0 = 2 by first | omega | (simp only [eq63, eq65, eq70]; omega)) (show (Z46 3 3 ≤ Z46 3 2 ∧ Z46 3 2 ≤ Z46 3 1 ∧ (Z46 3 4 = 0 ∨ Z46 3 4 = 3 ∨ Z46 3 3 < Z46 3 2) ∧ (Z46 3 4 = 3 ∨ Z46 3 14 = 0)) by first | omega | (simp only [eq63, eq65, eq70]; omega)) IH (by omega)
    try rw [eq63] at b62
    try rw [eq65] at b62
    try rw [eq70] at b62
    have b73 : 0 ≤ Z62 3 2 ∧ Z62 3 2 ≤ 900 := hG62.pr 3 2
    have b74 : 0 ≤ Z62 3 3 ∧ Z62 3 3 ≤ 900 := hG62.pr 3 3
    have b75 : 0 ≤ Z62 3 4 ∧ Z62 3 4 ≤ 400 := hG62.pr 3 4
    have b76 : 0 ≤ Z62 3 7 ∧ Z62 3 7 ≤ 900 := hG62.pr 3 7
    have b77 : 0 ≤ Z62 3 14 ∧ Z62 3 14 ≤ 4 := hG62.pr 3 14
    refine Jcv0 hx46 (show mx_Sn _ _ 26 (mx_callv 42 2 7 29) from sn_46 26) a3 s3 hc62 rfl rfl rfl ?_
    refine mx_J.step (sn_46 29) (fun _ _ => rfl) ?_
    refine JcI (z := 308) (show mx_Sn _ _ 30 (mx_const (.int 308) 33) from sn_46 30) rfl ?_
    have eq79 : Z62 3 0 = Z 3 0 := ((hf62 3 0 rfl).trans ((hf46 3 0 rfl).trans ((hf30 3 0 rfl).trans ((hf14 3 0 rfl).trans (hf1 3 0 rfl)))))
    have b80 : 2 ≤ Z 3 0 ∧ Z 3 0 ≤ 4 := hG.pr 3 0
    have eq81 : Z62 3 1 = Z 3 1 := ((hf62 3 1 rfl).trans ((hf46 3 1 rfl).trans ((hf30 3 1 rfl).trans ((hf14 3 1 rfl).trans (hf1 3 1 rfl)))))
    have b82 : 0 ≤ Z 3 1 ∧ Z 3 1 ≤ 900 := hG.pr 3 1
    have b83 : 0 ≤ Z62 3 2 ∧ Z62 3 2 ≤ 900 := hG62.pr 3 2
    have b84 : 0 ≤ Z62 3 3 ∧ Z62 3 3 ≤ 900 := hG62.pr 3 3
    have b85 : 0 ≤ Z62 3 4 ∧ Z62 3 4 ≤ 400 := hG62.pr 3 4
    have b86 : 0 ≤ Z62 3 7 ∧ Z62 3 7 ≤ 900 := hG62.pr 3 7
    have b87 : 0 ≤ Z62 3 14 ∧ Z62 3 14 ≤ 4 := hG62.pr 3 14
    obtain ⟨Z78, h78, hc78, hx78, hG78, hf78, b78⟩ := ct_53_3 (d := d + 7) (l := l) (D := D) (b0 := b0) (ad := ad) (Hb := Hb) (tau := tau) hx62 hG62 (show 40 ≤ 308 ∧ 308 ≤ 320 by omega) (show Z62 3 0 = 2 by first | omega | (simp only [eq79, eq81]; omega)) (show (Z62 3 3 ≤ Z62 3 2 ∧ Z62 3 2 ≤ Z62 3 1 ∧ (Z62 3 4 = 0 ∨ Z62 3 4 = 3 ∨ Z62 3 3 < Z62 3 2) ∧ (Z62 3 4 = 3 ∨ Z62 3 14 = 0)) by first | omega | (simp only [eq79, eq81]; omega))
    try rw [eq79] at b78
    try rw [eq81] at b78
    have b88 : 0 ≤ Z78 3 2 ∧ Z78 3 2 ≤ 900 := hG78.pr 3 2
    have b89 : 0 ≤ Z78 3 3 ∧ Z78 3 3 ≤ 900 := hG78.pr 3 3
    have b90 : 0 ≤ Z78 3 4 ∧ Z78 3 4 ≤ 400 := hG78.pr 3 4
    have eq91 : Z78 3 7 = Z62 3 7 := (hf78 3 7 rfl)
    have b92 : 0 ≤ Z62 3 7 ∧ Z62 3 7 ≤ 900 := hG62.pr 3 7
    have b93 : 0 ≤ Z78 3 14 ∧ Z78 3 14 ≤ 4 := hG78.pr 3 14
    refine Jcv0 hx62 (show mx_Sn _ _ 33 (mx_callv 53 2 7 36) from sn_46 33) a3 s3 hc78 rfl rfl rfl ?_
    refine mx_J.step (sn_46 36) (fun _ _ => rfl) ?_
    refine JcI (z := 1019) (show mx_Sn _ _ 37 (mx_const (.int 1019) 40) from sn_46 37) rfl ?_
    have eq95 : Z78 3 7 = Z62 3 7 := (hf78 3 7 rfl)
    have b96 : 0 ≤ Z62 3 7 ∧ Z62 3 7 ≤ 900 := hG62.pr 3 7
    obtain ⟨Z94, h94, hc94, hx94, hG94, hf94, b94⟩ := ct_52_3_1010 (d := d + 13) (l := l) (D := D) (b0 := b0) (ad := ad) (Hb := Hb) (tau := tau) hx78 hG78 (show 1010 ≤ 1019 ∧ 1019 ≤ 1019 by omega)
    try rw [eq95] at b94
    have b97 : 0 ≤ Z94 3 7 ∧ Z94 3 7 ≤ 900 := hG94.pr 3 7
    refine Jcv0 hx78 (show mx_Sn _ _ 40 (mx_callv 52 2 7 43) from sn_46 40) a3 s3 hc94 rfl rfl rfl ?_
    have eq98 : Z94 3 2 = Z78 3 2 := (hf94 3 2 rfl)
    have b99 : 0 ≤ Z78 3 2 ∧ Z78 3 2 ≤ 900 := hG78.pr 3 2
    have eq100 : Z94 3 3 = Z78 3 3 := (hf94 3 3 rfl)
    have b101 : 0 ≤ Z78 3 3 ∧ Z78 3 3 ≤ 900 := hG78.pr 3 3
    have eq102 : Z94 3 4 = Z78 3 4 := (hf94 3 4 rfl)
    have b103 : 0 ≤ Z78 3 4 ∧ Z78 3 4 ≤ 400 := hG78.pr 3 4
    have b104 : 0 ≤ Z94 3 7 ∧ Z94 3 7 ≤ 900 := hG94.pr 3 7
    have eq105 : Z94 3 14 = Z78 3 14 := (hf94 3 14 rfl)
    have b106 : 0 ≤ Z78 3 14 ∧ Z78 3 14 ≤ 4 := hG78.pr 3 14
    have eq107 : Z94 3 0 = Z 3 0 := ((hf94 3 0 rfl).trans ((hf78 3 0 rfl).trans ((hf62 3 0 rfl).trans ((hf46 3 0 rfl).trans ((hf30 3 0 rfl).trans ((hf14 3 0 rfl).trans (hf1 3 0 rfl)))))))
    have b108 : 2 ≤ Z 3 0 ∧ Z 3 0 ≤ 4 := hG.pr 3 0
    have eq109 : Z94 3 1 = Z 3 1 := ((hf94 3 1 rfl).trans ((hf78 3 1 rfl).trans ((hf62 3 1 rfl).trans ((hf46 3 1 rfl).trans ((hf30 3 1 rfl).trans ((hf14 3 1 rfl).trans (hf1 3 1 rfl)))))))
    have b110 : 0 ≤ Z 3 1 ∧ Z 3 1 ≤ 900 := hG.pr 3 1
    have eq111 : Z94 3 2 = Z78 3 2 := (hf94 3 2 rfl)
    have b112 : 0 ≤ Z78 3 2 ∧ Z78 3 2 ≤ 900 := hG78.pr 3 2
    have eq113 : Z94 3 3 = Z78 3 3 := (hf94 3 3 rfl)
    have b114 : 0 ≤ Z78 3 3 ∧ Z78 3 3 ≤ 900 := hG78.pr 3 3
    have eq115 : Z94 3 4 = Z78 3 4 := (hf94 3 4 rfl)
    have b116 : 0 ≤ Z78 3 4 ∧ Z78 3 4 ≤ 400 := hG78.pr 3 4
    have b117 : 0 ≤ Z94 3 7 ∧ Z94 3 7 ≤ 900 := hG94.pr 3 7
    have eq118 : Z94 3 14 = Z78 3 14 := (hf94 3 14 rfl)
    have b119 : 0 ≤ Z78 3 14 ∧ Z78 3 14 ≤ 4 := hG78.pr 3 14
    exact mx_J.ret (sn_46 43) (fun _ _ => rfl) (hP Z94 h94 hx94 hG94 (fr_tr (M := [(3, 2), (3, 3), (3, 4), (3, 5), (3, 7), (3, 14), (3, 15), (5, (-1))]) (fr_tr (M := [(3, 2), (3, 3), (3, 4), (3, 5), (3, 7), (3, 14), (3, 15), (5, (-1))]) (fr_tr (M := [(3, 2), (3, 3), (3, 4), (3, 5), (3, 7), (3, 14), (3, 15), (5, (-1))]) (fr_tr (M := [(3, 2), (3, 3), (3, 4), (3, 5), (3, 7), (3, 14), (3, 15), (5, (-1))]) (fr_tr (M := [(3, 2), (3, 3), (3, 4), (3, 5), (3, 7), (3, 14), (3, 15), (5, (-1))]) (fr_tr (M := [(3, 2), (3, 3), (3, 4), (3, 5), (3, 7), (3, 14), (3, 15), (5, (-1))]) (fr_tr (M := [(3, 2), (3, 3), (3, 4), (3, 5), (3, 7), (3, 14), (3, 15), (5, (-1))]) fr_rf (hf1) (M1 := []) rfl rfl) (hf14) rfl rfl) (hf30) rfl rfl) (hf46) rfl rfl) (hf62) rfl rfl) (hf78) rfl rfl) (hf94) rfl rfl) (by omega))
theorem ct_46_3_s {l : Launch} {D : va_G} {b0 : Nat} {ad : Nat → Nat} {Hb : Heap} {tau : Nat → Int64} {d n s : Nat} {S : Nat → xS} {Z : xZ} {h : mx_H} (hx : XH n s S Z h) (hG : GI n S Z)  {x0 : Int} (p0 : 0 ≤ x0 ∧ x0 ≤ 6) (k0 : Z 3 0 = 2) (k1 : (Z 3 3 ≤ Z 3 2 ∧ Z 3 2 ≤ Z 3 1 ∧ (Z 3 4 = 0 ∨ Z 3 4 = 3 ∨ Z 3 3 < Z 3 2) ∧ (Z 3 4 = 3 ∨ Z 3 14 = 0))) {kk : Nat} (IH : RBch l D b0 ad Hb tau kk x0) (hd : kk ≤ d) : ∃ (Z' : xZ) (h' : mx_H), mx_Ca (tB l D b0 ad Hb tau) (d + 15) 46 [.ref 3, xI x0] h (none, h') ∧ XH n s S Z' h' ∧ GI n S Z' ∧ fr' [(3, 2), (3, 3), (3, 4), (3, 5), (3, 7), (3, 14), (3, 15), (5, (-1))] Z Z' ∧ (((Z' 3 3 ≤ Z' 3 2 ∧ Z' 3 2 ≤ Z 3 1 ∧ (Z' 3 4 = 0 ∨ Z' 3 4 = 3 ∨ Z' 3 3 < Z' 3 2) ∧ (Z' 3 4 = 3 ∨ Z' 3 14 = 0)) ∧ Z 3 3 ≤ Z' 3 3 ∧ Z' 3 7 - Z 3 7 ≤ Z' 3 3 - Z 3 3 + 1 ∧ (Z 3 4 = 3 → Z' 3 4 = 3))) := by
  obtain ⟨r, hca, Z', h', e, q⟩ := Jmt (B := tB l D b0 ad Hb tau) (M := mt_46) (mi := 46) (as := [.ref 3, xI x0]) (d := d + 14) (ls := [some (.ref 3), some (xI x0)]) rfl rfl rfl rfl rfl rfl (cw_46_3_s (l := l) (D := D) (b0 := b0) (ad := ad) (Hb := Hb) (tau := tau) (d := d) (Post := fun r => ∃ (Z' : xZ) (h' : mx_H), r = (none, h') ∧ XH n s S Z' h' ∧ GI n S Z' ∧ fr' [(3, 2), (3, 3), (3, 4), (3, 5), (3, 7), (3, 14), (3, 15), (5, (-1))] Z Z' ∧ (((Z' 3 3 ≤ Z' 3 2 ∧ Z' 3 2 ≤ Z 3 1 ∧ (Z' 3 4 = 0 ∨ Z' 3 4 = 3 ∨ Z' 3 3 < Z' 3 2) ∧ (Z' 3 4 = 3 ∨ Z' 3 14 = 0)) ∧ Z 3 3 ≤ Z' 3 3 ∧ Z' 3 7 - Z 3 7 ≤ Z' 3 3 - Z 3 3 + 1 ∧ (Z 3 4 = 3 → Z' 3 4 = 3)))) hx hG p0 k0 k1 IH hd (fun Z' h' q1 q2 q3 q4 => ⟨Z', h', rfl, q1, q2, q3, q4⟩))
  subst e; exact ⟨Z', h', hca, q⟩
theorem lev_c {l : Launch} {D : va_G} {b0 : Nat} {ad : Nat → Nat} {Hb : Heap} {tau : Nat → Int64} {x0 : Int} (p0 : 0 ≤ x0 ∧ x0 ≤ 6) {kk : Nat} (IH : RBch l D b0 ad Hb tau kk x0) : RBc l D b0 ad Hb tau (kk + 15) x0 := by
  refine ⟨?_, ?_, ?_, ?_⟩
  · intro d n s S Z h hd hx hG k0 k1
    obtain ⟨e, rfl⟩ : ∃ e, d = e + 10 := ⟨d - 10, by omega⟩
    obtain ⟨Z', h', hca, q1, q2, q3, q4⟩ := ct_42_3_s (d := e) (l := l) (D := D) (b0 := b0) (ad := ad) (Hb := Hb) (tau := tau) hx hG p0 k0 k1 IH (by omega)
    exact ⟨Z', h', hca, q1, q2, fr_tr (M1 := []) fr_rf q3 rfl rfl, q4⟩
  · intro d n s S Z h hd hx hG k0 k1
    obtain ⟨e, rfl⟩ : ∃ e, d = e + 15 := ⟨d - 15, by omega⟩
    obtain ⟨Z', h', hca, q1, q2, q3, q4⟩ := ct_46_3_s (d := e) (l := l) (D := D) (b0 := b0) (ad := ad) (Hb := Hb) (tau := tau) hx hG p0 k0 k1 IH (by omega)
    exact ⟨Z', h', hca, q1, q2, fr_tr (M1 := []) fr_rf q3 rfl rfl, q4⟩
  · intro d n s S Z h hd hx hG k0 k1
    obtain ⟨e, rfl⟩ : ∃ e, d = e + 12 := ⟨d - 12, by omega⟩
    obtain ⟨Z', h', hca, q1, q2, q3, q4⟩ := ct_49_3_s (d := e) (l := l) (D := D) (b0 := b0) (ad := ad) (Hb := Hb) (tau := tau) hx hG p0 k0 k1 IH (by omega)
    exact ⟨Z', h', hca, q1, q2, fr_tr (M1 := []) fr_rf q3 rfl rfl, q4⟩
  · intro d n s S Z h hd hx hG k0 k1
    obtain ⟨e, rfl⟩ : ∃ e, d = e + 14 := ⟨d - 14, by omega⟩
    obtain ⟨Z', h', hca, q1, q2, q3, q4⟩ := ct_47_3_s (d := e) (l := l) (D := D) (b0 := b0) (ad := ad) (Hb := Hb) (tau := tau) hx hG p0 k0 k1 IH (by omega)
    exact ⟨Z', h', hca, q1, q2, fr_tr (M1 := []) fr_rf q3 rfl rfl, q4⟩
theorem all_c {l : Launch} {D : va_G} {b0 : Nat} {ad : Nat → Nat} {Hb : Heap} {tau : Nat → Int64} : ∀ (e : Nat) (x0 : Int), x0 = 6 - (e : Int) → 0 ≤ x0 → RBc l D b0 ad Hb tau (15 * (e + 1)) x0
  | 0, x0, h, h0 => (show RBc l D b0 ad Hb tau (0 + 15) x0 from lev_c (kk := 0) (by omega) (fun q => absurd q (by omega)))
  | e + 1, x0, h, h0 => (show RBc l D b0 ad Hb tau (15 * (e + 1) + 15) x0 from lev_c (kk := 15 * (e + 1)) (by omega) (fun _ => all_c e (x0 + 1) (by omega) (by omega)))
theorem ct_42_3_i0 {l : Launch} {D : va_G} {b0 : Nat} {ad : Nat → Nat} {Hb : Heap} {tau : Nat → Int64} {d n s : Nat} {S : Nat → xS} {Z : xZ} {h : mx_H} (hx : XH n s S Z h) (hG : GI n S Z) (k0 : Z 3 0 = 2) (k1 : (Z 3 3 ≤ Z 3 2 ∧ Z 3 2 ≤ Z 3 1 ∧ (Z 3 4 = 0 ∨ Z 3 4 = 3 ∨ Z 3 3 < Z 3 2) ∧ (Z 3 4 = 3 ∨ Z 3 14 = 0))) : ∃ (Z' : xZ) (h' : mx_H), mx_Ca (tB l D b0 ad Hb tau) (d + 105) 42 [.ref 3, xI 0] h (none, h') ∧ XH n s S Z' h' ∧ GI n S Z' ∧ fr' [(3, 2), (3, 3), (3, 4), (3, 5), (3, 7), (3, 14), (3, 15), (5, (-1))] Z Z' ∧ (((Z' 3 3 ≤ Z' 3 2 ∧ Z' 3 2 ≤ Z 3 1 ∧ (Z' 3 4 = 0 ∨ Z' 3 4 = 3 ∨ Z' 3 3 < Z' 3 2) ∧ (Z' 3 4 = 3 ∨ Z' 3 14 = 0)) ∧ Z 3 3 ≤ Z' 3 3 ∧ Z' 3 7 - Z 3 7 ≤ Z' 3 3 - Z 3 3 ∧ (Z' 3 4 = 3 ∨ Z 3 3 + 1 ≤ Z' 3 3) ∧ (Z 3 4 = 3 → Z' 3 4 = 3))) := (all_c 6 0 (by decide) (by decide)).1 (d + 105) n s S Z h (by omega) hx hG k0 k1
theorem ct_47_3_i0 {l : Launch} {D : va_G} {b0 : Nat} {ad : Nat → Nat} {Hb : Heap} {tau : Nat → Int64} {d n s : Nat} {S : Nat → xS} {Z : xZ} {h : mx_H} (hx : XH n s S Z h) (hG : GI n S Z) (k0 : Z 3 0 = 2) (k1 : (Z 3 3 ≤ Z 3 2 ∧ Z 3 2 ≤ Z 3 1 ∧ (Z 3 4 = 0 ∨ Z 3 4 = 3 ∨ Z 3 3 < Z 3 2) ∧ (Z 3 4 = 3 ∨ Z 3 14 = 0))) : ∃ (Z' : xZ) (h' : mx_H), mx_Ca (tB l D b0 ad Hb tau) (d + 105) 47 [.ref 3, xI 0] h (none, h') ∧ XH n s S Z' h' ∧ GI n S Z' ∧ fr' [(3, 2), (3, 3), (3, 4), (3, 5), (3, 7), (3, 14), (3, 15), (5, (-1))] Z Z' ∧ (((Z' 3 3 ≤ Z' 3 2 ∧ Z' 3 2 ≤ Z 3 1 ∧ (Z' 3 4 = 0 ∨ Z' 3 4 = 3 ∨ Z' 3 3 < Z' 3 2) ∧ (Z' 3 4 = 3 ∨ Z' 3 14 = 0)) ∧ Z 3 3 ≤ Z' 3 3 ∧ Z' 3 7 - Z 3 7 ≤ Z' 3 3 - Z 3 3 ∧ (Z' 3 4 = 3 ∨ Z 3 3 + 1 ≤ Z' 3 3) ∧ (Z 3 4 = 3 → Z' 3 4 = 3))) := (all_c 6 0 (by decide) (by decide)).2.2.2 (d + 105) n s S Z h (by omega) hx hG k0 k1
set_option maxHeartbeats 8000000 in
set_option maxRecDepth 100000 in
theorem cw_40_3 {l : Launch} {D : va_G} {b0 : Nat} {ad : Nat → Nat} {Hb : Heap} {tau : Nat → Int64} {d n s : Nat} {S : Nat → xS} {Z : xZ} {h : mx_H} {Post : mx_R → Prop} (hx : XH n s S Z h) (hG : GI n S Z)   (k0 : Z 3 0 = 2) (k1 : (Z 3 3 ≤ Z 3 2 ∧ Z 3 2 ≤ Z 3 1 ∧ (Z 3 4 = 0 ∨ Z 3 4 = 3 ∨ Z 3 3 < Z 3 2) ∧ (Z 3 4 = 3 ∨ Z 3 14 = 0))) (k2 : ¬ Z 3 4 = 0) (k3 : ¬ Z 3 4 = 3) (k4 : ((n : Nat) : Int) ≤ 4095) (k5 : ai 6 Z 19 0 (Z 3 12) = 1) (hP : ∀ (n' s' : Nat) (S' : Nat → xS) (Z' : xZ) (h' : mx_H), XH n' s' S' Z' h' → GI n' S' Z' → fr8 [(3, 2), (3, 3), (3, 4), (3, 5), (3, 7), (3, 8), (3, 9), (3, 12), (3, 14), (3, 15), (5, (-1)), (6, (-1))] Z Z' → ((Z' 3 3 ≤ Z' 3 2 ∧ Z' 3 2 ≤ Z 3 1 ∧ (Z' 3 4 = 0 ∨ Z' 3 4 = 3 ∨ Z' 3 3 < Z' 3 2) ∧ (Z' 3 4 = 3 ∨ Z' 3 14 = 0)) ∧ Z 3 3 ≤ Z' 3 3 ∧ ((n : Nat) : Int) ≤ ((n' : Nat) : Int) ∧ ((s : Nat) : Int) ≤ ((s' : Nat) : Int) ∧ ((s' : Nat) : Int) ≤ ((s : Nat) : Int) + 900 * (((n' : Nat) : Int) - ((n : Nat) : Int)) ∧ ((n' : Nat) : Int) ≤ ((n : Nat) : Int) + 1 ∧ (Z' 3 4 = 3 ∨ 3 * (((n' : Nat) : Int) - ((n : Nat) : Int)) ≤ Z' 3 3 - Z 3 3) ∧ ai 6 Z' 19 0 (Z' 3 12 + 1) = 1 ∧ (Z' 3 4 = 3 ∨ ai 6 Z' 19 0 (Z' 3 12) = 1)) → Post (none, h')) : mx_J (tB l D b0 ad Hb tau) mt_40 (d + 105) 0 [some (.ref 3), none] [] h Post := by
    refine mx_J.step (sn_40 0) (fun _ _ => rfl) ?_
    have b2 : 0 ≤ Z 3 4 ∧ Z 3 4 ≤ 400 := hG.pr 3 4
    refine JgetI (g := 4) (z := Z 3 4) hx (show mx_Sn _ _ 1 (mx_getf 7 4 4) from sn_40 1) (lt83 (GI_n hG) rfl) (show S 3 = .inl (7, [2, 0, 0, 0, 0, 0, 2, 0, 2, 2, 0, 2, 0, 0, 0, 0]) from GI_s hG 3 rfl) rfl rfl rfl ?_
    refine JcI (z := 302) (show mx_Sn _ _ 4 (mx_const (.int 302) 7) from sn_40 4) rfl ?_
    have c129 : ∀ (u3_1 : Option Value) (n4 s4 : Nat) (S4 : Nat → xS) (Z4 : xZ) (h4 : mx_H), ((Z4 3 3 ≤ Z4 3 2 ∧ Z4 3 2 ≤ Z 3 1 ∧ (Z4 3 4 = 0 ∨ Z4 3 4 = 3 ∨ Z4 3 3 < Z4 3 2) ∧ (Z4 3 4 = 3 ∨ Z4 3 14 = 0)) ∧ Z 3 3 ≤ Z4 3 3) → (((n : Nat) : Int) ≤ ((n4 : Nat) : Int) ∧ ((s : Nat) : Int) ≤ ((s4 : Nat) : Int) ∧ ((s4 : Nat) : Int) ≤ ((s : Nat) : Int) + 900 * (((n4 : Nat) : Int) - ((n : Nat) : Int)) ∧ ((n4 : Nat) : Int) ≤ ((n : Nat) : Int) + 1) → (Z4 3 4 = 3 ∨ 3 * (((n4 : Nat) : Int) - ((n : Nat) : Int)) ≤ Z4 3 3 - Z 3 3) → (ai 6 Z4 19 0 (Z4 3 12 + 1) = 1) → (Z4 3 4 = 3 ∨ ai 6 Z4 19 0 (Z4 3 12) = 1) → XH n4 s4 S4 Z4 h4 → GI n4 S4 Z4 → fr8 [(3, 2), (3, 3), (3, 4), (3, 5), (3, 7), (3, 8), (3, 9), (3, 12), (3, 14), (3, 15), (5, (-1)), (6, (-1))] Z Z4 → mx_J (tB l D b0 ad Hb tau) mt_40 (d + 105) 129 [some (.ref 3), u3_1] [] h4 Post := by
      intro u3_1 n4 s4 S4 Z4 h4 f3_0 f3_1 f3_2 f3_3 f3_4 hx4 hG4 hf4
      have eq5 : Z4 3 0 = Z 3 0 := (hf4 3 0 rfl rfl)
      have b6 : 2 ≤ Z 3 0 ∧ Z 3 0 ≤ 4 := hG.pr 3 0
      have b7 : 0 ≤ Z4 3 2 ∧ Z4 3 2 ≤ 900 := hG4.pr 3 2
      have b8 : 0 ≤ Z4 3 3 ∧ Z4 3 3 ≤ 900 := hG4.pr 3 3
      have b9 : 0 ≤ Z4 3 4 ∧ Z4 3 4 ≤ 400 := hG4.pr 3 4
      have b10 : 0 ≤ Z4 3 7 ∧ Z4 3 7 ≤ 900 := hG4.pr 3 7
      have b11 : 0 ≤ Z4 3 14 ∧ Z4 3 14 ≤ 4 := hG4.pr 3 14
      have b12 : 0 ≤ Z4 3 4 ∧ Z4 3 4 ≤ 400 := hG4.pr 3 4
      have b13 : 0 ≤ Z4 3 3 ∧ Z4 3 3 ≤ 900 := hG4.pr 3 3
      have b14 : 0 ≤ Z4 3 12 ∧ Z4 3 12 ≤ 18 := hG4.pr 3 12
      have b15 : 0 ≤ Z4 3 12 ∧ Z4 3 12 ≤ 18 := hG4.pr 3 12
      have b16 : 0 ≤ Z4 3 4 ∧ Z4 3 4 ≤ 400 := hG4.pr 3 4
      have b17 : 0 ≤ Z4 3 12 ∧ Z4 3 12 ≤ 18 := hG4.pr 3 12
      have b18 : 0 ≤ Z4 3 12 ∧ Z4 3 12 ≤ 18 := hG4.pr 3 12
      have b19 : 0 ≤ Z4 3 2 ∧ Z4 3 2 ≤ 900 := hG4.pr 3 2
      have b20 : 0 ≤ Z4 3 3 ∧ Z4 3 3 ≤ 900 := hG4.pr 3 3
      have b21 : 0 ≤ Z4 3 4 ∧ Z4 3 4 ≤ 400 := hG4.pr 3 4
      have b22 : 0 ≤ Z4 3 7 ∧ Z4 3 7 ≤ 900 := hG4.pr 3 7
      have b23 : 0 ≤ Z4 3 14 ∧ Z4 3 14 ≤ 4 := hG4.pr 3 14
      have b24 : 0 ≤ Z4 3 12 ∧ Z4 3 12 ≤ 18 := hG4.pr 3 12
      have b25 : 0 ≤ Z4 3 12 ∧ Z4 3 12 ≤ 18 := hG4.pr 3 12
      have b26 : 0 ≤ Z4 3 12 ∧ Z4 3 12 ≤ 18 := hG4.pr 3 12
      have eq27 : Z4 3 0 = Z 3 0 := (hf4 3 0 rfl rfl)
      have b28 : 2 ≤ Z 3 0 ∧ Z 3 0 ≤ 4 := hG.pr 3 0
      have eq29 : Z4 3 1 = Z 3 1 := (hf4 3 1 rfl rfl)
      have b30 : 0 ≤ Z 3 1 ∧ Z 3 1 ≤ 900 := hG.pr 3 1
      have b31 : 0 ≤ Z4 3 2 ∧ Z4 3 2 ≤ 900 := hG4.pr 3 2
      have b32 : 0 ≤ Z4 3 3 ∧ Z4 3 3 ≤ 900 := hG4.pr 3 3
      have b33 : 0 ≤ Z4 3 4 ∧ Z4 3 4 ≤ 400 := hG4.pr 3 4
      have b34 : 0 ≤ Z4 3 7 ∧ Z4 3 7 ≤ 900 := hG4.pr 3 7
      have b35 : 0 ≤ Z4 3 14 ∧ Z4 3 14 ≤ 4 := hG4.pr 3 14
      have b36 : 0 ≤ Z4 3 12 ∧ Z4 3 12 ≤ 18 := hG4.pr 3 12
      have b37 : 0 ≤ Z4 3 12 ∧ Z4 3 12 ≤ 18 := hG4.pr 3 12
      exact mx_J.ret (sn_40 129) (fun _ _ => rfl) (hP n4 s4 S4 Z4 h4 hx4 hG4 (fr8_tr (M := [(3, 2), (3, 3), (3, 4), (3, 5), (3, 7), (3, 8), (3, 9), (3, 12), (3, 14), (3, 15), (5, (-1)), (6, (-1))]) fr8_rf (hf4) (M1 := []) rfl rfl) (by omega))
    refine Jicmp_ne (show mx_Sn _ _ 7 (mx_icmp_ne 50 10) from sn_40 7) (by omega) (by omega) (fun q38 => ?_) (fun q38 => ?_)
    · skip
      refine mx_J.step (sn_40 50) (fun _ _ => rfl) ?_
      have b40 : 0 ≤ Z 3 4 ∧ Z 3 4 ≤ 400 := hG.pr 3 4
      refine JgetI (g := 4) (z := Z 3 4) hx (show mx_Sn _ _ 51 (mx_getf 7 4 54) from sn_40 51) (lt83 (GI_n hG) rfl) (show S 3 = .inl (7, [2, 0, 0, 0, 0, 0, 2, 0, 2, 2, 0, 2, 0, 0, 0, 0]) from GI_s hG 3 rfl) rfl rfl rfl ?_
      refine JcI (z := 303) (show mx_Sn _ _ 54 (mx_const (.int 303) 57) from sn_40 54) rfl ?_
      refine Jicmp_ne (show mx_Sn _ _ 57 (mx_icmp_ne 87 60) from sn_40 57) (by omega) (by omega) (fun q41 => ?_) (fun q41 => ?_)
      · skip
        refine mx_J.step (sn_40 87) (fun _ _ => rfl) ?_
        have b43 : 0 ≤ Z 3 4 ∧ Z 3 4 ≤ 400 := hG.pr 3 4
        refine JgetI (g := 4) (z := Z 3 4) hx (show mx_Sn _ _ 88 (mx_getf 7 4 91) from sn_40 88) (lt83 (GI_n hG) rfl) (show S 3 = .inl (7, [2, 0, 0, 0, 0, 0, 2, 0, 2, 2, 0, 2, 0, 0, 0, 0]) from GI_s hG 3 rfl) rfl rfl rfl ?_
        refine JcI (z := 304) (show mx_Sn _ _ 91 (mx_const (.int 304) 94) from sn_40 91) rfl ?_
        refine Jicmp_ne (show mx_Sn _ _ 94 (mx_icmp_ne 124 97) from sn_40 94) (by omega) (by omega) (fun q44 => ?_) (fun q44 => ?_)
        · skip
          refine mx_J.step (sn_40 124) (fun _ _ => rfl) ?_
          refine JcI (z := 2) (show mx_Sn _ _ 125 (mx_const (.int 2) 126) from sn_40 125) rfl ?_
          obtain ⟨Z45, h45, hc45, hx45, hG45, hf45, b45⟩ := ct_55_3 (d := d + 104) (l := l) (D := D) (b0 := b0) (ad := ad) (Hb := Hb) (tau := tau) hx hG (show 2 ≤ 2 ∧ 2 ≤ 4 by omega)
          have b46 : 0 ≤ Z45 3 4 ∧ Z45 3 4 ≤ 400 := hG45.pr 3 4
          refine Jcv0 hx (show mx_Sn _ _ 126 (mx_callv 55 2 7 129) from sn_40 126) (lt83 (GI_n hG) rfl) (show S 3 = .inl (7, [2, 0, 0, 0, 0, 0, 2, 0, 2, 2, 0, 2, 0, 0, 0, 0]) from GI_s hG 3 rfl) hc45 rfl rfl rfl ?_
          have eq47 : Z45 3 12 = Z 3 12 := (hf45 3 12 rfl)
          have b48 : 0 ≤ Z 3 12 ∧ Z 3 12 ≤ 18 := hG.pr 3 12
          have b49 : 0 ≤ Z 3 12 ∧ Z 3 12 ≤ 18 := hG.pr 3 12
          have eq50 : (ai 6) Z45 19 0 (Z45 3 12) = (ai 6) Z 19 0 (Z 3 12) := by rw [(show Z45 3 12 = Z 3 12 from (hf45 3 12 rfl))]; exact (ai_c (fun i => hf45 6 i rfl))
          have eq51 : (ai 6) Z45 19 0 (Z 3 12) = (ai 6) Z 19 0 (Z 3 12) := (ai_c (fun i => hf45 6 i rfl))
          have b52 : 0 ≤ Z 3 12 ∧ Z 3 12 ≤ 18 := hG.pr 3 12
          have eq53 : (ai 6) Z45 19 0 ((Z45 3 12) + 1) = (ai 6) Z 19 0 ((Z 3 12) + 1) := by rw [(show Z45 3 12 = Z 3 12 from (hf45 3 12 rfl))]; exact (ai_c (fun i => hf45 6 i rfl))
          have eq54 : (ai 6) Z45 19 0 ((Z 3 12) + 1) = (ai 6) Z 19 0 ((Z 3 12) + 1) := (ai_c (fun i => hf45 6 i rfl))
          have m645 := ai_m (c := 6) (Z := Z45) (len := 19) (lo := 0) (len2 := 19) (lo2 := 0) (hi := (Z 3 12)) (hi2 := (Z 3 12) + 1) (by omega) (by omega) (by omega) (by omega)
          have eq55 : Z45 3 0 = Z 3 0 := (hf45 3 0 rfl)
          have b56 : 2 ≤ Z 3 0 ∧ Z 3 0 ≤ 4 := hG.pr 3 0
          have eq57 : Z45 3 2 = Z 3 2 := (hf45 3 2 rfl)
          have b58 : 0 ≤ Z 3 2 ∧ Z 3 2 ≤ 900 := hG.pr 3 2
          have eq59 : Z45 3 3 = Z 3 3 := (hf45 3 3 rfl)
          have b60 : 0 ≤ Z 3 3 ∧ Z 3 3 ≤ 900 := hG.pr 3 3
          have b61 : 0 ≤ Z45 3 4 ∧ Z45 3 4 ≤ 400 := hG45.pr 3 4
          have eq62 : Z45 3 7 = Z 3 7 := (hf45 3 7 rfl)
          have b63 : 0 ≤ Z 3 7 ∧ Z 3 7 ≤ 900 := hG.pr 3 7
          have b64 : 0 ≤ Z45 3 14 ∧ Z45 3 14 ≤ 4 := hG45.pr 3 14
          have b65 : 0 ≤ Z45 3 4 ∧ Z45 3 4 ≤ 400 := hG45.pr 3 4
          have eq66 : Z45 3 3 = Z 3 3 := (hf45 3 3 rfl)
          have b67 : 0 ≤ Z 3 3 ∧ Z 3 3 ≤ 900 := hG.pr 3 3
          have eq68 : Z45 3 12 = Z 3 12 := (hf45 3 12 rfl)
          have b69 : 0 ≤ Z 3 12 ∧ Z 3 12 ≤ 18 := hG.pr 3 12
          have b70 : 0 ≤ Z 3 12 ∧ Z 3 12 ≤ 18 := hG.pr 3 12
          have eq71 : (ai 6) Z45 19 0 ((Z45 3 12) + 1) = (ai 6) Z 19 0 ((Z 3 12) + 1) := by rw [(show Z45 3 12 = Z 3 12 from (hf45 3 12 rfl))]; exact (ai_c (fun i => hf45 6 i rfl))
          have eq72 : (ai 6) Z45 19 0 ((Z 3 12) + 1) = (ai 6) Z 19 0 ((Z 3 12) + 1) := (ai_c (fun i => hf45 6 i rfl))
          have b73 : 0 ≤ Z45 3 4 ∧ Z45 3 4 ≤ 400 := hG45.pr 3 4
          have eq74 : Z45 3 12 = Z 3 12 := (hf45 3 12 rfl)
          have b75 : 0 ≤ Z 3 12 ∧ Z 3 12 ≤ 18 := hG.pr 3 12
          have b76 : 0 ≤ Z 3 12 ∧ Z 3 12 ≤ 18 := hG.pr 3 12
          have eq77 : (ai 6) Z45 19 0 (Z45 3 12) = (ai 6) Z 19 0 (Z 3 12) := by rw [(show Z45 3 12 = Z 3 12 from (hf45 3 12 rfl))]; exact (ai_c (fun i => hf45 6 i rfl))
          have eq78 : (ai 6) Z45 19 0 (Z 3 12) = (ai 6) Z 19 0 (Z 3 12) := (ai_c (fun i => hf45 6 i rfl))
          exact c129 none n s S Z45 h45 (by omega) (by omega) (by omega) (by omega) (by omega) hx45 hG45 (fr8_tr (M := [(3, 2), (3, 3), (3, 4), (3, 5), (3, 7), (3, 8), (3, 9), (3, 12), (3, 14), (3, 15), (5, (-1)), (6, (-1))]) fr8_rf (fr8_of (hf45)) (M1 := []) rfl rfl)
        · skip
          refine mx_J.step (sn_40 97) (fun _ _ => rfl) ?_
          have b80 : 2 ≤ Z 3 0 ∧ Z 3 0 ≤ 4 := hG.pr 3 0
          have b81 : 0 ≤ Z 3 1 ∧ Z 3 1 ≤ 900 := hG.pr 3 1
          have b82 : 0 ≤ Z 3 2 ∧ Z 3 2 ≤ 900 := hG.pr 3 2
          have b83 : 0 ≤ Z 3 3 ∧ Z 3 3 ≤ 900 := hG.pr 3 3
          have b84 : 0 ≤ Z 3 4 ∧ Z 3 4 ≤ 400 := hG.pr 3 4
          have b85 : 0 ≤ Z 3 7 ∧ Z 3 7 ≤ 900 := hG.pr 3 7
          have b86 : 0 ≤ Z 3 14 ∧ Z 3 14 ≤ 4 := hG.pr 3 14
          obtain ⟨Z79, h79, hc79, hx79, hG79, hf79, b79⟩ := ct_41_3 (d := d + 97) (l := l) (D := D) (b0 := b0) (ad := ad) (Hb := Hb) (tau := tau) hx hG  (show Z 3 0 = 2 by omega) (show (Z 3 3 ≤ Z 3 2 ∧ Z 3 2 ≤ Z 3 1 ∧ (Z 3 4 = 0 ∨ Z 3 4 = 3 ∨ Z 3 3 < Z 3 2) ∧ (Z 3 4 = 3 ∨ Z 3 14 = 0)) by omega) (show ¬ Z 3 4 = 0 by omega) (show ¬ Z 3 4 = 3 by omega)
          have b87 : 0 ≤ Z79 3 2 ∧ Z79 3 2 ≤ 900 := hG79.pr 3 2
          have b88 : 0 ≤ Z79 3 3 ∧ Z79 3 3 ≤ 900 := hG79.pr 3 3
          have b89 : 0 ≤ Z79 3 4 ∧ Z79 3 4 ≤ 400 := hG79.pr 3 4
          have b90 : 0 ≤ Z79 3 7 ∧ Z79 3 7 ≤ 900 := hG79.pr 3 7
          have b91 : 0 ≤ Z79 3 14 ∧ Z79 3 14 ≤ 4 := hG79.pr 3 14
          refine Jcv0 hx (show mx_Sn _ _ 98 (mx_callv 41 1 7 101) from sn_40 98) (lt83 (GI_n hG) rfl) (show S 3 = .inl (7, [2, 0, 0, 0, 0, 0, 2, 0, 2, 2, 0, 2, 0, 0, 0, 0]) from GI_s hG 3 rfl) hc79 rfl rfl rfl ?_
          refine mx_J.step (sn_40 101) (fun _ _ => rfl) ?_
          refine JcI (z := 0) (show mx_Sn _ _ 102 (mx_const (.int 0) 103) from sn_40 102) rfl ?_
          have eq93 : Z79 3 0 = Z 3 0 := (hf79 3 0 rfl)
          have b94 : 2 ≤ Z 3 0 ∧ Z 3 0 ≤ 4 := hG.pr 3 0
          have eq95 : Z79 3 1 = Z 3 1 := (hf79 3 1 rfl)
          have b96 : 0 ≤ Z 3 1 ∧ Z 3 1 ≤ 900 := hG.pr 3 1
          have b97 : 0 ≤ Z79 3 2 ∧ Z79 3 2 ≤ 900 := hG79.pr 3 2
          have b98 : 0 ≤ Z79 3 3 ∧ Z79 3 3 ≤ 900 := hG79.pr 3 3
          have b99 : 0 ≤ Z79 3 4 ∧ Z79 3 4 ≤ 400 := hG79.pr 3 4
          have b100 : 0 ≤ Z79 3 7 ∧ Z79 3 7 ≤ 900 := hG79.pr 3 7
          have b101 : 0 ≤ Z79 3 14 ∧ Z79 3 14 ≤ 4 := hG79.pr 3 14
          obtain ⟨Z92, h92, hc92, hx92, hG92, hf92, b92⟩ := ct_47_3_i0 (d := d + 0) (l := l) (D := D) (b0 := b0) (ad := ad) (Hb := Hb) (tau := tau) hx79 hG79  (show Z79 3 0 = 2 by first | omega | (simp only [eq93, eq95]; omega)) (show (Z79 3 3 ≤ Z79 3 2 ∧ Z79 3 2 ≤ Z79 3 1 ∧ (Z79 3 4 = 0 ∨ Z79 3 4 = 3 ∨ Z79 3 3 < Z79 3 2) ∧ (Z79 3 4 = 3 ∨ Z79 3 14 = 0)) by first | omega | (simp only [eq93, eq95]; omega))
          try rw [eq93] at b92
          try rw [eq95] at b92
          have b102 : 0 ≤ Z92 3 2 ∧ Z92 3 2 ≤ 900 := hG92.pr 3 2
          have b103 : 0 ≤ Z92 3 3 ∧ Z92 3 3 ≤ 900 := hG92.pr 3 3
          have b104 : 0 ≤ Z92 3 4 ∧ Z92 3 4 ≤ 400 := hG92.pr 3 4
          have b105 : 0 ≤ Z92 3 7 ∧ Z92 3 7 ≤ 900 := hG92.pr 3 7
          have b106 : 0 ≤ Z92 3 14 ∧ Z92 3 14 ≤ 4 := hG92.pr 3 14
          refine Jcv0 hx79 (show mx_Sn _ _ 103 (mx_callv 47 2 7 106) from sn_40 103) (lt83 (GI_n hG79) rfl) (show S 3 = .inl (7, [2, 0, 0, 0, 0, 0, 2, 0, 2, 2, 0, 2, 0, 0, 0, 0]) from GI_s hG79 3 rfl) hc92 rfl rfl rfl ?_
          refine mx_J.step (sn_40 106) (fun _ _ => rfl) ?_
          refine mx_J.step (sn_40 107) (fun _ _ => rfl) ?_
          refine JgetR (g := 6) (b := 5) hx92 (show mx_Sn _ _ 108 (mx_getf 7 6 111) from sn_40 108) (lt83 (GI_n hG92) rfl) (show S 3 = .inl (7, [2, 0, 0, 0, 0, 0, 2, 0, 2, 2, 0, 2, 0, 0, 0, 0]) from GI_s hG92 3 rfl) rfl rfl (hG92.prr 3 6 rfl) ?_
          refine mx_J.step (sn_40 111) (fun _ _ => rfl) ?_
          have b109 : 0 ≤ Z92 3 7 ∧ Z92 3 7 ≤ 900 := hG92.pr 3 7
          refine JgetI (g := 7) (z := Z92 3 7) hx92 (show mx_Sn _ _ 112 (mx_getf 7 7 115) from sn_40 112) (lt83 (GI_n hG92) rfl) (show S 3 = .inl (7, [2, 0, 0, 0, 0, 0, 2, 0, 2, 2, 0, 2, 0, 0, 0, 0]) from GI_s hG92 3 rfl) rfl rfl rfl ?_
          obtain ⟨r110, n110, s110, S110, Z110, h110, hc110, hx110, hG110, hf110, b110, or110, ar110, sr110⟩ := ca_298 (d := d + 103) (l := l) (D := D) (b0 := b0) (ad := ad) (Hb := Hb) (tau := tau) hx92 hG92 (show 0 ≤ Z92 3 7 ∧ Z92 3 7 ≤ 899 by omega) (show ((n : Nat) : Int) ≤ 4095 by omega)
          obtain ⟨lr110, sr110⟩ := sr110
          refine Jcs (show mx_Sn _ _ 115 (mx_calls 298 2 118) from sn_40 115) hc110 rfl rfl rfl ?_
          refine JputR (g := 9) hx110 (show mx_Sn _ _ 118 (mx_putf 1 7 9 (.array .int) 121) from sn_40 118) (lt83 (GI_n hG110) rfl) (show S110 3 = .inl (7, [2, 0, 0, 0, 0, 0, 2, 0, 2, 2, 0, 2, 0, 0, 0, 0]) from GI_s hG110 3 rfl) rfl rfl rfl rfl (fun Z111 h111 hx111 hE111 => ?_)
          have hG111 := GI_upC hG110 hE111 (show (0 : Int) ≤ (r110 : Int) ∧ (r110 : Int) ≤ 4096 by have hn := hx110.2.2.1; omega) trivial rfl ⟨r110, _, rfl, or110, ar110, lr110, sr110⟩
          have eq112 : Z111 3 12 = Z 3 12 := ((up_ni hE111 (by decide)).trans ((hf110 3 12 rfl rfl).trans ((hf92 3 12 rfl).trans (hf79 3 12 rfl))))
          have b113 : 0 ≤ Z 3 12 ∧ Z 3 12 ≤ 18 := hG.pr 3 12
          have b114 : 0 ≤ Z 3 12 ∧ Z 3 12 ≤ 18 := hG.pr 3 12
          have eq115 : (ai 6) Z111 19 0 (Z111 3 12) = (ai 6) Z 19 0 (Z 3 12) := by rw [(show Z111 3 12 = Z 3 12 from ((up_ni hE111 (by decide)).trans ((hf110 3 12 rfl rfl).trans ((hf92 3 12 rfl).trans (hf79 3 12 rfl)))))]; exact ((ai_c (fun i => up_nk hE111 rfl)).trans ((ai_c (fun i => hf110 6 i rfl rfl)).trans ((ai_c (fun i => hf92 6 i rfl)).trans (ai_c (fun i => hf79 6 i rfl)))))
          have eq116 : (ai 6) Z111 19 0 (Z 3 12) = (ai 6) Z 19 0 (Z 3 12) := ((ai_c (fun i => up_nk hE111 rfl)).trans ((ai_c (fun i => hf110 6 i rfl rfl)).trans ((ai_c (fun i => hf92 6 i rfl)).trans (ai_c (fun i => hf79 6 i rfl)))))
          have b117 : 0 ≤ Z 3 12 ∧ Z 3 12 ≤ 18 := hG.pr 3 12
          have eq118 : (ai 6) Z111 19 0 ((Z111 3 12) + 1) = (ai 6) Z 19 0 ((Z 3 12) + 1) := by rw [(show Z111 3 12 = Z 3 12 from ((up_ni hE111 (by decide)).trans ((hf110 3 12 rfl rfl).trans ((hf92 3 12 rfl).trans (hf79 3 12 rfl)))))]; exact ((ai_c (fun i => up_nk hE111 rfl)).trans ((ai_c (fun i => hf110 6 i rfl rfl)).trans ((ai_c (fun i => hf92 6 i rfl)).trans (ai_c (fun i => hf79 6 i rfl)))))
          have eq119 : (ai 6) Z111 19 0 ((Z 3 12) + 1) = (ai 6) Z 19 0 ((Z 3 12) + 1) := ((ai_c (fun i => up_nk hE111 rfl)).trans ((ai_c (fun i => hf110 6 i rfl rfl)).trans ((ai_c (fun i => hf92 6 i rfl)).trans (ai_c (fun i => hf79 6 i rfl)))))
          have m6111 := ai_m (c := 6) (Z := Z111) (len := 19) (lo := 0) (len2 := 19) (lo2 := 0) (hi := (Z 3 12)) (hi2 := (Z 3 12) + 1) (by omega) (by omega) (by omega) (by omega)
          refine mx_J.step (sn_40 121) (fun _ _ => rfl) ?_
          have eq120 : Z111 3 0 = Z 3 0 := ((up_ni hE111 (by decide)).trans ((hf110 3 0 rfl rfl).trans ((hf92 3 0 rfl).trans (hf79 3 0 rfl))))
          have b121 : 2 ≤ Z 3 0 ∧ Z 3 0 ≤ 4 := hG.pr 3 0
          have eq122 : Z111 3 2 = Z92 3 2 := ((up_ni hE111 (by decide)).trans (hf110 3 2 rfl rfl))
          have b123 : 0 ≤ Z92 3 2 ∧ Z92 3 2 ≤ 900 := hG92.pr 3 2
          have eq124 : Z111 3 3 = Z92 3 3 := ((up_ni hE111 (by decide)).trans (hf110 3 3 rfl rfl))
          have b125 : 0 ≤ Z92 3 3 ∧ Z92 3 3 ≤ 900 := hG92.pr 3 3
          have eq126 : Z111 3 4 = Z92 3 4 := ((up_ni hE111 (by decide)).trans (hf110 3 4 rfl rfl))
          have b127 : 0 ≤ Z92 3 4 ∧ Z92 3 4 ≤ 400 := hG92.pr 3 4
          have eq128 : Z111 3 7 = Z92 3 7 := ((up_ni hE111 (by decide)).trans (hf110 3 7 rfl rfl))
          have b129 : 0 ≤ Z92 3 7 ∧ Z92 3 7 ≤ 900 := hG92.pr 3 7
          have eq130 : Z111 3 14 = Z92 3 14 := ((up_ni hE111 (by decide)).trans (hf110 3 14 rfl rfl))
          have b131 : 0 ≤ Z92 3 14 ∧ Z92 3 14 ≤ 4 := hG92.pr 3 14
          have eq132 : Z111 3 4 = Z92 3 4 := ((up_ni hE111 (by decide)).trans (hf110 3 4 rfl rfl))
          have b133 : 0 ≤ Z92 3 4 ∧ Z92 3 4 ≤ 400 := hG92.pr 3 4
          have eq134 : Z111 3 3 = Z92 3 3 := ((up_ni hE111 (by decide)).trans (hf110 3 3 rfl rfl))
          have b135 : 0 ≤ Z92 3 3 ∧ Z92 3 3 ≤ 900 := hG92.pr 3 3
          have eq136 : Z111 3 12 = Z 3 12 := ((up_ni hE111 (by decide)).trans ((hf110 3 12 rfl rfl).trans ((hf92 3 12 rfl).trans (hf79 3 12 rfl))))
          have b137 : 0 ≤ Z 3 12 ∧ Z 3 12 ≤ 18 := hG.pr 3 12
          have b138 : 0 ≤ Z 3 12 ∧ Z 3 12 ≤ 18 := hG.pr 3 12
          have eq139 : (ai 6) Z111 19 0 ((Z111 3 12) + 1) = (ai 6) Z 19 0 ((Z 3 12) + 1) := by rw [(show Z111 3 12 = Z 3 12 from ((up_ni hE111 (by decide)).trans ((hf110 3 12 rfl rfl).trans ((hf92 3 12 rfl).trans (hf79 3 12 rfl)))))]; exact ((ai_c (fun i => up_nk hE111 rfl)).trans ((ai_c (fun i => hf110 6 i rfl rfl)).trans ((ai_c (fun i => hf92 6 i rfl)).trans (ai_c (fun i => hf79 6 i rfl)))))
          have eq140 : (ai 6) Z111 19 0 ((Z 3 12) + 1) = (ai 6) Z 19 0 ((Z 3 12) + 1) := ((ai_c (fun i => up_nk hE111 rfl)).trans ((ai_c (fun i => hf110 6 i rfl rfl)).trans ((ai_c (fun i => hf92 6 i rfl)).trans (ai_c (fun i => hf79 6 i rfl)))))
          have eq141 : Z111 3 4 = Z92 3 4 := ((up_ni hE111 (by decide)).trans (hf110 3 4 rfl rfl))
          have b142 : 0 ≤ Z92 3 4 ∧ Z92 3 4 ≤ 400 := hG92.pr 3 4
          have eq143 : Z111 3 12 = Z 3 12 := ((up_ni hE111 (by decide)).trans ((hf110 3 12 rfl rfl).trans ((hf92 3 12 rfl).trans (hf79 3 12 rfl))))
          have b144 : 0 ≤ Z 3 12 ∧ Z 3 12 ≤ 18 := hG.pr 3 12
          have b145 : 0 ≤ Z 3 12 ∧ Z 3 12 ≤ 18 := hG.pr 3 12
          have eq146 : (ai 6) Z111 19 0 (Z111 3 12) = (ai 6) Z 19 0 (Z 3 12) := by rw [(show Z111 3 12 = Z 3 12 from ((up_ni hE111 (by decide)).trans ((hf110 3 12 rfl rfl).trans ((hf92 3 12 rfl).trans (hf79 3 12 rfl)))))]; exact ((ai_c (fun i => up_nk hE111 rfl)).trans ((ai_c (fun i => hf110 6 i rfl rfl)).trans ((ai_c (fun i => hf92 6 i rfl)).trans (ai_c (fun i => hf79 6 i rfl)))))
          have eq147 : (ai 6) Z111 19 0 (Z 3 12) = (ai 6) Z 19 0 (Z 3 12) := ((ai_c (fun i => up_nk hE111 rfl)).trans ((ai_c (fun i => hf110 6 i rfl rfl)).trans ((ai_c (fun i => hf92 6 i rfl)).trans (ai_c (fun i => hf79 6 i rfl)))))
          exact c129 none n110 s110 S110 Z111 h111 (by omega) (by omega) (by omega) (by omega) (by omega) hx111 hG111 (fr8_tr (M := [(3, 2), (3, 3), (3, 4), (3, 5), (3, 7), (3, 8), (3, 9), (3, 12), (3, 14), (3, 15), (5, (-1)), (6, (-1))]) (fr8_tr (M := [(3, 2), (3, 3), (3, 4), (3, 5), (3, 7), (3, 8), (3, 9), (3, 12), (3, 14), (3, 15), (5, (-1)), (6, (-1))]) (fr8_tr (M := [(3, 2), (3, 3), (3, 4), (3, 5), (3, 7), (3, 8), (3, 9), (3, 12), (3, 14), (3, 15), (5, (-1)), (6, (-1))]) (fr8_tr (M := [(3, 2), (3, 3), (3, 4), (3, 5), (3, 7), (3, 8), (3, 9), (3, 12), (3, 14), (3, 15), (5, (-1)), (6, (-1))]) fr8_rf (fr8_of (hf79)) (M1 := []) rfl rfl) (fr8_of (hf92)) rfl rfl) (hf110) rfl rfl) (fr8_of (fr_up hE111)) rfl rfl)
      · skip
        refine mx_J.step (sn_40 60) (fun _ _ => rfl) ?_
        have b149 : 2 ≤ Z 3 0 ∧ Z 3 0 ≤ 4 := hG.pr 3 0
        have b150 : 0 ≤ Z 3 1 ∧ Z 3 1 ≤ 900 := hG.pr 3 1
        have b151 : 0 ≤ Z 3 2 ∧ Z 3 2 ≤ 900 := hG.pr 3 2
        have b152 : 0 ≤ Z 3 3 ∧ Z 3 3 ≤ 900 := hG.pr 3 3
        have b153 : 0 ≤ Z 3 4 ∧ Z 3 4 ≤ 400 := hG.pr 3 4
        have b154 : 0 ≤ Z 3 7 ∧ Z 3 7 ≤ 900 := hG.pr 3 7
        have b155 : 0 ≤ Z 3 14 ∧ Z 3 14 ≤ 4 := hG.pr 3 14
        obtain ⟨Z148, h148, hc148, hx148, hG148, hf148, b148⟩ := ct_41_3 (d := d + 97) (l := l) (D := D) (b0 := b0) (ad := ad) (Hb := Hb) (tau := tau) hx hG  (show Z 3 0 = 2 by omega) (show (Z 3 3 ≤ Z 3 2 ∧ Z 3 2 ≤ Z 3 1 ∧ (Z 3 4 = 0 ∨ Z 3 4 = 3 ∨ Z 3 3 < Z 3 2) ∧ (Z 3 4 = 3 ∨ Z 3 14 = 0)) by omega) (show ¬ Z 3 4 = 0 by omega) (show ¬ Z 3 4 = 3 by omega)
        have b156 : 0 ≤ Z148 3 2 ∧ Z148 3 2 ≤ 900 := hG148.pr 3 2
        have b157 : 0 ≤ Z148 3 3 ∧ Z148 3 3 ≤ 900 := hG148.pr 3 3
        have b158 : 0 ≤ Z148 3 4 ∧ Z148 3 4 ≤ 400 := hG148.pr 3 4
        have b159 : 0 ≤ Z148 3 7 ∧ Z148 3 7 ≤ 900 := hG148.pr 3 7
        have b160 : 0 ≤ Z148 3 14 ∧ Z148 3 14 ≤ 4 := hG148.pr 3 14
        refine Jcv0 hx (show mx_Sn _ _ 61 (mx_callv 41 1 7 64) from sn_40 61) (lt83 (GI_n hG) rfl) (show S 3 = .inl (7, [2, 0, 0, 0, 0, 0, 2, 0, 2, 2, 0, 2, 0, 0, 0, 0]) from GI_s hG 3 rfl) hc148 rfl rfl rfl ?_
        refine mx_J.step (sn_40 64) (fun _ _ => rfl) ?_
        refine JcI (z := 0) (show mx_Sn _ _ 65 (mx_const (.int 0) 66) from sn_40 65) rfl ?_
        have eq162 : Z148 3 0 = Z 3 0 := (hf148 3 0 rfl)
        have b163 : 2 ≤ Z 3 0 ∧ Z 3 0 ≤ 4 := hG.pr 3 0
        have eq164 : Z148 3 1 = Z 3 1 := (hf148 3 1 rfl)
        have b165 : 0 ≤ Z 3 1 ∧ Z 3 1 ≤ 900 := hG.pr 3 1
        have b166 : 0 ≤ Z148 3 2 ∧ Z148 3 2 ≤ 900 := hG148.pr 3 2
        have b167 : 0 ≤ Z148 3 3 ∧ Z148 3 3 ≤ 900 := hG148.pr 3 3
        have b168 : 0 ≤ Z148 3 4 ∧ Z148 3 4 ≤ 400 := hG148.pr 3 4
        have b169 : 0 ≤ Z148 3 7 ∧ Z148 3 7 ≤ 900 := hG148.pr 3 7
        have b170 : 0 ≤ Z148 3 14 ∧ Z148 3 14 ≤ 4 := hG148.pr 3 14
        obtain ⟨Z161, h161, hc161, hx161, hG161, hf161, b161⟩ := ct_42_3_i0 (d := d + 0) (l := l) (D := D) (b0 := b0) (ad := ad) (Hb := Hb) (tau := tau) hx148 hG148  (show Z148 3 0 = 2 by first | omega | (simp only [eq162, eq164]; omega)) (show (Z148 3 3 ≤ Z148 3 2 ∧ Z148 3 2 ≤ Z148 3 1 ∧ (Z148 3 4 = 0 ∨ Z148 3 4 = 3 ∨ Z148 3 3 < Z148 3 2) ∧ (Z148 3 4 = 3 ∨ Z148 3 14 = 0)) by first | omega | (simp only [eq162, eq164]; omega))
        try rw [eq162] at b161
        try rw [eq164] at b161
        have b171 : 0 ≤ Z161 3 2 ∧ Z161 3 2 ≤ 900 := hG161.pr 3 2
        have b172 : 0 ≤ Z161 3 3 ∧ Z161 3 3 ≤ 900 := hG161.pr 3 3
        have b173 : 0 ≤ Z161 3 4 ∧ Z161 3 4 ≤ 400 := hG161.pr 3 4
        have b174 : 0 ≤ Z161 3 7 ∧ Z161 3 7 ≤ 900 := hG161.pr 3 7
        have b175 : 0 ≤ Z161 3 14 ∧ Z161 3 14 ≤ 4 := hG161.pr 3 14
        refine Jcv0 hx148 (show mx_Sn _ _ 66 (mx_callv 42 2 7 69) from sn_40 66) (lt83 (GI_n hG148) rfl) (show S 3 = .inl (7, [2, 0, 0, 0, 0, 0, 2, 0, 2, 2, 0, 2, 0, 0, 0, 0]) from GI_s hG148 3 rfl) hc161 rfl rfl rfl ?_
        refine mx_J.step (sn_40 69) (fun _ _ => rfl) ?_
        refine mx_J.step (sn_40 70) (fun _ _ => rfl) ?_
        refine JgetR (g := 6) (b := 5) hx161 (show mx_Sn _ _ 71 (mx_getf 7 6 74) from sn_40 71) (lt83 (GI_n hG161) rfl) (show S 3 = .inl (7, [2, 0, 0, 0, 0, 0, 2, 0, 2, 2, 0, 2, 0, 0, 0, 0]) from GI_s hG161 3 rfl) rfl rfl (hG161.prr 3 6 rfl) ?_
        refine mx_J.step (sn_40 74) (fun _ _ => rfl) ?_
        have b178 : 0 ≤ Z161 3 7 ∧ Z161 3 7 ≤ 900 := hG161.pr 3 7
        refine JgetI (g := 7) (z := Z161 3 7) hx161 (show mx_Sn _ _ 75 (mx_getf 7 7 78) from sn_40 75) (lt83 (GI_n hG161) rfl) (show S 3 = .inl (7, [2, 0, 0, 0, 0, 0, 2, 0, 2, 2, 0, 2, 0, 0, 0, 0]) from GI_s hG161 3 rfl) rfl rfl rfl ?_
        obtain ⟨r179, n179, s179, S179, Z179, h179, hc179, hx179, hG179, hf179, b179, or179, ar179, sr179⟩ := ca_298 (d := d + 103) (l := l) (D := D) (b0 := b0) (ad := ad) (Hb := Hb) (tau := tau) hx161 hG161 (show 0 ≤ Z161 3 7 ∧ Z161 3 7 ≤ 899 by omega) (show ((n : Nat) : Int) ≤ 4095 by omega)
        obtain ⟨lr179, sr179⟩ := sr179
        refine Jcs (show mx_Sn _ _ 78 (mx_calls 298 2 81) from sn_40 78) hc179 rfl rfl rfl ?_
        refine JputR (g := 8) hx179 (show mx_Sn _ _ 81 (mx_putf 1 7 8 (.array .int) 84) from sn_40 81) (lt83 (GI_n hG179) rfl) (show S179 3 = .inl (7, [2, 0, 0, 0, 0, 0, 2, 0, 2, 2, 0, 2, 0, 0, 0, 0]) from GI_s hG179 3 rfl) rfl rfl rfl rfl (fun Z180 h180 hx180 hE180 => ?_)
        have hG180 := GI_upC hG179 hE180 (show (0 : Int) ≤ (r179 : Int) ∧ (r179 : Int) ≤ 4096 by have hn := hx179.2.2.1; omega) trivial rfl ⟨r179, _, rfl, or179, ar179, lr179, sr179⟩
        have eq181 : Z180 3 12 = Z 3 12 := ((up_ni hE180 (by decide)).trans ((hf179 3 12 rfl rfl).trans ((hf161 3 12 rfl).trans (hf148 3 12 rfl))))
        have b182 : 0 ≤ Z 3 12 ∧ Z 3 12 ≤ 18 := hG.pr 3 12
        have b183 : 0 ≤ Z 3 12 ∧ Z 3 12 ≤ 18 := hG.pr 3 12
        have eq184 : (ai 6) Z180 19 0 (Z180 3 12) = (ai 6) Z 19 0 (Z 3 12) := by rw [(show Z180 3 12 = Z 3 12 from ((up_ni hE180 (by decide)).trans ((hf179 3 12 rfl rfl).trans ((hf161 3 12 rfl).trans (hf148 3 12 rfl)))))]; exact ((ai_c (fun i => up_nk hE180 rfl)).trans ((ai_c (fun i => hf179 6 i rfl rfl)).trans ((ai_c (fun i => hf161 6 i rfl)).trans (ai_c (fun i => hf148 6 i rfl)))))
        have eq185 : (ai 6) Z180 19 0 (Z 3 12) = (ai 6) Z 19 0 (Z 3 12) := ((ai_c (fun i => up_nk hE180 rfl)).trans ((ai_c (fun i => hf179 6 i rfl rfl)).trans ((ai_c (fun i => hf161 6 i rfl)).trans (ai_c (fun i => hf148 6 i rfl)))))
        have b186 : 0 ≤ Z 3 12 ∧ Z 3 12 ≤ 18 := hG.pr 3 12
        have eq187 : (ai 6) Z180 19 0 ((Z180 3 12) + 1) = (ai 6) Z 19 0 ((Z 3 12) + 1) := by rw [(show Z180 3 12 = Z 3 12 from ((up_ni hE180 (by decide)).trans ((hf179 3 12 rfl rfl).trans ((hf161 3 12 rfl).trans (hf148 3 12 rfl)))))]; exact ((ai_c (fun i => up_nk hE180 rfl)).trans ((ai_c (fun i => hf179 6 i rfl rfl)).trans ((ai_c (fun i => hf161 6 i rfl)).trans (ai_c (fun i => hf148 6 i rfl)))))
        have eq188 : (ai 6) Z180 19 0 ((Z 3 12) + 1) = (ai 6) Z 19 0 ((Z 3 12) + 1) := ((ai_c (fun i => up_nk hE180 rfl)).trans ((ai_c (fun i => hf179 6 i rfl rfl)).trans ((ai_c (fun i => hf161 6 i rfl)).trans (ai_c (fun i => hf148 6 i rfl)))))
        have m6180 := ai_m (c := 6) (Z := Z180) (len := 19) (lo := 0) (len2 := 19) (lo2 := 0) (hi := (Z 3 12)) (hi2 := (Z 3 12) + 1) (by omega) (by omega) (by omega) (by omega)
        refine mx_J.step (sn_40 84) (fun _ _ => rfl) ?_
        have eq189 : Z180 3 0 = Z 3 0 := ((up_ni hE180 (by decide)).trans ((hf179 3 0 rfl rfl).trans ((hf161 3 0 rfl).trans (hf148 3 0 rfl))))
        have b190 : 2 ≤ Z 3 0 ∧ Z 3 0 ≤ 4 := hG.pr 3 0
        have eq191 : Z180 3 2 = Z161 3 2 := ((up_ni hE180 (by decide)).trans (hf179 3 2 rfl rfl))
        have b192 : 0 ≤ Z161 3 2 ∧ Z161 3 2 ≤ 900 := hG161.pr 3 2
        have eq193 : Z180 3 3 = Z161 3 3 := ((up_ni hE180 (by decide)).trans (hf179 3 3 rfl rfl))
        have b194 : 0 ≤ Z161 3 3 ∧ Z161 3 3 ≤ 900 := hG161.pr 3 3
        have eq195 : Z180 3 4 = Z161 3 4 := ((up_ni hE180 (by decide)).trans (hf179 3 4 rfl rfl))
        have b196 : 0 ≤ Z161 3 4 ∧ Z161 3 4 ≤ 400 := hG161.pr 3 4
        have eq197 : Z180 3 7 = Z161 3 7 := ((up_ni hE180 (by decide)).trans (hf179 3 7 rfl rfl))
        have b198 : 0 ≤ Z161 3 7 ∧ Z161 3 7 ≤ 900 := hG161.pr 3 7
        have eq199 : Z180 3 14 = Z161 3 14 := ((up_ni hE180 (by decide)).trans (hf179 3 14 rfl rfl))
        have b200 : 0 ≤ Z161 3 14 ∧ Z161 3 14 ≤ 4 := hG161.pr 3 14
        have eq201 : Z180 3 4 = Z161 3 4 := ((up_ni hE180 (by decide)).trans (hf179 3 4 rfl rfl))
        have b202 : 0 ≤ Z161 3 4 ∧ Z161 3 4 ≤ 400 := hG161.pr 3 4
        have eq203 : Z180 3 3 = Z161 3 3 := ((up_ni hE180 (by decide)).trans (hf179 3 3 rfl rfl))
        have b204 : 0 ≤ Z161 3 3 ∧ Z161 3 3 ≤ 900 := hG161.pr 3 3
        have eq205 : Z180 3 12 = Z 3 12 := ((up_ni hE180 (by decide)).trans ((hf179 3 12 rfl rfl).trans ((hf161 3 12 rfl).trans (hf148 3 12 rfl))))
        have b206 : 0 ≤ Z 3 12 ∧ Z 3 12 ≤ 18 := hG.pr 3 12
        have b207 : 0 ≤ Z 3 12 ∧ Z 3 12 ≤ 18 := hG.pr 3 12
        have eq208 : (ai 6) Z180 19 0 ((Z180 3 12) + 1) = (ai 6) Z 19 0 ((Z 3 12) + 1) := by rw [(show Z180 3 12 = Z 3 12 from ((up_ni hE180 (by decide)).trans ((hf179 3 12 rfl rfl).trans ((hf161 3 12 rfl).trans (hf148 3 12 rfl)))))]; exact ((ai_c (fun i => up_nk hE180 rfl)).trans ((ai_c (fun i => hf179 6 i rfl rfl)).trans ((ai_c (fun i => hf161 6 i rfl)).trans (ai_c (fun i => hf148 6 i rfl)))))
        have eq209 : (ai 6) Z180 19 0 ((Z 3 12) + 1) = (ai 6) Z 19 0 ((Z 3 12) + 1) := ((ai_c (fun i => up_nk hE180 rfl)).trans ((ai_c (fun i => hf179 6 i rfl rfl)).trans ((ai_c (fun i => hf161 6 i rfl)).trans (ai_c (fun i => hf148 6 i rfl)))))
        have eq210 : Z180 3 4 = Z161 3 4 := ((up_ni hE180 (by decide)).trans (hf179 3 4 rfl rfl))
        have b211 : 0 ≤ Z161 3 4 ∧ Z161 3 4 ≤ 400 := hG161.pr 3 4
        have eq212 : Z180 3 12 = Z 3 12 := ((up_ni hE180 (by decide)).trans ((hf179 3 12 rfl rfl).trans ((hf161 3 12 rfl).trans (hf148 3 12 rfl))))
        have b213 : 0 ≤ Z 3 12 ∧ Z 3 12 ≤ 18 := hG.pr 3 12
        have b214 : 0 ≤ Z 3 12 ∧ Z 3 12 ≤ 18 := hG.pr 3 12
        have eq215 : (ai 6) Z180 19 0 (Z180 3 12) = (ai 6) Z 19 0 (Z 3 12) := by rw [(show Z180 3 12 = Z 3 12 from ((up_ni hE180 (by decide)).trans ((hf179 3 12 rfl rfl).trans ((hf161 3 12 rfl).trans (hf148 3 12 rfl)))))]; exact ((ai_c (fun i => up_nk hE180 rfl)).trans ((ai_c (fun i => hf179 6 i rfl rfl)).trans ((ai_c (fun i => hf161 6 i rfl)).trans (ai_c (fun i => hf148 6 i rfl)))))
        have eq216 : (ai 6) Z180 19 0 (Z 3 12) = (ai 6) Z 19 0 (Z 3 12) := ((ai_c (fun i => up_nk hE180 rfl)).trans ((ai_c (fun i => hf179 6 i rfl rfl)).trans ((ai_c (fun i => hf161 6 i rfl)).trans (ai_c (fun i => hf148 6 i rfl)))))
        exact c129 none n179 s179 S179 Z180 h180 (by omega) (by omega) (by omega) (by omega) (by omega) hx180 hG180 (fr8_tr (M := [(3, 2), (3, 3), (3, 4), (3, 5), (3, 7), (3, 8), (3, 9), (3, 12), (3, 14), (3, 15), (5, (-1)), (6, (-1))]) (fr8_tr (M := [(3, 2), (3, 3), (3, 4), (3, 5), (3, 7), (3, 8), (3, 9), (3, 12), (3, 14), (3, 15), (5, (-1)), (6, (-1))]) (fr8_tr (M := [(3, 2), (3, 3), (3, 4), (3, 5), (3, 7), (3, 8), (3, 9), (3, 12), (3, 14), (3, 15), (5, (-1)), (6, (-1))]) (fr8_tr (M := [(3, 2), (3, 3), (3, 4), (3, 5), (3, 7), (3, 8), (3, 9), (3, 12), (3, 14), (3, 15), (5, (-1)), (6, (-1))]) fr8_rf (fr8_of (hf148)) (M1 := []) rfl rfl) (fr8_of (hf161)) rfl rfl) (hf179) rfl rfl) (fr8_of (fr_up hE180)) rfl rfl)
    · skip
      refine mx_J.step (sn_40 10) (fun _ _ => rfl) ?_
      have b218 : 2 ≤ Z 3 0 ∧ Z 3 0 ≤ 4 := hG.pr 3 0
      have b219 : 0 ≤ Z 3 1 ∧ Z 3 1 ≤ 900 := hG.pr 3 1
      have b220 : 0 ≤ Z 3 2 ∧ Z 3 2 ≤ 900 := hG.pr 3 2
      have b221 : 0 ≤ Z 3 3 ∧ Z 3 3 ≤ 900 := hG.pr 3 3
      have b222 : 0 ≤ Z 3 4 ∧ Z 3 4 ≤ 400 := hG.pr 3 4
      have b223 : 0 ≤ Z 3 14 ∧ Z 3 14 ≤ 4 := hG.pr 3 14
      obtain ⟨Z217, h217, hc217, hx217, hG217, hf217, b217⟩ := ct_56_3 (d := d + 99) (l := l) (D := D) (b0 := b0) (ad := ad) (Hb := Hb) (tau := tau) hx hG  (show Z 3 0 = 2 by omega) (show Z 3 2 ≤ Z 3 1 by omega)
      have b224 : 0 ≤ Z217 3 2 ∧ Z217 3 2 ≤ 900 := hG217.pr 3 2
      have b225 : 0 ≤ Z217 3 3 ∧ Z217 3 3 ≤ 900 := hG217.pr 3 3
      have b226 : 0 ≤ Z217 3 4 ∧ Z217 3 4 ≤ 400 := hG217.pr 3 4
      refine Jcv0 hx (show mx_Sn _ _ 11 (mx_callv 56 1 7 14) from sn_40 11) (lt83 (GI_n hG) rfl) (show S 3 = .inl (7, [2, 0, 0, 0, 0, 0, 2, 0, 2, 2, 0, 2, 0, 0, 0, 0]) from GI_s hG 3 rfl) hc217 rfl rfl rfl ?_
      refine mx_J.step (sn_40 14) (fun _ _ => rfl) ?_
      refine JcI (z := 1) (show mx_Sn _ _ 15 (mx_const (.int 1) 16) from sn_40 15) rfl ?_
      refine JcI (z := 18) (show mx_Sn _ _ 16 (mx_const (.int 18) 18) from sn_40 16) rfl ?_
      refine mx_J.step (sn_40 18) (fun _ _ => rfl) ?_
      have b228 : 0 ≤ Z 3 12 ∧ Z 3 12 ≤ 18 := hG.pr 3 12
      refine JgetI (g := 12) (z := Z 3 12) hx217 (show mx_Sn _ _ 19 (mx_getf 7 12 22) from sn_40 19) (lt83 (GI_n hG217) rfl) (show S 3 = .inl (7, [2, 0, 0, 0, 0, 0, 2, 0, 2, 2, 0, 2, 0, 0, 0, 0]) from GI_s hG217 3 rfl) rfl rfl (hf217 3 12 rfl) ?_
      refine Jisub (show mx_Sn _ _ 22 (mx_isub 23) from sn_40 22) ?_
      have eq230 : Z217 3 0 = Z 3 0 := (hf217 3 0 rfl)
      have b231 : 2 ≤ Z 3 0 ∧ Z 3 0 ≤ 4 := hG.pr 3 0
      have eq232 : Z217 3 1 = Z 3 1 := (hf217 3 1 rfl)
      have b233 : 0 ≤ Z 3 1 ∧ Z 3 1 ≤ 900 := hG.pr 3 1
      have b234 : 0 ≤ Z217 3 2 ∧ Z217 3 2 ≤ 900 := hG217.pr 3 2
      have b235 : 0 ≤ Z217 3 3 ∧ Z217 3 3 ≤ 900 := hG217.pr 3 3
      have b236 : 0 ≤ Z217 3 4 ∧ Z217 3 4 ≤ 400 := hG217.pr 3 4
      have eq237 : Z217 3 7 = Z 3 7 := (hf217 3 7 rfl)
      have b238 : 0 ≤ Z 3 7 ∧ Z 3 7 ≤ 900 := hG.pr 3 7
      have eq239 : Z217 3 14 = Z 3 14 := (hf217 3 14 rfl)
      have b240 : 0 ≤ Z 3 14 ∧ Z 3 14 ≤ 4 := hG.pr 3 14
      obtain ⟨z229, Z229, h229, hc229, hx229, hG229, hf229, b229⟩ := ct_54_3 (d := d + 98) (l := l) (D := D) (b0 := b0) (ad := ad) (Hb := Hb) (tau := tau) hx217 hG217 (show 0 ≤ 1 ∧ 1 ≤ 1 by omega) (show 0 ≤ 18 - (Z 3 12) ∧ 18 - (Z 3 12) ≤ 999 by omega) (show Z217 3 0 = 2 by first | omega | (simp only [eq230, eq232, eq237, eq239]; omega)) (show (Z217 3 3 ≤ Z217 3 2 ∧ Z217 3 2 ≤ Z217 3 1 ∧ (Z217 3 4 = 0 ∨ Z217 3 4 = 3 ∨ Z217 3 3 < Z217 3 2) ∧ (Z217 3 4 = 3 ∨ Z217 3 14 = 0)) by first | omega | (simp only [eq230, eq232, eq237, eq239]; omega))
      try rw [eq230] at b229
      try rw [eq232] at b229
      try rw [eq237] at b229
      try rw [eq239] at b229
      have b241 : 0 ≤ Z229 3 2 ∧ Z229 3 2 ≤ 900 := hG229.pr 3 2
      have b242 : 0 ≤ Z229 3 3 ∧ Z229 3 3 ≤ 900 := hG229.pr 3 3
      have b243 : 0 ≤ Z229 3 4 ∧ Z229 3 4 ≤ 400 := hG229.pr 3 4
      have eq244 : Z229 3 7 = Z 3 7 := ((hf229 3 7 rfl).trans (hf217 3 7 rfl))
      have b245 : 0 ≤ Z 3 7 ∧ Z 3 7 ≤ 900 := hG.pr 3 7
      have b246 : 0 ≤ Z229 3 14 ∧ Z229 3 14 ≤ 4 := hG229.pr 3 14
      refine Jcv hx217 (show mx_Sn _ _ 23 (mx_callv 54 3 7 26) from sn_40 23) (lt83 (GI_n hG217) rfl) (show S 3 = .inl (7, [2, 0, 0, 0, 0, 0, 2, 0, 2, 2, 0, 2, 0, 0, 0, 0]) from GI_s hG217 3 rfl) hc229 rfl rfl rfl ?_
      refine mx_J.step (ls2 := [some (.ref 3), some (xI z229)]) (sn_40 26) (fun _ _ => rfl) ?_
      refine mx_J.step (sn_40 27) (fun _ _ => rfl) ?_
      refine JgetR (g := 11) (b := 6) hx229 (show mx_Sn _ _ 28 (mx_getf 7 11 31) from sn_40 28) (lt83 (GI_n hG229) rfl) (show S 3 = .inl (7, [2, 0, 0, 0, 0, 0, 2, 0, 2, 2, 0, 2, 0, 0, 0, 0]) from GI_s hG229 3 rfl) rfl rfl (hG229.prr 3 11 rfl) ?_
      refine mx_J.step (sn_40 31) (fun _ _ => rfl) ?_
      refine mx_J.step (sn_40 32) (fun _ _ => rfl) ?_
      have b248 : 0 ≤ Z 3 12 ∧ Z 3 12 ≤ 18 := hG.pr 3 12
      have eq249 : (ai 6) Z229 19 0 (Z229 3 12) = (ai 6) Z 19 0 (Z 3 12) := by rw [(show Z229 3 12 = Z 3 12 from ((hf229 3 12 rfl).trans (hf217 3 12 rfl)))]; exact ((ai_c (fun i => hf229 6 i rfl)).trans (ai_c (fun i => hf217 6 i rfl)))
      have eq250 : (ai 6) Z229 19 0 (Z 3 12) = (ai 6) Z 19 0 (Z 3 12) := ((ai_c (fun i => hf229 6 i rfl)).trans (ai_c (fun i => hf217 6 i rfl)))
      have b251 : 0 ≤ Z 6 z229 ∧ Z 6 z229 ≤ 20 := hG.pr 6 z229
      refine JialdI (z := Z 6 z229) hx229 (show mx_Sn _ _ 33 (mx_iald 34) from sn_40 33) (lt83 (GI_n hG229) rfl) (show S 6 = .inr (.int, 19, 0) from GI_s hG229 6 rfl) (by omega) ((hf229 6 z229 rfl).trans (hf217 6 z229 rfl)) ?_
      have a6 := ai_at (Z := Z) (c := 6) (i := z229) (len := 19) (lo := 0) (hi := Z 3 12) (by omega) (by omega)
      refine JcI (z := 1) (show mx_Sn _ _ 34 (mx_const (.int 1) 35) from sn_40 34) rfl ?_
      refine Jiadd (show mx_Sn _ _ 35 (mx_iadd 36) from sn_40 35) ?_
      refine JiastI hx229 (show mx_Sn _ _ 36 (mx_iast 1 37) from sn_40 36) (lt83 (GI_n hG229) rfl) (show S 6 = .inr (.int, 19, 0) from GI_s hG229 6 rfl) rfl (by omega) (fun Z252 h252 hx252 hE252 => ?_)
      have hG252 := GI_up hG229 hE252 (show 0 ≤ (Z 6 z229) + 1 ∧ (Z 6 z229) + 1 ≤ 20 by omega) trivial rfl
      have u1 := ai_u (Z := Z229) (c := 6) (len := 19) (lo := 0) (hi := (Z 3 12) + z229 + 1) (ai_m (len := 19) (lo := 0) (hi := (Z 3 12)) (by omega) (by omega) (by omega) (by omega)) hE252 (by omega)
      have u2 : 1 ≤ z229 → ai 6 Z252 19 0 ((Z 3 12) + z229) = 1 := fun e => ai_u (Z := Z229) (ai_m (len := 19) (lo := 0) (hi := (Z 3 12)) (by omega) (by omega) (by omega) (by omega)) hE252 (by omega)
      refine mx_J.step (sn_40 37) (fun _ _ => rfl) ?_
      refine mx_J.step (sn_40 38) (fun _ _ => rfl) ?_
      have b254 : 0 ≤ Z 3 12 ∧ Z 3 12 ≤ 18 := hG.pr 3 12
      refine JgetI (g := 12) (z := Z 3 12) hx252 (show mx_Sn _ _ 39 (mx_getf 7 12 42) from sn_40 39) (lt83 (GI_n hG252) rfl) (show S 3 = .inl (7, [2, 0, 0, 0, 0, 0, 2, 0, 2, 2, 0, 2, 0, 0, 0, 0]) from GI_s hG252 3 rfl) rfl rfl ((up_nk hE252 rfl).trans ((hf229 3 12 rfl).trans (hf217 3 12 rfl))) ?_
      refine mx_J.step (sn_40 42) (fun _ _ => rfl) ?_
      refine Jiadd (show mx_Sn _ _ 43 (mx_iadd 44) from sn_40 43) ?_
      refine JputI (g := 12) hx252 (show mx_Sn _ _ 44 (mx_putf 1 7 12 (.int) 47) from sn_40 44) (lt83 (GI_n hG252) rfl) (show S 3 = .inl (7, [2, 0, 0, 0, 0, 0, 2, 0, 2, 2, 0, 2, 0, 0, 0, 0]) from GI_s hG252 3 rfl) rfl rfl rfl rfl (fun Z255 h255 hx255 hE255 => ?_)
      have hG255 := GI_up hG252 hE255 (show 0 ≤ (Z 3 12) + z229 ∧ (Z 3 12) + z229 ≤ 18 by omega) trivial rfl
      have eq256 : Z255 3 12 = (Z 3 12) + z229 := (up_at hE255)
      have eq257 : (ai 6) Z255 19 0 (Z255 3 12) = (ai 6) Z252 19 0 ((Z 3 12) + z229) := by rw [(show Z255 3 12 = (Z 3 12) + z229 from (up_at hE255))]; exact (ai_c (fun i => up_nk hE255 rfl))
      have eq258 : (ai 6) Z255 19 0 ((Z 3 12) + z229) = (ai 6) Z252 19 0 ((Z 3 12) + z229) := (ai_c (fun i => up_nk hE255 rfl))
      have eq259 : (ai 6) Z255 19 0 ((Z255 3 12) + 1) = (ai 6) Z252 19 0 (((Z 3 12) + z229) + 1) := by rw [(show Z255 3 12 = (Z 3 12) + z229 from (up_at hE255))]; exact (ai_c (fun i => up_nk hE255 rfl))
      have eq260 : (ai 6) Z255 19 0 (((Z 3 12) + z229) + 1) = (ai 6) Z252 19 0 (((Z 3 12) + z229) + 1) := (ai_c (fun i => up_nk hE255 rfl))
      refine mx_J.step (sn_40 47) (fun _ _ => rfl) ?_
      have eq261 : Z255 3 0 = Z 3 0 := ((up_ni hE255 (by decide)).trans ((up_nk hE252 rfl).trans ((hf229 3 0 rfl).trans (hf217 3 0 rfl))))
      have b262 : 2 ≤ Z 3 0 ∧ Z 3 0 ≤ 4 := hG.pr 3 0
      have eq263 : Z255 3 2 = Z229 3 2 := ((up_ni hE255 (by decide)).trans (up_nk hE252 rfl))
      have b264 : 0 ≤ Z229 3 2 ∧ Z229 3 2 ≤ 900 := hG229.pr 3 2
      have eq265 : Z255 3 3 = Z229 3 3 := ((up_ni hE255 (by decide)).trans (up_nk hE252 rfl))
      have b266 : 0 ≤ Z229 3 3 ∧ Z229 3 3 ≤ 900 := hG229.pr 3 3
      have eq267 : Z255 3 4 = Z229 3 4 := ((up_ni hE255 (by decide)).trans (up_nk hE252 rfl))
      have b268 : 0 ≤ Z229 3 4 ∧ Z229 3 4 ≤ 400 := hG229.pr 3 4
      have eq269 : Z255 3 7 = Z 3 7 := ((up_ni hE255 (by decide)).trans ((up_nk hE252 rfl).trans ((hf229 3 7 rfl).trans (hf217 3 7 rfl))))
      have b270 : 0 ≤ Z 3 7 ∧ Z 3 7 ≤ 900 := hG.pr 3 7
      have eq271 : Z255 3 14 = Z229 3 14 := ((up_ni hE255 (by decide)).trans (up_nk hE252 rfl))
      have b272 : 0 ≤ Z229 3 14 ∧ Z229 3 14 ≤ 4 := hG229.pr 3 14
      have eq273 : Z255 3 4 = Z229 3 4 := ((up_ni hE255 (by decide)).trans (up_nk hE252 rfl))
      have b274 : 0 ≤ Z229 3 4 ∧ Z229 3 4 ≤ 400 := hG229.pr 3 4
      have eq275 : Z255 3 3 = Z229 3 3 := ((up_ni hE255 (by decide)).trans (up_nk hE252 rfl))
      have b276 : 0 ≤ Z229 3 3 ∧ Z229 3 3 ≤ 900 := hG229.pr 3 3
      have eq277 : Z255 3 12 = (Z 3 12) + z229 := (up_at hE255)
      have eq278 : (ai 6) Z255 19 0 ((Z255 3 12) + 1) = (ai 6) Z252 19 0 (((Z 3 12) + z229) + 1) := by rw [(show Z255 3 12 = (Z 3 12) + z229 from (up_at hE255))]; exact (ai_c (fun i => up_nk hE255 rfl))
      have eq279 : (ai 6) Z255 19 0 (((Z 3 12) + z229) + 1) = (ai 6) Z252 19 0 (((Z 3 12) + z229) + 1) := (ai_c (fun i => up_nk hE255 rfl))
      have eq280 : Z255 3 4 = Z229 3 4 := ((up_ni hE255 (by decide)).trans (up_nk hE252 rfl))
      have b281 : 0 ≤ Z229 3 4 ∧ Z229 3 4 ≤ 400 := hG229.pr 3 4
      have eq282 : Z255 3 12 = (Z 3 12) + z229 := (up_at hE255)
      have eq283 : (ai 6) Z255 19 0 (Z255 3 12) = (ai 6) Z252 19 0 ((Z 3 12) + z229) := by rw [(show Z255 3 12 = (Z 3 12) + z229 from (up_at hE255))]; exact (ai_c (fun i => up_nk hE255 rfl))
      have eq284 : (ai 6) Z255 19 0 ((Z 3 12) + z229) = (ai 6) Z252 19 0 ((Z 3 12) + z229) := (ai_c (fun i => up_nk hE255 rfl))
      exact c129 (some (xI z229)) n s S Z255 h255 (by omega) (by omega) (by omega) (by omega) (by omega) hx255 hG255 (fr8_tr (M := [(3, 2), (3, 3), (3, 4), (3, 5), (3, 7), (3, 8), (3, 9), (3, 12), (3, 14), (3, 15), (5, (-1)), (6, (-1))]) (fr8_tr (M := [(3, 2), (3, 3), (3, 4), (3, 5), (3, 7), (3, 8), (3, 9), (3, 12), (3, 14), (3, 15), (5, (-1)), (6, (-1))]) (fr8_tr (M := [(3, 2), (3, 3), (3, 4), (3, 5), (3, 7), (3, 8), (3, 9), (3, 12), (3, 14), (3, 15), (5, (-1)), (6, (-1))]) (fr8_tr (M := [(3, 2), (3, 3), (3, 4), (3, 5), (3, 7), (3, 8), (3, 9), (3, 12), (3, 14), (3, 15), (5, (-1)), (6, (-1))]) fr8_rf (fr8_of (hf217)) (M1 := []) rfl rfl) (fr8_of (hf229)) rfl rfl) (fr8_of (fr_ua hE252)) rfl rfl) (fr8_of (fr_up hE255)) rfl rfl)
theorem ct_40_3 {l : Launch} {D : va_G} {b0 : Nat} {ad : Nat → Nat} {Hb : Heap} {tau : Nat → Int64} {d n s : Nat} {S : Nat → xS} {Z : xZ} {h : mx_H} (hx : XH n s S Z h) (hG : GI n S Z)   (k0 : Z 3 0 = 2) (k1 : (Z 3 3 ≤ Z 3 2 ∧ Z 3 2 ≤ Z 3 1 ∧ (Z 3 4 = 0 ∨ Z 3 4 = 3 ∨ Z 3 3 < Z 3 2) ∧ (Z 3 4 = 3 ∨ Z 3 14 = 0))) (k2 : ¬ Z 3 4 = 0) (k3 : ¬ Z 3 4 = 3) (k4 : ((n : Nat) : Int) ≤ 4095) (k5 : ai 6 Z 19 0 (Z 3 12) = 1) : ∃ (n' s' : Nat) (S' : Nat → xS) (Z' : xZ) (h' : mx_H), mx_Ca (tB l D b0 ad Hb tau) (d + 106) 40 [.ref 3] h (none, h') ∧ XH n' s' S' Z' h' ∧ GI n' S' Z' ∧ fr8 [(3, 2), (3, 3), (3, 4), (3, 5), (3, 7), (3, 8), (3, 9), (3, 12), (3, 14), (3, 15), (5, (-1)), (6, (-1))] Z Z' ∧ (((Z' 3 3 ≤ Z' 3 2 ∧ Z' 3 2 ≤ Z 3 1 ∧ (Z' 3 4 = 0 ∨ Z' 3 4 = 3 ∨ Z' 3 3 < Z' 3 2) ∧ (Z' 3 4 = 3 ∨ Z' 3 14 = 0)) ∧ Z 3 3 ≤ Z' 3 3 ∧ ((n : Nat) : Int) ≤ ((n' : Nat) : Int) ∧ ((s : Nat) : Int) ≤ ((s' : Nat) : Int) ∧ ((s' : Nat) : Int) ≤ ((s : Nat) : Int) + 900 * (((n' : Nat) : Int) - ((n : Nat) : Int)) ∧ ((n' : Nat) : Int) ≤ ((n : Nat) : Int) + 1 ∧ (Z' 3 4 = 3 ∨ 3 * (((n' : Nat) : Int) - ((n : Nat) : Int)) ≤ Z' 3 3 - Z 3 3) ∧ ai 6 Z' 19 0 (Z' 3 12 + 1) = 1 ∧ (Z' 3 4 = 3 ∨ ai 6 Z' 19 0 (Z' 3 12) = 1))) := by
  obtain ⟨r, hca, n', s', S', Z', h', e, q⟩ := Jmt (B := tB l D b0 ad Hb tau) (M := mt_40) (mi := 40) (as := [.ref 3]) (d := d + 105) (ls := [some (.ref 3), none]) rfl rfl rfl rfl rfl rfl (cw_40_3 (l := l) (D := D) (b0 := b0) (ad := ad) (Hb := Hb) (tau := tau) (d := d) (Post := fun r => ∃ (n' s' : Nat) (S' : Nat → xS) (Z' : xZ) (h' : mx_H), r = (none, h') ∧ XH n' s' S' Z' h' ∧ GI n' S' Z' ∧ fr8 [(3, 2), (3, 3), (3, 4), (3, 5), (3, 7), (3, 8), (3, 9), (3, 12), (3, 14), (3, 15), (5, (-1)), (6, (-1))] Z Z' ∧ (((Z' 3 3 ≤ Z' 3 2 ∧ Z' 3 2 ≤ Z 3 1 ∧ (Z' 3 4 = 0 ∨ Z' 3 4 = 3 ∨ Z' 3 3 < Z' 3 2) ∧ (Z' 3 4 = 3 ∨ Z' 3 14 = 0)) ∧ Z 3 3 ≤ Z' 3 3 ∧ ((n : Nat) : Int) ≤ ((n' : Nat) : Int) ∧ ((s : Nat) : Int) ≤ ((s' : Nat) : Int) ∧ ((s' : Nat) : Int) ≤ ((s : Nat) : Int) + 900 * (((n' : Nat) : Int) - ((n : Nat) : Int)) ∧ ((n' : Nat) : Int) ≤ ((n : Nat) : Int) + 1 ∧ (Z' 3 4 = 3 ∨ 3 * (((n' : Nat) : Int) - ((n : Nat) : Int)) ≤ Z' 3 3 - Z 3 3) ∧ ai 6 Z' 19 0 (Z' 3 12 + 1) = 1 ∧ (Z' 3 4 = 3 ∨ ai 6 Z' 19 0 (Z' 3 12) = 1)))) hx hG k0 k1 k2 k3 k4 k5 (fun n' s' S' Z' h' q1 q2 q3 q4 => ⟨n', s', S', Z', h', rfl, q1, q2, q3, q4⟩))
  subst e; exact ⟨n', s', S', Z', h', hca, q⟩
set_option maxHeartbeats 8000000 in
set_option maxRecDepth 100000 in
theorem cw_38_3_2 {l : Launch} {D : va_G} {b0 : Nat} {ad : Nat → Nat} {Hb : Heap} {tau : Nat → Int64} {d n s : Nat} {S : Nat → xS} {Z : xZ} {h : mx_H} {Post : mx_R → Prop} (hx : XH n s S Z h) (hG : GI n S Z)  {x0 : Int} (p0 : 0 ≤ x0 ∧ x0 ≤ 900) (k0 : 3 * ((n : Nat) : Int) + x0 + 6 ≤ 12288) (hP : ∀ (n' s' : Nat) (S' : Nat → xS) (Z' : xZ) (h' : mx_H), XH n' s' S' Z' h' → GI n' S' Z' → fr8 [(3, 0), (3, 1), (3, 2), (3, 3), (3, 4), (3, 5), (3, 7), (3, 8), (3, 9), (3, 10), (3, 12), (3, 13), (3, 14), (3, 15), (5, (-1)), (6, (-1))] Z Z' → (1 ≤ Z' 3 12 ∧ ((n : Nat) : Int) ≤ ((n' : Nat) : Int) ∧ ((s : Nat) : Int) ≤ ((s' : Nat) : Int) ∧ ((s' : Nat) : Int) ≤ ((s : Nat) : Int) + 900 * (((n' : Nat) : Int) - ((n : Nat) : Int)) ∧ 3 * (((n' : Nat) : Int) - ((n : Nat) : Int)) ≤ x0 + 3) → Post (none, h')) : mx_J (tB l D b0 ad Hb tau) mt_38 (d + 106) 0 [some (.ref 3), some (.ref 2), some (xI x0), none] [] h Post := by
    refine mx_J.step (sn_38 0) (fun _ _ => rfl) ?_
    refine mx_J.step (sn_38 1) (fun _ _ => rfl) ?_
    refine JputR (g := 0) hx (show mx_Sn _ _ 2 (mx_putf 1 7 0 (.array .byte) 5) from sn_38 2) (lt83 (GI_n hG) rfl) (show S 3 = .inl (7, [2, 0, 0, 0, 0, 0, 2, 0, 2, 2, 0, 2, 0, 0, 0, 0]) from GI_s hG 3 rfl) rfl rfl rfl rfl (fun Z1 h1 hx1 hE1 => ?_)
    have hG1 := GI_up hG hE1 (by decide) trivial rfl
    refine mx_J.step (sn_38 5) (fun _ _ => rfl) ?_
    refine JcI (z := 0) (show mx_Sn _ _ 6 (mx_const (.int 0) 7) from sn_38 6) rfl ?_
    refine mx_J.step (sn_38 7) (fun _ _ => rfl) ?_
    refine mx_J.step (sn_38 8) (fun _ _ => rfl) ?_
    refine JalenI (z := 900) hx1 (show mx_Sn _ _ 9 (mx_alen 10) from sn_38 9) (lt83 (GI_n hG1) rfl) (show S 2 = .inr (.byte, 900, 0) from GI_s hG1 2 rfl) (by decide) rfl ?_
    refine Jmmin (show mx_Sn _ _ 10 (mx_mmin 13) from sn_38 10) (by omega) (by omega) ⟨_, rfl⟩ rfl (fun y2 hy2 => ?_)
    refine Jmmax (show mx_Sn _ _ 13 (mx_mmax 16) from sn_38 13) (by omega) (by omega) ⟨_, rfl⟩ rfl (fun y3 hy3 => ?_)
    have ey : y3 = x0 := by omega
    refine JputI (g := 1) hx1 (show mx_Sn _ _ 16 (mx_putf 1 7 1 (.int) 19) from sn_38 16) (lt83 (GI_n hG1) rfl) (show S 3 = .inl (7, [2, 0, 0, 0, 0, 0, 2, 0, 2, 2, 0, 2, 0, 0, 0, 0]) from GI_s hG1 3 rfl) rfl rfl rfl rfl (fun Z4 h4 hx4 hE4 => ?_)
    have hG4 := GI_up hG1 hE4 (show 0 ≤ y3 ∧ y3 ≤ 900 by omega) trivial rfl
    refine mx_J.step (sn_38 19) (fun _ _ => rfl) ?_
    refine JcI (z := 0) (show mx_Sn _ _ 20 (mx_const (.int 0) 21) from sn_38 20) rfl ?_
    refine JputI (g := 2) hx4 (show mx_Sn _ _ 21 (mx_putf 1 7 2 (.int) 24) from sn_38 21) (lt83 (GI_n hG4) rfl) (show S 3 = .inl (7, [2, 0, 0, 0, 0, 0, 2, 0, 2, 2, 0, 2, 0, 0, 0, 0]) from GI_s hG4 3 rfl) rfl rfl rfl rfl (fun Z5 h5 hx5 hE5 => ?_)
    have hG5 := GI_up hG4 hE5 (show 0 ≤ 0 ∧ 0 ≤ 900 by omega) trivial rfl
    refine mx_J.step (sn_38 24) (fun _ _ => rfl) ?_
    refine mx_J.step (sn_38 25) (fun _ _ => rfl) ?_
    refine JputR (g := 8) hx5 (show mx_Sn _ _ 28 (mx_putf 1 7 8 (.array .int) 31) from sn_38 28) (lt83 (GI_n hG5) rfl) (show S 3 = .inl (7, [2, 0, 0, 0, 0, 0, 2, 0, 2, 2, 0, 2, 0, 0, 0, 0]) from GI_s hG5 3 rfl) rfl rfl rfl rfl (fun Z6 h6 hx6 hE6 => ?_)
    have hG6 := GI_upC hG5 hE6 (by decide) trivial rfl ⟨0, 0, rfl, Or.inl rfl, (lt83 (GI_n hG5) rfl), by omega, (show S 0 = .inr (.int, 0, 0) from GI_s hG5 0 rfl)⟩
    refine mx_J.step (sn_38 31) (fun _ _ => rfl) ?_
    refine mx_J.step (sn_38 32) (fun _ _ => rfl) ?_
    refine JputR (g := 9) hx6 (show mx_Sn _ _ 35 (mx_putf 1 7 9 (.array .int) 38) from sn_38 35) (lt83 (GI_n hG6) rfl) (show S 3 = .inl (7, [2, 0, 0, 0, 0, 0, 2, 0, 2, 2, 0, 2, 0, 0, 0, 0]) from GI_s hG6 3 rfl) rfl rfl rfl rfl (fun Z7 h7 hx7 hE7 => ?_)
    have hG7 := GI_upC hG6 hE7 (by decide) trivial rfl ⟨0, 0, rfl, Or.inl rfl, (lt83 (GI_n hG6) rfl), by omega, (show S 0 = .inr (.int, 0, 0) from GI_s hG6 0 rfl)⟩
    refine mx_J.step (sn_38 38) (fun _ _ => rfl) ?_
    refine JcI (z := 0) (show mx_Sn _ _ 39 (mx_const (.int 0) 40) from sn_38 39) rfl ?_
    refine JputI (g := 10) hx7 (show mx_Sn _ _ 40 (mx_putf 1 7 10 (.int) 43) from sn_38 40) (lt83 (GI_n hG7) rfl) (show S 3 = .inl (7, [2, 0, 0, 0, 0, 0, 2, 0, 2, 2, 0, 2, 0, 0, 0, 0]) from GI_s hG7 3 rfl) rfl rfl rfl rfl (fun Z8 h8 hx8 hE8 => ?_)
    have hG8 := GI_up hG7 hE8 (show 0 ≤ 0 ∧ 0 ≤ 901 by omega) trivial rfl
    refine mx_J.step (sn_38 43) (fun _ _ => rfl) ?_
    refine JgetR (g := 11) (b := 6) hx8 (show mx_Sn _ _ 44 (mx_getf 7 11 47) from sn_38 44) (lt83 (GI_n hG8) rfl) (show S 3 = .inl (7, [2, 0, 0, 0, 0, 0, 2, 0, 2, 2, 0, 2, 0, 0, 0, 0]) from GI_s hG8 3 rfl) rfl rfl (hG8.prr 3 11 rfl) ?_
    refine JcI (z := 0) (show mx_Sn _ _ 47 (mx_const (.int 0) 48) from sn_38 47) rfl ?_
    obtain ⟨Z10, h10, hc10, hx10, hG10, hf10, m10_6⟩ := ct_284_6_i0 (d := d + 105) (l := l) (D := D) (b0 := b0) (ad := ad) (Hb := Hb) (tau := tau) hx8 hG8 
    refine Jcs0 (show mx_Sn _ _ 48 (mx_calls 284 2 51) from sn_38 48) hc10 rfl rfl rfl ?_
    have m610 : ai 6 Z10 19 0 0 = 1 := ai_y (by assumption)
    refine mx_J.step (sn_38 51) (fun _ _ => rfl) ?_
    refine JcI (z := 0) (show mx_Sn _ _ 52 (mx_const (.int 0) 53) from sn_38 52) rfl ?_
    refine JputI (g := 12) hx10 (show mx_Sn _ _ 53 (mx_putf 1 7 12 (.int) 56) from sn_38 53) (lt83 (GI_n hG10) rfl) (show S 3 = .inl (7, [2, 0, 0, 0, 0, 0, 2, 0, 2, 2, 0, 2, 0, 0, 0, 0]) from GI_s hG10 3 rfl) rfl rfl rfl rfl (fun Z11 h11 hx11 hE11 => ?_)
    have hG11 := GI_up hG10 hE11 (show 0 ≤ 0 ∧ 0 ≤ 18 by omega) trivial rfl
    have eq12 : Z11 3 12 = 0 := (up_at hE11)
    have eq13 : (ai 6) Z11 19 0 0 = (ai 6) Z10 19 0 0 := (ai_c (fun i => up_nk hE11 rfl))
    have eq14 : (ai 6) Z11 19 0 (Z11 3 12) = (ai 6) Z10 19 0 0 := by rw [(show Z11 3 12 = 0 from (up_at hE11))]; exact (ai_c (fun i => up_nk hE11 rfl))
    have eq15 : (ai 6) Z11 19 0 0 = (ai 6) Z10 19 0 0 := (ai_c (fun i => up_nk hE11 rfl))
    have eq16 : (ai 6) Z11 19 0 ((Z11 3 12) + 1) = (ai 6) Z10 19 0 (0 + 1) := by rw [(show Z11 3 12 = 0 from (up_at hE11))]; exact (ai_c (fun i => up_nk hE11 rfl))
    have eq17 : (ai 6) Z11 19 0 (0 + 1) = (ai 6) Z10 19 0 (0 + 1) := (ai_c (fun i => up_nk hE11 rfl))
    have m711 : ai 6 Z11 19 0 (0 + 1) = 1 := ai_m (len := 19) (lo := 0) (hi := 0) (by omega) (by omega) (by omega) (by omega)
    refine mx_J.step (sn_38 56) (fun _ _ => rfl) ?_
    refine JcI (z := 0) (show mx_Sn _ _ 57 (mx_const (.int 0) 58) from sn_38 57) rfl ?_
    refine JputI (g := 14) hx11 (show mx_Sn _ _ 58 (mx_putf 1 7 14 (.int) 61) from sn_38 58) (lt83 (GI_n hG11) rfl) (show S 3 = .inl (7, [2, 0, 0, 0, 0, 0, 2, 0, 2, 2, 0, 2, 0, 0, 0, 0]) from GI_s hG11 3 rfl) rfl rfl rfl rfl (fun Z18 h18 hx18 hE18 => ?_)
    have hG18 := GI_up hG11 hE18 (show 0 ≤ 0 ∧ 0 ≤ 4 by omega) trivial rfl
    refine mx_J.step (sn_38 61) (fun _ _ => rfl) ?_
    refine JcI (z := (-1)) (show mx_Sn _ _ 62 (mx_const (.int (-1)) 63) from sn_38 62) rfl ?_
    refine JputI (g := 15) hx18 (show mx_Sn _ _ 63 (mx_putf 1 7 15 (.int) 66) from sn_38 63) (lt83 (GI_n hG18) rfl) (show S 3 = .inl (7, [2, 0, 0, 0, 0, 0, 2, 0, 2, 2, 0, 2, 0, 0, 0, 0]) from GI_s hG18 3 rfl) rfl rfl rfl rfl (fun Z19 h19 hx19 hE19 => ?_)
    have hG19 := GI_up hG18 hE19 (show (-1) ≤ (-1) ∧ (-1) ≤ 900 by omega) trivial rfl
    refine mx_J.step (sn_38 66) (fun _ _ => rfl) ?_
    have eq21 : Z19 3 0 = 2 := ((up_ni hE19 (by decide)).trans ((up_ni hE18 (by decide)).trans ((up_ni hE11 (by decide)).trans ((hf10 3 0 rfl).trans ((up_ni hE8 (by decide)).trans ((up_ni hE7 (by decide)).trans ((up_ni hE6 (by decide)).trans ((up_ni hE5 (by decide)).trans ((up_ni hE4 (by decide)).trans (up_at hE1))))))))))
    have eq22 : Z19 3 1 = y3 := ((up_ni hE19 (by decide)).trans ((up_ni hE18 (by decide)).trans ((up_ni hE11 (by decide)).trans ((hf10 3 1 rfl).trans ((up_ni hE8 (by decide)).trans ((up_ni hE7 (by decide)).trans ((up_ni hE6 (by decide)).trans ((up_ni hE5 (by decide)).trans (up_at hE4)))))))))
    have eq23 : Z19 3 2 = 0 := ((up_ni hE19 (by decide)).trans ((up_ni hE18 (by decide)).trans ((up_ni hE11 (by decide)).trans ((hf10 3 2 rfl).trans ((up_ni hE8 (by decide)).trans ((up_ni hE7 (by decide)).trans ((up_ni hE6 (by decide)).trans (up_at hE5))))))))
    have eq24 : Z19 3 3 = Z 3 3 := ((up_ni hE19 (by decide)).trans ((up_ni hE18 (by decide)).trans ((up_ni hE11 (by decide)).trans ((hf10 3 3 rfl).trans ((up_ni hE8 (by decide)).trans ((up_ni hE7 (by decide)).trans ((up_ni hE6 (by decide)).trans ((up_ni hE5 (by decide)).trans ((up_ni hE4 (by decide)).trans (up_ni hE1 (by decide)))))))))))
    have b25 : 0 ≤ Z 3 3 ∧ Z 3 3 ≤ 900 := hG.pr 3 3
    have eq26 : Z19 3 4 = Z 3 4 := ((up_ni hE19 (by decide)).trans ((up_ni hE18 (by decide)).trans ((up_ni hE11 (by decide)).trans ((hf10 3 4 rfl).trans ((up_ni hE8 (by decide)).trans ((up_ni hE7 (by decide)).trans ((up_ni hE6 (by decide)).trans ((up_ni hE5 (by decide)).trans ((up_ni hE4 (by decide)).trans (up_ni hE1 (by decide)))))))))))
    have b27 : 0 ≤ Z 3 4 ∧ Z 3 4 ≤ 400 := hG.pr 3 4
    have eq28 : Z19 3 14 = 0 := ((up_ni hE19 (by decide)).trans (up_at hE18))
    obtain ⟨Z20, h20, hc20, hx20, hG20, hf20, b20⟩ := ct_56_3 (d := d + 100) (l := l) (D := D) (b0 := b0) (ad := ad) (Hb := Hb) (tau := tau) hx19 hG19  (show Z19 3 0 = 2 by first | omega | (simp only [eq21, eq22, eq23, eq24, eq26, eq28]; omega)) (show Z19 3 2 ≤ Z19 3 1 by first | omega | (simp only [eq21, eq22, eq23, eq24, eq26, eq28]; omega))
    try rw [eq21] at b20
    try rw [eq22] at b20
    try rw [eq23] at b20
    try rw [eq24] at b20
    try rw [eq26] at b20
    try rw [eq28] at b20
    have b29 : 0 ≤ Z20 3 2 ∧ Z20 3 2 ≤ 900 := hG20.pr 3 2
    have b30 : 0 ≤ Z20 3 3 ∧ Z20 3 3 ≤ 900 := hG20.pr 3 3
    have b31 : 0 ≤ Z20 3 4 ∧ Z20 3 4 ≤ 400 := hG20.pr 3 4
    refine Jcv0 hx19 (show mx_Sn _ _ 67 (mx_callv 56 1 7 70) from sn_38 67) (lt83 (GI_n hG19) rfl) (show S 3 = .inl (7, [2, 0, 0, 0, 0, 0, 2, 0, 2, 2, 0, 2, 0, 0, 0, 0]) from GI_s hG19 3 rfl) hc20 rfl rfl rfl ?_
    refine mx_J.step (sn_38 70) (fun _ _ => rfl) ?_
    refine JcI (z := 300) (show mx_Sn _ _ 71 (mx_const (.int 300) 74) from sn_38 71) rfl ?_
    have eq33 : Z20 3 0 = 2 := ((hf20 3 0 rfl).trans ((up_ni hE19 (by decide)).trans ((up_ni hE18 (by decide)).trans ((up_ni hE11 (by decide)).trans ((hf10 3 0 rfl).trans ((up_ni hE8 (by decide)).trans ((up_ni hE7 (by decide)).trans ((up_ni hE6 (by decide)).trans ((up_ni hE5 (by decide)).trans ((up_ni hE4 (by decide)).trans (up_at hE1)))))))))))
    have eq34 : Z20 3 1 = y3 := ((hf20 3 1 rfl).trans ((up_ni hE19 (by decide)).trans ((up_ni hE18 (by decide)).trans ((up_ni hE11 (by decide)).trans ((hf10 3 1 rfl).trans ((up_ni hE8 (by decide)).trans ((up_ni hE7 (by decide)).trans ((up_ni hE6 (by decide)).trans ((up_ni hE5 (by decide)).trans (up_at hE4))))))))))
    have b35 : 0 ≤ Z20 3 2 ∧ Z20 3 2 ≤ 900 := hG20.pr 3 2
    have b36 : 0 ≤ Z20 3 3 ∧ Z20 3 3 ≤ 900 := hG20.pr 3 3
    have b37 : 0 ≤ Z20 3 4 ∧ Z20 3 4 ≤ 400 := hG20.pr 3 4
    have eq38 : Z20 3 7 = Z 3 7 := ((hf20 3 7 rfl).trans ((up_ni hE19 (by decide)).trans ((up_ni hE18 (by decide)).trans ((up_ni hE11 (by decide)).trans ((hf10 3 7 rfl).trans ((up_ni hE8 (by decide)).trans ((up_ni hE7 (by decide)).trans ((up_ni hE6 (by decide)).trans ((up_ni hE5 (by decide)).trans ((up_ni hE4 (by decide)).trans (up_ni hE1 (by decide))))))))))))
    have b39 : 0 ≤ Z 3 7 ∧ Z 3 7 ≤ 900 := hG.pr 3 7
    have eq40 : Z20 3 14 = 0 := ((hf20 3 14 rfl).trans ((up_ni hE19 (by decide)).trans (up_at hE18)))
    obtain ⟨Z32, h32, hc32, hx32, hG32, hf32, b32⟩ := ct_53_3 (d := d + 99) (l := l) (D := D) (b0 := b0) (ad := ad) (Hb := Hb) (tau := tau) hx20 hG20 (show 40 ≤ 300 ∧ 300 ≤ 320 by omega) (show Z20 3 0 = 2 by first | omega | (simp only [eq33, eq34, eq38, eq40]; omega)) (show (Z20 3 3 ≤ Z20 3 2 ∧ Z20 3 2 ≤ Z20 3 1 ∧ (Z20 3 4 = 0 ∨ Z20 3 4 = 3 ∨ Z20 3 3 < Z20 3 2) ∧ (Z20 3 4 = 3 ∨ Z20 3 14 = 0)) by first | omega | (simp only [eq33, eq34, eq38, eq40]; omega))
    try rw [eq33] at b32
    try rw [eq34] at b32
    try rw [eq38] at b32
    try rw [eq40] at b32
    have b41 : 0 ≤ Z32 3 2 ∧ Z32 3 2 ≤ 900 := hG32.pr 3 2
    have b42 : 0 ≤ Z32 3 3 ∧ Z32 3 3 ≤ 900 := hG32.pr 3 3
    have b43 : 0 ≤ Z32 3 4 ∧ Z32 3 4 ≤ 400 := hG32.pr 3 4
    have eq44 : Z32 3 7 = Z 3 7 := ((hf32 3 7 rfl).trans ((hf20 3 7 rfl).trans ((up_ni hE19 (by decide)).trans ((up_ni hE18 (by decide)).trans ((up_ni hE11 (by decide)).trans ((hf10 3 7 rfl).trans ((up_ni hE8 (by decide)).trans ((up_ni hE7 (by decide)).trans ((up_ni hE6 (by decide)).trans ((up_ni hE5 (by decide)).trans ((up_ni hE4 (by decide)).trans (up_ni hE1 (by decide)))))))))))))
    have b45 : 0 ≤ Z 3 7 ∧ Z 3 7 ≤ 900 := hG.pr 3 7
    have b46 : 0 ≤ Z32 3 14 ∧ Z32 3 14 ≤ 4 := hG32.pr 3 14
    refine Jcv0 hx20 (show mx_Sn _ _ 74 (mx_callv 53 2 7 77) from sn_38 74) (lt83 (GI_n hG20) rfl) (show S 3 = .inl (7, [2, 0, 0, 0, 0, 0, 2, 0, 2, 2, 0, 2, 0, 0, 0, 0]) from GI_s hG20 3 rfl) hc32 rfl rfl rfl ?_
    clear b20
    refine mx_J.step (sn_38 77) (fun _ _ => rfl) ?_
    refine JcI (z := 301) (show mx_Sn _ _ 78 (mx_const (.int 301) 81) from sn_38 78) rfl ?_
    have eq48 : Z32 3 0 = 2 := ((hf32 3 0 rfl).trans ((hf20 3 0 rfl).trans ((up_ni hE19 (by decide)).trans ((up_ni hE18 (by decide)).trans ((up_ni hE11 (by decide)).trans ((hf10 3 0 rfl).trans ((up_ni hE8 (by decide)).trans ((up_ni hE7 (by decide)).trans ((up_ni hE6 (by decide)).trans ((up_ni hE5 (by decide)).trans ((up_ni hE4 (by decide)).trans (up_at hE1))))))))))))
    have eq49 : Z32 3 1 = y3 := ((hf32 3 1 rfl).trans ((hf20 3 1 rfl).trans ((up_ni hE19 (by decide)).trans ((up_ni hE18 (by decide)).trans ((up_ni hE11 (by decide)).trans ((hf10 3 1 rfl).trans ((up_ni hE8 (by decide)).trans ((up_ni hE7 (by decide)).trans ((up_ni hE6 (by decide)).trans ((up_ni hE5 (by decide)).trans (up_at hE4)))))))))))
    have b50 : 0 ≤ Z32 3 2 ∧ Z32 3 2 ≤ 900 := hG32.pr 3 2
    have b51 : 0 ≤ Z32 3 3 ∧ Z32 3 3 ≤ 900 := hG32.pr 3 3
    have b52 : 0 ≤ Z32 3 4 ∧ Z32 3 4 ≤ 400 := hG32.pr 3 4
    have eq53 : Z32 3 7 = Z 3 7 := ((hf32 3 7 rfl).trans ((hf20 3 7 rfl).trans ((up_ni hE19 (by decide)).trans ((up_ni hE18 (by decide)).trans ((up_ni hE11 (by decide)).trans ((hf10 3 7 rfl).trans ((up_ni hE8 (by decide)).trans ((up_ni hE7 (by decide)).trans ((up_ni hE6 (by decide)).trans ((up_ni hE5 (by decide)).trans ((up_ni hE4 (by decide)).trans (up_ni hE1 (by decide)))))))))))))
    have b54 : 0 ≤ Z 3 7 ∧ Z 3 7 ≤ 900 := hG.pr 3 7
    have b55 : 0 ≤ Z32 3 14 ∧ Z32 3 14 ≤ 4 := hG32.pr 3 14
    obtain ⟨Z47, h47, hc47, hx47, hG47, hf47, b47⟩ := ct_53_3 (d := d + 99) (l := l) (D := D) (b0 := b0) (ad := ad) (Hb := Hb) (tau := tau) hx32 hG32 (show 40 ≤ 301 ∧ 301 ≤ 320 by omega) (show Z32 3 0 = 2 by first | omega | (simp only [eq48, eq49, eq53]; omega)) (show (Z32 3 3 ≤ Z32 3 2 ∧ Z32 3 2 ≤ Z32 3 1 ∧ (Z32 3 4 = 0 ∨ Z32 3 4 = 3 ∨ Z32 3 3 < Z32 3 2) ∧ (Z32 3 4 = 3 ∨ Z32 3 14 = 0)) by first | omega | (simp only [eq48, eq49, eq53]; omega))
    try rw [eq48] at b47
    try rw [eq49] at b47
    try rw [eq53] at b47
    have b56 : 0 ≤ Z47 3 2 ∧ Z47 3 2 ≤ 900 := hG47.pr 3 2
    have b57 : 0 ≤ Z47 3 3 ∧ Z47 3 3 ≤ 900 := hG47.pr 3 3
    have b58 : 0 ≤ Z47 3 4 ∧ Z47 3 4 ≤ 400 := hG47.pr 3 4
    have eq59 : Z47 3 7 = Z 3 7 := ((hf47 3 7 rfl).trans ((hf32 3 7 rfl).trans ((hf20 3 7 rfl).trans ((up_ni hE19 (by decide)).trans ((up_ni hE18 (by decide)).trans ((up_ni hE11 (by decide)).trans ((hf10 3 7 rfl).trans ((up_ni hE8 (by decide)).trans ((up_ni hE7 (by decide)).trans ((up_ni hE6 (by decide)).trans ((up_ni hE5 (by decide)).trans ((up_ni hE4 (by decide)).trans (up_ni hE1 (by decide))))))))))))))
    have b60 : 0 ≤ Z 3 7 ∧ Z 3 7 ≤ 900 := hG.pr 3 7
    have b61 : 0 ≤ Z47 3 14 ∧ Z47 3 14 ≤ 4 := hG47.pr 3 14
    refine Jcv0 hx32 (show mx_Sn _ _ 81 (mx_callv 53 2 7 84) from sn_38 81) (lt83 (GI_n hG32) rfl) (show S 3 = .inl (7, [2, 0, 0, 0, 0, 0, 2, 0, 2, 2, 0, 2, 0, 0, 0, 0]) from GI_s hG32 3 rfl) hc47 rfl rfl rfl ?_
    clear b32
    refine mx_J.step (sn_38 84) (fun _ _ => rfl) ?_
    refine mx_J.step (sn_38 85) (fun _ _ => rfl) ?_
    refine JcI (z := 0) (show mx_Sn _ _ 86 (mx_const (.int 0) 87) from sn_38 86) rfl ?_
    refine JcI (z := 9) (show mx_Sn _ _ 87 (mx_const (.int 9) 89) from sn_38 87) rfl ?_
    have eq63 : Z47 3 0 = 2 := ((hf47 3 0 rfl).trans ((hf32 3 0 rfl).trans ((hf20 3 0 rfl).trans ((up_ni hE19 (by decide)).trans ((up_ni hE18 (by decide)).trans ((up_ni hE11 (by decide)).trans ((hf10 3 0 rfl).trans ((up_ni hE8 (by decide)).trans ((up_ni hE7 (by decide)).trans ((up_ni hE6 (by decide)).trans ((up_ni hE5 (by decide)).trans ((up_ni hE4 (by decide)).trans (up_at hE1)))))))))))))
    have eq64 : Z47 3 1 = y3 := ((hf47 3 1 rfl).trans ((hf32 3 1 rfl).trans ((hf20 3 1 rfl).trans ((up_ni hE19 (by decide)).trans ((up_ni hE18 (by decide)).trans ((up_ni hE11 (by decide)).trans ((hf10 3 1 rfl).trans ((up_ni hE8 (by decide)).trans ((up_ni hE7 (by decide)).trans ((up_ni hE6 (by decide)).trans ((up_ni hE5 (by decide)).trans (up_at hE4))))))))))))
    have b65 : 0 ≤ Z47 3 2 ∧ Z47 3 2 ≤ 900 := hG47.pr 3 2
    have b66 : 0 ≤ Z47 3 3 ∧ Z47 3 3 ≤ 900 := hG47.pr 3 3
    have b67 : 0 ≤ Z47 3 4 ∧ Z47 3 4 ≤ 400 := hG47.pr 3 4
    have eq68 : Z47 3 7 = Z 3 7 := ((hf47 3 7 rfl).trans ((hf32 3 7 rfl).trans ((hf20 3 7 rfl).trans ((up_ni hE19 (by decide)).trans ((up_ni hE18 (by decide)).trans ((up_ni hE11 (by decide)).trans ((hf10 3 7 rfl).trans ((up_ni hE8 (by decide)).trans ((up_ni hE7 (by decide)).trans ((up_ni hE6 (by decide)).trans ((up_ni hE5 (by decide)).trans ((up_ni hE4 (by decide)).trans (up_ni hE1 (by decide))))))))))))))
    have b69 : 0 ≤ Z 3 7 ∧ Z 3 7 ≤ 900 := hG.pr 3 7
    have b70 : 0 ≤ Z47 3 14 ∧ Z47 3 14 ≤ 4 := hG47.pr 3 14
    obtain ⟨z62, Z62, h62, hc62, hx62, hG62, hf62, b62⟩ := ct_54_3 (d := d + 99) (l := l) (D := D) (b0 := b0) (ad := ad) (Hb := Hb) (tau := tau) hx47 hG47 (show 0 ≤ 0 ∧ 0 ≤ 1 by omega) (show 0 ≤ 9 ∧ 9 ≤ 999 by omega) (show Z47 3 0 = 2 by first | omega | (simp only [eq63, eq64, eq68]; omega)) (show (Z47 3 3 ≤ Z47 3 2 ∧ Z47 3 2 ≤ Z47 3 1 ∧ (Z47 3 4 = 0 ∨ Z47 3 4 = 3 ∨ Z47 3 3 < Z47 3 2) ∧ (Z47 3 4 = 3 ∨ Z47 3 14 = 0)) by first | omega | (simp only [eq63, eq64, eq68]; omega))
    try rw [eq63] at b62
    try rw [eq64] at b62
    try rw [eq68] at b62
    have b71 : 0 ≤ Z62 3 2 ∧ Z62 3 2 ≤ 900 := hG62.pr 3 2
    have b72 : 0 ≤ Z62 3 3 ∧ Z62 3 3 ≤ 900 := hG62.pr 3 3
    have b73 : 0 ≤ Z62 3 4 ∧ Z62 3 4 ≤ 400 := hG62.pr 3 4
    have eq74 : Z62 3 7 = Z 3 7 := ((hf62 3 7 rfl).trans ((hf47 3 7 rfl).trans ((hf32 3 7 rfl).trans ((hf20 3 7 rfl).trans ((up_ni hE19 (by decide)).trans ((up_ni hE18 (by decide)).trans ((up_ni hE11 (by decide)).trans ((hf10 3 7 rfl).trans ((up_ni hE8 (by decide)).trans ((up_ni hE7 (by decide)).trans ((up_ni hE6 (by decide)).trans ((up_ni hE5 (by decide)).trans ((up_ni hE4 (by decide)).trans (up_ni hE1 (by decide)))))))))))))))
    have b75 : 0 ≤ Z 3 7 ∧ Z 3 7 ≤ 900 := hG.pr 3 7
    have b76 : 0 ≤ Z62 3 14 ∧ Z62 3 14 ≤ 4 := hG62.pr 3 14
    refine Jcv hx47 (show mx_Sn _ _ 89 (mx_callv 54 3 7 92) from sn_38 89) (lt83 (GI_n hG47) rfl) (show S 3 = .inl (7, [2, 0, 0, 0, 0, 0, 2, 0, 2, 2, 0, 2, 0, 0, 0, 0]) from GI_s hG47 3 rfl) hc62 rfl rfl rfl ?_
    clear b47
    refine JputI (g := 13) hx62 (show mx_Sn _ _ 92 (mx_putf 1 7 13 (.int) 95) from sn_38 92) (lt83 (GI_n hG62) rfl) (show S 3 = .inl (7, [2, 0, 0, 0, 0, 0, 2, 0, 2, 2, 0, 2, 0, 0, 0, 0]) from GI_s hG62 3 rfl) rfl rfl rfl rfl (fun Z77 h77 hx77 hE77 => ?_)
    have hG77 := GI_up hG62 hE77 (show 0 ≤ z62 ∧ z62 ≤ 9 by omega) trivial rfl
    refine mx_J.step (sn_38 95) (fun _ _ => rfl) ?_
    refine JcI (z := 59) (show mx_Sn _ _ 96 (mx_const (.int 59) 98) from sn_38 96) rfl ?_
    have eq79 : Z77 3 0 = 2 := ((up_ni hE77 (by decide)).trans ((hf62 3 0 rfl).trans ((hf47 3 0 rfl).trans ((hf32 3 0 rfl).trans ((hf20 3 0 rfl).trans ((up_ni hE19 (by decide)).trans ((up_ni hE18 (by decide)).trans ((up_ni hE11 (by decide)).trans ((hf10 3 0 rfl).trans ((up_ni hE8 (by decide)).trans ((up_ni hE7 (by decide)).trans ((up_ni hE6 (by decide)).trans ((up_ni hE5 (by decide)).trans ((up_ni hE4 (by decide)).trans (up_at hE1)))))))))))))))
    have eq80 : Z77 3 1 = y3 := ((up_ni hE77 (by decide)).trans ((hf62 3 1 rfl).trans ((hf47 3 1 rfl).trans ((hf32 3 1 rfl).trans ((hf20 3 1 rfl).trans ((up_ni hE19 (by decide)).trans ((up_ni hE18 (by decide)).trans ((up_ni hE11 (by decide)).trans ((hf10 3 1 rfl).trans ((up_ni hE8 (by decide)).trans ((up_ni hE7 (by decide)).trans ((up_ni hE6 (by decide)).trans ((up_ni hE5 (by decide)).trans (up_at hE4))))))))))))))
    have eq81 : Z77 3 2 = Z62 3 2 := (up_ni hE77 (by decide))
    have b82 : 0 ≤ Z62 3 2 ∧ Z62 3 2 ≤ 900 := hG62.pr 3 2
    have eq83 : Z77 3 3 = Z62 3 3 := (up_ni hE77 (by decide))
    have b84 : 0 ≤ Z62 3 3 ∧ Z62 3 3 ≤ 900 := hG62.pr 3 3
    have eq85 : Z77 3 4 = Z62 3 4 := (up_ni hE77 (by decide))
    have b86 : 0 ≤ Z62 3 4 ∧ Z62 3 4 ≤ 400 := hG62.pr 3 4
    have eq87 : Z77 3 7 = Z 3 7 := ((up_ni hE77 (by decide)).trans ((hf62 3 7 rfl).trans ((hf47 3 7 rfl).trans ((hf32 3 7 rfl).trans ((hf20 3 7 rfl).trans ((up_ni hE19 (by decide)).trans ((up_ni hE18 (by decide)).trans ((up_ni hE11 (by decide)).trans ((hf10 3 7 rfl).trans ((up_ni hE8 (by decide)).trans ((up_ni hE7 (by decide)).trans ((up_ni hE6 (by decide)).trans ((up_ni hE5 (by decide)).trans ((up_ni hE4 (by decide)).trans (up_ni hE1 (by decide))))))))))))))))
    have b88 : 0 ≤ Z 3 7 ∧ Z 3 7 ≤ 900 := hG.pr 3 7
    have eq89 : Z77 3 14 = Z62 3 14 := (up_ni hE77 (by decide))
    have b90 : 0 ≤ Z62 3 14 ∧ Z62 3 14 ≤ 4 := hG62.pr 3 14
    obtain ⟨Z78, h78, hc78, hx78, hG78, hf78, b78⟩ := ct_53_3 (d := d + 99) (l := l) (D := D) (b0 := b0) (ad := ad) (Hb := Hb) (tau := tau) hx77 hG77 (show 40 ≤ 59 ∧ 59 ≤ 320 by omega) (show Z77 3 0 = 2 by first | omega | (simp only [eq79, eq80, eq81, eq83, eq85, eq87, eq89]; omega)) (show (Z77 3 3 ≤ Z77 3 2 ∧ Z77 3 2 ≤ Z77 3 1 ∧ (Z77 3 4 = 0 ∨ Z77 3 4 = 3 ∨ Z77 3 3 < Z77 3 2) ∧ (Z77 3 4 = 3 ∨ Z77 3 14 = 0)) by first | omega | (simp only [eq79, eq80, eq81, eq83, eq85, eq87, eq89]; omega))
    try rw [eq79] at b78
    try rw [eq80] at b78
    try rw [eq81] at b78
    try rw [eq83] at b78
    try rw [eq85] at b78
    try rw [eq87] at b78
    try rw [eq89] at b78
    have b91 : 0 ≤ Z78 3 2 ∧ Z78 3 2 ≤ 900 := hG78.pr 3 2
    have b92 : 0 ≤ Z78 3 3 ∧ Z78 3 3 ≤ 900 := hG78.pr 3 3
    have b93 : 0 ≤ Z78 3 4 ∧ Z78 3 4 ≤ 400 := hG78.pr 3 4
    have eq94 : Z78 3 7 = Z 3 7 := ((hf78 3 7 rfl).trans ((up_ni hE77 (by decide)).trans ((hf62 3 7 rfl).trans ((hf47 3 7 rfl).trans ((hf32 3 7 rfl).trans ((hf20 3 7 rfl).trans ((up_ni hE19 (by decide)).trans ((up_ni hE18 (by decide)).trans ((up_ni hE11 (by decide)).trans ((hf10 3 7 rfl).trans ((up_ni hE8 (by decide)).trans ((up_ni hE7 (by decide)).trans ((up_ni hE6 (by decide)).trans ((up_ni hE5 (by decide)).trans ((up_ni hE4 (by decide)).trans (up_ni hE1 (by decide)))))))))))))))))
    have b95 : 0 ≤ Z 3 7 ∧ Z 3 7 ≤ 900 := hG.pr 3 7
    have b96 : 0 ≤ Z78 3 14 ∧ Z78 3 14 ≤ 4 := hG78.pr 3 14
    refine Jcv0 hx77 (show mx_Sn _ _ 98 (mx_callv 53 2 7 101) from sn_38 98) (lt83 (GI_n hG77) rfl) (show S 3 = .inl (7, [2, 0, 0, 0, 0, 0, 2, 0, 2, 2, 0, 2, 0, 0, 0, 0]) from GI_s hG77 3 rfl) hc78 rfl rfl rfl ?_
    clear b62
    refine mx_J.step (sn_38 101) (fun _ _ => rfl) ?_
    refine JcI (z := 1) (show mx_Sn _ _ 102 (mx_const (.int 1) 103) from sn_38 102) rfl ?_
    refine JputI (g := 10) hx78 (show mx_Sn _ _ 103 (mx_putf 1 7 10 (.int) 106) from sn_38 103) (lt83 (GI_n hG78) rfl) (show S 3 = .inl (7, [2, 0, 0, 0, 0, 0, 2, 0, 2, 2, 0, 2, 0, 0, 0, 0]) from GI_s hG78 3 rfl) rfl rfl rfl rfl (fun Z97 h97 hx97 hE97 => ?_)
    have hG97 := GI_up hG78 hE97 (show 0 ≤ 1 ∧ 1 ≤ 901 by omega) trivial rfl
    refine JcI (z := 0) (show mx_Sn _ _ 106 (mx_const (.int 0) 107) from sn_38 106) rfl ?_
    refine mx_J.step (ls2 := [some (.ref 3), some (.ref 2), some (xI x0), some (xI 0)]) (sn_38 107) (fun _ _ => rfl) ?_
    have c108 : ∀ (m98 : Nat) (w98_3 : Int) (n99 s99 : Nat) (S99 : Nat → xS) (Z99 : xZ) (h99 : mx_H), 900 - w98_3 < (m98 : Int) → 0 ≤ w98_3 ∧ w98_3 ≤ 900 → (3 * (((n99 : Nat) : Int) - ((n : Nat) : Int)) ≤ Z99 3 3 + 3 ∧ ((n : Nat) : Int) ≤ ((n99 : Nat) : Int) ∧ ((s : Nat) : Int) ≤ ((s99 : Nat) : Int) ∧ ((s99 : Nat) : Int) ≤ ((s : Nat) : Int) + 900 * (((n99 : Nat) : Int) - ((n : Nat) : Int))) → (Z99 3 4 = 3 ∨ 3 * (((n99 : Nat) : Int) - ((n : Nat) : Int)) ≤ Z99 3 3) → (Z99 3 3 ≤ Z99 3 2 ∧ Z99 3 2 ≤ Z99 3 1 ∧ (Z99 3 4 = 0 ∨ Z99 3 4 = 3 ∨ Z99 3 3 < Z99 3 2) ∧ (Z99 3 4 = 3 ∨ Z99 3 14 = 0)) → (ai 6 Z99 19 0 (Z99 3 12 + 1) = 1) → (Z99 3 4 = 3 ∨ ai 6 Z99 19 0 (Z99 3 12) = 1) → (Z99 3 10 = w98_3 + 1 ∧ Z99 3 3 ≤ x0) → XH n99 s99 S99 Z99 h99 → GI n99 S99 Z99 → fr8 [(3, 2), (3, 3), (3, 4), (3, 5), (3, 7), (3, 8), (3, 9), (3, 10), (3, 12), (3, 14), (3, 15), (5, (-1)), (6, (-1))] Z97 Z99 → mx_J (tB l D b0 ad Hb tau) mt_38 (d + 106) 108 [some (.ref 3), some (.ref 2), some (xI x0), some (xI w98_3)] [] h99 Post := by
      intro m98
      induction m98 with
      | zero => intro w98_3 n99 s99 S99 Z99 h99 q98 f98_0 f98_1 f98_2 f98_3 f98_4 f98_5 f98_6 hx99 hG99 hf99; exact absurd q98 (by omega)
      | succ m98 ih98 =>
        intro w98_3 n99 s99 S99 Z99 h99 q98 f98_0 f98_1 f98_2 f98_3 f98_4 f98_5 f98_6 hx99 hG99 hf99
        have b100 : 0 ≤ Z99 3 3 ∧ Z99 3 3 ≤ 900 := hG99.pr 3 3
        have b101 : 0 ≤ Z99 3 4 ∧ Z99 3 4 ≤ 400 := hG99.pr 3 4
        have b102 : 0 ≤ Z99 3 3 ∧ Z99 3 3 ≤ 900 := hG99.pr 3 3
        have eq103 : Z99 3 0 = 2 := ((hf99 3 0 rfl rfl).trans ((up_ni hE97 (by decide)).trans ((hf78 3 0 rfl).trans ((up_ni hE77 (by decide)).trans ((hf62 3 0 rfl).trans ((hf47 3 0 rfl).trans ((hf32 3 0 rfl).trans ((hf20 3 0 rfl).trans ((up_ni hE19 (by decide)).trans ((up_ni hE18 (by decide)).trans ((up_ni hE11 (by decide)).trans ((hf10 3 0 rfl).trans ((up_ni hE8 (by decide)).trans ((up_ni hE7 (by decide)).trans ((up_ni hE6 (by decide)).trans ((up_ni hE5 (by decide)).trans ((up_ni hE4 (by decide)).trans (up_at hE1))))))))))))))))))
        have eq104 : Z99 3 1 = y3 := ((hf99 3 1 rfl rfl).trans ((up_ni hE97 (by decide)).trans ((hf78 3 1 rfl).trans ((up_ni hE77 (by decide)).trans ((hf62 3 1 rfl).trans ((hf47 3 1 rfl).trans ((hf32 3 1 rfl).trans ((hf20 3 1 rfl).trans ((up_ni hE19 (by decide)).trans ((up_ni hE18 (by decide)).trans ((up_ni hE11 (by decide)).trans ((hf10 3 1 rfl).trans ((up_ni hE8 (by decide)).trans ((up_ni hE7 (by decide)).trans ((up_ni hE6 (by decide)).trans ((up_ni hE5 (by decide)).trans (up_at hE4)))))))))))))))))
        have b105 : 0 ≤ Z99 3 2 ∧ Z99 3 2 ≤ 900 := hG99.pr 3 2
        have b106 : 0 ≤ Z99 3 3 ∧ Z99 3 3 ≤ 900 := hG99.pr 3 3
        have b107 : 0 ≤ Z99 3 4 ∧ Z99 3 4 ≤ 400 := hG99.pr 3 4
        have b108 : 0 ≤ Z99 3 7 ∧ Z99 3 7 ≤ 900 := hG99.pr 3 7
        have b109 : 0 ≤ Z99 3 14 ∧ Z99 3 14 ≤ 4 := hG99.pr 3 14
        have b110 : 0 ≤ Z99 3 12 ∧ Z99 3 12 ≤ 18 := hG99.pr 3 12
        have b111 : 0 ≤ Z99 3 12 ∧ Z99 3 12 ≤ 18 := hG99.pr 3 12
        have b112 : 0 ≤ Z99 3 4 ∧ Z99 3 4 ≤ 400 := hG99.pr 3 4
        have b113 : 0 ≤ Z99 3 12 ∧ Z99 3 12 ≤ 18 := hG99.pr 3 12
        have b114 : 0 ≤ Z99 3 12 ∧ Z99 3 12 ≤ 18 := hG99.pr 3 12
        have b115 : 0 ≤ Z99 3 10 ∧ Z99 3 10 ≤ 901 := hG99.pr 3 10
        have b116 : 0 ≤ Z99 3 3 ∧ Z99 3 3 ≤ 900 := hG99.pr 3 3
        refine mx_J.step (sn_38 108) (fun _ _ => rfl) ?_
        refine mx_J.step (sn_38 109) (fun _ _ => rfl) ?_
        have eq117 : Z99 3 1 = y3 := ((hf99 3 1 rfl rfl).trans ((up_ni hE97 (by decide)).trans ((hf78 3 1 rfl).trans ((up_ni hE77 (by decide)).trans ((hf62 3 1 rfl).trans ((hf47 3 1 rfl).trans ((hf32 3 1 rfl).trans ((hf20 3 1 rfl).trans ((up_ni hE19 (by decide)).trans ((up_ni hE18 (by decide)).trans ((up_ni hE11 (by decide)).trans ((hf10 3 1 rfl).trans ((up_ni hE8 (by decide)).trans ((up_ni hE7 (by decide)).trans ((up_ni hE6 (by decide)).trans ((up_ni hE5 (by decide)).trans (up_at hE4)))))))))))))))))
        have b118 : 0 ≤ Z99 3 12 ∧ Z99 3 12 ≤ 18 := hG99.pr 3 12
        refine JgetI (g := 1) (z := y3) hx99 (show mx_Sn _ _ 110 (mx_getf 7 1 113) from sn_38 110) (lt83 (GI_n hG99) rfl) (show S99 3 = .inl (7, [2, 0, 0, 0, 0, 0, 2, 0, 2, 2, 0, 2, 0, 0, 0, 0]) from GI_s hG99 3 rfl) rfl rfl ((hf99 3 1 rfl rfl).trans ((up_ni hE97 (by decide)).trans ((hf78 3 1 rfl).trans ((up_ni hE77 (by decide)).trans ((hf62 3 1 rfl).trans ((hf47 3 1 rfl).trans ((hf32 3 1 rfl).trans ((hf20 3 1 rfl).trans ((up_ni hE19 (by decide)).trans ((up_ni hE18 (by decide)).trans ((up_ni hE11 (by decide)).trans ((hf10 3 1 rfl).trans ((up_ni hE8 (by decide)).trans ((up_ni hE7 (by decide)).trans ((up_ni hE6 (by decide)).trans ((up_ni hE5 (by decide)).trans (up_at hE4))))))))))))))))) ?_
        have c157 : mx_J (tB l D b0 ad Hb tau) mt_38 (d + 106) 157 [some (.ref 3), some (.ref 2), some (xI x0), some (xI w98_3)] [] h99 Post := by
          refine mx_J.step (sn_38 157) (fun _ _ => rfl) ?_
          have b122 : 0 ≤ Z99 3 12 ∧ Z99 3 12 ≤ 18 := hG99.pr 3 12
          refine JgetI (g := 12) (z := Z99 3 12) hx99 (show mx_Sn _ _ 158 (mx_getf 7 12 161) from sn_38 158) (lt83 (GI_n hG99) rfl) (show S99 3 = .inl (7, [2, 0, 0, 0, 0, 0, 2, 0, 2, 2, 0, 2, 0, 0, 0, 0]) from GI_s hG99 3 rfl) rfl rfl rfl ?_
          have c176 : ∀  (Z124 : xZ) (h124 : mx_H), (1 ≤ Z124 3 12) → XH n99 s99 S99 Z124 h124 → GI n99 S99 Z124 → fr8 [(3, 12), (6, (-1))] Z99 Z124 → mx_J (tB l D b0 ad Hb tau) mt_38 (d + 106) 176 [some (.ref 3), some (.ref 2), some (xI x0), some (xI w98_3)] [] h124 Post := by
            intro Z124 h124 f123_0 hx124 hG124 hf124
            have b125 : 0 ≤ Z124 3 12 ∧ Z124 3 12 ≤ 18 := hG124.pr 3 12
            have b126 : 0 ≤ Z124 3 12 ∧ Z124 3 12 ≤ 18 := hG124.pr 3 12
            exact mx_J.ret (sn_38 176) (fun _ _ => rfl) (hP n99 s99 S99 Z124 h124 hx124 hG124 (fr8_tr (M := [(3, 0), (3, 1), (3, 2), (3, 3), (3, 4), (3, 5), (3, 7), (3, 8), (3, 9), (3, 10), (3, 12), (3, 13), (3, 14), (3, 15), (5, (-1)), (6, (-1))]) (fr8_tr (M := [(3, 0), (3, 1), (3, 2), (3, 3), (3, 4), (3, 5), (3, 7), (3, 8), (3, 9), (3, 10), (3, 12), (3, 13), (3, 14), (3, 15), (5, (-1)), (6, (-1))]) (fr8_tr (M := [(3, 0), (3, 1), (3, 2), (3, 3), (3, 4), (3, 5), (3, 7), (3, 8), (3, 9), (3, 10), (3, 12), (3, 13), (3, 14), (3, 15), (5, (-1)), (6, (-1))]) (fr8_tr (M := [(3, 0), (3, 1), (3, 2), (3, 3), (3, 4), (3, 5), (3, 7), (3, 8), (3, 9), (3, 10), (3, 12), (3, 13), (3, 14), (3, 15), (5, (-1)), (6, (-1))]) (fr8_tr (M := [(3, 0), (3, 1), (3, 2), (3, 3), (3, 4), (3, 5), (3, 7), (3, 8), (3, 9), (3, 10), (3, 12), (3, 13), (3, 14), (3, 15), (5, (-1)), (6, (-1))]) (fr8_tr (M := [(3, 0), (3, 1), (3, 2), (3, 3), (3, 4), (3, 5), (3, 7), (3, 8), (3, 9), (3, 10), (3, 12), (3, 13), (3, 14), (3, 15), (5, (-1)), (6, (-1))]) (fr8_tr (M := [(3, 0), (3, 1), (3, 2), (3, 3), (3, 4), (3, 5), (3, 7), (3, 8), (3, 9), (3, 10), (3, 12), (3, 13), (3, 14), (3, 15), (5, (-1)), (6, (-1))]) (fr8_tr (M := [(3, 0), (3, 1), (3, 2), (3, 3), (3, 4), (3, 5), (3, 7), (3, 8), (3, 9), (3, 10), (3, 12), (3, 13), (3, 14), (3, 15), (5, (-1)), (6, (-1))]) (fr8_tr (M := [(3, 0), (3, 1), (3, 2), (3, 3), (3, 4), (3, 5), (3, 7), (3, 8), (3, 9), (3, 10), (3, 12), (3, 13), (3, 14), (3, 15), (5, (-1)), (6, (-1))]) (fr8_tr (M := [(3, 0), (3, 1), (3, 2), (3, 3), (3, 4), (3, 5), (3, 7), (3, 8), (3, 9), (3, 10), (3, 12), (3, 13), (3, 14), (3, 15), (5, (-1)), (6, (-1))]) (fr8_tr (M := [(3, 0), (3, 1), (3, 2), (3, 3), (3, 4), (3, 5), (3, 7), (3, 8), (3, 9), (3, 10), (3, 12), (3, 13), (3, 14), (3, 15), (5, (-1)), (6, (-1))]) (fr8_tr (M := [(3, 0), (3, 1), (3, 2), (3, 3), (3, 4), (3, 5), (3, 7), (3, 8), (3, 9), (3, 10), (3, 12), (3, 13), (3, 14), (3, 15), (5, (-1)), (6, (-1))]) (fr8_tr (M := [(3, 0), (3, 1), (3, 2), (3, 3), (3, 4), (3, 5), (3, 7), (3, 8), (3, 9), (3, 10), (3, 12), (3, 13), (3, 14), (3, 15), (5, (-1)), (6, (-1))]) (fr8_tr (M := [(3, 0), (3, 1), (3, 2), (3, 3), (3, 4), (3, 5), (3, 7), (3, 8), (3, 9), (3, 10), (3, 12), (3, 13), (3, 14), (3, 15), (5, (-1)), (6, (-1))]) (fr8_tr (M := [(3, 0), (3, 1), (3, 2), (3, 3), (3, 4), (3, 5), (3, 7), (3, 8), (3, 9), (3, 10), (3, 12), (3, 13), (3, 14), (3, 15), (5, (-1)), (6, (-1))]) (fr8_tr (M := [(3, 0), (3, 1), (3, 2), (3, 3), (3, 4), (3, 5), (3, 7), (3, 8), (3, 9), (3, 10), (3, 12), (3, 13), (3, 14), (3, 15), (5, (-1)), (6, (-1))]) (fr8_tr (M := [(3, 0), (3, 1), (3, 2), (3, 3), (3, 4), (3, 5), (3, 7), (3, 8), (3, 9), (3, 10), (3, 12), (3, 13), (3, 14), (3, 15), (5, (-1)), (6, (-1))]) (fr8_tr (M := [(3, 0), (3, 1), (3, 2), (3, 3), (3, 4), (3, 5), (3, 7), (3, 8), (3, 9), (3, 10), (3, 12), (3, 13), (3, 14), (3, 15), (5, (-1)), (6, (-1))]) (fr8_tr (M := [(3, 0), (3, 1), (3, 2), (3, 3), (3, 4), (3, 5), (3, 7), (3, 8), (3, 9), (3, 10), (3, 12), (3, 13), (3, 14), (3, 15), (5, (-1)), (6, (-1))]) fr8_rf (fr8_of (fr_up hE1)) (M1 := []) rfl rfl) (fr8_of (fr_up hE4)) rfl rfl) (fr8_of (fr_up hE5)) rfl rfl) (fr8_of (fr_up hE6)) rfl rfl) (fr8_of (fr_up hE7)) rfl rfl) (fr8_of (fr_up hE8)) rfl rfl) (fr8_of (hf10)) rfl rfl) (fr8_of (fr_up hE11)) rfl rfl) (fr8_of (fr_up hE18)) rfl rfl) (fr8_of (fr_up hE19)) rfl rfl) (fr8_of (hf20)) rfl rfl) (fr8_of (hf32)) rfl rfl) (fr8_of (hf47)) rfl rfl) (fr8_of (hf62)) rfl rfl) (fr8_of (fr_up hE77)) rfl rfl) (fr8_of (hf78)) rfl rfl) (fr8_of (fr_up hE97)) rfl rfl) (hf99) rfl rfl) (hf124) rfl rfl) (by omega))
          refine Jif_ne (show mx_Sn _ _ 161 (mx_if_ne 176 164) from sn_38 161) (by omega) (fun q127 => ?_) (fun q127 => ?_)
          · skip
            have b128 : 0 ≤ Z99 3 12 ∧ Z99 3 12 ≤ 18 := hG99.pr 3 12
            exact c176 Z99 h99 (by omega) hx99 hG99 fr8_rf
          · skip
            refine mx_J.step (sn_38 164) (fun _ _ => rfl) ?_
            refine JgetR (g := 11) (b := 6) hx99 (show mx_Sn _ _ 165 (mx_getf 7 11 168) from sn_38 165) (lt83 (GI_n hG99) rfl) (show S99 3 = .inl (7, [2, 0, 0, 0, 0, 0, 2, 0, 2, 2, 0, 2, 0, 0, 0, 0]) from GI_s hG99 3 rfl) rfl rfl (hG99.prr 3 11 rfl) ?_
            refine JcI (z := 1) (show mx_Sn _ _ 168 (mx_const (.int 1) 169) from sn_38 168) rfl ?_
            refine JcI (z := 1) (show mx_Sn _ _ 169 (mx_const (.int 1) 170) from sn_38 169) rfl ?_
            have b130 : 0 ≤ Z99 3 12 ∧ Z99 3 12 ≤ 18 := hG99.pr 3 12
            have b131 : 0 ≤ Z99 3 12 ∧ Z99 3 12 ≤ 18 := hG99.pr 3 12
            have m899 : ai 6 Z99 19 0 1 = 1 := ai_m (len := 19) (lo := 0) (hi := (Z99 3 12) + 1) (by omega) (by omega) (by omega) (by omega)
            refine JiastI hx99 (show mx_Sn _ _ 170 (mx_iast 1 171) from sn_38 170) (lt83 (GI_n hG99) rfl) (show S99 6 = .inr (.int, 19, 0) from GI_s hG99 6 rfl) rfl (by omega) (fun Z132 h132 hx132 hE132 => ?_)
            have hG132 := GI_up hG99 hE132 (show 0 ≤ 1 ∧ 1 ≤ 20 by omega) trivial rfl
            have u3 : ai 6 Z132 19 0 1 = 1 := ai_u (Z := Z99) (by assumption) hE132 (by omega)
            refine mx_J.step (sn_38 171) (fun _ _ => rfl) ?_
            refine JcI (z := 1) (show mx_Sn _ _ 172 (mx_const (.int 1) 173) from sn_38 172) rfl ?_
            refine JputI (g := 12) hx132 (show mx_Sn _ _ 173 (mx_putf 1 7 12 (.int) 176) from sn_38 173) (lt83 (GI_n hG132) rfl) (show S99 3 = .inl (7, [2, 0, 0, 0, 0, 0, 2, 0, 2, 2, 0, 2, 0, 0, 0, 0]) from GI_s hG132 3 rfl) rfl rfl rfl rfl (fun Z133 h133 hx133 hE133 => ?_)
            have hG133 := GI_up hG132 hE133 (show 0 ≤ 1 ∧ 1 ≤ 18 by omega) trivial rfl
            have eq134 : Z133 3 12 = 1 := (up_at hE133)
            exact c176 Z133 h133 (by omega) hx133 hG133 (fr8_tr (M := [(3, 12), (6, (-1))]) (fr8_tr (M := [(3, 12), (6, (-1))]) fr8_rf (fr8_of (fr_ua hE132)) (M1 := []) rfl rfl) (fr8_of (fr_up hE133)) rfl rfl)
        refine Jicmp_ge (show mx_Sn _ _ 113 (mx_icmp_ge 157 116) from sn_38 113) (by omega) (by omega) (fun q135 => ?_) (fun q135 => ?_)
        · skip
          exact c157 
        · skip
          refine mx_J.step (sn_38 116) (fun _ _ => rfl) ?_
          have b137 : 0 ≤ Z99 3 4 ∧ Z99 3 4 ≤ 400 := hG99.pr 3 4
          refine JgetI (g := 4) (z := Z99 3 4) hx99 (show mx_Sn _ _ 117 (mx_getf 7 4 120) from sn_38 117) (lt83 (GI_n hG99) rfl) (show S99 3 = .inl (7, [2, 0, 0, 0, 0, 0, 2, 0, 2, 2, 0, 2, 0, 0, 0, 0]) from GI_s hG99 3 rfl) rfl rfl rfl ?_
          refine Jif_eq (show mx_Sn _ _ 120 (mx_if_eq 157 123) from sn_38 120) (by omega) (fun q138 => ?_) (fun q138 => ?_)
          · skip
            exact c157 
          · skip
            refine mx_J.step (sn_38 123) (fun _ _ => rfl) ?_
            have b140 : 0 ≤ Z99 3 4 ∧ Z99 3 4 ≤ 400 := hG99.pr 3 4
            refine JgetI (g := 4) (z := Z99 3 4) hx99 (show mx_Sn _ _ 124 (mx_getf 7 4 127) from sn_38 124) (lt83 (GI_n hG99) rfl) (show S99 3 = .inl (7, [2, 0, 0, 0, 0, 0, 2, 0, 2, 2, 0, 2, 0, 0, 0, 0]) from GI_s hG99 3 rfl) rfl rfl rfl ?_
            refine JcI (z := 3) (show mx_Sn _ _ 127 (mx_const (.int 3) 128) from sn_38 127) rfl ?_
            refine Jicmp_eq (show mx_Sn _ _ 128 (mx_icmp_eq 157 131) from sn_38 128) (by omega) (by omega) (fun q141 => ?_) (fun q141 => ?_)
            · skip
              exact c157 
            · skip
              refine mx_J.step (sn_38 131) (fun _ _ => rfl) ?_
              have eq143 : Z99 3 0 = 2 := ((hf99 3 0 rfl rfl).trans ((up_ni hE97 (by decide)).trans ((hf78 3 0 rfl).trans ((up_ni hE77 (by decide)).trans ((hf62 3 0 rfl).trans ((hf47 3 0 rfl).trans ((hf32 3 0 rfl).trans ((hf20 3 0 rfl).trans ((up_ni hE19 (by decide)).trans ((up_ni hE18 (by decide)).trans ((up_ni hE11 (by decide)).trans ((hf10 3 0 rfl).trans ((up_ni hE8 (by decide)).trans ((up_ni hE7 (by decide)).trans ((up_ni hE6 (by decide)).trans ((up_ni hE5 (by decide)).trans ((up_ni hE4 (by decide)).trans (up_at hE1))))))))))))))))))
              have eq144 : Z99 3 1 = y3 := ((hf99 3 1 rfl rfl).trans ((up_ni hE97 (by decide)).trans ((hf78 3 1 rfl).trans ((up_ni hE77 (by decide)).trans ((hf62 3 1 rfl).trans ((hf47 3 1 rfl).trans ((hf32 3 1 rfl).trans ((hf20 3 1 rfl).trans ((up_ni hE19 (by decide)).trans ((up_ni hE18 (by decide)).trans ((up_ni hE11 (by decide)).trans ((hf10 3 1 rfl).trans ((up_ni hE8 (by decide)).trans ((up_ni hE7 (by decide)).trans ((up_ni hE6 (by decide)).trans ((up_ni hE5 (by decide)).trans (up_at hE4)))))))))))))))))
              have b145 : 0 ≤ Z99 3 2 ∧ Z99 3 2 ≤ 900 := hG99.pr 3 2
              have b146 : 0 ≤ Z99 3 3 ∧ Z99 3 3 ≤ 900 := hG99.pr 3 3
              have b147 : 0 ≤ Z99 3 4 ∧ Z99 3 4 ≤ 400 := hG99.pr 3 4
              have b148 : 0 ≤ Z99 3 7 ∧ Z99 3 7 ≤ 900 := hG99.pr 3 7
              have b149 : 0 ≤ Z99 3 14 ∧ Z99 3 14 ≤ 4 := hG99.pr 3 14
              have b150 : 0 ≤ Z99 3 12 ∧ Z99 3 12 ≤ 18 := hG99.pr 3 12
              have b151 : 0 ≤ Z99 3 12 ∧ Z99 3 12 ≤ 18 := hG99.pr 3 12
              obtain ⟨n142, s142, S142, Z142, h142, hc142, hx142, hG142, hf142, b142⟩ := ct_40_3 (d := d + 0) (l := l) (D := D) (b0 := b0) (ad := ad) (Hb := Hb) (tau := tau) hx99 hG99  (show Z99 3 0 = 2 by first | omega | (simp only [eq143, eq144]; omega)) (show (Z99 3 3 ≤ Z99 3 2 ∧ Z99 3 2 ≤ Z99 3 1 ∧ (Z99 3 4 = 0 ∨ Z99 3 4 = 3 ∨ Z99 3 3 < Z99 3 2) ∧ (Z99 3 4 = 3 ∨ Z99 3 14 = 0)) by first | omega | (simp only [eq143, eq144]; omega)) (show ¬ Z99 3 4 = 0 by first | omega | (simp only [eq143, eq144]; omega)) (show ¬ Z99 3 4 = 3 by first | omega | (simp only [eq143, eq144]; omega)) (show ((n99 : Nat) : Int) ≤ 4095 by first | omega | (simp only [eq143, eq144]; omega)) (show ai 6 Z99 19 0 (Z99 3 12) = 1 by first | omega | (simp only [eq143, eq144]; omega))
              try rw [eq143] at b142
              try rw [eq144] at b142
              have b152 : 0 ≤ Z142 3 2 ∧ Z142 3 2 ≤ 900 := hG142.pr 3 2
              have b153 : 0 ≤ Z142 3 3 ∧ Z142 3 3 ≤ 900 := hG142.pr 3 3
              have b154 : 0 ≤ Z142 3 4 ∧ Z142 3 4 ≤ 400 := hG142.pr 3 4
              have b155 : 0 ≤ Z142 3 7 ∧ Z142 3 7 ≤ 900 := hG142.pr 3 7
              have b156 : 0 ≤ Z142 3 14 ∧ Z142 3 14 ≤ 4 := hG142.pr 3 14
              have b157 : 0 ≤ Z142 3 12 ∧ Z142 3 12 ≤ 18 := hG142.pr 3 12
              have b158 : 0 ≤ Z142 3 12 ∧ Z142 3 12 ≤ 18 := hG142.pr 3 12
              have b159 : 0 ≤ Z142 3 12 ∧ Z142 3 12 ≤ 18 := hG142.pr 3 12
              refine Jcv0 hx99 (show mx_Sn _ _ 132 (mx_callv 40 1 7 135) from sn_38 132) (lt83 (GI_n hG99) rfl) (show S99 3 = .inl (7, [2, 0, 0, 0, 0, 0, 2, 0, 2, 2, 0, 2, 0, 0, 0, 0]) from GI_s hG99 3 rfl) hc142 rfl rfl rfl ?_
              refine mx_J.step (sn_38 135) (fun _ _ => rfl) ?_
              refine JcI (z := 59) (show mx_Sn _ _ 136 (mx_const (.int 59) 138) from sn_38 136) rfl ?_
              have eq161 : Z142 3 0 = 2 := ((hf142 3 0 rfl rfl).trans ((hf99 3 0 rfl rfl).trans ((up_ni hE97 (by decide)).trans ((hf78 3 0 rfl).trans ((up_ni hE77 (by decide)).trans ((hf62 3 0 rfl).trans ((hf47 3 0 rfl).trans ((hf32 3 0 rfl).trans ((hf20 3 0 rfl).trans ((up_ni hE19 (by decide)).trans ((up_ni hE18 (by decide)).trans ((up_ni hE11 (by decide)).trans ((hf10 3 0 rfl).trans ((up_ni hE8 (by decide)).trans ((up_ni hE7 (by decide)).trans ((up_ni hE6 (by decide)).trans ((up_ni hE5 (by decide)).trans ((up_ni hE4 (by decide)).trans (up_at hE1)))))))))))))))))))
              have eq162 : Z142 3 1 = y3 := ((hf142 3 1 rfl rfl).trans ((hf99 3 1 rfl rfl).trans ((up_ni hE97 (by decide)).trans ((hf78 3 1 rfl).trans ((up_ni hE77 (by decide)).trans ((hf62 3 1 rfl).trans ((hf47 3 1 rfl).trans ((hf32 3 1 rfl).trans ((hf20 3 1 rfl).trans ((up_ni hE19 (by decide)).trans ((up_ni hE18 (by decide)).trans ((up_ni hE11 (by decide)).trans ((hf10 3 1 rfl).trans ((up_ni hE8 (by decide)).trans ((up_ni hE7 (by decide)).trans ((up_ni hE6 (by decide)).trans ((up_ni hE5 (by decide)).trans (up_at hE4))))))))))))))))))
              have b163 : 0 ≤ Z142 3 2 ∧ Z142 3 2 ≤ 900 := hG142.pr 3 2
              have b164 : 0 ≤ Z142 3 3 ∧ Z142 3 3 ≤ 900 := hG142.pr 3 3
              have b165 : 0 ≤ Z142 3 4 ∧ Z142 3 4 ≤ 400 := hG142.pr 3 4
              have b166 : 0 ≤ Z142 3 7 ∧ Z142 3 7 ≤ 900 := hG142.pr 3 7
              have b167 : 0 ≤ Z142 3 14 ∧ Z142 3 14 ≤ 4 := hG142.pr 3 14
              obtain ⟨Z160, h160, hc160, hx160, hG160, hf160, b160⟩ := ct_53_3 (d := d + 99) (l := l) (D := D) (b0 := b0) (ad := ad) (Hb := Hb) (tau := tau) hx142 hG142 (show 40 ≤ 59 ∧ 59 ≤ 320 by omega) (show Z142 3 0 = 2 by first | omega | (simp only [eq161, eq162]; omega)) (show (Z142 3 3 ≤ Z142 3 2 ∧ Z142 3 2 ≤ Z142 3 1 ∧ (Z142 3 4 = 0 ∨ Z142 3 4 = 3 ∨ Z142 3 3 < Z142 3 2) ∧ (Z142 3 4 = 3 ∨ Z142 3 14 = 0)) by first | omega | (simp only [eq161, eq162]; omega))
              try rw [eq161] at b160
              try rw [eq162] at b160
              have b168 : 0 ≤ Z160 3 2 ∧ Z160 3 2 ≤ 900 := hG160.pr 3 2
              have b169 : 0 ≤ Z160 3 3 ∧ Z160 3 3 ≤ 900 := hG160.pr 3 3
              have b170 : 0 ≤ Z160 3 4 ∧ Z160 3 4 ≤ 400 := hG160.pr 3 4
              have eq171 : Z160 3 7 = Z142 3 7 := (hf160 3 7 rfl)
              have b172 : 0 ≤ Z142 3 7 ∧ Z142 3 7 ≤ 900 := hG142.pr 3 7
              have b173 : 0 ≤ Z160 3 14 ∧ Z160 3 14 ≤ 4 := hG160.pr 3 14
              refine Jcv0 hx142 (show mx_Sn _ _ 138 (mx_callv 53 2 7 141) from sn_38 138) (lt83 (GI_n hG142) rfl) (show S142 3 = .inl (7, [2, 0, 0, 0, 0, 0, 2, 0, 2, 2, 0, 2, 0, 0, 0, 0]) from GI_s hG142 3 rfl) hc160 rfl rfl rfl ?_
              refine mx_J.step (sn_38 141) (fun _ _ => rfl) ?_
              refine mx_J.step (sn_38 142) (fun _ _ => rfl) ?_
              have b175 : 0 ≤ Z99 3 10 ∧ Z99 3 10 ≤ 901 := hG99.pr 3 10
              refine JgetI (g := 10) (z := Z99 3 10) hx160 (show mx_Sn _ _ 143 (mx_getf 7 10 146) from sn_38 143) (lt83 (GI_n hG160) rfl) (show S142 3 = .inl (7, [2, 0, 0, 0, 0, 0, 2, 0, 2, 2, 0, 2, 0, 0, 0, 0]) from GI_s hG160 3 rfl) rfl rfl ((hf160 3 10 rfl).trans (hf142 3 10 rfl rfl)) ?_
              refine JcI (z := 1) (show mx_Sn _ _ 146 (mx_const (.int 1) 147) from sn_38 146) rfl ?_
              refine Jiadd (show mx_Sn _ _ 147 (mx_iadd 148) from sn_38 147) ?_
              refine JputI (g := 10) hx160 (show mx_Sn _ _ 148 (mx_putf 1 7 10 (.int) 151) from sn_38 148) (lt83 (GI_n hG160) rfl) (show S142 3 = .inl (7, [2, 0, 0, 0, 0, 0, 2, 0, 2, 2, 0, 2, 0, 0, 0, 0]) from GI_s hG160 3 rfl) rfl rfl rfl rfl (fun Z176 h176 hx176 hE176 => ?_)
              have hG176 := GI_up hG160 hE176 (show 0 ≤ (Z99 3 10) + 1 ∧ (Z99 3 10) + 1 ≤ 901 by omega) trivial rfl
              refine Jiinc (z := w98_3) (cz := 1) (ls2 := [some (.ref 3), some (.ref 2), some (xI x0), some (xI (w98_3 + 1))]) (show mx_Sn _ _ 151 (mx_iinc 3 1 154) from sn_38 151) rfl rfl rfl rfl ?_
              refine mx_J.step (sn_38 154) (fun _ _ => rfl) ?_
              have eq177 : Z176 3 3 = Z160 3 3 := (up_ni hE176 (by decide))
              have b178 : 0 ≤ Z160 3 3 ∧ Z160 3 3 ≤ 900 := hG160.pr 3 3
              have eq179 : Z176 3 4 = Z160 3 4 := (up_ni hE176 (by decide))
              have b180 : 0 ≤ Z160 3 4 ∧ Z160 3 4 ≤ 400 := hG160.pr 3 4
              have eq181 : Z176 3 3 = Z160 3 3 := (up_ni hE176 (by decide))
              have b182 : 0 ≤ Z160 3 3 ∧ Z160 3 3 ≤ 900 := hG160.pr 3 3
              have eq183 : Z176 3 0 = 2 := ((up_ni hE176 (by decide)).trans ((hf160 3 0 rfl).trans ((hf142 3 0 rfl rfl).trans ((hf99 3 0 rfl rfl).trans ((up_ni hE97 (by decide)).trans ((hf78 3 0 rfl).trans ((up_ni hE77 (by decide)).trans ((hf62 3 0 rfl).trans ((hf47 3 0 rfl).trans ((hf32 3 0 rfl).trans ((hf20 3 0 rfl).trans ((up_ni hE19 (by decide)).trans ((up_ni hE18 (by decide)).trans ((up_ni hE11 (by decide)).trans ((hf10 3 0 rfl).trans ((up_ni hE8 (by decide)).trans ((up_ni hE7 (by decide)).trans ((up_ni hE6 (by decide)).trans ((up_ni hE5 (by decide)).trans ((up_ni hE4 (by decide)).trans (up_at hE1)))))))))))))))))))))
              have eq184 : Z176 3 1 = y3 := ((up_ni hE176 (by decide)).trans ((hf160 3 1 rfl).trans ((hf142 3 1 rfl rfl).trans ((hf99 3 1 rfl rfl).trans ((up_ni hE97 (by decide)).trans ((hf78 3 1 rfl).trans ((up_ni hE77 (by decide)).trans ((hf62 3 1 rfl).trans ((hf47 3 1 rfl).trans ((hf32 3 1 rfl).trans ((hf20 3 1 rfl).trans ((up_ni hE19 (by decide)).trans ((up_ni hE18 (by decide)).trans ((up_ni hE11 (by decide)).trans ((hf10 3 1 rfl).trans ((up_ni hE8 (by decide)).trans ((up_ni hE7 (by decide)).trans ((up_ni hE6 (by decide)).trans ((up_ni hE5 (by decide)).trans (up_at hE4))))))))))))))))))))
              have eq185 : Z176 3 2 = Z160 3 2 := (up_ni hE176 (by decide))
              have b186 : 0 ≤ Z160 3 2 ∧ Z160 3 2 ≤ 900 := hG160.pr 3 2
              have eq187 : Z176 3 3 = Z160 3 3 := (up_ni hE176 (by decide))
              have b188 : 0 ≤ Z160 3 3 ∧ Z160 3 3 ≤ 900 := hG160.pr 3 3
              have eq189 : Z176 3 4 = Z160 3 4 := (up_ni hE176 (by decide))
              have b190 : 0 ≤ Z160 3 4 ∧ Z160 3 4 ≤ 400 := hG160.pr 3 4
              have eq191 : Z176 3 7 = Z142 3 7 := ((up_ni hE176 (by decide)).trans (hf160 3 7 rfl))
              have b192 : 0 ≤ Z142 3 7 ∧ Z142 3 7 ≤ 900 := hG142.pr 3 7
              have eq193 : Z176 3 14 = Z160 3 14 := (up_ni hE176 (by decide))
              have b194 : 0 ≤ Z160 3 14 ∧ Z160 3 14 ≤ 4 := hG160.pr 3 14
              have eq195 : Z176 3 12 = Z142 3 12 := ((up_ni hE176 (by decide)).trans (hf160 3 12 rfl))
              have b196 : 0 ≤ Z142 3 12 ∧ Z142 3 12 ≤ 18 := hG142.pr 3 12
              have b197 : 0 ≤ Z142 3 12 ∧ Z142 3 12 ≤ 18 := hG142.pr 3 12
              have eq198 : (ai 6) Z176 19 0 ((Z176 3 12) + 1) = (ai 6) Z142 19 0 ((Z142 3 12) + 1) := by rw [(show Z176 3 12 = Z142 3 12 from ((up_ni hE176 (by decide)).trans (hf160 3 12 rfl)))]; exact ((ai_c (fun i => up_nk hE176 rfl)).trans (ai_c (fun i => hf160 6 i rfl)))
              have eq199 : (ai 6) Z176 19 0 ((Z142 3 12) + 1) = (ai 6) Z142 19 0 ((Z142 3 12) + 1) := ((ai_c (fun i => up_nk hE176 rfl)).trans (ai_c (fun i => hf160 6 i rfl)))
              have eq200 : Z176 3 4 = Z160 3 4 := (up_ni hE176 (by decide))
              have b201 : 0 ≤ Z160 3 4 ∧ Z160 3 4 ≤ 400 := hG160.pr 3 4
              have eq202 : Z176 3 12 = Z142 3 12 := ((up_ni hE176 (by decide)).trans (hf160 3 12 rfl))
              have b203 : 0 ≤ Z142 3 12 ∧ Z142 3 12 ≤ 18 := hG142.pr 3 12
              have b204 : 0 ≤ Z142 3 12 ∧ Z142 3 12 ≤ 18 := hG142.pr 3 12
              have eq205 : (ai 6) Z176 19 0 (Z176 3 12) = (ai 6) Z142 19 0 (Z142 3 12) := by rw [(show Z176 3 12 = Z142 3 12 from ((up_ni hE176 (by decide)).trans (hf160 3 12 rfl)))]; exact ((ai_c (fun i => up_nk hE176 rfl)).trans (ai_c (fun i => hf160 6 i rfl)))
              have eq206 : (ai 6) Z176 19 0 (Z142 3 12) = (ai 6) Z142 19 0 (Z142 3 12) := ((ai_c (fun i => up_nk hE176 rfl)).trans (ai_c (fun i => hf160 6 i rfl)))
              have eq207 : Z176 3 10 = (Z99 3 10) + 1 := (up_at hE176)
              have eq208 : Z176 3 3 = Z160 3 3 := (up_ni hE176 (by decide))
              have b209 : 0 ≤ Z160 3 3 ∧ Z160 3 3 ≤ 900 := hG160.pr 3 3
              exact ih98 (w98_3 + 1) n142 s142 S142 Z176 h176 (by omega) (by omega) (by omega) (by omega) (by omega) (by omega) (by omega) (by omega) hx176 hG176 (fr8_tr (M := [(3, 2), (3, 3), (3, 4), (3, 5), (3, 7), (3, 8), (3, 9), (3, 10), (3, 12), (3, 14), (3, 15), (5, (-1)), (6, (-1))]) (fr8_tr (M := [(3, 2), (3, 3), (3, 4), (3, 5), (3, 7), (3, 8), (3, 9), (3, 10), (3, 12), (3, 14), (3, 15), (5, (-1)), (6, (-1))]) (fr8_tr (M := [(3, 2), (3, 3), (3, 4), (3, 5), (3, 7), (3, 8), (3, 9), (3, 10), (3, 12), (3, 14), (3, 15), (5, (-1)), (6, (-1))]) (fr8_tr (M := [(3, 2), (3, 3), (3, 4), (3, 5), (3, 7), (3, 8), (3, 9), (3, 10), (3, 12), (3, 14), (3, 15), (5, (-1)), (6, (-1))]) fr8_rf (hf99) (M1 := []) rfl rfl) (hf142) rfl rfl) (fr8_of (hf160)) rfl rfl) (fr8_of (fr_up hE176)) rfl rfl)
    have eq210 : Z97 3 3 = Z78 3 3 := (up_ni hE97 (by decide))
    have b211 : 0 ≤ Z78 3 3 ∧ Z78 3 3 ≤ 900 := hG78.pr 3 3
    have eq212 : Z97 3 4 = Z78 3 4 := (up_ni hE97 (by decide))
    have b213 : 0 ≤ Z78 3 4 ∧ Z78 3 4 ≤ 400 := hG78.pr 3 4
    have eq214 : Z97 3 3 = Z78 3 3 := (up_ni hE97 (by decide))
    have b215 : 0 ≤ Z78 3 3 ∧ Z78 3 3 ≤ 900 := hG78.pr 3 3
    have eq216 : Z97 3 0 = 2 := ((up_ni hE97 (by decide)).trans ((hf78 3 0 rfl).trans ((up_ni hE77 (by decide)).trans ((hf62 3 0 rfl).trans ((hf47 3 0 rfl).trans ((hf32 3 0 rfl).trans ((hf20 3 0 rfl).trans ((up_ni hE19 (by decide)).trans ((up_ni hE18 (by decide)).trans ((up_ni hE11 (by decide)).trans ((hf10 3 0 rfl).trans ((up_ni hE8 (by decide)).trans ((up_ni hE7 (by decide)).trans ((up_ni hE6 (by decide)).trans ((up_ni hE5 (by decide)).trans ((up_ni hE4 (by decide)).trans (up_at hE1)))))))))))))))))
    have eq217 : Z97 3 1 = y3 := ((up_ni hE97 (by decide)).trans ((hf78 3 1 rfl).trans ((up_ni hE77 (by decide)).trans ((hf62 3 1 rfl).trans ((hf47 3 1 rfl).trans ((hf32 3 1 rfl).trans ((hf20 3 1 rfl).trans ((up_ni hE19 (by decide)).trans ((up_ni hE18 (by decide)).trans ((up_ni hE11 (by decide)).trans ((hf10 3 1 rfl).trans ((up_ni hE8 (by decide)).trans ((up_ni hE7 (by decide)).trans ((up_ni hE6 (by decide)).trans ((up_ni hE5 (by decide)).trans (up_at hE4))))))))))))))))
    have eq218 : Z97 3 2 = Z78 3 2 := (up_ni hE97 (by decide))
    have b219 : 0 ≤ Z78 3 2 ∧ Z78 3 2 ≤ 900 := hG78.pr 3 2
    have eq220 : Z97 3 3 = Z78 3 3 := (up_ni hE97 (by decide))
    have b221 : 0 ≤ Z78 3 3 ∧ Z78 3 3 ≤ 900 := hG78.pr 3 3
    have eq222 : Z97 3 4 = Z78 3 4 := (up_ni hE97 (by decide))
    have b223 : 0 ≤ Z78 3 4 ∧ Z78 3 4 ≤ 400 := hG78.pr 3 4
    have eq224 : Z97 3 7 = Z 3 7 := ((up_ni hE97 (by decide)).trans ((hf78 3 7 rfl).trans ((up_ni hE77 (by decide)).trans ((hf62 3 7 rfl).trans ((hf47 3 7 rfl).trans ((hf32 3 7 rfl).trans ((hf20 3 7 rfl).trans ((up_ni hE19 (by decide)).trans ((up_ni hE18 (by decide)).trans ((up_ni hE11 (by decide)).trans ((hf10 3 7 rfl).trans ((up_ni hE8 (by decide)).trans ((up_ni hE7 (by decide)).trans ((up_ni hE6 (by decide)).trans ((up_ni hE5 (by decide)).trans ((up_ni hE4 (by decide)).trans (up_ni hE1 (by decide))))))))))))))))))
    have b225 : 0 ≤ Z 3 7 ∧ Z 3 7 ≤ 900 := hG.pr 3 7
    have eq226 : Z97 3 14 = Z78 3 14 := (up_ni hE97 (by decide))
    have b227 : 0 ≤ Z78 3 14 ∧ Z78 3 14 ≤ 4 := hG78.pr 3 14
    have eq228 : Z97 3 12 = 0 := ((up_ni hE97 (by decide)).trans ((hf78 3 12 rfl).trans ((up_ni hE77 (by decide)).trans ((hf62 3 12 rfl).trans ((hf47 3 12 rfl).trans ((hf32 3 12 rfl).trans ((hf20 3 12 rfl).trans ((up_ni hE19 (by decide)).trans ((up_ni hE18 (by decide)).trans (up_at hE11))))))))))
    have eq229 : (ai 6) Z97 19 0 ((Z97 3 12) + 1) = (ai 6) Z10 19 0 (0 + 1) := by rw [(show Z97 3 12 = 0 from ((up_ni hE97 (by decide)).trans ((hf78 3 12 rfl).trans ((up_ni hE77 (by decide)).trans ((hf62 3 12 rfl).trans ((hf47 3 12 rfl).trans ((hf32 3 12 rfl).trans ((hf20 3 12 rfl).trans ((up_ni hE19 (by decide)).trans ((up_ni hE18 (by decide)).trans (up_at hE11)))))))))))]; exact ((ai_c (fun i => up_nk hE97 rfl)).trans ((ai_c (fun i => hf78 6 i rfl)).trans ((ai_c (fun i => up_nk hE77 rfl)).trans ((ai_c (fun i => hf62 6 i rfl)).trans ((ai_c (fun i => hf47 6 i rfl)).trans ((ai_c (fun i => hf32 6 i rfl)).trans ((ai_c (fun i => hf20 6 i rfl)).trans ((ai_c (fun i => up_nk hE19 rfl)).trans ((ai_c (fun i => up_nk hE18 rfl)).trans (ai_c (fun i => up_nk hE11 rfl)))))))))))
    have eq230 : (ai 6) Z97 19 0 (0 + 1) = (ai 6) Z10 19 0 (0 + 1) := ((ai_c (fun i => up_nk hE97 rfl)).trans ((ai_c (fun i => hf78 6 i rfl)).trans ((ai_c (fun i => up_nk hE77 rfl)).trans ((ai_c (fun i => hf62 6 i rfl)).trans ((ai_c (fun i => hf47 6 i rfl)).trans ((ai_c (fun i => hf32 6 i rfl)).trans ((ai_c (fun i => hf20 6 i rfl)).trans ((ai_c (fun i => up_nk hE19 rfl)).trans ((ai_c (fun i => up_nk hE18 rfl)).trans (ai_c (fun i => up_nk hE11 rfl)))))))))))
    have eq231 : Z97 3 4 = Z78 3 4 := (up_ni hE97 (by decide))
    have b232 : 0 ≤ Z78 3 4 ∧ Z78 3 4 ≤ 400 := hG78.pr 3 4
    have eq233 : Z97 3 12 = 0 := ((up_ni hE97 (by decide)).trans ((hf78 3 12 rfl).trans ((up_ni hE77 (by decide)).trans ((hf62 3 12 rfl).trans ((hf47 3 12 rfl).trans ((hf32 3 12 rfl).trans ((hf20 3 12 rfl).trans ((up_ni hE19 (by decide)).trans ((up_ni hE18 (by decide)).trans (up_at hE11))))))))))
    have eq234 : (ai 6) Z97 19 0 (Z97 3 12) = (ai 6) Z10 19 0 0 := by rw [(show Z97 3 12 = 0 from ((up_ni hE97 (by decide)).trans ((hf78 3 12 rfl).trans ((up_ni hE77 (by decide)).trans ((hf62 3 12 rfl).trans ((hf47 3 12 rfl).trans ((hf32 3 12 rfl).trans ((hf20 3 12 rfl).trans ((up_ni hE19 (by decide)).trans ((up_ni hE18 (by decide)).trans (up_at hE11)))))))))))]; exact ((ai_c (fun i => up_nk hE97 rfl)).trans ((ai_c (fun i => hf78 6 i rfl)).trans ((ai_c (fun i => up_nk hE77 rfl)).trans ((ai_c (fun i => hf62 6 i rfl)).trans ((ai_c (fun i => hf47 6 i rfl)).trans ((ai_c (fun i => hf32 6 i rfl)).trans ((ai_c (fun i => hf20 6 i rfl)).trans ((ai_c (fun i => up_nk hE19 rfl)).trans ((ai_c (fun i => up_nk hE18 rfl)).trans (ai_c (fun i => up_nk hE11 rfl)))))))))))
    have eq235 : (ai 6) Z97 19 0 0 = (ai 6) Z10 19 0 0 := ((ai_c (fun i => up_nk hE97 rfl)).trans ((ai_c (fun i => hf78 6 i rfl)).trans ((ai_c (fun i => up_nk hE77 rfl)).trans ((ai_c (fun i => hf62 6 i rfl)).trans ((ai_c (fun i => hf47 6 i rfl)).trans ((ai_c (fun i => hf32 6 i rfl)).trans ((ai_c (fun i => hf20 6 i rfl)).trans ((ai_c (fun i => up_nk hE19 rfl)).trans ((ai_c (fun i => up_nk hE18 rfl)).trans (ai_c (fun i => up_nk hE11 rfl)))))))))))
    have eq236 : Z97 3 10 = 1 := (up_at hE97)
    have eq237 : Z97 3 3 = Z78 3 3 := (up_ni hE97 (by decide))
    have b238 : 0 ≤ Z78 3 3 ∧ Z78 3 3 ≤ 900 := hG78.pr 3 3
    exact c108 (Int.toNat (900 - 0) + 1) 0 n s S Z97 h97 (by omega) (by omega) (by omega) (by omega) (by omega) (by omega) (by omega) (by omega) hx97 hG97 fr8_rf
theorem ct_38_3_2 {l : Launch} {D : va_G} {b0 : Nat} {ad : Nat → Nat} {Hb : Heap} {tau : Nat → Int64} {d n s : Nat} {S : Nat → xS} {Z : xZ} {h : mx_H} (hx : XH n s S Z h) (hG : GI n S Z)  {x0 : Int} (p0 : 0 ≤ x0 ∧ x0 ≤ 900) (k0 : 3 * ((n : Nat) : Int) + x0 + 6 ≤ 12288) : ∃ (n' s' : Nat) (S' : Nat → xS) (Z' : xZ) (h' : mx_H), mx_Ca (tB l D b0 ad Hb tau) (d + 107) 38 [.ref 3, .ref 2, xI x0] h (none, h') ∧ XH n' s' S' Z' h' ∧ GI n' S' Z' ∧ fr8 [(3, 0), (3, 1), (3, 2), (3, 3), (3, 4), (3, 5), (3, 7), (3, 8), (3, 9), (3, 10), (3, 12), (3, 13), (3, 14), (3, 15), (5, (-1)), (6, (-1))] Z Z' ∧ ((1 ≤ Z' 3 12 ∧ ((n : Nat) : Int) ≤ ((n' : Nat) : Int) ∧ ((s : Nat) : Int) ≤ ((s' : Nat) : Int) ∧ ((s' : Nat) : Int) ≤ ((s : Nat) : Int) + 900 * (((n' : Nat) : Int) - ((n : Nat) : Int)) ∧ 3 * (((n' : Nat) : Int) - ((n : Nat) : Int)) ≤ x0 + 3)) := by
  obtain ⟨r, hca, n', s', S', Z', h', e, q⟩ := Jmt (B := tB l D b0 ad Hb tau) (M := mt_38) (mi := 38) (as := [.ref 3, .ref 2, xI x0]) (d := d + 106) (ls := [some (.ref 3), some (.ref 2), some (xI x0), none]) rfl rfl rfl rfl rfl rfl (cw_38_3_2 (l := l) (D := D) (b0 := b0) (ad := ad) (Hb := Hb) (tau := tau) (d := d) (Post := fun r => ∃ (n' s' : Nat) (S' : Nat → xS) (Z' : xZ) (h' : mx_H), r = (none, h') ∧ XH n' s' S' Z' h' ∧ GI n' S' Z' ∧ fr8 [(3, 0), (3, 1), (3, 2), (3, 3), (3, 4), (3, 5), (3, 7), (3, 8), (3, 9), (3, 10), (3, 12), (3, 13), (3, 14), (3, 15), (5, (-1)), (6, (-1))] Z Z' ∧ ((1 ≤ Z' 3 12 ∧ ((n : Nat) : Int) ≤ ((n' : Nat) : Int) ∧ ((s : Nat) : Int) ≤ ((s' : Nat) : Int) ∧ ((s' : Nat) : Int) ≤ ((s : Nat) : Int) + 900 * (((n' : Nat) : Int) - ((n : Nat) : Int)) ∧ 3 * (((n' : Nat) : Int) - ((n : Nat) : Int)) ≤ x0 + 3))) hx hG p0 k0 (fun n' s' S' Z' h' q1 q2 q3 q4 => ⟨n', s', S', Z', h', rfl, q1, q2, q3, q4⟩))
  subst e; exact ⟨n', s', S', Z', h', hca, q⟩
set_option maxHeartbeats 8000000 in
set_option maxRecDepth 100000 in
theorem cw_90_1 {l : Launch} {D : va_G} {b0 : Nat} {ad : Nat → Nat} {Hb : Heap} {tau : Nat → Int64} {d n s : Nat} {S : Nat → xS} {Z : xZ} {h : mx_H} {Post : mx_R → Prop} (hx : XH n s S Z h) (hG : GI n S Z)  {x0 : Int} (p0 : (-2147483648) ≤ x0 ∧ x0 ≤ 2147483647) (k0 : 3 * ((n : Nat) : Int) + Z 1 1 + 6 ≤ 12288) (hP : ∀ (z : Int) (n' s' : Nat) (S' : Nat → xS) (Z' : xZ) (h' : mx_H), XH n' s' S' Z' h' → GI n' S' Z' → fr8 [(1, 1), (1, 2), (1, 3), (3, 0), (3, 1), (3, 2), (3, 3), (3, 4), (3, 5), (3, 7), (3, 8), (3, 9), (3, 10), (3, 12), (3, 13), (3, 14), (3, 15), (5, (-1)), (6, (-1)), (7, 4), (7, 5), (9, (-1)), (10, (-1)), (11, (-1)), (12, 1), (12, 2), (17, (-1)), (36, 0), (36, 1), (36, 2), (36, 3), (36, 4), (40, 1)] Z Z' → (-2147483648) ≤ z ∧ z ≤ 2147483647 ∧ (((n : Nat) : Int) ≤ ((n' : Nat) : Int) ∧ ((s : Nat) : Int) ≤ ((s' : Nat) : Int) ∧ ((s' : Nat) : Int) ≤ ((s : Nat) : Int) + 900 * (((n' : Nat) : Int) - ((n : Nat) : Int)) ∧ 3 * (((n' : Nat) : Int) - ((n : Nat) : Int)) + Z' 1 1 ≤ Z 1 1 + 6 ∧ ((x0 < 0 ∨ Z 1 1 < x0) → Z' 1 1 = Z 1 1) ∧ (¬ (x0 < 0 ∨ Z 1 1 < x0) → Z' 1 1 = 0)) → Post (some (xI z), h')) : mx_J (tB l D b0 ad Hb tau) mt_90 (d + 107) 0 [some (.ref 1), some (xI x0)] [] h Post := by
    refine mx_J.step (sn_90 0) (fun _ _ => rfl) ?_
    have c12 : (x0 < 0 ∨ Z 1 1 < x0) → mx_J (tB l D b0 ad Hb tau) mt_90 (d + 107) 12 [some (.ref 1), some (xI x0)] [] h Post := by
      intro f1_0
      have b2 : 0 ≤ Z 1 1 ∧ Z 1 1 ≤ 900 := hG.pr 1 1
      refine JcI (z := (-3)) (show mx_Sn _ _ 12 (mx_const (.int (-3)) 14) from sn_90 12) rfl ?_
      have b3 : 0 ≤ Z 1 1 ∧ Z 1 1 ≤ 900 := hG.pr 1 1
      have b4 : 0 ≤ Z 1 1 ∧ Z 1 1 ≤ 900 := hG.pr 1 1
      exact mx_J.ret (sn_90 14) (fun _ _ => rfl) (hP (-3) n s S Z h hx hG fr8_rf (by omega))
    refine Jif_lt (show mx_Sn _ _ 1 (mx_if_lt 12 4) from sn_90 1) (by omega) (fun q5 => ?_) (fun q5 => ?_)
    · skip
      have b6 : 0 ≤ Z 1 1 ∧ Z 1 1 ≤ 900 := hG.pr 1 1
      exact c12 (by omega)
    · skip
      refine mx_J.step (sn_90 4) (fun _ _ => rfl) ?_
      refine mx_J.step (sn_90 5) (fun _ _ => rfl) ?_
      have b8 : 0 ≤ Z 1 1 ∧ Z 1 1 ≤ 900 := hG.pr 1 1
      refine JgetI (g := 1) (z := Z 1 1) hx (show mx_Sn _ _ 6 (mx_getf 11 1 9) from sn_90 6) (lt83 (GI_n hG) rfl) (show S 1 = .inl (11, [2, 0, 0, 0, 2, 2, 2, 2, 2, 2, 2, 2, 2, 2, 2, 2, 2]) from GI_s hG 1 rfl) rfl rfl rfl ?_
      refine Jicmp_le (show mx_Sn _ _ 9 (mx_icmp_le 15 12) from sn_90 9) (by omega) (by omega) (fun q9 => ?_) (fun q9 => ?_)
      · skip
        refine mx_J.step (sn_90 15) (fun _ _ => rfl) ?_
        refine JcI (z := 0) (show mx_Sn _ _ 16 (mx_const (.int 0) 17) from sn_90 16) rfl ?_
        refine JputI (g := 1) hx (show mx_Sn _ _ 17 (mx_putf 1 11 1 (.int) 20) from sn_90 17) (lt83 (GI_n hG) rfl) (show S 1 = .inl (11, [2, 0, 0, 0, 2, 2, 2, 2, 2, 2, 2, 2, 2, 2, 2, 2, 2]) from GI_s hG 1 rfl) rfl rfl rfl rfl (fun Z10 h10 hx10 hE10 => ?_)
        have hG10 := GI_up hG hE10 (show 0 ≤ 0 ∧ 0 ≤ 900 by omega) trivial rfl
        refine mx_J.step (sn_90 20) (fun _ _ => rfl) ?_
        refine JgetR (g := 4) (b := 3) hx10 (show mx_Sn _ _ 21 (mx_getf 11 4 24) from sn_90 21) (lt83 (GI_n hG10) rfl) (show S 1 = .inl (11, [2, 0, 0, 0, 2, 2, 2, 2, 2, 2, 2, 2, 2, 2, 2, 2, 2]) from GI_s hG10 1 rfl) rfl rfl (hG10.prr 1 4 rfl) ?_
        refine mx_J.step (sn_90 24) (fun _ _ => rfl) ?_
        refine JgetR (g := 0) (b := 2) hx10 (show mx_Sn _ _ 25 (mx_getf 11 0 28) from sn_90 25) (lt83 (GI_n hG10) rfl) (show S 1 = .inl (11, [2, 0, 0, 0, 2, 2, 2, 2, 2, 2, 2, 2, 2, 2, 2, 2, 2]) from GI_s hG10 1 rfl) rfl rfl (hG10.prr 1 0 rfl) ?_
        refine mx_J.step (sn_90 28) (fun _ _ => rfl) ?_
        obtain ⟨n13, s13, S13, Z13, h13, hc13, hx13, hG13, hf13, b13⟩ := ct_38_3_2 (d := d + 0) (l := l) (D := D) (b0 := b0) (ad := ad) (Hb := Hb) (tau := tau) hx10 hG10 (show 0 ≤ x0 ∧ x0 ≤ 900 by omega) (show 3 * ((n : Nat) : Int) + x0 + 6 ≤ 12288 by omega)
        have b14 : 0 ≤ Z13 3 12 ∧ Z13 3 12 ≤ 18 := hG13.pr 3 12
        refine Jcv0 hx10 (show mx_Sn _ _ 29 (mx_callv 38 3 7 32) from sn_90 29) (lt83 (GI_n hG10) rfl) (show S 3 = .inl (7, [2, 0, 0, 0, 0, 0, 2, 0, 2, 2, 0, 2, 0, 0, 0, 0]) from GI_s hG10 3 rfl) hc13 rfl rfl rfl ?_
        refine mx_J.step (sn_90 32) (fun _ _ => rfl) ?_
        refine mx_J.step (sn_90 33) (fun _ _ => rfl) ?_
        refine JgetR (g := 4) (b := 3) hx13 (show mx_Sn _ _ 34 (mx_getf 11 4 37) from sn_90 34) (lt83 (GI_n hG13) rfl) (show S13 1 = .inl (11, [2, 0, 0, 0, 2, 2, 2, 2, 2, 2, 2, 2, 2, 2, 2, 2, 2]) from GI_s hG13 1 rfl) rfl rfl (hG13.prr 1 4 rfl) ?_
        have b17 : 0 ≤ Z13 3 14 ∧ Z13 3 14 ≤ 4 := hG13.pr 3 14
        refine JgetI (g := 14) (z := Z13 3 14) hx13 (show mx_Sn _ _ 37 (mx_getf 7 14 40) from sn_90 37) (lt83 (GI_n hG13) rfl) (show S13 3 = .inl (7, [2, 0, 0, 0, 0, 0, 2, 0, 2, 2, 0, 2, 0, 0, 0, 0]) from GI_s hG13 3 rfl) rfl rfl rfl ?_
        refine JputI (g := 2) hx13 (show mx_Sn _ _ 40 (mx_putf 1 11 2 (.int) 43) from sn_90 40) (lt83 (GI_n hG13) rfl) (show S13 1 = .inl (11, [2, 0, 0, 0, 2, 2, 2, 2, 2, 2, 2, 2, 2, 2, 2, 2, 2]) from GI_s hG13 1 rfl) rfl rfl rfl rfl (fun Z18 h18 hx18 hE18 => ?_)
        have hG18 := GI_up hG13 hE18 (show 0 ≤ Z13 3 14 ∧ Z13 3 14 ≤ 4 by omega) trivial rfl
        refine mx_J.step (sn_90 43) (fun _ _ => rfl) ?_
        refine mx_J.step (sn_90 44) (fun _ _ => rfl) ?_
        refine JgetR (g := 4) (b := 3) hx18 (show mx_Sn _ _ 45 (mx_getf 11 4 48) from sn_90 45) (lt83 (GI_n hG18) rfl) (show S13 1 = .inl (11, [2, 0, 0, 0, 2, 2, 2, 2, 2, 2, 2, 2, 2, 2, 2, 2, 2]) from GI_s hG18 1 rfl) rfl rfl (hG18.prr 1 4 rfl) ?_
        have b21 : (-1) ≤ Z13 3 15 ∧ Z13 3 15 ≤ 900 := hG13.pr 3 15
        refine JgetI (g := 15) (z := Z13 3 15) hx18 (show mx_Sn _ _ 48 (mx_getf 7 15 51) from sn_90 48) (lt83 (GI_n hG18) rfl) (show S13 3 = .inl (7, [2, 0, 0, 0, 0, 0, 2, 0, 2, 2, 0, 2, 0, 0, 0, 0]) from GI_s hG18 3 rfl) rfl rfl (up_nk hE18 rfl) ?_
        refine JputI (g := 3) hx18 (show mx_Sn _ _ 51 (mx_putf 1 11 3 (.int) 54) from sn_90 51) (lt83 (GI_n hG18) rfl) (show S13 1 = .inl (11, [2, 0, 0, 0, 2, 2, 2, 2, 2, 2, 2, 2, 2, 2, 2, 2, 2]) from GI_s hG18 1 rfl) rfl rfl rfl rfl (fun Z22 h22 hx22 hE22 => ?_)
        have hG22 := GI_up hG18 hE22 (show (-1) ≤ Z13 3 15 ∧ Z13 3 15 ≤ 900 by omega) trivial rfl
        refine mx_J.step (sn_90 54) (fun _ _ => rfl) ?_
        refine JgetI (g := 2) (z := Z13 3 14) hx22 (show mx_Sn _ _ 55 (mx_getf 11 2 58) from sn_90 55) (lt83 (GI_n hG22) rfl) (show S13 1 = .inl (11, [2, 0, 0, 0, 2, 2, 2, 2, 2, 2, 2, 2, 2, 2, 2, 2, 2]) from GI_s hG22 1 rfl) rfl rfl ((up_ni hE22 (by decide)).trans (up_at hE18)) ?_
        refine Jif_eq (show mx_Sn _ _ 58 (mx_if_eq 69 61) from sn_90 58) (by omega) (fun q24 => ?_) (fun q24 => ?_)
        · skip
          refine mx_J.step (sn_90 69) (fun _ _ => rfl) ?_
          refine JgetR (g := 5) (b := 7) hx22 (show mx_Sn _ _ 70 (mx_getf 11 5 73) from sn_90 70) (lt83 (GI_n hG22) rfl) (show S13 1 = .inl (11, [2, 0, 0, 0, 2, 2, 2, 2, 2, 2, 2, 2, 2, 2, 2, 2, 2]) from GI_s hG22 1 rfl) rfl rfl (hG22.prr 1 5 rfl) ?_
          refine mx_J.step (sn_90 73) (fun _ _ => rfl) ?_
          refine JgetR (g := 4) (b := 3) hx22 (show mx_Sn _ _ 74 (mx_getf 11 4 77) from sn_90 74) (lt83 (GI_n hG22) rfl) (show S13 1 = .inl (11, [2, 0, 0, 0, 2, 2, 2, 2, 2, 2, 2, 2, 2, 2, 2, 2, 2]) from GI_s hG22 1 rfl) rfl rfl (hG22.prr 1 4 rfl) ?_
          have b28 : 0 ≤ Z13 3 12 ∧ Z13 3 12 ≤ 18 := hG13.pr 3 12
          refine JgetI (g := 12) (z := Z13 3 12) hx22 (show mx_Sn _ _ 77 (mx_getf 7 12 80) from sn_90 77) (lt83 (GI_n hG22) rfl) (show S13 3 = .inl (7, [2, 0, 0, 0, 0, 0, 2, 0, 2, 2, 0, 2, 0, 0, 0, 0]) from GI_s hG22 3 rfl) rfl rfl ((up_nk hE22 rfl).trans (up_nk hE18 rfl)) ?_
          obtain ⟨Z29, h29, hc29, hx29, hG29, hf29⟩ := ct_3_7 (d := d + 104) (l := l) (D := D) (b0 := b0) (ad := ad) (Hb := Hb) (tau := tau) hx22 hG22 (show 1 ≤ Z13 3 12 ∧ Z13 3 12 ≤ 18 by omega)
          refine Jcv0 hx22 (show mx_Sn _ _ 80 (mx_callv 3 2 0 83) from sn_90 80) (lt83 (GI_n hG22) rfl) (show S13 7 = .inl (0, [2, 2, 2, 2, 0, 0]) from GI_s hG22 7 rfl) hc29 rfl rfl rfl ?_
          refine mx_J.step (sn_90 83) (fun _ _ => rfl) ?_
          refine JgetR (g := 12) (b := 36) hx29 (show mx_Sn _ _ 84 (mx_getf 11 12 87) from sn_90 84) (lt83 (GI_n hG29) rfl) (show S13 1 = .inl (11, [2, 0, 0, 0, 2, 2, 2, 2, 2, 2, 2, 2, 2, 2, 2, 2, 2]) from GI_s hG29 1 rfl) rfl rfl (hG29.prr 1 12 rfl) ?_
          refine mx_J.step (sn_90 87) (fun _ _ => rfl) ?_
          refine JgetR (g := 4) (b := 3) hx29 (show mx_Sn _ _ 88 (mx_getf 11 4 91) from sn_90 88) (lt83 (GI_n hG29) rfl) (show S13 1 = .inl (11, [2, 0, 0, 0, 2, 2, 2, 2, 2, 2, 2, 2, 2, 2, 2, 2, 2]) from GI_s hG29 1 rfl) rfl rfl (hG29.prr 1 4 rfl) ?_
          obtain ⟨r32, n32, s32, S32, Z32, h32, hc32, hx32, hG32, hf32, b32, or32, ar32, sr32⟩ := ca_39 (d := d + 104) (l := l) (D := D) (b0 := b0) (ad := ad) (Hb := Hb) (tau := tau) hx29 hG29  (show ((n13 : Nat) : Int) ≤ 4095 by omega)
          refine Jcv hx29 (show mx_Sn _ _ 91 (mx_callv 39 1 7 94) from sn_90 91) (lt83 (GI_n hG29) rfl) (show S13 3 = .inl (7, [2, 0, 0, 0, 0, 0, 2, 0, 2, 2, 0, 2, 0, 0, 0, 0]) from GI_s hG29 3 rfl) hc32 rfl rfl rfl ?_
          refine JputR (g := 0) hx32 (show mx_Sn _ _ 94 (mx_putf 1 5 0 (.object "TitheHeap$Laws") 97) from sn_90 94) (lt83 (GI_n hG32) rfl) (show S32 36 = .inl (5, [2, 0, 0, 0, 0, 0]) from GI_s hG32 36 rfl) rfl rfl rfl rfl (fun Z33 h33 hx33 hE33 => ?_)
          have hG33 := GI_upL hG32 hE33 (show (0 : Int) ≤ (r32 : Int) ∧ (r32 : Int) ≤ 4096 by have hn := hx32.2.2.1; omega) trivial rfl ⟨r32, rfl, or32, ar32, sr32⟩
          refine mx_J.step (sn_90 97) (fun _ _ => rfl) ?_
          refine JgetR (g := 12) (b := 36) hx33 (show mx_Sn _ _ 98 (mx_getf 11 12 101) from sn_90 98) (lt83 (GI_n hG33) rfl) (show S32 1 = .inl (11, [2, 0, 0, 0, 2, 2, 2, 2, 2, 2, 2, 2, 2, 2, 2, 2, 2]) from GI_s hG33 1 rfl) rfl rfl (hG33.prr 1 12 rfl) ?_
          refine mx_J.step (sn_90 101) (fun _ _ => rfl) ?_
          refine JgetR (g := 4) (b := 3) hx33 (show mx_Sn _ _ 102 (mx_getf 11 4 105) from sn_90 102) (lt83 (GI_n hG33) rfl) (show S32 1 = .inl (11, [2, 0, 0, 0, 2, 2, 2, 2, 2, 2, 2, 2, 2, 2, 2, 2, 2]) from GI_s hG33 1 rfl) rfl rfl (hG33.prr 1 4 rfl) ?_
          have b37 : 0 ≤ Z13 3 12 ∧ Z13 3 12 ≤ 18 := hG13.pr 3 12
          refine JgetI (g := 12) (z := Z13 3 12) hx33 (show mx_Sn _ _ 105 (mx_getf 7 12 108) from sn_90 105) (lt83 (GI_n hG33) rfl) (show S32 3 = .inl (7, [2, 0, 0, 0, 0, 0, 2, 0, 2, 2, 0, 2, 0, 0, 0, 0]) from GI_s hG33 3 rfl) rfl rfl ((up_nk hE33 rfl).trans ((hf32 3 12 rfl rfl).trans ((hf29 3 12 rfl).trans ((up_nk hE22 rfl).trans (up_nk hE18 rfl))))) ?_
          refine JputI (g := 1) hx33 (show mx_Sn _ _ 108 (mx_putf 1 5 1 (.int) 111) from sn_90 108) (lt83 (GI_n hG33) rfl) (show S32 36 = .inl (5, [2, 0, 0, 0, 0, 0]) from GI_s hG33 36 rfl) rfl rfl rfl rfl (fun Z38 h38 hx38 hE38 => ?_)
          have hG38 := GI_up hG33 hE38 (show 1 ≤ Z13 3 12 ∧ Z13 3 12 ≤ 18 by omega) trivial rfl
          refine mx_J.step (sn_90 111) (fun _ _ => rfl) ?_
          refine JgetR (g := 12) (b := 36) hx38 (show mx_Sn _ _ 112 (mx_getf 11 12 115) from sn_90 112) (lt83 (GI_n hG38) rfl) (show S32 1 = .inl (11, [2, 0, 0, 0, 2, 2, 2, 2, 2, 2, 2, 2, 2, 2, 2, 2, 2]) from GI_s hG38 1 rfl) rfl rfl (hG38.prr 1 12 rfl) ?_
          refine mx_J.step (sn_90 115) (fun _ _ => rfl) ?_
          refine JgetR (g := 5) (b := 7) hx38 (show mx_Sn _ _ 116 (mx_getf 11 5 119) from sn_90 116) (lt83 (GI_n hG38) rfl) (show S32 1 = .inl (11, [2, 0, 0, 0, 2, 2, 2, 2, 2, 2, 2, 2, 2, 2, 2, 2, 2]) from GI_s hG38 1 rfl) rfl rfl (hG38.prr 1 5 rfl) ?_
          refine mx_J.step (sn_90 119) (fun _ _ => rfl) ?_
          refine JgetR (g := 4) (b := 3) hx38 (show mx_Sn _ _ 120 (mx_getf 11 4 123) from sn_90 120) (lt83 (GI_n hG38) rfl) (show S32 1 = .inl (11, [2, 0, 0, 0, 2, 2, 2, 2, 2, 2, 2, 2, 2, 2, 2, 2, 2]) from GI_s hG38 1 rfl) rfl rfl (hG38.prr 1 4 rfl) ?_
          refine JgetR (g := 11) (b := 6) hx38 (show mx_Sn _ _ 123 (mx_getf 7 11 126) from sn_90 123) (lt83 (GI_n hG38) rfl) (show S32 3 = .inl (7, [2, 0, 0, 0, 0, 0, 2, 0, 2, 2, 0, 2, 0, 0, 0, 0]) from GI_s hG38 3 rfl) rfl rfl (hG38.prr 3 11 rfl) ?_
          obtain ⟨z43, hc43, b43⟩ := ct_9_7_6 (d := d + 105) (l := l) (D := D) (b0 := b0) (ad := ad) (Hb := Hb) (tau := tau) hx38 hG38  (fun i _ _ => by have q : 0 ≤ Z38 6 i ∧ Z38 6 i ≤ 20 := hG38.pr 6 i; omega)
          refine Jcv hx38 (show mx_Sn _ _ 126 (mx_callv 9 2 0 129) from sn_90 126) (lt83 (GI_n hG38) rfl) (show S32 7 = .inl (0, [2, 2, 2, 2, 0, 0]) from GI_s hG38 7 rfl) hc43 rfl rfl rfl ?_
          refine JputI (g := 2) hx38 (show mx_Sn _ _ 129 (mx_putf 1 5 2 (.int) 132) from sn_90 129) (lt83 (GI_n hG38) rfl) (show S32 36 = .inl (5, [2, 0, 0, 0, 0, 0]) from GI_s hG38 36 rfl) rfl rfl rfl rfl (fun Z44 h44 hx44 hE44 => ?_)
          have hG44 := GI_up hG38 hE44 (show 0 ≤ z43 ∧ z43 ≤ 384 by omega) trivial rfl
          refine mx_J.step (sn_90 132) (fun _ _ => rfl) ?_
          refine JgetR (g := 12) (b := 36) hx44 (show mx_Sn _ _ 133 (mx_getf 11 12 136) from sn_90 133) (lt83 (GI_n hG44) rfl) (show S32 1 = .inl (11, [2, 0, 0, 0, 2, 2, 2, 2, 2, 2, 2, 2, 2, 2, 2, 2, 2]) from GI_s hG44 1 rfl) rfl rfl (hG44.prr 1 12 rfl) ?_
          refine mx_J.step (sn_90 136) (fun _ _ => rfl) ?_
          refine JgetR (g := 4) (b := 3) hx44 (show mx_Sn _ _ 137 (mx_getf 11 4 140) from sn_90 137) (lt83 (GI_n hG44) rfl) (show S32 1 = .inl (11, [2, 0, 0, 0, 2, 2, 2, 2, 2, 2, 2, 2, 2, 2, 2, 2, 2]) from GI_s hG44 1 rfl) rfl rfl (hG44.prr 1 4 rfl) ?_
          have b48 : 0 ≤ Z13 3 13 ∧ Z13 3 13 ≤ 9 := hG13.pr 3 13
          refine JgetI (g := 13) (z := Z13 3 13) hx44 (show mx_Sn _ _ 140 (mx_getf 7 13 143) from sn_90 140) (lt83 (GI_n hG44) rfl) (show S32 3 = .inl (7, [2, 0, 0, 0, 0, 0, 2, 0, 2, 2, 0, 2, 0, 0, 0, 0]) from GI_s hG44 3 rfl) rfl rfl ((up_nk hE44 rfl).trans ((up_nk hE38 rfl).trans ((up_nk hE33 rfl).trans ((hf32 3 13 rfl rfl).trans ((hf29 3 13 rfl).trans ((up_nk hE22 rfl).trans (up_nk hE18 rfl))))))) ?_
          refine JputI (g := 3) hx44 (show mx_Sn _ _ 143 (mx_putf 1 5 3 (.int) 146) from sn_90 143) (lt83 (GI_n hG44) rfl) (show S32 36 = .inl (5, [2, 0, 0, 0, 0, 0]) from GI_s hG44 36 rfl) rfl rfl rfl rfl (fun Z49 h49 hx49 hE49 => ?_)
          have hG49 := GI_up hG44 hE49 (show 0 ≤ Z13 3 13 ∧ Z13 3 13 ≤ 9 by omega) trivial rfl
          refine mx_J.step (sn_90 146) (fun _ _ => rfl) ?_
          refine JgetR (g := 12) (b := 36) hx49 (show mx_Sn _ _ 147 (mx_getf 11 12 150) from sn_90 147) (lt83 (GI_n hG49) rfl) (show S32 1 = .inl (11, [2, 0, 0, 0, 2, 2, 2, 2, 2, 2, 2, 2, 2, 2, 2, 2, 2]) from GI_s hG49 1 rfl) rfl rfl (hG49.prr 1 12 rfl) ?_
          refine JcI (z := 0) (show mx_Sn _ _ 150 (mx_const (.int 0) 151) from sn_90 150) rfl ?_
          refine JputI (g := 4) hx49 (show mx_Sn _ _ 151 (mx_putf 1 5 4 (.int) 154) from sn_90 151) (lt83 (GI_n hG49) rfl) (show S32 36 = .inl (5, [2, 0, 0, 0, 0, 0]) from GI_s hG49 36 rfl) rfl rfl rfl rfl (fun Z51 h51 hx51 hE51 => ?_)
          have hG51 := GI_up hG49 hE51 (show (-2147483648) ≤ 0 ∧ 0 ≤ 2147483647 by omega) trivial rfl
          refine mx_J.step (sn_90 154) (fun _ _ => rfl) ?_
          obtain ⟨Z52, h52, hc52, hx52, hG52, hf52⟩ := ct_135_1 (d := d + 103) (l := l) (D := D) (b0 := b0) (ad := ad) (Hb := Hb) (tau := tau) hx51 hG51 
          refine Jcv0 hx51 (show mx_Sn _ _ 155 (mx_callv 135 1 11 158) from sn_90 155) (lt83 (GI_n hG51) rfl) (show S32 1 = .inl (11, [2, 0, 0, 0, 2, 2, 2, 2, 2, 2, 2, 2, 2, 2, 2, 2, 2]) from GI_s hG51 1 rfl) hc52 rfl rfl rfl ?_
          refine mx_J.step (sn_90 158) (fun _ _ => rfl) ?_
          refine JgetR (g := 12) (b := 36) hx52 (show mx_Sn _ _ 159 (mx_getf 11 12 162) from sn_90 159) (lt83 (GI_n hG52) rfl) (show S32 1 = .inl (11, [2, 0, 0, 0, 2, 2, 2, 2, 2, 2, 2, 2, 2, 2, 2, 2, 2]) from GI_s hG52 1 rfl) rfl rfl (hG52.prr 1 12 rfl) ?_
          obtain ⟨r54, er54, or54, ar54, sr54⟩ := GI_l36 hG52
          refine JgetR (g := 0) (b := r54) hx52 (show mx_Sn _ _ 162 (mx_getf 5 0 165) from sn_90 162) (lt83 (GI_n hG52) rfl) (show S32 36 = .inl (5, [2, 0, 0, 0, 0, 0]) from GI_s hG52 36 rfl) rfl rfl er54 ?_
          have b55 : -2147483648 ≤ Z52 r54 2 ∧ Z52 r54 2 ≤ 2147483647 := (GI_rc hG52 or54 ar54 sr54).2.2
          refine JgetI (g := 2) (z := Z52 r54 2) hx52 (show mx_Sn _ _ 165 (mx_getf 3 2 168) from sn_90 165) ar54 sr54 rfl rfl rfl ?_
          have eq56 : Z52 1 1 = 0 := ((hf52 1 1 rfl).trans ((up_nk hE51 rfl).trans ((up_nk hE49 rfl).trans ((up_nk hE44 rfl).trans ((up_nk hE38 rfl).trans ((up_nk hE33 rfl).trans ((hf32 1 1 rfl rfl).trans ((hf29 1 1 rfl).trans ((up_ni hE22 (by decide)).trans ((up_ni hE18 (by decide)).trans ((hf13 1 1 rfl rfl).trans (up_at hE10))))))))))))
          have eq57 : Z52 1 1 = 0 := ((hf52 1 1 rfl).trans ((up_nk hE51 rfl).trans ((up_nk hE49 rfl).trans ((up_nk hE44 rfl).trans ((up_nk hE38 rfl).trans ((up_nk hE33 rfl).trans ((hf32 1 1 rfl rfl).trans ((hf29 1 1 rfl).trans ((up_ni hE22 (by decide)).trans ((up_ni hE18 (by decide)).trans ((hf13 1 1 rfl rfl).trans (up_at hE10))))))))))))
          exact mx_J.ret (sn_90 168) (fun _ _ => rfl) (hP (Z52 r54 2) n32 s32 S32 Z52 h52 hx52 hG52 (fr8_tr (M := [(1, 1), (1, 2), (1, 3), (3, 0), (3, 1), (3, 2), (3, 3), (3, 4), (3, 5), (3, 7), (3, 8), (3, 9), (3, 10), (3, 12), (3, 13), (3, 14), (3, 15), (5, (-1)), (6, (-1)), (7, 4), (7, 5), (9, (-1)), (10, (-1)), (11, (-1)), (12, 1), (12, 2), (17, (-1)), (36, 0), (36, 1), (36, 2), (36, 3), (36, 4), (40, 1)]) (fr8_tr (M := [(1, 1), (1, 2), (1, 3), (3, 0), (3, 1), (3, 2), (3, 3), (3, 4), (3, 5), (3, 7), (3, 8), (3, 9), (3, 10), (3, 12), (3, 13), (3, 14), (3, 15), (5, (-1)), (6, (-1)), (7, 4), (7, 5), (9, (-1)), (10, (-1)), (11, (-1)), (12, 1), (12, 2), (17, (-1)), (36, 0), (36, 1), (36, 2), (36, 3), (36, 4), (40, 1)]) (fr8_tr (M := [(1, 1), (1, 2), (1, 3), (3, 0), (3, 1), (3, 2), (3, 3), (3, 4), (3, 5), (3, 7), (3, 8), (3, 9), (3, 10), (3, 12), (3, 13), (3, 14), (3, 15), (5, (-1)), (6, (-1)), (7, 4), (7, 5), (9, (-1)), (10, (-1)), (11, (-1)), (12, 1), (12, 2), (17, (-1)), (36, 0), (36, 1), (36, 2), (36, 3), (36, 4), (40, 1)]) (fr8_tr (M := [(1, 1), (1, 2), (1, 3), (3, 0), (3, 1), (3, 2), (3, 3), (3, 4), (3, 5), (3, 7), (3, 8), (3, 9), (3, 10), (3, 12), (3, 13), (3, 14), (3, 15), (5, (-1)), (6, (-1)), (7, 4), (7, 5), (9, (-1)), (10, (-1)), (11, (-1)), (12, 1), (12, 2), (17, (-1)), (36, 0), (36, 1), (36, 2), (36, 3), (36, 4), (40, 1)]) (fr8_tr (M := [(1, 1), (1, 2), (1, 3), (3, 0), (3, 1), (3, 2), (3, 3), (3, 4), (3, 5), (3, 7), (3, 8), (3, 9), (3, 10), (3, 12), (3, 13), (3, 14), (3, 15), (5, (-1)), (6, (-1)), (7, 4), (7, 5), (9, (-1)), (10, (-1)), (11, (-1)), (12, 1), (12, 2), (17, (-1)), (36, 0), (36, 1), (36, 2), (36, 3), (36, 4), (40, 1)]) (fr8_tr (M := [(1, 1), (1, 2), (1, 3), (3, 0), (3, 1), (3, 2), (3, 3), (3, 4), (3, 5), (3, 7), (3, 8), (3, 9), (3, 10), (3, 12), (3, 13), (3, 14), (3, 15), (5, (-1)), (6, (-1)), (7, 4), (7, 5), (9, (-1)), (10, (-1)), (11, (-1)), (12, 1), (12, 2), (17, (-1)), (36, 0), (36, 1), (36, 2), (36, 3), (36, 4), (40, 1)]) (fr8_tr (M := [(1, 1), (1, 2), (1, 3), (3, 0), (3, 1), (3, 2), (3, 3), (3, 4), (3, 5), (3, 7), (3, 8), (3, 9), (3, 10), (3, 12), (3, 13), (3, 14), (3, 15), (5, (-1)), (6, (-1)), (7, 4), (7, 5), (9, (-1)), (10, (-1)), (11, (-1)), (12, 1), (12, 2), (17, (-1)), (36, 0), (36, 1), (36, 2), (36, 3), (36, 4), (40, 1)]) (fr8_tr (M := [(1, 1), (1, 2), (1, 3), (3, 0), (3, 1), (3, 2), (3, 3), (3, 4), (3, 5), (3, 7), (3, 8), (3, 9), (3, 10), (3, 12), (3, 13), (3, 14), (3, 15), (5, (-1)), (6, (-1)), (7, 4), (7, 5), (9, (-1)), (10, (-1)), (11, (-1)), (12, 1), (12, 2), (17, (-1)), (36, 0), (36, 1), (36, 2), (36, 3), (36, 4), (40, 1)]) (fr8_tr (M := [(1, 1), (1, 2), (1, 3), (3, 0), (3, 1), (3, 2), (3, 3), (3, 4), (3, 5), (3, 7), (3, 8), (3, 9), (3, 10), (3, 12), (3, 13), (3, 14), (3, 15), (5, (-1)), (6, (-1)), (7, 4), (7, 5), (9, (-1)), (10, (-1)), (11, (-1)), (12, 1), (12, 2), (17, (-1)), (36, 0), (36, 1), (36, 2), (36, 3), (36, 4), (40, 1)]) (fr8_tr (M := [(1, 1), (1, 2), (1, 3), (3, 0), (3, 1), (3, 2), (3, 3), (3, 4), (3, 5), (3, 7), (3, 8), (3, 9), (3, 10), (3, 12), (3, 13), (3, 14), (3, 15), (5, (-1)), (6, (-1)), (7, 4), (7, 5), (9, (-1)), (10, (-1)), (11, (-1)), (12, 1), (12, 2), (17, (-1)), (36, 0), (36, 1), (36, 2), (36, 3), (36, 4), (40, 1)]) (fr8_tr (M := [(1, 1), (1, 2), (1, 3), (3, 0), (3, 1), (3, 2), (3, 3), (3, 4), (3, 5), (3, 7), (3, 8), (3, 9), (3, 10), (3, 12), (3, 13), (3, 14), (3, 15), (5, (-1)), (6, (-1)), (7, 4), (7, 5), (9, (-1)), (10, (-1)), (11, (-1)), (12, 1), (12, 2), (17, (-1)), (36, 0), (36, 1), (36, 2), (36, 3), (36, 4), (40, 1)]) (fr8_tr (M := [(1, 1), (1, 2), (1, 3), (3, 0), (3, 1), (3, 2), (3, 3), (3, 4), (3, 5), (3, 7), (3, 8), (3, 9), (3, 10), (3, 12), (3, 13), (3, 14), (3, 15), (5, (-1)), (6, (-1)), (7, 4), (7, 5), (9, (-1)), (10, (-1)), (11, (-1)), (12, 1), (12, 2), (17, (-1)), (36, 0), (36, 1), (36, 2), (36, 3), (36, 4), (40, 1)]) fr8_rf (fr8_of (fr_up hE10)) (M1 := []) rfl rfl) (hf13) rfl rfl) (fr8_of (fr_up hE18)) rfl rfl) (fr8_of (fr_up hE22)) rfl rfl) (fr8_of (hf29)) rfl rfl) (hf32) rfl rfl) (fr8_of (fr_up hE33)) rfl rfl) (fr8_of (fr_up hE38)) rfl rfl) (fr8_of (fr_up hE44)) rfl rfl) (fr8_of (fr_up hE49)) rfl rfl) (fr8_of (fr_up hE51)) rfl rfl) (fr8_of (hf52)) rfl rfl) (by omega))
        · skip
          refine JcI (z := (-30)) (show mx_Sn _ _ 61 (mx_const (.int (-30)) 63) from sn_90 61) rfl ?_
          refine mx_J.step (sn_90 63) (fun _ _ => rfl) ?_
          refine JgetI (g := 2) (z := Z13 3 14) hx22 (show mx_Sn _ _ 64 (mx_getf 11 2 67) from sn_90 64) (lt83 (GI_n hG22) rfl) (show S13 1 = .inl (11, [2, 0, 0, 0, 2, 2, 2, 2, 2, 2, 2, 2, 2, 2, 2, 2, 2]) from GI_s hG22 1 rfl) rfl rfl ((up_ni hE22 (by decide)).trans (up_at hE18)) ?_
          refine Jisub (show mx_Sn _ _ 67 (mx_isub 68) from sn_90 67) ?_
          have eq59 : Z22 1 1 = 0 := ((up_ni hE22 (by decide)).trans ((up_ni hE18 (by decide)).trans ((hf13 1 1 rfl rfl).trans (up_at hE10))))
          have eq60 : Z22 1 1 = 0 := ((up_ni hE22 (by decide)).trans ((up_ni hE18 (by decide)).trans ((hf13 1 1 rfl rfl).trans (up_at hE10))))
          exact mx_J.ret (sn_90 68) (fun _ _ => rfl) (hP ((-30) - (Z13 3 14)) n13 s13 S13 Z22 h22 hx22 hG22 (fr8_tr (M := [(1, 1), (1, 2), (1, 3), (3, 0), (3, 1), (3, 2), (3, 3), (3, 4), (3, 5), (3, 7), (3, 8), (3, 9), (3, 10), (3, 12), (3, 13), (3, 14), (3, 15), (5, (-1)), (6, (-1)), (7, 4), (7, 5), (9, (-1)), (10, (-1)), (11, (-1)), (12, 1), (12, 2), (17, (-1)), (36, 0), (36, 1), (36, 2), (36, 3), (36, 4), (40, 1)]) (fr8_tr (M := [(1, 1), (1, 2), (1, 3), (3, 0), (3, 1), (3, 2), (3, 3), (3, 4), (3, 5), (3, 7), (3, 8), (3, 9), (3, 10), (3, 12), (3, 13), (3, 14), (3, 15), (5, (-1)), (6, (-1)), (7, 4), (7, 5), (9, (-1)), (10, (-1)), (11, (-1)), (12, 1), (12, 2), (17, (-1)), (36, 0), (36, 1), (36, 2), (36, 3), (36, 4), (40, 1)]) (fr8_tr (M := [(1, 1), (1, 2), (1, 3), (3, 0), (3, 1), (3, 2), (3, 3), (3, 4), (3, 5), (3, 7), (3, 8), (3, 9), (3, 10), (3, 12), (3, 13), (3, 14), (3, 15), (5, (-1)), (6, (-1)), (7, 4), (7, 5), (9, (-1)), (10, (-1)), (11, (-1)), (12, 1), (12, 2), (17, (-1)), (36, 0), (36, 1), (36, 2), (36, 3), (36, 4), (40, 1)]) (fr8_tr (M := [(1, 1), (1, 2), (1, 3), (3, 0), (3, 1), (3, 2), (3, 3), (3, 4), (3, 5), (3, 7), (3, 8), (3, 9), (3, 10), (3, 12), (3, 13), (3, 14), (3, 15), (5, (-1)), (6, (-1)), (7, 4), (7, 5), (9, (-1)), (10, (-1)), (11, (-1)), (12, 1), (12, 2), (17, (-1)), (36, 0), (36, 1), (36, 2), (36, 3), (36, 4), (40, 1)]) fr8_rf (fr8_of (fr_up hE10)) (M1 := []) rfl rfl) (hf13) rfl rfl) (fr8_of (fr_up hE18)) rfl rfl) (fr8_of (fr_up hE22)) rfl rfl) (by omega))
      · skip
        have b61 : 0 ≤ Z 1 1 ∧ Z 1 1 ≤ 900 := hG.pr 1 1
        exact c12 (by omega)
theorem ct_90_1 {l : Launch} {D : va_G} {b0 : Nat} {ad : Nat → Nat} {Hb : Heap} {tau : Nat → Int64} {d n s : Nat} {S : Nat → xS} {Z : xZ} {h : mx_H} (hx : XH n s S Z h) (hG : GI n S Z)  {x0 : Int} (p0 : (-2147483648) ≤ x0 ∧ x0 ≤ 2147483647) (k0 : 3 * ((n : Nat) : Int) + Z 1 1 + 6 ≤ 12288) : ∃ (z : Int) (n' s' : Nat) (S' : Nat → xS) (Z' : xZ) (h' : mx_H), mx_Ca (tB l D b0 ad Hb tau) (d + 108) 90 [.ref 1, xI x0] h (some (xI z), h') ∧ XH n' s' S' Z' h' ∧ GI n' S' Z' ∧ fr8 [(1, 1), (1, 2), (1, 3), (3, 0), (3, 1), (3, 2), (3, 3), (3, 4), (3, 5), (3, 7), (3, 8), (3, 9), (3, 10), (3, 12), (3, 13), (3, 14), (3, 15), (5, (-1)), (6, (-1)), (7, 4), (7, 5), (9, (-1)), (10, (-1)), (11, (-1)), (12, 1), (12, 2), (17, (-1)), (36, 0), (36, 1), (36, 2), (36, 3), (36, 4), (40, 1)] Z Z' ∧ ((-2147483648) ≤ z ∧ z ≤ 2147483647 ∧ (((n : Nat) : Int) ≤ ((n' : Nat) : Int) ∧ ((s : Nat) : Int) ≤ ((s' : Nat) : Int) ∧ ((s' : Nat) : Int) ≤ ((s : Nat) : Int) + 900 * (((n' : Nat) : Int) - ((n : Nat) : Int)) ∧ 3 * (((n' : Nat) : Int) - ((n : Nat) : Int)) + Z' 1 1 ≤ Z 1 1 + 6 ∧ ((x0 < 0 ∨ Z 1 1 < x0) → Z' 1 1 = Z 1 1) ∧ (¬ (x0 < 0 ∨ Z 1 1 < x0) → Z' 1 1 = 0))) := by
  obtain ⟨r, hca, z, n', s', S', Z', h', e, q⟩ := Jmt (B := tB l D b0 ad Hb tau) (M := mt_90) (mi := 90) (as := [.ref 1, xI x0]) (d := d + 107) (ls := [some (.ref 1), some (xI x0)]) rfl rfl rfl rfl rfl rfl (cw_90_1 (l := l) (D := D) (b0 := b0) (ad := ad) (Hb := Hb) (tau := tau) (d := d) (Post := fun r => ∃ (z : Int) (n' s' : Nat) (S' : Nat → xS) (Z' : xZ) (h' : mx_H), r = (some (xI z), h') ∧ XH n' s' S' Z' h' ∧ GI n' S' Z' ∧ fr8 [(1, 1), (1, 2), (1, 3), (3, 0), (3, 1), (3, 2), (3, 3), (3, 4), (3, 5), (3, 7), (3, 8), (3, 9), (3, 10), (3, 12), (3, 13), (3, 14), (3, 15), (5, (-1)), (6, (-1)), (7, 4), (7, 5), (9, (-1)), (10, (-1)), (11, (-1)), (12, 1), (12, 2), (17, (-1)), (36, 0), (36, 1), (36, 2), (36, 3), (36, 4), (40, 1)] Z Z' ∧ ((-2147483648) ≤ z ∧ z ≤ 2147483647 ∧ (((n : Nat) : Int) ≤ ((n' : Nat) : Int) ∧ ((s : Nat) : Int) ≤ ((s' : Nat) : Int) ∧ ((s' : Nat) : Int) ≤ ((s : Nat) : Int) + 900 * (((n' : Nat) : Int) - ((n : Nat) : Int)) ∧ 3 * (((n' : Nat) : Int) - ((n : Nat) : Int)) + Z' 1 1 ≤ Z 1 1 + 6 ∧ ((x0 < 0 ∨ Z 1 1 < x0) → Z' 1 1 = Z 1 1) ∧ (¬ (x0 < 0 ∨ Z 1 1 < x0) → Z' 1 1 = 0)))) hx hG p0 k0 (fun z n' s' S' Z' h' q1 q2 q3 q4 => ⟨z, n', s', S', Z', h', rfl, q1, q2, q3, q4⟩))
  subst e; exact ⟨z, n', s', S', Z', h', hca, q⟩
set_option maxRecDepth 100000 in
theorem cw_11_D {l : Launch} {D : va_G} {b0 : Nat} {ad : Nat → Nat} {Hb : Heap} {tau : Nat → Int64} {d n s : Nat} {S : Nat → xS} {Z : xZ} {h : mx_H} {Post : mx_R → Prop} (hx : XH n s S Z h) (hG : GI n S Z) {r0 : Nat} (or0 : 83 ≤ r0) (ar0 : r0 < n) (sr0 : S r0 = .inl (1, [0])) {x0 : Int} (p0 : (-2147483648) ≤ x0 ∧ x0 ≤ 2147483647) (hP : ∀ (Z' : xZ) (h' : mx_H), XH n s S Z' h' → GI n S Z' → fr8 [] Z Z' → Post (none, h')) : mx_J (tB l D b0 ad Hb tau) mt_11 (d + 1) 0 [some (.ref r0), some (xI x0)] [] h Post := by
    refine mx_J.step (sn_11 0) (fun _ _ => rfl) ?_
    refine Jobj (show mx_Sn _ _ 1 (mx_objinit 4) from sn_11 1) ⟨_, rfl⟩ rfl ?_
    refine mx_J.step (sn_11 4) (fun _ _ => rfl) ?_
    refine mx_J.step (sn_11 5) (fun _ _ => rfl) ?_
    refine JputI (g := 0) hx (show mx_Sn _ _ 6 (mx_putf 1 1 0 (.int) 9) from sn_11 6) ar0 sr0 (Bool.eq_false_iff.mpr (fun q => by have q : r0 + 1 ≤ 1 := Nat.ble_eq.mp q; omega)) rfl rfl rfl (fun Z1 h1 hx1 hE1 => ?_)
    have hG1 := GI_upD hG hE1 or0 (by omega) (fun len e => by rw [sr0] at e; cases e) (fun e => by rw [sr0] at e; cases e)
    exact mx_J.ret (sn_11 9) (fun _ _ => rfl) (hP Z1 h1 hx1 hG1 (fr8_tr (M := []) fr8_rf (fr8_upD hE1 or0) (M1 := []) rfl rfl))
theorem ct_11_D {l : Launch} {D : va_G} {b0 : Nat} {ad : Nat → Nat} {Hb : Heap} {tau : Nat → Int64} {d n s : Nat} {S : Nat → xS} {Z : xZ} {h : mx_H} (hx : XH n s S Z h) (hG : GI n S Z) {r0 : Nat} (or0 : 83 ≤ r0) (ar0 : r0 < n) (sr0 : S r0 = .inl (1, [0])) {x0 : Int} (p0 : (-2147483648) ≤ x0 ∧ x0 ≤ 2147483647) : ∃ (Z' : xZ) (h' : mx_H), mx_Ca (tB l D b0 ad Hb tau) (d + 2) 11 [.ref r0, xI x0] h (none, h') ∧ XH n s S Z' h' ∧ GI n S Z' ∧ fr8 [] Z Z' := by
  obtain ⟨r, hca, Z', h', e, q⟩ := Jmt (B := tB l D b0 ad Hb tau) (M := mt_11) (mi := 11) (as := [.ref r0, xI x0]) (d := d + 1) (ls := [some (.ref r0), some (xI x0)]) rfl rfl rfl rfl rfl rfl (cw_11_D (l := l) (D := D) (b0 := b0) (ad := ad) (Hb := Hb) (tau := tau) (d := d) (Post := fun r => ∃ (Z' : xZ) (h' : mx_H), r = (none, h') ∧ XH n s S Z' h' ∧ GI n S Z' ∧ fr8 [] Z Z') hx hG or0 ar0 sr0 p0 (fun Z' h' q1 q2 q3 => ⟨Z', h', rfl, q1, q2, q3⟩))
  subst e; exact ⟨Z', h', hca, q⟩
set_option maxRecDepth 100000 in
theorem cw_12_D_i6 {l : Launch} {D : va_G} {b0 : Nat} {ad : Nat → Nat} {Hb : Heap} {tau : Nat → Int64} {d n s : Nat} {S : Nat → xS} {Z : xZ} {h : mx_H} {Post : mx_R → Prop} (hx : XH n s S Z h) (hG : GI n S Z) {r0 : Nat} (or0 : 83 ≤ r0) (ar0 : r0 < n) (sr0 : S r0 = .inl (1, [0]))  (hP : ∀ (z : Int) (Z' : xZ) (h' : mx_H), XH n s S Z' h' → GI n S Z' → fr8 [] Z Z' → 0 ≤ z ∧ z ≤ 5 → Post (some (xI z), h')) : mx_J (tB l D b0 ad Hb tau) mt_12 (d + 0) 0 [some (.ref r0), some (xI 6)] [] h Post := by
    refine mx_J.step (sn_12 0) (fun _ _ => rfl) ?_
    refine JcI (z := 1103515245) (show mx_Sn _ _ 1 (mx_const (.int 1103515245) 3) from sn_12 1) rfl ?_
    refine mx_J.step (sn_12 3) (fun _ _ => rfl) ?_
    refine JgetI (g := 0) (z := Z r0 0) hx (show mx_Sn _ _ 4 (mx_getf 1 0 7) from sn_12 4) ar0 sr0 rfl rfl rfl ?_
    refine JimulN (show mx_Sn _ _ 7 (mx_imul 8) from sn_12 7) (fun y2 hy2 hq2 => ?_)
    refine JcI (z := 12345) (show mx_Sn _ _ 8 (mx_const (.int 12345) 11) from sn_12 8) rfl ?_
    refine JiaddN (show mx_Sn _ _ 11 (mx_iadd 12) from sn_12 11) (fun y3 hy3 hq3 => ?_)
    refine JputI (g := 0) hx (show mx_Sn _ _ 12 (mx_putf 1 1 0 (.int) 15) from sn_12 12) ar0 sr0 (Bool.eq_false_iff.mpr (fun q => by have q : r0 + 1 ≤ 1 := Nat.ble_eq.mp q; omega)) rfl rfl rfl (fun Z4 h4 hx4 hE4 => ?_)
    have hG4 := GI_upD hG hE4 or0 (by omega) (fun len e => by rw [sr0] at e; cases e) (fun e => by rw [sr0] at e; cases e)
    refine mx_J.step (sn_12 15) (fun _ _ => rfl) ?_
    refine JgetI (g := 0) (z := y3) hx4 (show mx_Sn _ _ 16 (mx_getf 1 0 19) from sn_12 16) ar0 sr0 rfl rfl (up_at hE4) ?_
    refine JcI (z := 16) (show mx_Sn _ _ 19 (mx_const (.int 16) 21) from sn_12 19) rfl ?_
    refine Jiushr16 (show mx_Sn _ _ 21 (mx_iushr 22) from sn_12 21) (fun y6 hy6 => ?_)
    refine mx_J.step (sn_12 22) (fun _ _ => rfl) ?_
    refine Jirem (show mx_Sn _ _ 23 (mx_irem 24) from sn_12 23) (by omega) (by omega) ?_
    exact mx_J.ret (sn_12 24) (fun _ _ => rfl) (hP (y6 % 6) Z4 h4 hx4 hG4 (fr8_tr (M := []) fr8_rf (fr8_upD hE4 or0) (M1 := []) rfl rfl) (by omega))
theorem ct_12_D_i6 {l : Launch} {D : va_G} {b0 : Nat} {ad : Nat → Nat} {Hb : Heap} {tau : Nat → Int64} {d n s : Nat} {S : Nat → xS} {Z : xZ} {h : mx_H} (hx : XH n s S Z h) (hG : GI n S Z) {r0 : Nat} (or0 : 83 ≤ r0) (ar0 : r0 < n) (sr0 : S r0 = .inl (1, [0]))  : ∃ (z : Int) (Z' : xZ) (h' : mx_H), mx_Ca (tB l D b0 ad Hb tau) (d + 1) 12 [.ref r0, xI 6] h (some (xI z), h') ∧ XH n s S Z' h' ∧ GI n S Z' ∧ fr8 [] Z Z' ∧ (0 ≤ z ∧ z ≤ 5) := by
  obtain ⟨r, hca, z, Z', h', e, q⟩ := Jmt (B := tB l D b0 ad Hb tau) (M := mt_12) (mi := 12) (as := [.ref r0, xI 6]) (d := d + 0) (ls := [some (.ref r0), some (xI 6)]) rfl rfl rfl rfl rfl rfl (cw_12_D_i6 (l := l) (D := D) (b0 := b0) (ad := ad) (Hb := Hb) (tau := tau) (d := d) (Post := fun r => ∃ (z : Int) (Z' : xZ) (h' : mx_H), r = (some (xI z), h') ∧ XH n s S Z' h' ∧ GI n S Z' ∧ fr8 [] Z Z' ∧ (0 ≤ z ∧ z ≤ 5)) hx hG or0 ar0 sr0 (fun z Z' h' q1 q2 q3 q4 => ⟨z, Z', h', rfl, q1, q2, q3, q4⟩))
  subst e; exact ⟨z, Z', h', hca, q⟩
set_option maxRecDepth 100000 in
theorem cw_12_D_i8 {l : Launch} {D : va_G} {b0 : Nat} {ad : Nat → Nat} {Hb : Heap} {tau : Nat → Int64} {d n s : Nat} {S : Nat → xS} {Z : xZ} {h : mx_H} {Post : mx_R → Prop} (hx : XH n s S Z h) (hG : GI n S Z) {r0 : Nat} (or0 : 83 ≤ r0) (ar0 : r0 < n) (sr0 : S r0 = .inl (1, [0]))  (hP : ∀ (z : Int) (Z' : xZ) (h' : mx_H), XH n s S Z' h' → GI n S Z' → fr8 [] Z Z' → 0 ≤ z ∧ z ≤ 7 → Post (some (xI z), h')) : mx_J (tB l D b0 ad Hb tau) mt_12 (d + 0) 0 [some (.ref r0), some (xI 8)] [] h Post := by
    refine mx_J.step (sn_12 0) (fun _ _ => rfl) ?_
    refine JcI (z := 1103515245) (show mx_Sn _ _ 1 (mx_const (.int 1103515245) 3) from sn_12 1) rfl ?_
    refine mx_J.step (sn_12 3) (fun _ _ => rfl) ?_
    refine JgetI (g := 0) (z := Z r0 0) hx (show mx_Sn _ _ 4 (mx_getf 1 0 7) from sn_12 4) ar0 sr0 rfl rfl rfl ?_
    refine JimulN (show mx_Sn _ _ 7 (mx_imul 8) from sn_12 7) (fun y2 hy2 hq2 => ?_)
    refine JcI (z := 12345) (show mx_Sn _ _ 8 (mx_const (.int 12345) 11) from sn_12 8) rfl ?_
    refine JiaddN (show mx_Sn _ _ 11 (mx_iadd 12) from sn_12 11) (fun y3 hy3 hq3 => ?_)
    refine JputI (g := 0) hx (show mx_Sn _ _ 12 (mx_putf 1 1 0 (.int) 15) from sn_12 12) ar0 sr0 (Bool.eq_false_iff.mpr (fun q => by have q : r0 + 1 ≤ 1 := Nat.ble_eq.mp q; omega)) rfl rfl rfl (fun Z4 h4 hx4 hE4 => ?_)
    have hG4 := GI_upD hG hE4 or0 (by omega) (fun len e => by rw [sr0] at e; cases e) (fun e => by rw [sr0] at e; cases e)
    refine mx_J.step (sn_12 15) (fun _ _ => rfl) ?_
    refine JgetI (g := 0) (z := y3) hx4 (show mx_Sn _ _ 16 (mx_getf 1 0 19) from sn_12 16) ar0 sr0 rfl rfl (up_at hE4) ?_
    refine JcI (z := 16) (show mx_Sn _ _ 19 (mx_const (.int 16) 21) from sn_12 19) rfl ?_
    refine Jiushr16 (show mx_Sn _ _ 21 (mx_iushr 22) from sn_12 21) (fun y6 hy6 => ?_)
    refine mx_J.step (sn_12 22) (fun _ _ => rfl) ?_
    refine Jirem (show mx_Sn _ _ 23 (mx_irem 24) from sn_12 23) (by omega) (by omega) ?_
    exact mx_J.ret (sn_12 24) (fun _ _ => rfl) (hP (y6 % 8) Z4 h4 hx4 hG4 (fr8_tr (M := []) fr8_rf (fr8_upD hE4 or0) (M1 := []) rfl rfl) (by omega))
theorem ct_12_D_i8 {l : Launch} {D : va_G} {b0 : Nat} {ad : Nat → Nat} {Hb : Heap} {tau : Nat → Int64} {d n s : Nat} {S : Nat → xS} {Z : xZ} {h : mx_H} (hx : XH n s S Z h) (hG : GI n S Z) {r0 : Nat} (or0 : 83 ≤ r0) (ar0 : r0 < n) (sr0 : S r0 = .inl (1, [0]))  : ∃ (z : Int) (Z' : xZ) (h' : mx_H), mx_Ca (tB l D b0 ad Hb tau) (d + 1) 12 [.ref r0, xI 8] h (some (xI z), h') ∧ XH n s S Z' h' ∧ GI n S Z' ∧ fr8 [] Z Z' ∧ (0 ≤ z ∧ z ≤ 7) := by
  obtain ⟨r, hca, z, Z', h', e, q⟩ := Jmt (B := tB l D b0 ad Hb tau) (M := mt_12) (mi := 12) (as := [.ref r0, xI 8]) (d := d + 0) (ls := [some (.ref r0), some (xI 8)]) rfl rfl rfl rfl rfl rfl (cw_12_D_i8 (l := l) (D := D) (b0 := b0) (ad := ad) (Hb := Hb) (tau := tau) (d := d) (Post := fun r => ∃ (z : Int) (Z' : xZ) (h' : mx_H), r = (some (xI z), h') ∧ XH n s S Z' h' ∧ GI n S Z' ∧ fr8 [] Z Z' ∧ (0 ≤ z ∧ z ≤ 7)) hx hG or0 ar0 sr0 (fun z Z' h' q1 q2 q3 q4 => ⟨z, Z', h', rfl, q1, q2, q3, q4⟩))
  subst e; exact ⟨z, Z', h', hca, q⟩
set_option maxRecDepth 100000 in
theorem cw_12_D_i10 {l : Launch} {D : va_G} {b0 : Nat} {ad : Nat → Nat} {Hb : Heap} {tau : Nat → Int64} {d n s : Nat} {S : Nat → xS} {Z : xZ} {h : mx_H} {Post : mx_R → Prop} (hx : XH n s S Z h) (hG : GI n S Z) {r0 : Nat} (or0 : 83 ≤ r0) (ar0 : r0 < n) (sr0 : S r0 = .inl (1, [0]))  (hP : ∀ (z : Int) (Z' : xZ) (h' : mx_H), XH n s S Z' h' → GI n S Z' → fr8 [] Z Z' → 0 ≤ z ∧ z ≤ 9 → Post (some (xI z), h')) : mx_J (tB l D b0 ad Hb tau) mt_12 (d + 0) 0 [some (.ref r0), some (xI 10)] [] h Post := by
    refine mx_J.step (sn_12 0) (fun _ _ => rfl) ?_
    refine JcI (z := 1103515245) (show mx_Sn _ _ 1 (mx_const (.int 1103515245) 3) from sn_12 1) rfl ?_
    refine mx_J.step (sn_12 3) (fun _ _ => rfl) ?_
    refine JgetI (g := 0) (z := Z r0 0) hx (show mx_Sn _ _ 4 (mx_getf 1 0 7) from sn_12 4) ar0 sr0 rfl rfl rfl ?_
    refine JimulN (show mx_Sn _ _ 7 (mx_imul 8) from sn_12 7) (fun y2 hy2 hq2 => ?_)
    refine JcI (z := 12345) (show mx_Sn _ _ 8 (mx_const (.int 12345) 11) from sn_12 8) rfl ?_
    refine JiaddN (show mx_Sn _ _ 11 (mx_iadd 12) from sn_12 11) (fun y3 hy3 hq3 => ?_)
    refine JputI (g := 0) hx (show mx_Sn _ _ 12 (mx_putf 1 1 0 (.int) 15) from sn_12 12) ar0 sr0 (Bool.eq_false_iff.mpr (fun q => by have q : r0 + 1 ≤ 1 := Nat.ble_eq.mp q; omega)) rfl rfl rfl (fun Z4 h4 hx4 hE4 => ?_)
    have hG4 := GI_upD hG hE4 or0 (by omega) (fun len e => by rw [sr0] at e; cases e) (fun e => by rw [sr0] at e; cases e)
    refine mx_J.step (sn_12 15) (fun _ _ => rfl) ?_
    refine JgetI (g := 0) (z := y3) hx4 (show mx_Sn _ _ 16 (mx_getf 1 0 19) from sn_12 16) ar0 sr0 rfl rfl (up_at hE4) ?_
    refine JcI (z := 16) (show mx_Sn _ _ 19 (mx_const (.int 16) 21) from sn_12 19) rfl ?_
    refine Jiushr16 (show mx_Sn _ _ 21 (mx_iushr 22) from sn_12 21) (fun y6 hy6 => ?_)
    refine mx_J.step (sn_12 22) (fun _ _ => rfl) ?_
    refine Jirem (show mx_Sn _ _ 23 (mx_irem 24) from sn_12 23) (by omega) (by omega) ?_
    exact mx_J.ret (sn_12 24) (fun _ _ => rfl) (hP (y6 % 10) Z4 h4 hx4 hG4 (fr8_tr (M := []) fr8_rf (fr8_upD hE4 or0) (M1 := []) rfl rfl) (by omega))
theorem ct_12_D_i10 {l : Launch} {D : va_G} {b0 : Nat} {ad : Nat → Nat} {Hb : Heap} {tau : Nat → Int64} {d n s : Nat} {S : Nat → xS} {Z : xZ} {h : mx_H} (hx : XH n s S Z h) (hG : GI n S Z) {r0 : Nat} (or0 : 83 ≤ r0) (ar0 : r0 < n) (sr0 : S r0 = .inl (1, [0]))  : ∃ (z : Int) (Z' : xZ) (h' : mx_H), mx_Ca (tB l D b0 ad Hb tau) (d + 1) 12 [.ref r0, xI 10] h (some (xI z), h') ∧ XH n s S Z' h' ∧ GI n S Z' ∧ fr8 [] Z Z' ∧ (0 ≤ z ∧ z ≤ 9) := by
  obtain ⟨r, hca, z, Z', h', e, q⟩ := Jmt (B := tB l D b0 ad Hb tau) (M := mt_12) (mi := 12) (as := [.ref r0, xI 10]) (d := d + 0) (ls := [some (.ref r0), some (xI 10)]) rfl rfl rfl rfl rfl rfl (cw_12_D_i10 (l := l) (D := D) (b0 := b0) (ad := ad) (Hb := Hb) (tau := tau) (d := d) (Post := fun r => ∃ (z : Int) (Z' : xZ) (h' : mx_H), r = (some (xI z), h') ∧ XH n s S Z' h' ∧ GI n S Z' ∧ fr8 [] Z Z' ∧ (0 ≤ z ∧ z ≤ 9)) hx hG or0 ar0 sr0 (fun z Z' h' q1 q2 q3 q4 => ⟨z, Z', h', rfl, q1, q2, q3, q4⟩))
  subst e; exact ⟨z, Z', h', hca, q⟩
set_option maxRecDepth 100000 in
theorem cw_13_D {l : Launch} {D : va_G} {b0 : Nat} {ad : Nat → Nat} {Hb : Heap} {tau : Nat → Int64} {d n s : Nat} {S : Nat → xS} {Z : xZ} {h : mx_H} {Post : mx_R → Prop} (hx : XH n s S Z h) (hG : GI n S Z) {r0 : Nat} (or0 : 83 ≤ r0) (ar0 : r0 < n) (sr0 : S r0 = .inl (1, [0]))  (hP : ∀ (z : Int) (Z' : xZ) (h' : mx_H), XH n s S Z' h' → GI n S Z' → fr8 [] Z Z' → 0 ≤ z ∧ z ≤ 3505 → Post (some (xI z), h')) : mx_J (tB l D b0 ad Hb tau) mt_13 (d + 1) 0 [some (.ref r0), none, none] [] h Post := by
    refine mx_J.step (sn_13 0) (fun _ _ => rfl) ?_
    refine JcI (z := 6) (show mx_Sn _ _ 1 (mx_const (.int 6) 3) from sn_13 1) rfl ?_
    obtain ⟨z1, Z1, h1, hc1, hx1, hG1, hf1, b1⟩ := ct_12_D_i6 (d := d + 0) (l := l) (D := D) (b0 := b0) (ad := ad) (Hb := Hb) (tau := tau) hx hG or0 ar0 sr0 
    refine Jcv hx (show mx_Sn _ _ 3 (mx_callv 12 2 1 6) from sn_13 3) ar0 sr0 hc1 rfl rfl rfl ?_
    refine mx_J.step (ls2 := [some (.ref r0), some (xI z1), none]) (sn_13 6) (fun _ _ => rfl) ?_
    refine mx_J.step (sn_13 7) (fun _ _ => rfl) ?_
    refine JcI (z := 3) (show mx_Sn _ _ 8 (mx_const (.int 3) 9) from sn_13 8) rfl ?_
    refine Jicmp_ne (show mx_Sn _ _ 9 (mx_icmp_ne 19 12) from sn_13 9) (by omega) (by omega) (fun q2 => ?_) (fun q2 => ?_)
    · skip
      refine mx_J.step (sn_13 19) (fun _ _ => rfl) ?_
      refine JcI (z := 4) (show mx_Sn _ _ 20 (mx_const (.int 4) 21) from sn_13 20) rfl ?_
      refine Jicmp_ne (show mx_Sn _ _ 21 (mx_icmp_ne 34 24) from sn_13 21) (by omega) (by omega) (fun q3 => ?_) (fun q3 => ?_)
      · skip
        refine mx_J.step (sn_13 34) (fun _ _ => rfl) ?_
        refine JcI (z := 5) (show mx_Sn _ _ 35 (mx_const (.int 5) 36) from sn_13 35) rfl ?_
        refine Jicmp_ne (show mx_Sn _ _ 36 (mx_icmp_ne 62 39) from sn_13 36) (by omega) (by omega) (fun q4 => ?_) (fun q4 => ?_)
        · skip
          refine JcI (z := 0) (show mx_Sn _ _ 62 (mx_const (.int 0) 63) from sn_13 62) rfl ?_
          exact mx_J.ret (sn_13 63) (fun _ _ => rfl) (hP 0 Z1 h1 hx1 hG1 (fr8_tr (M := []) fr8_rf (hf1) (M1 := []) rfl rfl) (by omega))
        · skip
          refine mx_J.step (sn_13 39) (fun _ _ => rfl) ?_
          refine JcI (z := 6) (show mx_Sn _ _ 40 (mx_const (.int 6) 42) from sn_13 40) rfl ?_
          obtain ⟨z5, Z5, h5, hc5, hx5, hG5, hf5, b5⟩ := ct_12_D_i6 (d := d + 0) (l := l) (D := D) (b0 := b0) (ad := ad) (Hb := Hb) (tau := tau) hx1 hG1 or0 ar0 sr0 
          refine Jcv hx1 (show mx_Sn _ _ 42 (mx_callv 12 2 1 45) from sn_13 42) ar0 sr0 hc5 rfl rfl rfl ?_
          refine mx_J.step (ls2 := [some (.ref r0), some (xI z1), some (xI z5)]) (sn_13 45) (fun _ _ => rfl) ?_
          refine JcI (z := 3000) (show mx_Sn _ _ 46 (mx_const (.int 3000) 49) from sn_13 46) rfl ?_
          refine JcI (z := 100) (show mx_Sn _ _ 49 (mx_const (.int 100) 51) from sn_13 49) rfl ?_
          refine mx_J.step (sn_13 51) (fun _ _ => rfl) ?_
          refine Jimul (show mx_Sn _ _ 52 (mx_imul 53) from sn_13 52) ?_
          refine Jiadd (show mx_Sn _ _ 53 (mx_iadd 54) from sn_13 53) ?_
          refine mx_J.step (sn_13 54) (fun _ _ => rfl) ?_
          refine JcI (z := 6) (show mx_Sn _ _ 55 (mx_const (.int 6) 57) from sn_13 55) rfl ?_
          obtain ⟨z6, Z6, h6, hc6, hx6, hG6, hf6, b6⟩ := ct_12_D_i6 (d := d + 0) (l := l) (D := D) (b0 := b0) (ad := ad) (Hb := Hb) (tau := tau) hx5 hG5 or0 ar0 sr0 
          refine Jcv hx5 (show mx_Sn _ _ 57 (mx_callv 12 2 1 60) from sn_13 57) ar0 sr0 hc6 rfl rfl rfl ?_
          refine Jiadd (show mx_Sn _ _ 60 (mx_iadd 61) from sn_13 60) ?_
          exact mx_J.ret (sn_13 61) (fun _ _ => rfl) (hP ((3000 + (100 * z5)) + z6) Z6 h6 hx6 hG6 (fr8_tr (M := []) (fr8_tr (M := []) (fr8_tr (M := []) fr8_rf (hf1) (M1 := []) rfl rfl) (hf5) rfl rfl) (hf6) rfl rfl) (by omega))
      · skip
        refine JcI (z := 20) (show mx_Sn _ _ 24 (mx_const (.int 20) 26) from sn_13 24) rfl ?_
        refine mx_J.step (sn_13 26) (fun _ _ => rfl) ?_
        refine JcI (z := 10) (show mx_Sn _ _ 27 (mx_const (.int 10) 29) from sn_13 27) rfl ?_
        obtain ⟨z7, Z7, h7, hc7, hx7, hG7, hf7, b7⟩ := ct_12_D_i10 (d := d + 0) (l := l) (D := D) (b0 := b0) (ad := ad) (Hb := Hb) (tau := tau) hx1 hG1 or0 ar0 sr0 
        refine Jcv hx1 (show mx_Sn _ _ 29 (mx_callv 12 2 1 32) from sn_13 29) ar0 sr0 hc7 rfl rfl rfl ?_
        refine Jiadd (show mx_Sn _ _ 32 (mx_iadd 33) from sn_13 32) ?_
        exact mx_J.ret (sn_13 33) (fun _ _ => rfl) (hP (20 + z7) Z7 h7 hx7 hG7 (fr8_tr (M := []) (fr8_tr (M := []) fr8_rf (hf1) (M1 := []) rfl rfl) (hf7) rfl rfl) (by omega))
    · skip
      refine mx_J.step (sn_13 12) (fun _ _ => rfl) ?_
      refine JcI (z := 8) (show mx_Sn _ _ 13 (mx_const (.int 8) 15) from sn_13 13) rfl ?_
      obtain ⟨z8, Z8, h8, hc8, hx8, hG8, hf8, b8⟩ := ct_12_D_i8 (d := d + 0) (l := l) (D := D) (b0 := b0) (ad := ad) (Hb := Hb) (tau := tau) hx1 hG1 or0 ar0 sr0 
      refine Jcv hx1 (show mx_Sn _ _ 15 (mx_callv 12 2 1 18) from sn_13 15) ar0 sr0 hc8 rfl rfl rfl ?_
      exact mx_J.ret (sn_13 18) (fun _ _ => rfl) (hP z8 Z8 h8 hx8 hG8 (fr8_tr (M := []) (fr8_tr (M := []) fr8_rf (hf1) (M1 := []) rfl rfl) (hf8) rfl rfl) (by omega))
theorem ct_13_D {l : Launch} {D : va_G} {b0 : Nat} {ad : Nat → Nat} {Hb : Heap} {tau : Nat → Int64} {d n s : Nat} {S : Nat → xS} {Z : xZ} {h : mx_H} (hx : XH n s S Z h) (hG : GI n S Z) {r0 : Nat} (or0 : 83 ≤ r0) (ar0 : r0 < n) (sr0 : S r0 = .inl (1, [0]))  : ∃ (z : Int) (Z' : xZ) (h' : mx_H), mx_Ca (tB l D b0 ad Hb tau) (d + 2) 13 [.ref r0] h (some (xI z), h') ∧ XH n s S Z' h' ∧ GI n S Z' ∧ fr8 [] Z Z' ∧ (0 ≤ z ∧ z ≤ 3505) := by
  obtain ⟨r, hca, z, Z', h', e, q⟩ := Jmt (B := tB l D b0 ad Hb tau) (M := mt_13) (mi := 13) (as := [.ref r0]) (d := d + 1) (ls := [some (.ref r0), none, none]) rfl rfl rfl rfl rfl rfl (cw_13_D (l := l) (D := D) (b0 := b0) (ad := ad) (Hb := Hb) (tau := tau) (d := d) (Post := fun r => ∃ (z : Int) (Z' : xZ) (h' : mx_H), r = (some (xI z), h') ∧ XH n s S Z' h' ∧ GI n S Z' ∧ fr8 [] Z Z' ∧ (0 ≤ z ∧ z ≤ 3505)) hx hG or0 ar0 sr0 (fun z Z' h' q1 q2 q3 q4 => ⟨z, Z', h', rfl, q1, q2, q3, q4⟩))
  subst e; exact ⟨z, Z', h', hca, q⟩
set_option maxHeartbeats 8000000 in
set_option maxRecDepth 100000 in
theorem cw_103_1 {l : Launch} {D : va_G} {b0 : Nat} {ad : Nat → Nat} {Hb : Heap} {tau : Nat → Int64} {d n s : Nat} {S : Nat → xS} {Z : xZ} {h : mx_H} {Post : mx_R → Prop} (hx : XH n s S Z h) (hG : GI n S Z)  {x0 x1 : Int} (p0 : (-2147483648) ≤ x0 ∧ x0 ≤ 2147483647) (p1 : (-2147483648) ≤ x1 ∧ x1 ≤ 2147483647) (k0 : ((n : Nat) : Int) ≤ 4095) (hP : ∀ (z : Int) (n' s' : Nat) (S' : Nat → xS) (Z' : xZ) (h' : mx_H), XH n' s' S' Z' h' → GI n' S' Z' → fr8 [(12, 2), (14, (-1)), (16, (-1)), (17, (-1)), (18, (-1)), (19, (-1)), (36, 0), (36, 1), (36, 2), (36, 3), (36, 4), (38, 0), (38, 1), (38, 2), (38, 3), (38, 4), (40, 1), (41, (-1)), (42, (-1))] Z Z' → (-2147483648) ≤ z ∧ z ≤ 2147483647 ∧ (((n : Nat) : Int) ≤ ((n' : Nat) : Int) ∧ ((s : Nat) : Int) ≤ ((s' : Nat) : Int) ∧ ((s' : Nat) : Int) ≤ ((s : Nat) : Int) + 900 * (((n' : Nat) : Int) - ((n : Nat) : Int)) ∧ ((n' : Nat) : Int) ≤ ((n : Nat) : Int) + 1) → Post (some (xI z), h')) : mx_J (tB l D b0 ad Hb tau) mt_103 (d + 6) 0 [some (.ref 1), some (xI x0), some (xI x1), none, none, none] [] h Post := by
    refine mx_J.step (sn_103 0) (fun _ _ => rfl) ?_
    refine JcI (z := 1) (show mx_Sn _ _ 1 (mx_const (.int 1) 2) from sn_103 1) rfl ?_
    have c11 : mx_J (tB l D b0 ad Hb tau) mt_103 (d + 6) 11 [some (.ref 1), some (xI x0), some (xI x1), none, none, none] [] h Post := by
      refine JcI (z := (-3)) (show mx_Sn _ _ 11 (mx_const (.int (-3)) 13) from sn_103 11) rfl ?_
      exact mx_J.ret (sn_103 13) (fun _ _ => rfl) (hP (-3) n s S Z h hx hG fr8_rf (by omega))
    refine Jicmp_lt (show mx_Sn _ _ 2 (mx_icmp_lt 11 5) from sn_103 2) (by omega) (by omega) (fun q2 => ?_) (fun q2 => ?_)
    · skip
      exact c11 
    · skip
      refine mx_J.step (sn_103 5) (fun _ _ => rfl) ?_
      refine JcI (z := 40) (show mx_Sn _ _ 6 (mx_const (.int 40) 8) from sn_103 6) rfl ?_
      refine Jicmp_le (show mx_Sn _ _ 8 (mx_icmp_le 14 11) from sn_103 8) (by omega) (by omega) (fun q3 => ?_) (fun q3 => ?_)
      · skip
        refine mx_J.step (sn_103 14) (fun _ _ => rfl) ?_
        refine JgetR (g := 13) (b := 38) hx (show mx_Sn _ _ 15 (mx_getf 11 13 18) from sn_103 15) (lt83 (GI_n hG) rfl) (show S 1 = .inl (11, [2, 0, 0, 0, 2, 2, 2, 2, 2, 2, 2, 2, 2, 2, 2, 2, 2]) from GI_s hG 1 rfl) rfl rfl (hG.prr 1 13 rfl) ?_
        refine mx_J.step (sn_103 18) (fun _ _ => rfl) ?_
        refine JgetR (g := 12) (b := 36) hx (show mx_Sn _ _ 19 (mx_getf 11 12 22) from sn_103 19) (lt83 (GI_n hG) rfl) (show S 1 = .inl (11, [2, 0, 0, 0, 2, 2, 2, 2, 2, 2, 2, 2, 2, 2, 2, 2, 2]) from GI_s hG 1 rfl) rfl rfl (hG.prr 1 12 rfl) ?_
        obtain ⟨Z6, h6, hc6, hx6, hG6, hf6⟩ := ct_33_38_36 (d := d + 5) (l := l) (D := D) (b0 := b0) (ad := ad) (Hb := Hb) (tau := tau) hx hG 
        refine Jcv0 hx (show mx_Sn _ _ 22 (mx_callv 33 2 5 25) from sn_103 22) (lt83 (GI_n hG) rfl) (show S 38 = .inl (5, [2, 0, 0, 0, 0, 0]) from GI_s hG 38 rfl) hc6 rfl rfl rfl ?_
        refine JnewD hx6 hG6 (show mx_Sn _ _ 25 (mx_new 1 1 [.int 0] 28) from sn_103 25) (by omega) (fun n7 s7 S7 Z7 h7 en7 es7 hx7 hG7 hf7 or7 ar7 sr7 => ?_)
        obtain ⟨r7, er7⟩ : ∃ q, q = n := ⟨_, rfl⟩
        rw [← er7] at or7 ar7 sr7 ⊢
        refine mx_J.step (sn_103 28) (fun _ _ => rfl) ?_
        refine mx_J.step (sn_103 29) (fun _ _ => rfl) ?_
        obtain ⟨Z8, h8, hc8, hx8, hG8, hf8⟩ := ct_11_D (d := d + 4) (l := l) (D := D) (b0 := b0) (ad := ad) (Hb := Hb) (tau := tau) hx7 hG7 or7 ar7 sr7 (show (-2147483648) ≤ x0 ∧ x0 ≤ 2147483647 by omega)
        refine Jci0 (show mx_Sn _ _ 30 (mx_calli 11 2 33) from sn_103 30) hc8 rfl rfl rfl ?_
        refine mx_J.step (ls2 := [some (.ref 1), some (xI x0), some (xI x1), some (.ref r7), none, none]) (sn_103 33) (fun _ _ => rfl) ?_
        refine JcI (z := 0) (show mx_Sn _ _ 34 (mx_const (.int 0) 35) from sn_103 34) rfl ?_
        refine mx_J.step (ls2 := [some (.ref 1), some (xI x0), some (xI x1), some (.ref r7), some (xI 0), none]) (sn_103 35) (fun _ _ => rfl) ?_
        refine JcI (z := 0) (show mx_Sn _ _ 37 (mx_const (.int 0) 38) from sn_103 37) rfl ?_
        refine mx_J.step (ls2 := [some (.ref 1), some (xI x0), some (xI x1), some (.ref r7), some (xI 0), some (xI 0)]) (sn_103 38) (fun _ _ => rfl) ?_
        have c40 : ∀ (m9 : Nat) (w9_4 : Int) (w9_5 : Int) (Z10 : xZ) (h10 : mx_H), 40 - w9_5 < (m9 : Int) → (-2147483648) ≤ w9_4 ∧ w9_4 ≤ 2147483647 → 0 ≤ w9_5 ∧ w9_5 ≤ 40 → XH n7 s7 S7 Z10 h10 → GI n7 S7 Z10 → fr8 [(12, 2), (14, (-1)), (16, (-1)), (17, (-1)), (18, (-1)), (19, (-1)), (38, 2), (38, 3), (38, 4), (42, (-1))] Z8 Z10 → mx_J (tB l D b0 ad Hb tau) mt_103 (d + 6) 40 [some (.ref 1), some (xI x0), some (xI x1), some (.ref r7), some (xI w9_4), some (xI w9_5)] [] h10 Post := by
          intro m9
          induction m9 with
          | zero => intro w9_4 w9_5 Z10 h10 q9 f9_0 f9_1 hx10 hG10 hf10; exact absurd q9 (by omega)
          | succ m9 ih9 =>
            intro w9_4 w9_5 Z10 h10 q9 f9_0 f9_1 hx10 hG10 hf10
            refine mx_J.step (sn_103 40) (fun _ _ => rfl) ?_
            refine mx_J.step (sn_103 42) (fun _ _ => rfl) ?_
            refine Jicmp_ge (show mx_Sn _ _ 43 (mx_icmp_ge 71 46) from sn_103 43) (by omega) (by omega) (fun q11 => ?_) (fun q11 => ?_)
            · skip
              refine mx_J.step (sn_103 71) (fun _ _ => rfl) ?_
              have c80 : ∀  (Z13 : xZ) (h13 : mx_H), XH n7 s7 S7 Z13 h13 → GI n7 S7 Z13 → fr8 [(12, 2), (17, (-1)), (36, 0), (36, 1), (36, 2), (36, 3), (36, 4), (40, 1), (41, (-1))] Z10 Z13 → mx_J (tB l D b0 ad Hb tau) mt_103 (d + 6) 80 [some (.ref 1), some (xI x0), some (xI x1), some (.ref r7), some (xI w9_4), some (xI w9_5)] [] h13 Post := by
                intro Z13 h13 hx13 hG13 hf13
                refine mx_J.step (sn_103 80) (fun _ _ => rfl) ?_
                exact mx_J.ret (sn_103 82) (fun _ _ => rfl) (hP w9_4 n7 s7 S7 Z13 h13 hx13 hG13 (fr8_tr (M := [(12, 2), (14, (-1)), (16, (-1)), (17, (-1)), (18, (-1)), (19, (-1)), (36, 0), (36, 1), (36, 2), (36, 3), (36, 4), (38, 0), (38, 1), (38, 2), (38, 3), (38, 4), (40, 1), (41, (-1)), (42, (-1))]) (fr8_tr (M := [(12, 2), (14, (-1)), (16, (-1)), (17, (-1)), (18, (-1)), (19, (-1)), (36, 0), (36, 1), (36, 2), (36, 3), (36, 4), (38, 0), (38, 1), (38, 2), (38, 3), (38, 4), (40, 1), (41, (-1)), (42, (-1))]) (fr8_tr (M := [(12, 2), (14, (-1)), (16, (-1)), (17, (-1)), (18, (-1)), (19, (-1)), (36, 0), (36, 1), (36, 2), (36, 3), (36, 4), (38, 0), (38, 1), (38, 2), (38, 3), (38, 4), (40, 1), (41, (-1)), (42, (-1))]) (fr8_tr (M := [(12, 2), (14, (-1)), (16, (-1)), (17, (-1)), (18, (-1)), (19, (-1)), (36, 0), (36, 1), (36, 2), (36, 3), (36, 4), (38, 0), (38, 1), (38, 2), (38, 3), (38, 4), (40, 1), (41, (-1)), (42, (-1))]) (fr8_tr (M := [(12, 2), (14, (-1)), (16, (-1)), (17, (-1)), (18, (-1)), (19, (-1)), (36, 0), (36, 1), (36, 2), (36, 3), (36, 4), (38, 0), (38, 1), (38, 2), (38, 3), (38, 4), (40, 1), (41, (-1)), (42, (-1))]) fr8_rf (fr8_of (hf6)) (M1 := []) rfl rfl) (hf7) rfl rfl) (hf8) rfl rfl) (hf10) rfl rfl) (hf13) rfl rfl) (by omega))
              refine Jif_le (show mx_Sn _ _ 73 (mx_if_le 80 76) from sn_103 73) (by omega) (fun q14 => ?_) (fun q14 => ?_)
              · skip
                exact c80 Z10 h10 hx10 hG10 fr8_rf
              · skip
                refine mx_J.step (sn_103 76) (fun _ _ => rfl) ?_
                obtain ⟨Z15, h15, hc15, hx15, hG15, hf15⟩ := ct_137_1 (d := d + 3) (l := l) (D := D) (b0 := b0) (ad := ad) (Hb := Hb) (tau := tau) hx10 hG10 
                refine Jcv0 hx10 (show mx_Sn _ _ 77 (mx_callv 137 1 11 80) from sn_103 77) (lt83 (GI_n hG10) rfl) (show S7 1 = .inl (11, [2, 0, 0, 0, 2, 2, 2, 2, 2, 2, 2, 2, 2, 2, 2, 2, 2]) from GI_s hG10 1 rfl) hc15 rfl rfl rfl ?_
                exact c80 Z15 h15 hx15 hG15 (fr8_tr (M := [(12, 2), (17, (-1)), (36, 0), (36, 1), (36, 2), (36, 3), (36, 4), (40, 1), (41, (-1))]) fr8_rf (fr8_of (hf15)) (M1 := []) rfl rfl)
            · skip
              refine mx_J.step (sn_103 46) (fun _ _ => rfl) ?_
              refine mx_J.step (sn_103 47) (fun _ _ => rfl) ?_
              refine JgetR (g := 13) (b := 38) hx10 (show mx_Sn _ _ 48 (mx_getf 11 13 51) from sn_103 48) (lt83 (GI_n hG10) rfl) (show S7 1 = .inl (11, [2, 0, 0, 0, 2, 2, 2, 2, 2, 2, 2, 2, 2, 2, 2, 2, 2]) from GI_s hG10 1 rfl) rfl rfl (hG10.prr 1 13 rfl) ?_
              refine mx_J.step (sn_103 51) (fun _ _ => rfl) ?_
              obtain ⟨z17, Z17, h17, hc17, hx17, hG17, hf17, b17⟩ := ct_13_D (d := d + 4) (l := l) (D := D) (b0 := b0) (ad := ad) (Hb := Hb) (tau := tau) hx10 hG10 or7 ar7 sr7 
              refine Jcv hx10 (show mx_Sn _ _ 52 (mx_callv 13 1 1 55) from sn_103 52) ar7 sr7 hc17 rfl rfl rfl ?_
              refine Ji2l (show mx_Sn _ _ 55 (mx_i2l 56) from sn_103 55) (by omega) ?_
              obtain ⟨z18, Z18, h18, hc18, hx18, hG18, hf18, b18⟩ := ct_139_1_38 (d := d + 0) (l := l) (D := D) (b0 := b0) (ad := ad) (Hb := Hb) (tau := tau) hx17 hG17 (show (-9223372036854775808) ≤ z17 ∧ z17 ≤ 9223372036854775807 by omega)
              refine Jcv hx17 (show mx_Sn _ _ 56 (mx_callv 139 3 11 59) from sn_103 56) (lt83 (GI_n hG17) rfl) (show S7 1 = .inl (11, [2, 0, 0, 0, 2, 2, 2, 2, 2, 2, 2, 2, 2, 2, 2, 2, 2]) from GI_s hG17 1 rfl) hc18 rfl rfl rfl ?_
              have c65 : ∀ (w19_4 : Int), (-2147483648) ≤ w19_4 ∧ w19_4 ≤ 2147483647 → mx_J (tB l D b0 ad Hb tau) mt_103 (d + 6) 65 [some (.ref 1), some (xI x0), some (xI x1), some (.ref r7), some (xI w19_4), some (xI w9_5)] [] h18 Post := by
                intro w19_4 f19_0
                refine Jiinc (z := w9_5) (cz := 1) (ls2 := [some (.ref 1), some (xI x0), some (xI x1), some (.ref r7), some (xI w19_4), some (xI (w9_5 + 1))]) (show mx_Sn _ _ 65 (mx_iinc 5 1 68) from sn_103 65) rfl rfl rfl rfl ?_
                refine mx_J.step (sn_103 68) (fun _ _ => rfl) ?_
                exact ih9 w19_4 (w9_5 + 1) Z18 h18 (by omega) (by omega) (by omega) hx18 hG18 (fr8_tr (M := [(12, 2), (14, (-1)), (16, (-1)), (17, (-1)), (18, (-1)), (19, (-1)), (38, 2), (38, 3), (38, 4), (42, (-1))]) (fr8_tr (M := [(12, 2), (14, (-1)), (16, (-1)), (17, (-1)), (18, (-1)), (19, (-1)), (38, 2), (38, 3), (38, 4), (42, (-1))]) (fr8_tr (M := [(12, 2), (14, (-1)), (16, (-1)), (17, (-1)), (18, (-1)), (19, (-1)), (38, 2), (38, 3), (38, 4), (42, (-1))]) fr8_rf (hf10) (M1 := []) rfl rfl) (hf17) rfl rfl) (fr8_of (hf18)) rfl rfl)
              refine Jif_ne (show mx_Sn _ _ 59 (mx_if_ne 65 62) from sn_103 59) (by omega) (fun q20 => ?_) (fun q20 => ?_)
              · skip
                exact c65 w9_4 (by omega)
              · skip
                refine JiincN (z := w9_4) (cz := 1) (show mx_Sn _ _ 62 (mx_iinc 4 1 65) from sn_103 62) rfl rfl rfl (fun y21 hy21 hq21 => ?_)
                show mx_J _ _ _ _ [some (.ref 1), some (xI x0), some (xI x1), some (.ref r7), some (xI y21), some (xI w9_5)] _ _ _
                exact c65 y21 (by omega)
        exact c40 (Int.toNat (40 - 0) + 1) 0 0 Z8 h8 (by omega) (by omega) (by omega) hx8 hG8 fr8_rf
      · skip
        exact c11 
theorem ct_103_1 {l : Launch} {D : va_G} {b0 : Nat} {ad : Nat → Nat} {Hb : Heap} {tau : Nat → Int64} {d n s : Nat} {S : Nat → xS} {Z : xZ} {h : mx_H} (hx : XH n s S Z h) (hG : GI n S Z)  {x0 x1 : Int} (p0 : (-2147483648) ≤ x0 ∧ x0 ≤ 2147483647) (p1 : (-2147483648) ≤ x1 ∧ x1 ≤ 2147483647) (k0 : ((n : Nat) : Int) ≤ 4095) : ∃ (z : Int) (n' s' : Nat) (S' : Nat → xS) (Z' : xZ) (h' : mx_H), mx_Ca (tB l D b0 ad Hb tau) (d + 7) 103 [.ref 1, xI x0, xI x1] h (some (xI z), h') ∧ XH n' s' S' Z' h' ∧ GI n' S' Z' ∧ fr8 [(12, 2), (14, (-1)), (16, (-1)), (17, (-1)), (18, (-1)), (19, (-1)), (36, 0), (36, 1), (36, 2), (36, 3), (36, 4), (38, 0), (38, 1), (38, 2), (38, 3), (38, 4), (40, 1), (41, (-1)), (42, (-1))] Z Z' ∧ ((-2147483648) ≤ z ∧ z ≤ 2147483647 ∧ (((n : Nat) : Int) ≤ ((n' : Nat) : Int) ∧ ((s : Nat) : Int) ≤ ((s' : Nat) : Int) ∧ ((s' : Nat) : Int) ≤ ((s : Nat) : Int) + 900 * (((n' : Nat) : Int) - ((n : Nat) : Int)) ∧ ((n' : Nat) : Int) ≤ ((n : Nat) : Int) + 1)) := by
  obtain ⟨r, hca, z, n', s', S', Z', h', e, q⟩ := Jmt (B := tB l D b0 ad Hb tau) (M := mt_103) (mi := 103) (as := [.ref 1, xI x0, xI x1]) (d := d + 6) (ls := [some (.ref 1), some (xI x0), some (xI x1), none, none, none]) rfl rfl rfl rfl rfl rfl (cw_103_1 (l := l) (D := D) (b0 := b0) (ad := ad) (Hb := Hb) (tau := tau) (d := d) (Post := fun r => ∃ (z : Int) (n' s' : Nat) (S' : Nat → xS) (Z' : xZ) (h' : mx_H), r = (some (xI z), h') ∧ XH n' s' S' Z' h' ∧ GI n' S' Z' ∧ fr8 [(12, 2), (14, (-1)), (16, (-1)), (17, (-1)), (18, (-1)), (19, (-1)), (36, 0), (36, 1), (36, 2), (36, 3), (36, 4), (38, 0), (38, 1), (38, 2), (38, 3), (38, 4), (40, 1), (41, (-1)), (42, (-1))] Z Z' ∧ ((-2147483648) ≤ z ∧ z ≤ 2147483647 ∧ (((n : Nat) : Int) ≤ ((n' : Nat) : Int) ∧ ((s : Nat) : Int) ≤ ((s' : Nat) : Int) ∧ ((s' : Nat) : Int) ≤ ((s : Nat) : Int) + 900 * (((n' : Nat) : Int) - ((n : Nat) : Int)) ∧ ((n' : Nat) : Int) ≤ ((n : Nat) : Int) + 1))) hx hG p0 p1 k0 (fun z n' s' S' Z' h' q1 q2 q3 q4 => ⟨z, n', s', S', Z', h', rfl, q1, q2, q3, q4⟩))
  subst e; exact ⟨z, n', s', S', Z', h', hca, q⟩
