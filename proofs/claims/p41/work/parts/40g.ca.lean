set_option maxRecDepth 100000 in
theorem cw_56_3 {l : Launch} {D : va_G} {b0 : Nat} {ad : Nat → Nat} {Hb : Heap} {tau : Nat → Int64} {d n s : Nat} {S : Nat → xS} {Z : xZ} {h : mx_H} {Post : mx_R → Prop} (hx : XH n s S Z h) (hG : GI n S Z)   (k0 : Z 3 0 = 2) (k1 : Z 3 2 ≤ Z 3 1) (hP : ∀ (Z' : xZ) (h' : mx_H), XH n s S Z' h' → GI n S Z' → fr' [(3, 2), (3, 3), (3, 4), (3, 5)] Z Z' → ((¬ Z 3 14 = 0 ∧ Z' 3 2 = Z 3 2 ∧ Z' 3 3 = Z 3 3 ∧ Z' 3 4 = Z 3 4) ∨ (Z 3 14 = 0 ∧ Z 3 2 ≤ Z' 3 3 ∧ Z' 3 3 ≤ Z' 3 2 ∧ Z' 3 2 ≤ Z 3 1 ∧ (Z' 3 4 = 0 ∨ Z' 3 3 < Z' 3 2))) → Post (none, h')) : mx_J (tB l D b0 ad Hb tau) mt_56 (d + 5) 0 [some (.ref 3), none] [] h Post := by
    have a2 : 2 < n := lt83 (GI_n hG) rfl
    have s2 : S 2 = .inr (.byte, 900, 0) := GI_s hG 2 rfl
    have a3 : 3 < n := lt83 (GI_n hG) rfl
    have s3 : S 3 = .inl (7, [2, 0, 0, 0, 0, 0, 2, 0, 2, 2, 0, 2, 0, 0, 0, 0]) := GI_s hG 3 rfl
    refine mx_J.step (sn_56 0) (fun _ _ => rfl) ?_
    have b2 : 0 ≤ Z 3 14 ∧ Z 3 14 ≤ 4 := hG.pr 3 14
    refine JgetI (g := 14) (z := Z 3 14) hx (show mx_Sn _ _ 1 (mx_getf 7 14 4) from sn_56 1) a3 s3 rfl rfl rfl ?_
    refine Jif_eq (show mx_Sn _ _ 4 (mx_if_eq 8 7) from sn_56 4) (by omega) (fun q3 => ?_) (fun q3 => ?_)
    · skip
      have c8 : ∀ (m4 : Nat)  (Z5 : xZ) (h5 : mx_H), Z 3 1 - Z5 3 2 < (m4 : Int) → (Z5 3 2 ≤ Z 3 1 ∧ Z 3 2 ≤ Z5 3 2) → XH n s S Z5 h5 → GI n S Z5 → fr' [(3, 2)] Z Z5 → mx_J (tB l D b0 ad Hb tau) mt_56 (d + 5) 8 [some (.ref 3), none] [] h5 Post := by
        intro m4
        induction m4 with
        | zero => intro Z5 h5 q4 f4_0 hx5 hG5 hf5; exact absurd q4 (by omega)
        | succ m4 ih4 =>
          intro Z5 h5 q4 f4_0 hx5 hG5 hf5
          have b6 : 0 ≤ Z5 3 2 ∧ Z5 3 2 ≤ 900 := hG5.pr 3 2
          have b7 : 0 ≤ Z5 3 2 ∧ Z5 3 2 ≤ 900 := hG5.pr 3 2
          refine mx_J.step (sn_56 8) (fun _ _ => rfl) ?_
          have b9 : 0 ≤ Z5 3 2 ∧ Z5 3 2 ≤ 900 := hG5.pr 3 2
          refine JgetI (g := 2) (z := Z5 3 2) hx5 (show mx_Sn _ _ 9 (mx_getf 7 2 12) from sn_56 9) a3 s3 rfl rfl rfl ?_
          refine mx_J.step (sn_56 12) (fun _ _ => rfl) ?_
          have b11 : 0 ≤ Z 3 1 ∧ Z 3 1 ≤ 900 := hG.pr 3 1
          refine JgetI (g := 1) (z := Z 3 1) hx5 (show mx_Sn _ _ 13 (mx_getf 7 1 16) from sn_56 13) a3 s3 rfl rfl (hf5 3 1 rfl) ?_
          have c60 : mx_J (tB l D b0 ad Hb tau) mt_56 (d + 5) 60 [some (.ref 3), none] [] h5 Post := by
            refine mx_J.step (sn_56 60) (fun _ _ => rfl) ?_
            refine mx_J.step (sn_56 61) (fun _ _ => rfl) ?_
            have b14 : 0 ≤ Z5 3 2 ∧ Z5 3 2 ≤ 900 := hG5.pr 3 2
            refine JgetI (g := 2) (z := Z5 3 2) hx5 (show mx_Sn _ _ 62 (mx_getf 7 2 65) from sn_56 62) a3 s3 rfl rfl rfl ?_
            refine JputI (g := 3) hx5 (show mx_Sn _ _ 65 (mx_putf 1 7 3 (.int) 68) from sn_56 65) a3 s3 rfl rfl rfl rfl (fun Z15 h15 hx15 hE15 => ?_)
            have hG15 := GI_up hG5 hE15 (show 0 ≤ Z5 3 2 ∧ Z5 3 2 ≤ 900 by omega) trivial rfl
            refine mx_J.step (sn_56 68) (fun _ _ => rfl) ?_
            have b17 : 0 ≤ Z5 3 2 ∧ Z5 3 2 ≤ 900 := hG5.pr 3 2
            refine JgetI (g := 2) (z := Z5 3 2) hx15 (show mx_Sn _ _ 69 (mx_getf 7 2 72) from sn_56 69) a3 s3 rfl rfl (up_ni hE15 (by decide)) ?_
            refine mx_J.step (sn_56 72) (fun _ _ => rfl) ?_
            have b19 : 0 ≤ Z 3 1 ∧ Z 3 1 ≤ 900 := hG.pr 3 1
            refine JgetI (g := 1) (z := Z 3 1) hx15 (show mx_Sn _ _ 73 (mx_getf 7 1 76) from sn_56 73) a3 s3 rfl rfl ((up_ni hE15 (by decide)).trans (hf5 3 1 rfl)) ?_
            have c182 : ∀ (u20_1 : Option Value) (Z21 : xZ) (h21 : mx_H), (Z 3 2 ≤ Z21 3 3 ∧ Z21 3 3 ≤ Z21 3 2 ∧ Z21 3 2 ≤ Z 3 1 ∧ (Z21 3 4 = 0 ∨ Z21 3 3 < Z21 3 2)) → XH n s S Z21 h21 → GI n S Z21 → fr' [(3, 2), (3, 4), (3, 5)] Z15 Z21 → mx_J (tB l D b0 ad Hb tau) mt_56 (d + 5) 182 [some (.ref 3), u20_1] [] h21 Post := by
              intro u20_1 Z21 h21 f20_0 hx21 hG21 hf21
              have b22 : 0 ≤ Z21 3 2 ∧ Z21 3 2 ≤ 900 := hG21.pr 3 2
              have eq23 : Z21 3 3 = Z5 3 2 := ((hf21 3 3 rfl).trans (up_at hE15))
              have b24 : 0 ≤ Z21 3 4 ∧ Z21 3 4 ≤ 400 := hG21.pr 3 4
              have b25 : 0 ≤ Z21 3 2 ∧ Z21 3 2 ≤ 900 := hG21.pr 3 2
              have eq26 : Z21 3 3 = Z5 3 2 := ((hf21 3 3 rfl).trans (up_at hE15))
              have b27 : 0 ≤ Z21 3 4 ∧ Z21 3 4 ≤ 400 := hG21.pr 3 4
              have eq28 : Z21 3 0 = Z 3 0 := ((hf21 3 0 rfl).trans ((up_ni hE15 (by decide)).trans (hf5 3 0 rfl)))
              have b29 : 2 ≤ Z 3 0 ∧ Z 3 0 ≤ 4 := hG.pr 3 0
              have eq30 : Z21 3 1 = Z 3 1 := ((hf21 3 1 rfl).trans ((up_ni hE15 (by decide)).trans (hf5 3 1 rfl)))
              have b31 : 0 ≤ Z 3 1 ∧ Z 3 1 ≤ 900 := hG.pr 3 1
              have b32 : 0 ≤ Z21 3 2 ∧ Z21 3 2 ≤ 900 := hG21.pr 3 2
              have eq33 : Z21 3 3 = Z5 3 2 := ((hf21 3 3 rfl).trans (up_at hE15))
              have b34 : 0 ≤ Z21 3 4 ∧ Z21 3 4 ≤ 400 := hG21.pr 3 4
              have eq35 : Z21 3 14 = Z 3 14 := ((hf21 3 14 rfl).trans ((up_ni hE15 (by decide)).trans (hf5 3 14 rfl)))
              have b36 : 0 ≤ Z 3 14 ∧ Z 3 14 ≤ 4 := hG.pr 3 14
              exact mx_J.ret (sn_56 182) (fun _ _ => rfl) (hP Z21 h21 hx21 hG21 (fr_tr (M := [(3, 2), (3, 3), (3, 4), (3, 5)]) (fr_tr (M := [(3, 2), (3, 3), (3, 4), (3, 5)]) (fr_tr (M := [(3, 2), (3, 3), (3, 4), (3, 5)]) fr_rf (hf5) (M1 := []) rfl rfl) (fr_up hE15) rfl rfl) (hf21) rfl rfl) (by omega))
            refine Jicmp_lt (show mx_Sn _ _ 76 (mx_icmp_lt 87 79) from sn_56 76) (by omega) (by omega) (fun q37 => ?_) (fun q37 => ?_)
            · skip
              refine mx_J.step (sn_56 87) (fun _ _ => rfl) ?_
              refine mx_J.step (sn_56 88) (fun _ _ => rfl) ?_
              have b39 : 0 ≤ Z5 3 2 ∧ Z5 3 2 ≤ 900 := hG5.pr 3 2
              refine JgetI (g := 2) (z := Z5 3 2) hx15 (show mx_Sn _ _ 89 (mx_getf 7 2 92) from sn_56 89) a3 s3 rfl rfl (up_ni hE15 (by decide)) ?_
              refine JcI (z := 97) (show mx_Sn _ _ 92 (mx_const (.int 97) 94) from sn_56 92) rfl ?_
              refine JcI (z := 122) (show mx_Sn _ _ 94 (mx_const (.int 122) 96) from sn_56 94) rfl ?_
              have eq41 : Z15 3 0 = Z 3 0 := ((up_ni hE15 (by decide)).trans (hf5 3 0 rfl))
              have b42 : 2 ≤ Z 3 0 ∧ Z 3 0 ≤ 4 := hG.pr 3 0
              have eq43 : Z15 3 1 = Z 3 1 := ((up_ni hE15 (by decide)).trans (hf5 3 1 rfl))
              have b44 : 0 ≤ Z 3 1 ∧ Z 3 1 ≤ 900 := hG.pr 3 1
              have eq45 : Z15 2 (Z5 3 2) = Z 2 (Z5 3 2) := ((up_nk hE15 rfl).trans (hf5 2 (Z5 3 2) rfl))
              have b46 : (-128) ≤ Z 2 (Z5 3 2) ∧ Z 2 (Z5 3 2) ≤ 127 := hG.pr 2 (Z5 3 2)
              obtain ⟨z40, hc40, b40⟩ := ct_57_3 (d := d + 4) (l := l) (D := D) (b0 := b0) (ad := ad) (Hb := Hb) (tau := tau) hx15 hG15 (show 0 ≤ Z5 3 2 ∧ Z5 3 2 ≤ 900 by omega) (show 48 ≤ 97 ∧ 97 ≤ 97 by omega) (show 57 ≤ 122 ∧ 122 ≤ 122 by omega) (show Z15 3 0 = 2 by first | omega | (simp only [eq41, eq43, eq45]; omega))
              try rw [eq41] at b40
              try rw [eq43] at b40
              try rw [eq45] at b40
              refine Jcv hx15 (show mx_Sn _ _ 96 (mx_callv 57 4 7 99) from sn_56 96) a3 s3 hc40 rfl rfl rfl ?_
              refine Jif_eq (show mx_Sn _ _ 99 (mx_if_eq 113 102) from sn_56 99) (by omega) (fun q47 => ?_) (fun q47 => ?_)
              · skip
                refine mx_J.step (sn_56 113) (fun _ _ => rfl) ?_
                refine mx_J.step (sn_56 114) (fun _ _ => rfl) ?_
                have b49 : 0 ≤ Z5 3 2 ∧ Z5 3 2 ≤ 900 := hG5.pr 3 2
                refine JgetI (g := 2) (z := Z5 3 2) hx15 (show mx_Sn _ _ 115 (mx_getf 7 2 118) from sn_56 115) a3 s3 rfl rfl (up_ni hE15 (by decide)) ?_
                refine JcI (z := 48) (show mx_Sn _ _ 118 (mx_const (.int 48) 120) from sn_56 118) rfl ?_
                refine JcI (z := 57) (show mx_Sn _ _ 120 (mx_const (.int 57) 122) from sn_56 120) rfl ?_
                have eq51 : Z15 3 0 = Z 3 0 := ((up_ni hE15 (by decide)).trans (hf5 3 0 rfl))
                have b52 : 2 ≤ Z 3 0 ∧ Z 3 0 ≤ 4 := hG.pr 3 0
                have eq53 : Z15 3 1 = Z 3 1 := ((up_ni hE15 (by decide)).trans (hf5 3 1 rfl))
                have b54 : 0 ≤ Z 3 1 ∧ Z 3 1 ≤ 900 := hG.pr 3 1
                have eq55 : Z15 2 (Z5 3 2) = Z 2 (Z5 3 2) := ((up_nk hE15 rfl).trans (hf5 2 (Z5 3 2) rfl))
                have b56 : (-128) ≤ Z 2 (Z5 3 2) ∧ Z 2 (Z5 3 2) ≤ 127 := hG.pr 2 (Z5 3 2)
                obtain ⟨z50, hc50, b50⟩ := ct_57_3 (d := d + 4) (l := l) (D := D) (b0 := b0) (ad := ad) (Hb := Hb) (tau := tau) hx15 hG15 (show 0 ≤ Z5 3 2 ∧ Z5 3 2 ≤ 900 by omega) (show 48 ≤ 48 ∧ 48 ≤ 97 by omega) (show 57 ≤ 57 ∧ 57 ≤ 122 by omega) (show Z15 3 0 = 2 by first | omega | (simp only [eq51, eq53, eq55]; omega))
                try rw [eq51] at b50
                try rw [eq53] at b50
                try rw [eq55] at b50
                refine Jcv hx15 (show mx_Sn _ _ 122 (mx_callv 57 4 7 125) from sn_56 122) a3 s3 hc50 rfl rfl rfl ?_
                refine Jif_eq (show mx_Sn _ _ 125 (mx_if_eq 139 128) from sn_56 125) (by omega) (fun q57 => ?_) (fun q57 => ?_)
                · skip
                  refine mx_J.step (sn_56 139) (fun _ _ => rfl) ?_
                  refine JgetR (g := 0) (b := 2) hx15 (show mx_Sn _ _ 140 (mx_getf 7 0 143) from sn_56 140) a3 s3 rfl rfl (show Z15 3 0 = ((2 : Nat) : Int) from (((up_ni hE15 (by decide)).trans (hf5 3 0 rfl))).trans k0) ?_
                  refine mx_J.step (sn_56 143) (fun _ _ => rfl) ?_
                  have b60 : 0 ≤ Z5 3 2 ∧ Z5 3 2 ≤ 900 := hG5.pr 3 2
                  refine JgetI (g := 2) (z := Z5 3 2) hx15 (show mx_Sn _ _ 144 (mx_getf 7 2 147) from sn_56 144) a3 s3 rfl rfl (up_ni hE15 (by decide)) ?_
                  have b61 : (-128) ≤ Z 2 (Z5 3 2) ∧ Z 2 (Z5 3 2) ≤ 127 := hG.pr 2 (Z5 3 2)
                  refine JbaldI (z := Z 2 (Z5 3 2)) hx15 (show mx_Sn _ _ 147 (mx_bald 148) from sn_56 147) a2 s2 (by omega) ((up_nk hE15 rfl).trans (hf5 2 (Z5 3 2) rfl)) ?_
                  refine JcI (z := 255) (show mx_Sn _ _ 148 (mx_const (.int 255) 151) from sn_56 148) rfl ?_
                  refine JiandM (q := 256) 8 (show mx_Sn _ _ 151 (mx_iand 152) from sn_56 151) rfl rfl rfl ?_
                  refine Ji2c (show mx_Sn _ _ 152 (mx_i2c 153) from sn_56 152) (by omega) ?_
                  refine mx_J.step (ls2 := [some (.ref 3), some (xI ((Z 2 (Z5 3 2)) % 256))]) (sn_56 153) (fun _ _ => rfl) ?_
                  refine mx_J.step (sn_56 154) (fun _ _ => rfl) ?_
                  refine mx_J.step (sn_56 155) (fun _ _ => rfl) ?_
                  have b63 : 0 ≤ Z5 3 2 ∧ Z5 3 2 ≤ 900 := hG5.pr 3 2
                  refine JgetI (g := 2) (z := Z5 3 2) hx15 (show mx_Sn _ _ 156 (mx_getf 7 2 159) from sn_56 156) a3 s3 rfl rfl (up_ni hE15 (by decide)) ?_
                  refine JcI (z := 1) (show mx_Sn _ _ 159 (mx_const (.int 1) 160) from sn_56 159) rfl ?_
                  refine Jiadd (show mx_Sn _ _ 160 (mx_iadd 161) from sn_56 160) ?_
                  refine JputI (g := 2) hx15 (show mx_Sn _ _ 161 (mx_putf 1 7 2 (.int) 164) from sn_56 161) a3 s3 rfl rfl rfl rfl (fun Z64 h64 hx64 hE64 => ?_)
                  have hG64 := GI_up hG15 hE64 (show 0 ≤ (Z5 3 2) + 1 ∧ (Z5 3 2) + 1 ≤ 900 by omega) trivial rfl
                  refine mx_J.step (sn_56 164) (fun _ _ => rfl) ?_
                  refine mx_J.step (sn_56 165) (fun _ _ => rfl) ?_
                  refine mx_J.step (sn_56 167) (fun _ _ => rfl) ?_
                  obtain ⟨z65, hc65, b65⟩ := ct_297_4098 (d := d + 1) (l := l) (D := D) (b0 := b0) (ad := ad) (Hb := Hb) (tau := tau) hx64 hG64 (show 0 ≤ (Z 2 (Z5 3 2)) % 256 ∧ (Z 2 (Z5 3 2)) % 256 ≤ 255 by omega)
                  refine Jck (show mx_Sn _ _ 168 (mx_callk 297 2 171) from sn_56 168) rfl hc65 rfl rfl rfl ?_
                  have c179 : ∀ (k66_1 : Int), 0 ≤ k66_1 ∧ k66_1 ≤ 255 → mx_J (tB l D b0 ad Hb tau) mt_56 (d + 5) 179 [some (.ref 3), some (xI ((Z 2 (Z5 3 2)) % 256))] [xI k66_1, .ref 3] h64 Post := by
                    intro k66_1 f66_0
                    refine JputI (g := 4) hx64 (show mx_Sn _ _ 179 (mx_putf 1 7 4 (.int) 182) from sn_56 179) a3 s3 rfl rfl rfl rfl (fun Z67 h67 hx67 hE67 => ?_)
                    have hG67 := GI_up hG64 hE67 (show 0 ≤ k66_1 ∧ k66_1 ≤ 400 by omega) trivial rfl
                    have eq68 : Z67 3 2 = (Z5 3 2) + 1 := ((up_ni hE67 (by decide)).trans (up_at hE64))
                    have eq69 : Z67 3 3 = Z5 3 2 := ((up_ni hE67 (by decide)).trans ((up_ni hE64 (by decide)).trans (up_at hE15)))
                    have eq70 : Z67 3 4 = k66_1 := (up_at hE67)
                    exact c182 (some (xI ((Z 2 (Z5 3 2)) % 256))) Z67 h67 (by omega) hx67 hG67 (fr_tr (M := [(3, 2), (3, 4), (3, 5)]) (fr_tr (M := [(3, 2), (3, 4), (3, 5)]) fr_rf (fr_up hE64) (M1 := []) rfl rfl) (fr_up hE67) rfl rfl)
                  refine Jif_lt (show mx_Sn _ _ 171 (mx_if_lt 178 174) from sn_56 171) (by omega) (fun q71 => ?_) (fun q71 => ?_)
                  · skip
                    refine JcI (z := 2) (show mx_Sn _ _ 178 (mx_const (.int 2) 179) from sn_56 178) rfl ?_
                    exact c179 2 (by omega)
                  · skip
                    refine mx_J.step (sn_56 174) (fun _ _ => rfl) ?_
                    refine mx_J.step (sn_56 175) (fun _ _ => rfl) ?_
                    exact c179 ((Z 2 (Z5 3 2)) % 256) (by omega)
                · skip
                  refine mx_J.step (sn_56 128) (fun _ _ => rfl) ?_
                  refine mx_J.step (sn_56 129) (fun _ _ => rfl) ?_
                  have eq72 : Z15 3 3 = Z5 3 2 := (up_at hE15)
                  have eq73 : Z15 3 2 = Z5 3 2 := (up_ni hE15 (by decide))
                  have b74 : 0 ≤ Z5 3 2 ∧ Z5 3 2 ≤ 900 := hG5.pr 3 2
                  have eq76 : Z15 3 0 = Z 3 0 := ((up_ni hE15 (by decide)).trans (hf5 3 0 rfl))
                  have b77 : 2 ≤ Z 3 0 ∧ Z 3 0 ≤ 4 := hG.pr 3 0
                  have eq78 : Z15 3 1 = Z 3 1 := ((up_ni hE15 (by decide)).trans (hf5 3 1 rfl))
                  have b79 : 0 ≤ Z 3 1 ∧ Z 3 1 ≤ 900 := hG.pr 3 1
                  have eq80 : Z15 3 2 = Z5 3 2 := (up_ni hE15 (by decide))
                  have b81 : 0 ≤ Z5 3 2 ∧ Z5 3 2 ≤ 900 := hG5.pr 3 2
                  have eq82 : Z15 3 3 = Z5 3 2 := (up_at hE15)
                  obtain ⟨z75, Z75, h75, hc75, hx75, hG75, hf75, b75⟩ := ct_58_3 (d := d + 3) (l := l) (D := D) (b0 := b0) (ad := ad) (Hb := Hb) (tau := tau) hx15 hG15  (show Z15 3 0 = 2 by first | omega | (simp only [eq76, eq78, eq80, eq82]; omega)) (show Z15 3 3 = Z15 3 2 by first | omega | (simp only [eq76, eq78, eq80, eq82]; omega)) (show Z15 3 2 < Z15 3 1 by first | omega | (simp only [eq76, eq78, eq80, eq82]; omega)) (show (48 ≤ Z15 2 (Z15 3 2) ∧ Z15 2 (Z15 3 2) ≤ 57) by first | omega | (simp only [eq76, eq78, eq80, eq82]; omega))
                  try rw [eq76] at b75
                  try rw [eq78] at b75
                  try rw [eq80] at b75
                  try rw [eq82] at b75
                  have b83 : 0 ≤ Z75 3 2 ∧ Z75 3 2 ≤ 900 := hG75.pr 3 2
                  refine Jcv hx15 (show mx_Sn _ _ 130 (mx_callv 58 1 7 133) from sn_56 130) a3 s3 hc75 rfl rfl rfl ?_
                  refine JputI (g := 4) hx75 (show mx_Sn _ _ 133 (mx_putf 1 7 4 (.int) 136) from sn_56 133) a3 s3 rfl rfl rfl rfl (fun Z84 h84 hx84 hE84 => ?_)
                  have hG84 := GI_up hG75 hE84 (show 0 ≤ z75 ∧ z75 ≤ 400 by omega) trivial rfl
                  refine mx_J.step (sn_56 136) (fun _ _ => rfl) ?_
                  have eq85 : Z84 3 2 = Z75 3 2 := (up_ni hE84 (by decide))
                  have b86 : 0 ≤ Z75 3 2 ∧ Z75 3 2 ≤ 900 := hG75.pr 3 2
                  have eq87 : Z84 3 3 = Z5 3 2 := ((up_ni hE84 (by decide)).trans ((hf75 3 3 rfl).trans (up_at hE15)))
                  have eq88 : Z84 3 4 = z75 := (up_at hE84)
                  exact c182 none Z84 h84 (by omega) hx84 hG84 (fr_tr (M := [(3, 2), (3, 4), (3, 5)]) (fr_tr (M := [(3, 2), (3, 4), (3, 5)]) fr_rf (hf75) (M1 := []) rfl rfl) (fr_up hE84) rfl rfl)
              · skip
                refine mx_J.step (sn_56 102) (fun _ _ => rfl) ?_
                refine mx_J.step (sn_56 103) (fun _ _ => rfl) ?_
                have eq89 : Z15 3 3 = Z5 3 2 := (up_at hE15)
                have eq90 : Z15 3 2 = Z5 3 2 := (up_ni hE15 (by decide))
                have b91 : 0 ≤ Z5 3 2 ∧ Z5 3 2 ≤ 900 := hG5.pr 3 2
                have eq93 : Z15 3 0 = Z 3 0 := ((up_ni hE15 (by decide)).trans (hf5 3 0 rfl))
                have b94 : 2 ≤ Z 3 0 ∧ Z 3 0 ≤ 4 := hG.pr 3 0
                have eq95 : Z15 3 1 = Z 3 1 := ((up_ni hE15 (by decide)).trans (hf5 3 1 rfl))
                have b96 : 0 ≤ Z 3 1 ∧ Z 3 1 ≤ 900 := hG.pr 3 1
                have eq97 : Z15 3 2 = Z5 3 2 := (up_ni hE15 (by decide))
                have b98 : 0 ≤ Z5 3 2 ∧ Z5 3 2 ≤ 900 := hG5.pr 3 2
                have eq99 : Z15 3 3 = Z5 3 2 := (up_at hE15)
                obtain ⟨z92, Z92, h92, hc92, hx92, hG92, hf92, b92⟩ := ct_59_3 (d := d + 0) (l := l) (D := D) (b0 := b0) (ad := ad) (Hb := Hb) (tau := tau) hx15 hG15  (show Z15 3 0 = 2 by first | omega | (simp only [eq93, eq95, eq97, eq99]; omega)) (show Z15 3 3 = Z15 3 2 by first | omega | (simp only [eq93, eq95, eq97, eq99]; omega)) (show Z15 3 2 < Z15 3 1 by first | omega | (simp only [eq93, eq95, eq97, eq99]; omega)) (show (97 ≤ Z15 2 (Z15 3 2) ∧ Z15 2 (Z15 3 2) ≤ 122) by first | omega | (simp only [eq93, eq95, eq97, eq99]; omega))
                try rw [eq93] at b92
                try rw [eq95] at b92
                try rw [eq97] at b92
                try rw [eq99] at b92
                have b100 : 0 ≤ Z92 3 2 ∧ Z92 3 2 ≤ 900 := hG92.pr 3 2
                refine Jcv hx15 (show mx_Sn _ _ 104 (mx_callv 59 1 7 107) from sn_56 104) a3 s3 hc92 rfl rfl rfl ?_
                refine JputI (g := 4) hx92 (show mx_Sn _ _ 107 (mx_putf 1 7 4 (.int) 110) from sn_56 107) a3 s3 rfl rfl rfl rfl (fun Z101 h101 hx101 hE101 => ?_)
                have hG101 := GI_up hG92 hE101 (show 0 ≤ z92 ∧ z92 ≤ 400 by omega) trivial rfl
                refine mx_J.step (sn_56 110) (fun _ _ => rfl) ?_
                have eq102 : Z101 3 2 = Z92 3 2 := (up_ni hE101 (by decide))
                have b103 : 0 ≤ Z92 3 2 ∧ Z92 3 2 ≤ 900 := hG92.pr 3 2
                have eq104 : Z101 3 3 = Z5 3 2 := ((up_ni hE101 (by decide)).trans ((hf92 3 3 rfl).trans (up_at hE15)))
                have eq105 : Z101 3 4 = z92 := (up_at hE101)
                exact c182 none Z101 h101 (by omega) hx101 hG101 (fr_tr (M := [(3, 2), (3, 4), (3, 5)]) (fr_tr (M := [(3, 2), (3, 4), (3, 5)]) fr_rf (hf92) (M1 := []) rfl rfl) (fr_up hE101) rfl rfl)
            · skip
              refine mx_J.step (sn_56 79) (fun _ _ => rfl) ?_
              refine JcI (z := 0) (show mx_Sn _ _ 80 (mx_const (.int 0) 81) from sn_56 80) rfl ?_
              refine JputI (g := 4) hx15 (show mx_Sn _ _ 81 (mx_putf 1 7 4 (.int) 84) from sn_56 81) a3 s3 rfl rfl rfl rfl (fun Z106 h106 hx106 hE106 => ?_)
              have hG106 := GI_up hG15 hE106 (show 0 ≤ 0 ∧ 0 ≤ 400 by omega) trivial rfl
              refine mx_J.step (sn_56 84) (fun _ _ => rfl) ?_
              have eq107 : Z106 3 2 = Z5 3 2 := ((up_ni hE106 (by decide)).trans (up_ni hE15 (by decide)))
              have b108 : 0 ≤ Z5 3 2 ∧ Z5 3 2 ≤ 900 := hG5.pr 3 2
              have eq109 : Z106 3 3 = Z5 3 2 := ((up_ni hE106 (by decide)).trans (up_at hE15))
              have eq110 : Z106 3 4 = 0 := (up_at hE106)
              exact c182 none Z106 h106 (by omega) hx106 hG106 (fr_tr (M := [(3, 2), (3, 4), (3, 5)]) fr_rf (fr_up hE106) (M1 := []) rfl rfl)
          refine Jicmp_ge (show mx_Sn _ _ 16 (mx_icmp_ge 60 19) from sn_56 16) (by omega) (by omega) (fun q111 => ?_) (fun q111 => ?_)
          · skip
            exact c60 
          · skip
            refine mx_J.step (sn_56 19) (fun _ _ => rfl) ?_
            refine JgetR (g := 0) (b := 2) hx5 (show mx_Sn _ _ 20 (mx_getf 7 0 23) from sn_56 20) a3 s3 rfl rfl (show Z5 3 0 = ((2 : Nat) : Int) from ((hf5 3 0 rfl)).trans k0) ?_
            refine mx_J.step (sn_56 23) (fun _ _ => rfl) ?_
            have b114 : 0 ≤ Z5 3 2 ∧ Z5 3 2 ≤ 900 := hG5.pr 3 2
            refine JgetI (g := 2) (z := Z5 3 2) hx5 (show mx_Sn _ _ 24 (mx_getf 7 2 27) from sn_56 24) a3 s3 rfl rfl rfl ?_
            have b115 : (-128) ≤ Z 2 (Z5 3 2) ∧ Z 2 (Z5 3 2) ≤ 127 := hG.pr 2 (Z5 3 2)
            refine JbaldI (z := Z 2 (Z5 3 2)) hx5 (show mx_Sn _ _ 27 (mx_bald 28) from sn_56 27) a2 s2 (by omega) (hf5 2 (Z5 3 2) rfl) ?_
            refine JcI (z := 10) (show mx_Sn _ _ 28 (mx_const (.int 10) 30) from sn_56 28) rfl ?_
            have c47 : mx_J (tB l D b0 ad Hb tau) mt_56 (d + 5) 47 [some (.ref 3), none] [] h5 Post := by
              refine mx_J.step (sn_56 47) (fun _ _ => rfl) ?_
              refine mx_J.step (sn_56 48) (fun _ _ => rfl) ?_
              have b118 : 0 ≤ Z5 3 2 ∧ Z5 3 2 ≤ 900 := hG5.pr 3 2
              refine JgetI (g := 2) (z := Z5 3 2) hx5 (show mx_Sn _ _ 49 (mx_getf 7 2 52) from sn_56 49) a3 s3 rfl rfl rfl ?_
              refine JcI (z := 1) (show mx_Sn _ _ 52 (mx_const (.int 1) 53) from sn_56 52) rfl ?_
              refine Jiadd (show mx_Sn _ _ 53 (mx_iadd 54) from sn_56 53) ?_
              refine JputI (g := 2) hx5 (show mx_Sn _ _ 54 (mx_putf 1 7 2 (.int) 57) from sn_56 54) a3 s3 rfl rfl rfl rfl (fun Z119 h119 hx119 hE119 => ?_)
              have hG119 := GI_up hG5 hE119 (show 0 ≤ (Z5 3 2) + 1 ∧ (Z5 3 2) + 1 ≤ 900 by omega) trivial rfl
              refine mx_J.step (sn_56 57) (fun _ _ => rfl) ?_
              have eq120 : Z119 3 2 = (Z5 3 2) + 1 := (up_at hE119)
              have eq121 : Z119 3 2 = (Z5 3 2) + 1 := (up_at hE119)
              exact ih4 Z119 h119 (by omega) (by omega) hx119 hG119 (fr_tr (M := [(3, 2)]) (fr_tr (M := [(3, 2)]) fr_rf (hf5) (M1 := []) rfl rfl) (fr_up hE119) rfl rfl)
            refine Jicmp_eq (show mx_Sn _ _ 30 (mx_icmp_eq 47 33) from sn_56 30) (by omega) (by omega) (fun q122 => ?_) (fun q122 => ?_)
            · skip
              exact c47 
            · skip
              refine mx_J.step (sn_56 33) (fun _ _ => rfl) ?_
              refine JgetR (g := 0) (b := 2) hx5 (show mx_Sn _ _ 34 (mx_getf 7 0 37) from sn_56 34) a3 s3 rfl rfl (show Z5 3 0 = ((2 : Nat) : Int) from ((hf5 3 0 rfl)).trans k0) ?_
              refine mx_J.step (sn_56 37) (fun _ _ => rfl) ?_
              have b125 : 0 ≤ Z5 3 2 ∧ Z5 3 2 ≤ 900 := hG5.pr 3 2
              refine JgetI (g := 2) (z := Z5 3 2) hx5 (show mx_Sn _ _ 38 (mx_getf 7 2 41) from sn_56 38) a3 s3 rfl rfl rfl ?_
              have b126 : (-128) ≤ Z 2 (Z5 3 2) ∧ Z 2 (Z5 3 2) ≤ 127 := hG.pr 2 (Z5 3 2)
              refine JbaldI (z := Z 2 (Z5 3 2)) hx5 (show mx_Sn _ _ 41 (mx_bald 42) from sn_56 41) a2 s2 (by omega) (hf5 2 (Z5 3 2) rfl) ?_
              refine JcI (z := 32) (show mx_Sn _ _ 42 (mx_const (.int 32) 44) from sn_56 42) rfl ?_
              refine Jicmp_ne (show mx_Sn _ _ 44 (mx_icmp_ne 60 47) from sn_56 44) (by omega) (by omega) (fun q127 => ?_) (fun q127 => ?_)
              · skip
                exact c60 
              · skip
                exact c47 
      have b128 : 0 ≤ Z 3 2 ∧ Z 3 2 ≤ 900 := hG.pr 3 2
      have b129 : 0 ≤ Z 3 2 ∧ Z 3 2 ≤ 900 := hG.pr 3 2
      exact c8 (Int.toNat (Z 3 1 - Z 3 2) + 1) Z h (by omega) (by omega) hx hG fr_rf
    · skip
      have b130 : 0 ≤ Z 3 2 ∧ Z 3 2 ≤ 900 := hG.pr 3 2
      have b131 : 0 ≤ Z 3 3 ∧ Z 3 3 ≤ 900 := hG.pr 3 3
      have b132 : 0 ≤ Z 3 4 ∧ Z 3 4 ≤ 400 := hG.pr 3 4
      have b133 : 2 ≤ Z 3 0 ∧ Z 3 0 ≤ 4 := hG.pr 3 0
      have b134 : 0 ≤ Z 3 1 ∧ Z 3 1 ≤ 900 := hG.pr 3 1
      have b135 : 0 ≤ Z 3 2 ∧ Z 3 2 ≤ 900 := hG.pr 3 2
      have b136 : 0 ≤ Z 3 3 ∧ Z 3 3 ≤ 900 := hG.pr 3 3
      have b137 : 0 ≤ Z 3 4 ∧ Z 3 4 ≤ 400 := hG.pr 3 4
      have b138 : 0 ≤ Z 3 14 ∧ Z 3 14 ≤ 4 := hG.pr 3 14
      exact mx_J.ret (sn_56 7) (fun _ _ => rfl) (hP Z h hx hG fr_rf (by omega))
theorem ct_56_3 {l : Launch} {D : va_G} {b0 : Nat} {ad : Nat → Nat} {Hb : Heap} {tau : Nat → Int64} {d n s : Nat} {S : Nat → xS} {Z : xZ} {h : mx_H} (hx : XH n s S Z h) (hG : GI n S Z)   (k0 : Z 3 0 = 2) (k1 : Z 3 2 ≤ Z 3 1) : ∃ (Z' : xZ) (h' : mx_H), mx_Ca (tB l D b0 ad Hb tau) (d + 6) 56 [.ref 3] h (none, h') ∧ XH n s S Z' h' ∧ GI n S Z' ∧ fr' [(3, 2), (3, 3), (3, 4), (3, 5)] Z Z' ∧ (((¬ Z 3 14 = 0 ∧ Z' 3 2 = Z 3 2 ∧ Z' 3 3 = Z 3 3 ∧ Z' 3 4 = Z 3 4) ∨ (Z 3 14 = 0 ∧ Z 3 2 ≤ Z' 3 3 ∧ Z' 3 3 ≤ Z' 3 2 ∧ Z' 3 2 ≤ Z 3 1 ∧ (Z' 3 4 = 0 ∨ Z' 3 3 < Z' 3 2)))) := by
  obtain ⟨r, hca, Z', h', e, q⟩ := Jmt (B := tB l D b0 ad Hb tau) (M := mt_56) (mi := 56) (as := [.ref 3]) (d := d + 5) (ls := [some (.ref 3), none]) rfl rfl rfl rfl rfl rfl (cw_56_3 (l := l) (D := D) (b0 := b0) (ad := ad) (Hb := Hb) (tau := tau) (d := d) (Post := fun r => ∃ (Z' : xZ) (h' : mx_H), r = (none, h') ∧ XH n s S Z' h' ∧ GI n S Z' ∧ fr' [(3, 2), (3, 3), (3, 4), (3, 5)] Z Z' ∧ (((¬ Z 3 14 = 0 ∧ Z' 3 2 = Z 3 2 ∧ Z' 3 3 = Z 3 3 ∧ Z' 3 4 = Z 3 4) ∨ (Z 3 14 = 0 ∧ Z 3 2 ≤ Z' 3 3 ∧ Z' 3 3 ≤ Z' 3 2 ∧ Z' 3 2 ≤ Z 3 1 ∧ (Z' 3 4 = 0 ∨ Z' 3 3 < Z' 3 2))))) hx hG k0 k1 (fun Z' h' q1 q2 q3 q4 => ⟨Z', h', rfl, q1, q2, q3, q4⟩))
  subst e; exact ⟨Z', h', hca, q⟩
set_option maxRecDepth 100000 in
theorem cw_55_3 {l : Launch} {D : va_G} {b0 : Nat} {ad : Nat → Nat} {Hb : Heap} {tau : Nat → Int64} {d n s : Nat} {S : Nat → xS} {Z : xZ} {h : mx_H} {Post : mx_R → Prop} (hx : XH n s S Z h) (hG : GI n S Z)  {x0 : Int} (p0 : 2 ≤ x0 ∧ x0 ≤ 4) (hP : ∀ (Z' : xZ) (h' : mx_H), XH n s S Z' h' → GI n S Z' → fr' [(3, 4), (3, 14), (3, 15)] Z Z' → (Z' 3 4 = 3) → Post (none, h')) : mx_J (tB l D b0 ad Hb tau) mt_55 (d + 0) 0 [some (.ref 3), some (xI x0)] [] h Post := by
    have a3 : 3 < n := lt83 (GI_n hG) rfl
    have s3 : S 3 = .inl (7, [2, 0, 0, 0, 0, 0, 2, 0, 2, 2, 0, 2, 0, 0, 0, 0]) := GI_s hG 3 rfl
    refine mx_J.step (sn_55 0) (fun _ _ => rfl) ?_
    have b2 : 0 ≤ Z 3 4 ∧ Z 3 4 ≤ 400 := hG.pr 3 4
    refine JgetI (g := 4) (z := Z 3 4) hx (show mx_Sn _ _ 1 (mx_getf 7 4 4) from sn_55 1) a3 s3 rfl rfl rfl ?_
    refine JcI (z := 3) (show mx_Sn _ _ 4 (mx_const (.int 3) 5) from sn_55 4) rfl ?_
    refine Jicmp_ne (show mx_Sn _ _ 5 (mx_icmp_ne 9 8) from sn_55 5) (by omega) (by omega) (fun q3 => ?_) (fun q3 => ?_)
    · skip
      refine mx_J.step (sn_55 9) (fun _ _ => rfl) ?_
      refine mx_J.step (sn_55 10) (fun _ _ => rfl) ?_
      have b5 : 0 ≤ Z 3 4 ∧ Z 3 4 ≤ 400 := hG.pr 3 4
      refine JgetI (g := 4) (z := Z 3 4) hx (show mx_Sn _ _ 11 (mx_getf 7 4 14) from sn_55 11) a3 s3 rfl rfl rfl ?_
      refine JcI (z := 2) (show mx_Sn _ _ 14 (mx_const (.int 2) 15) from sn_55 14) rfl ?_
      have c23 : ∀ (k6_1 : Int), 1 ≤ k6_1 ∧ k6_1 ≤ 4 → mx_J (tB l D b0 ad Hb tau) mt_55 (d + 0) 23 [some (.ref 3), some (xI x0)] [xI k6_1, .ref 3] h Post := by
        intro k6_1 f6_0
        refine JputI (g := 14) hx (show mx_Sn _ _ 23 (mx_putf 1 7 14 (.int) 26) from sn_55 23) a3 s3 rfl rfl rfl rfl (fun Z7 h7 hx7 hE7 => ?_)
        have hG7 := GI_up hG hE7 (show 0 ≤ k6_1 ∧ k6_1 ≤ 4 by omega) trivial rfl
        refine mx_J.step (sn_55 26) (fun _ _ => rfl) ?_
        refine mx_J.step (sn_55 27) (fun _ _ => rfl) ?_
        have b9 : 0 ≤ Z 3 3 ∧ Z 3 3 ≤ 900 := hG.pr 3 3
        refine JgetI (g := 3) (z := Z 3 3) hx7 (show mx_Sn _ _ 28 (mx_getf 7 3 31) from sn_55 28) a3 s3 rfl rfl (up_ni hE7 (by decide)) ?_
        refine JputI (g := 15) hx7 (show mx_Sn _ _ 31 (mx_putf 1 7 15 (.int) 34) from sn_55 31) a3 s3 rfl rfl rfl rfl (fun Z10 h10 hx10 hE10 => ?_)
        have hG10 := GI_up hG7 hE10 (show (-1) ≤ Z 3 3 ∧ Z 3 3 ≤ 900 by omega) trivial rfl
        refine mx_J.step (sn_55 34) (fun _ _ => rfl) ?_
        refine JcI (z := 3) (show mx_Sn _ _ 35 (mx_const (.int 3) 36) from sn_55 35) rfl ?_
        refine JputI (g := 4) hx10 (show mx_Sn _ _ 36 (mx_putf 1 7 4 (.int) 39) from sn_55 36) a3 s3 rfl rfl rfl rfl (fun Z11 h11 hx11 hE11 => ?_)
        have hG11 := GI_up hG10 hE11 (show 0 ≤ 3 ∧ 3 ≤ 400 by omega) trivial rfl
        have eq12 : Z11 3 4 = 3 := (up_at hE11)
        exact mx_J.ret (sn_55 39) (fun _ _ => rfl) (hP Z11 h11 hx11 hG11 (fr_tr (M := [(3, 4), (3, 14), (3, 15)]) (fr_tr (M := [(3, 4), (3, 14), (3, 15)]) (fr_tr (M := [(3, 4), (3, 14), (3, 15)]) fr_rf (fr_up hE7) (M1 := []) rfl rfl) (fr_up hE10) rfl rfl) (fr_up hE11) rfl rfl) (by omega))
      refine Jicmp_ne (show mx_Sn _ _ 15 (mx_icmp_ne 22 18) from sn_55 15) (by omega) (by omega) (fun q13 => ?_) (fun q13 => ?_)
      · skip
        refine mx_J.step (sn_55 22) (fun _ _ => rfl) ?_
        exact c23 x0 (by omega)
      · skip
        refine JcI (z := 1) (show mx_Sn _ _ 18 (mx_const (.int 1) 19) from sn_55 18) rfl ?_
        refine mx_J.step (sn_55 19) (fun _ _ => rfl) ?_
        exact c23 1 (by omega)
    · skip
      have b14 : 0 ≤ Z 3 4 ∧ Z 3 4 ≤ 400 := hG.pr 3 4
      exact mx_J.ret (sn_55 8) (fun _ _ => rfl) (hP Z h hx hG fr_rf (by omega))
theorem ct_55_3 {l : Launch} {D : va_G} {b0 : Nat} {ad : Nat → Nat} {Hb : Heap} {tau : Nat → Int64} {d n s : Nat} {S : Nat → xS} {Z : xZ} {h : mx_H} (hx : XH n s S Z h) (hG : GI n S Z)  {x0 : Int} (p0 : 2 ≤ x0 ∧ x0 ≤ 4) : ∃ (Z' : xZ) (h' : mx_H), mx_Ca (tB l D b0 ad Hb tau) (d + 1) 55 [.ref 3, xI x0] h (none, h') ∧ XH n s S Z' h' ∧ GI n S Z' ∧ fr' [(3, 4), (3, 14), (3, 15)] Z Z' ∧ ((Z' 3 4 = 3)) := by
  obtain ⟨r, hca, Z', h', e, q⟩ := Jmt (B := tB l D b0 ad Hb tau) (M := mt_55) (mi := 55) (as := [.ref 3, xI x0]) (d := d + 0) (ls := [some (.ref 3), some (xI x0)]) rfl rfl rfl rfl rfl rfl (cw_55_3 (l := l) (D := D) (b0 := b0) (ad := ad) (Hb := Hb) (tau := tau) (d := d) (Post := fun r => ∃ (Z' : xZ) (h' : mx_H), r = (none, h') ∧ XH n s S Z' h' ∧ GI n S Z' ∧ fr' [(3, 4), (3, 14), (3, 15)] Z Z' ∧ ((Z' 3 4 = 3))) hx hG p0 (fun Z' h' q1 q2 q3 q4 => ⟨Z', h', rfl, q1, q2, q3, q4⟩))
  subst e; exact ⟨Z', h', hca, q⟩
set_option maxRecDepth 100000 in
theorem cw_53_3 {l : Launch} {D : va_G} {b0 : Nat} {ad : Nat → Nat} {Hb : Heap} {tau : Nat → Int64} {d n s : Nat} {S : Nat → xS} {Z : xZ} {h : mx_H} {Post : mx_R → Prop} (hx : XH n s S Z h) (hG : GI n S Z)  {x0 : Int} (p0 : 40 ≤ x0 ∧ x0 ≤ 320) (k0 : Z 3 0 = 2) (k1 : (Z 3 3 ≤ Z 3 2 ∧ Z 3 2 ≤ Z 3 1 ∧ (Z 3 4 = 0 ∨ Z 3 4 = 3 ∨ Z 3 3 < Z 3 2) ∧ (Z 3 4 = 3 ∨ Z 3 14 = 0))) (hP : ∀ (Z' : xZ) (h' : mx_H), XH n s S Z' h' → GI n S Z' → fr' [(3, 2), (3, 3), (3, 4), (3, 5), (3, 14), (3, 15)] Z Z' → ((Z' 3 3 ≤ Z' 3 2 ∧ Z' 3 2 ≤ Z 3 1 ∧ (Z' 3 4 = 0 ∨ Z' 3 4 = 3 ∨ Z' 3 3 < Z' 3 2) ∧ (Z' 3 4 = 3 ∨ Z' 3 14 = 0)) ∧ Z 3 3 ≤ Z' 3 3 ∧ (Z' 3 4 = 3 ∨ Z 3 3 + 1 ≤ Z' 3 3) ∧ (Z 3 4 = 3 → Z' 3 4 = 3)) → Post (none, h')) : mx_J (tB l D b0 ad Hb tau) mt_53 (d + 6) 0 [some (.ref 3), some (xI x0)] [] h Post := by
    have a3 : 3 < n := lt83 (GI_n hG) rfl
    have s3 : S 3 = .inl (7, [2, 0, 0, 0, 0, 0, 2, 0, 2, 2, 0, 2, 0, 0, 0, 0]) := GI_s hG 3 rfl
    refine mx_J.step (sn_53 0) (fun _ _ => rfl) ?_
    have b2 : 0 ≤ Z 3 4 ∧ Z 3 4 ≤ 400 := hG.pr 3 4
    refine JgetI (g := 4) (z := Z 3 4) hx (show mx_Sn _ _ 1 (mx_getf 7 4 4) from sn_53 1) a3 s3 rfl rfl rfl ?_
    refine mx_J.step (sn_53 4) (fun _ _ => rfl) ?_
    have c20 : ∀  (Z4 : xZ) (h4 : mx_H), ((Z4 3 3 ≤ Z4 3 2 ∧ Z4 3 2 ≤ Z 3 1 ∧ (Z4 3 4 = 0 ∨ Z4 3 4 = 3 ∨ Z4 3 3 < Z4 3 2) ∧ (Z4 3 4 = 3 ∨ Z4 3 14 = 0)) ∧ Z 3 3 ≤ Z4 3 3 ∧ (Z4 3 4 = 3 ∨ Z 3 3 + 1 ≤ Z4 3 3) ∧ (Z 3 4 = 3 → Z4 3 4 = 3)) → XH n s S Z4 h4 → GI n S Z4 → fr' [(3, 2), (3, 3), (3, 4), (3, 5), (3, 14), (3, 15)] Z Z4 → mx_J (tB l D b0 ad Hb tau) mt_53 (d + 6) 20 [some (.ref 3), some (xI x0)] [] h4 Post := by
      intro Z4 h4 f3_0 hx4 hG4 hf4
      have b5 : 0 ≤ Z4 3 2 ∧ Z4 3 2 ≤ 900 := hG4.pr 3 2
      have b6 : 0 ≤ Z4 3 3 ∧ Z4 3 3 ≤ 900 := hG4.pr 3 3
      have b7 : 0 ≤ Z4 3 4 ∧ Z4 3 4 ≤ 400 := hG4.pr 3 4
      have eq8 : Z4 3 7 = Z 3 7 := (hf4 3 7 rfl)
      have b9 : 0 ≤ Z 3 7 ∧ Z 3 7 ≤ 900 := hG.pr 3 7
      have b10 : 0 ≤ Z4 3 14 ∧ Z4 3 14 ≤ 4 := hG4.pr 3 14
      have b11 : 0 ≤ Z4 3 2 ∧ Z4 3 2 ≤ 900 := hG4.pr 3 2
      have b12 : 0 ≤ Z4 3 3 ∧ Z4 3 3 ≤ 900 := hG4.pr 3 3
      have b13 : 0 ≤ Z4 3 4 ∧ Z4 3 4 ≤ 400 := hG4.pr 3 4
      have eq14 : Z4 3 7 = Z 3 7 := (hf4 3 7 rfl)
      have b15 : 0 ≤ Z 3 7 ∧ Z 3 7 ≤ 900 := hG.pr 3 7
      have b16 : 0 ≤ Z4 3 14 ∧ Z4 3 14 ≤ 4 := hG4.pr 3 14
      have eq17 : Z4 3 0 = Z 3 0 := (hf4 3 0 rfl)
      have b18 : 2 ≤ Z 3 0 ∧ Z 3 0 ≤ 4 := hG.pr 3 0
      have eq19 : Z4 3 1 = Z 3 1 := (hf4 3 1 rfl)
      have b20 : 0 ≤ Z 3 1 ∧ Z 3 1 ≤ 900 := hG.pr 3 1
      have b21 : 0 ≤ Z4 3 2 ∧ Z4 3 2 ≤ 900 := hG4.pr 3 2
      have b22 : 0 ≤ Z4 3 3 ∧ Z4 3 3 ≤ 900 := hG4.pr 3 3
      have b23 : 0 ≤ Z4 3 4 ∧ Z4 3 4 ≤ 400 := hG4.pr 3 4
      have eq24 : Z4 3 7 = Z 3 7 := (hf4 3 7 rfl)
      have b25 : 0 ≤ Z 3 7 ∧ Z 3 7 ≤ 900 := hG.pr 3 7
      have b26 : 0 ≤ Z4 3 14 ∧ Z4 3 14 ≤ 4 := hG4.pr 3 14
      exact mx_J.ret (sn_53 20) (fun _ _ => rfl) (hP Z4 h4 hx4 hG4 (fr_tr (M := [(3, 2), (3, 3), (3, 4), (3, 5), (3, 14), (3, 15)]) fr_rf (hf4) (M1 := []) rfl rfl) (by omega))
    refine Jicmp_ne (show mx_Sn _ _ 5 (mx_icmp_ne 15 8) from sn_53 5) (by omega) (by omega) (fun q27 => ?_) (fun q27 => ?_)
    · skip
      refine mx_J.step (sn_53 15) (fun _ _ => rfl) ?_
      refine JcI (z := 2) (show mx_Sn _ _ 16 (mx_const (.int 2) 17) from sn_53 16) rfl ?_
      obtain ⟨Z28, h28, hc28, hx28, hG28, hf28, b28⟩ := ct_55_3 (d := d + 5) (l := l) (D := D) (b0 := b0) (ad := ad) (Hb := Hb) (tau := tau) hx hG (show 2 ≤ 2 ∧ 2 ≤ 4 by omega)
      have b29 : 0 ≤ Z28 3 4 ∧ Z28 3 4 ≤ 400 := hG28.pr 3 4
      refine Jcv0 hx (show mx_Sn _ _ 17 (mx_callv 55 2 7 20) from sn_53 17) a3 s3 hc28 rfl rfl rfl ?_
      have eq30 : Z28 3 2 = Z 3 2 := (hf28 3 2 rfl)
      have b31 : 0 ≤ Z 3 2 ∧ Z 3 2 ≤ 900 := hG.pr 3 2
      have eq32 : Z28 3 3 = Z 3 3 := (hf28 3 3 rfl)
      have b33 : 0 ≤ Z 3 3 ∧ Z 3 3 ≤ 900 := hG.pr 3 3
      have b34 : 0 ≤ Z28 3 4 ∧ Z28 3 4 ≤ 400 := hG28.pr 3 4
      have eq35 : Z28 3 7 = Z 3 7 := (hf28 3 7 rfl)
      have b36 : 0 ≤ Z 3 7 ∧ Z 3 7 ≤ 900 := hG.pr 3 7
      have b37 : 0 ≤ Z28 3 14 ∧ Z28 3 14 ≤ 4 := hG28.pr 3 14
      exact c20 Z28 h28 (by omega) hx28 hG28 (fr_tr (M := [(3, 2), (3, 3), (3, 4), (3, 5), (3, 14), (3, 15)]) fr_rf (hf28) (M1 := []) rfl rfl)
    · skip
      refine mx_J.step (sn_53 8) (fun _ _ => rfl) ?_
      have b39 : 2 ≤ Z 3 0 ∧ Z 3 0 ≤ 4 := hG.pr 3 0
      have b40 : 0 ≤ Z 3 1 ∧ Z 3 1 ≤ 900 := hG.pr 3 1
      have b41 : 0 ≤ Z 3 2 ∧ Z 3 2 ≤ 900 := hG.pr 3 2
      have b42 : 0 ≤ Z 3 3 ∧ Z 3 3 ≤ 900 := hG.pr 3 3
      have b43 : 0 ≤ Z 3 4 ∧ Z 3 4 ≤ 400 := hG.pr 3 4
      have b44 : 0 ≤ Z 3 14 ∧ Z 3 14 ≤ 4 := hG.pr 3 14
      obtain ⟨Z38, h38, hc38, hx38, hG38, hf38, b38⟩ := ct_56_3 (d := d + 0) (l := l) (D := D) (b0 := b0) (ad := ad) (Hb := Hb) (tau := tau) hx hG  (show Z 3 0 = 2 by omega) (show Z 3 2 ≤ Z 3 1 by omega)
      have b45 : 0 ≤ Z38 3 2 ∧ Z38 3 2 ≤ 900 := hG38.pr 3 2
      have b46 : 0 ≤ Z38 3 3 ∧ Z38 3 3 ≤ 900 := hG38.pr 3 3
      have b47 : 0 ≤ Z38 3 4 ∧ Z38 3 4 ≤ 400 := hG38.pr 3 4
      refine Jcv0 hx (show mx_Sn _ _ 9 (mx_callv 56 1 7 12) from sn_53 9) a3 s3 hc38 rfl rfl rfl ?_
      refine mx_J.step (sn_53 12) (fun _ _ => rfl) ?_
      have b48 : 0 ≤ Z38 3 2 ∧ Z38 3 2 ≤ 900 := hG38.pr 3 2
      have b49 : 0 ≤ Z38 3 3 ∧ Z38 3 3 ≤ 900 := hG38.pr 3 3
      have b50 : 0 ≤ Z38 3 4 ∧ Z38 3 4 ≤ 400 := hG38.pr 3 4
      have eq51 : Z38 3 7 = Z 3 7 := (hf38 3 7 rfl)
      have b52 : 0 ≤ Z 3 7 ∧ Z 3 7 ≤ 900 := hG.pr 3 7
      have eq53 : Z38 3 14 = Z 3 14 := (hf38 3 14 rfl)
      have b54 : 0 ≤ Z 3 14 ∧ Z 3 14 ≤ 4 := hG.pr 3 14
      exact c20 Z38 h38 (by omega) hx38 hG38 (fr_tr (M := [(3, 2), (3, 3), (3, 4), (3, 5), (3, 14), (3, 15)]) fr_rf (hf38) (M1 := []) rfl rfl)
theorem ct_53_3 {l : Launch} {D : va_G} {b0 : Nat} {ad : Nat → Nat} {Hb : Heap} {tau : Nat → Int64} {d n s : Nat} {S : Nat → xS} {Z : xZ} {h : mx_H} (hx : XH n s S Z h) (hG : GI n S Z)  {x0 : Int} (p0 : 40 ≤ x0 ∧ x0 ≤ 320) (k0 : Z 3 0 = 2) (k1 : (Z 3 3 ≤ Z 3 2 ∧ Z 3 2 ≤ Z 3 1 ∧ (Z 3 4 = 0 ∨ Z 3 4 = 3 ∨ Z 3 3 < Z 3 2) ∧ (Z 3 4 = 3 ∨ Z 3 14 = 0))) : ∃ (Z' : xZ) (h' : mx_H), mx_Ca (tB l D b0 ad Hb tau) (d + 7) 53 [.ref 3, xI x0] h (none, h') ∧ XH n s S Z' h' ∧ GI n S Z' ∧ fr' [(3, 2), (3, 3), (3, 4), (3, 5), (3, 14), (3, 15)] Z Z' ∧ (((Z' 3 3 ≤ Z' 3 2 ∧ Z' 3 2 ≤ Z 3 1 ∧ (Z' 3 4 = 0 ∨ Z' 3 4 = 3 ∨ Z' 3 3 < Z' 3 2) ∧ (Z' 3 4 = 3 ∨ Z' 3 14 = 0)) ∧ Z 3 3 ≤ Z' 3 3 ∧ (Z' 3 4 = 3 ∨ Z 3 3 + 1 ≤ Z' 3 3) ∧ (Z 3 4 = 3 → Z' 3 4 = 3))) := by
  obtain ⟨r, hca, Z', h', e, q⟩ := Jmt (B := tB l D b0 ad Hb tau) (M := mt_53) (mi := 53) (as := [.ref 3, xI x0]) (d := d + 6) (ls := [some (.ref 3), some (xI x0)]) rfl rfl rfl rfl rfl rfl (cw_53_3 (l := l) (D := D) (b0 := b0) (ad := ad) (Hb := Hb) (tau := tau) (d := d) (Post := fun r => ∃ (Z' : xZ) (h' : mx_H), r = (none, h') ∧ XH n s S Z' h' ∧ GI n S Z' ∧ fr' [(3, 2), (3, 3), (3, 4), (3, 5), (3, 14), (3, 15)] Z Z' ∧ (((Z' 3 3 ≤ Z' 3 2 ∧ Z' 3 2 ≤ Z 3 1 ∧ (Z' 3 4 = 0 ∨ Z' 3 4 = 3 ∨ Z' 3 3 < Z' 3 2) ∧ (Z' 3 4 = 3 ∨ Z' 3 14 = 0)) ∧ Z 3 3 ≤ Z' 3 3 ∧ (Z' 3 4 = 3 ∨ Z 3 3 + 1 ≤ Z' 3 3) ∧ (Z 3 4 = 3 → Z' 3 4 = 3)))) hx hG p0 k0 k1 (fun Z' h' q1 q2 q3 q4 => ⟨Z', h', rfl, q1, q2, q3, q4⟩))
  subst e; exact ⟨Z', h', hca, q⟩
set_option maxRecDepth 100000 in
theorem cw_54_3 {l : Launch} {D : va_G} {b0 : Nat} {ad : Nat → Nat} {Hb : Heap} {tau : Nat → Int64} {d n s : Nat} {S : Nat → xS} {Z : xZ} {h : mx_H} {Post : mx_R → Prop} (hx : XH n s S Z h) (hG : GI n S Z)  {x0 x1 : Int} (p0 : 0 ≤ x0 ∧ x0 ≤ 1) (p1 : 0 ≤ x1 ∧ x1 ≤ 999) (k0 : Z 3 0 = 2) (k1 : (Z 3 3 ≤ Z 3 2 ∧ Z 3 2 ≤ Z 3 1 ∧ (Z 3 4 = 0 ∨ Z 3 4 = 3 ∨ Z 3 3 < Z 3 2) ∧ (Z 3 4 = 3 ∨ Z 3 14 = 0))) (hP : ∀ (z : Int) (Z' : xZ) (h' : mx_H), XH n s S Z' h' → GI n S Z' → fr' [(3, 2), (3, 3), (3, 4), (3, 5), (3, 14), (3, 15)] Z Z' → 0 ≤ z ∧ z ≤ 999 ∧ ((Z' 3 3 ≤ Z' 3 2 ∧ Z' 3 2 ≤ Z 3 1 ∧ (Z' 3 4 = 0 ∨ Z' 3 4 = 3 ∨ Z' 3 3 < Z' 3 2) ∧ (Z' 3 4 = 3 ∨ Z' 3 14 = 0)) ∧ Z 3 3 ≤ Z' 3 3 ∧ (Z' 3 4 = 3 ∨ Z 3 3 + 1 ≤ Z' 3 3) ∧ (Z 3 4 = 3 → Z' 3 4 = 3) ∧ (z = 0 ∨ (x0 ≤ z ∧ z ≤ x1)) ∧ (x0 = 1 → z = 0 → Z' 3 4 = 3) ∧ (Z 3 4 = 1 → x0 = 0 → x1 = 999 → Z 3 3 + 1 ≤ Z' 3 3)) → Post (some (xI z), h')) : mx_J (tB l D b0 ad Hb tau) mt_54 (d + 6) 0 [some (.ref 3), some (xI x0), some (xI x1), none] [] h Post := by
    have a3 : 3 < n := lt83 (GI_n hG) rfl
    have s3 : S 3 = .inl (7, [2, 0, 0, 0, 0, 0, 2, 0, 2, 2, 0, 2, 0, 0, 0, 0]) := GI_s hG 3 rfl
    refine mx_J.step (sn_54 0) (fun _ _ => rfl) ?_
    have b2 : 0 ≤ Z 3 5 ∧ Z 3 5 ≤ 999 := hG.pr 3 5
    refine JgetI (g := 5) (z := Z 3 5) hx (show mx_Sn _ _ 1 (mx_getf 7 5 4) from sn_54 1) a3 s3 rfl rfl rfl ?_
    refine mx_J.step (ls2 := [some (.ref 3), some (xI x0), some (xI x1), some (xI (Z 3 5))]) (sn_54 4) (fun _ _ => rfl) ?_
    refine mx_J.step (sn_54 5) (fun _ _ => rfl) ?_
    have b4 : 0 ≤ Z 3 4 ∧ Z 3 4 ≤ 400 := hG.pr 3 4
    refine JgetI (g := 4) (z := Z 3 4) hx (show mx_Sn _ _ 6 (mx_getf 7 4 9) from sn_54 6) a3 s3 rfl rfl rfl ?_
    refine JcI (z := 1) (show mx_Sn _ _ 9 (mx_const (.int 1) 10) from sn_54 9) rfl ?_
    refine Jicmp_eq (show mx_Sn _ _ 10 (mx_icmp_eq 20 13) from sn_54 10) (by omega) (by omega) (fun q5 => ?_) (fun q5 => ?_)
    · skip
      refine mx_J.step (sn_54 20) (fun _ _ => rfl) ?_
      refine mx_J.step (sn_54 21) (fun _ _ => rfl) ?_
      have c30 : ((Z 3 5) < x0 ∨ x1 < (Z 3 5)) → mx_J (tB l D b0 ad Hb tau) mt_54 (d + 6) 30 [some (.ref 3), some (xI x0), some (xI x1), some (xI (Z 3 5))] [] h Post := by
        intro f6_0
        refine mx_J.step (sn_54 30) (fun _ _ => rfl) ?_
        refine JcI (z := 3) (show mx_Sn _ _ 31 (mx_const (.int 3) 32) from sn_54 31) rfl ?_
        obtain ⟨Z7, h7, hc7, hx7, hG7, hf7, b7⟩ := ct_55_3 (d := d + 5) (l := l) (D := D) (b0 := b0) (ad := ad) (Hb := Hb) (tau := tau) hx hG (show 2 ≤ 3 ∧ 3 ≤ 4 by omega)
        have b8 : 0 ≤ Z7 3 4 ∧ Z7 3 4 ≤ 400 := hG7.pr 3 4
        refine Jcv0 hx (show mx_Sn _ _ 32 (mx_callv 55 2 7 35) from sn_54 32) a3 s3 hc7 rfl rfl rfl ?_
        refine JcI (z := 0) (show mx_Sn _ _ 35 (mx_const (.int 0) 36) from sn_54 35) rfl ?_
        have eq9 : Z7 3 2 = Z 3 2 := (hf7 3 2 rfl)
        have b10 : 0 ≤ Z 3 2 ∧ Z 3 2 ≤ 900 := hG.pr 3 2
        have eq11 : Z7 3 3 = Z 3 3 := (hf7 3 3 rfl)
        have b12 : 0 ≤ Z 3 3 ∧ Z 3 3 ≤ 900 := hG.pr 3 3
        have b13 : 0 ≤ Z7 3 4 ∧ Z7 3 4 ≤ 400 := hG7.pr 3 4
        have eq14 : Z7 3 7 = Z 3 7 := (hf7 3 7 rfl)
        have b15 : 0 ≤ Z 3 7 ∧ Z 3 7 ≤ 900 := hG.pr 3 7
        have b16 : 0 ≤ Z7 3 14 ∧ Z7 3 14 ≤ 4 := hG7.pr 3 14
        have eq17 : Z7 3 0 = Z 3 0 := (hf7 3 0 rfl)
        have b18 : 2 ≤ Z 3 0 ∧ Z 3 0 ≤ 4 := hG.pr 3 0
        have eq19 : Z7 3 1 = Z 3 1 := (hf7 3 1 rfl)
        have b20 : 0 ≤ Z 3 1 ∧ Z 3 1 ≤ 900 := hG.pr 3 1
        have eq21 : Z7 3 2 = Z 3 2 := (hf7 3 2 rfl)
        have b22 : 0 ≤ Z 3 2 ∧ Z 3 2 ≤ 900 := hG.pr 3 2
        have eq23 : Z7 3 3 = Z 3 3 := (hf7 3 3 rfl)
        have b24 : 0 ≤ Z 3 3 ∧ Z 3 3 ≤ 900 := hG.pr 3 3
        have b25 : 0 ≤ Z7 3 4 ∧ Z7 3 4 ≤ 400 := hG7.pr 3 4
        have eq26 : Z7 3 7 = Z 3 7 := (hf7 3 7 rfl)
        have b27 : 0 ≤ Z 3 7 ∧ Z 3 7 ≤ 900 := hG.pr 3 7
        have b28 : 0 ≤ Z7 3 14 ∧ Z7 3 14 ≤ 4 := hG7.pr 3 14
        exact mx_J.ret (sn_54 36) (fun _ _ => rfl) (hP 0 Z7 h7 hx7 hG7 (fr_tr (M := [(3, 2), (3, 3), (3, 4), (3, 5), (3, 14), (3, 15)]) fr_rf (hf7) (M1 := []) rfl rfl) (by omega))
      refine Jicmp_lt (show mx_Sn _ _ 22 (mx_icmp_lt 30 25) from sn_54 22) (by omega) (by omega) (fun q29 => ?_) (fun q29 => ?_)
      · skip
        exact c30 (by omega)
      · skip
        refine mx_J.step (sn_54 25) (fun _ _ => rfl) ?_
        refine mx_J.step (sn_54 26) (fun _ _ => rfl) ?_
        refine Jicmp_le (show mx_Sn _ _ 27 (mx_icmp_le 37 30) from sn_54 27) (by omega) (by omega) (fun q30 => ?_) (fun q30 => ?_)
        · skip
          refine mx_J.step (sn_54 37) (fun _ _ => rfl) ?_
          have b32 : 2 ≤ Z 3 0 ∧ Z 3 0 ≤ 4 := hG.pr 3 0
          have b33 : 0 ≤ Z 3 1 ∧ Z 3 1 ≤ 900 := hG.pr 3 1
          have b34 : 0 ≤ Z 3 2 ∧ Z 3 2 ≤ 900 := hG.pr 3 2
          have b35 : 0 ≤ Z 3 3 ∧ Z 3 3 ≤ 900 := hG.pr 3 3
          have b36 : 0 ≤ Z 3 4 ∧ Z 3 4 ≤ 400 := hG.pr 3 4
          have b37 : 0 ≤ Z 3 14 ∧ Z 3 14 ≤ 4 := hG.pr 3 14
          obtain ⟨Z31, h31, hc31, hx31, hG31, hf31, b31⟩ := ct_56_3 (d := d + 0) (l := l) (D := D) (b0 := b0) (ad := ad) (Hb := Hb) (tau := tau) hx hG  (show Z 3 0 = 2 by omega) (show Z 3 2 ≤ Z 3 1 by omega)
          have b38 : 0 ≤ Z31 3 2 ∧ Z31 3 2 ≤ 900 := hG31.pr 3 2
          have b39 : 0 ≤ Z31 3 3 ∧ Z31 3 3 ≤ 900 := hG31.pr 3 3
          have b40 : 0 ≤ Z31 3 4 ∧ Z31 3 4 ≤ 400 := hG31.pr 3 4
          refine Jcv0 hx (show mx_Sn _ _ 38 (mx_callv 56 1 7 41) from sn_54 38) a3 s3 hc31 rfl rfl rfl ?_
          refine mx_J.step (sn_54 41) (fun _ _ => rfl) ?_
          have b41 : 0 ≤ Z31 3 2 ∧ Z31 3 2 ≤ 900 := hG31.pr 3 2
          have b42 : 0 ≤ Z31 3 3 ∧ Z31 3 3 ≤ 900 := hG31.pr 3 3
          have b43 : 0 ≤ Z31 3 4 ∧ Z31 3 4 ≤ 400 := hG31.pr 3 4
          have eq44 : Z31 3 7 = Z 3 7 := (hf31 3 7 rfl)
          have b45 : 0 ≤ Z 3 7 ∧ Z 3 7 ≤ 900 := hG.pr 3 7
          have eq46 : Z31 3 14 = Z 3 14 := (hf31 3 14 rfl)
          have b47 : 0 ≤ Z 3 14 ∧ Z 3 14 ≤ 4 := hG.pr 3 14
          have eq48 : Z31 3 0 = Z 3 0 := (hf31 3 0 rfl)
          have b49 : 2 ≤ Z 3 0 ∧ Z 3 0 ≤ 4 := hG.pr 3 0
          have eq50 : Z31 3 1 = Z 3 1 := (hf31 3 1 rfl)
          have b51 : 0 ≤ Z 3 1 ∧ Z 3 1 ≤ 900 := hG.pr 3 1
          have b52 : 0 ≤ Z31 3 2 ∧ Z31 3 2 ≤ 900 := hG31.pr 3 2
          have b53 : 0 ≤ Z31 3 3 ∧ Z31 3 3 ≤ 900 := hG31.pr 3 3
          have b54 : 0 ≤ Z31 3 4 ∧ Z31 3 4 ≤ 400 := hG31.pr 3 4
          have eq55 : Z31 3 7 = Z 3 7 := (hf31 3 7 rfl)
          have b56 : 0 ≤ Z 3 7 ∧ Z 3 7 ≤ 900 := hG.pr 3 7
          have eq57 : Z31 3 14 = Z 3 14 := (hf31 3 14 rfl)
          have b58 : 0 ≤ Z 3 14 ∧ Z 3 14 ≤ 4 := hG.pr 3 14
          exact mx_J.ret (sn_54 42) (fun _ _ => rfl) (hP (Z 3 5) Z31 h31 hx31 hG31 (fr_tr (M := [(3, 2), (3, 3), (3, 4), (3, 5), (3, 14), (3, 15)]) fr_rf (hf31) (M1 := []) rfl rfl) (by omega))
        · skip
          exact c30 (by omega)
    · skip
      refine mx_J.step (sn_54 13) (fun _ _ => rfl) ?_
      refine JcI (z := 2) (show mx_Sn _ _ 14 (mx_const (.int 2) 15) from sn_54 14) rfl ?_
      obtain ⟨Z59, h59, hc59, hx59, hG59, hf59, b59⟩ := ct_55_3 (d := d + 5) (l := l) (D := D) (b0 := b0) (ad := ad) (Hb := Hb) (tau := tau) hx hG (show 2 ≤ 2 ∧ 2 ≤ 4 by omega)
      have b60 : 0 ≤ Z59 3 4 ∧ Z59 3 4 ≤ 400 := hG59.pr 3 4
      refine Jcv0 hx (show mx_Sn _ _ 15 (mx_callv 55 2 7 18) from sn_54 15) a3 s3 hc59 rfl rfl rfl ?_
      refine JcI (z := 0) (show mx_Sn _ _ 18 (mx_const (.int 0) 19) from sn_54 18) rfl ?_
      have eq61 : Z59 3 2 = Z 3 2 := (hf59 3 2 rfl)
      have b62 : 0 ≤ Z 3 2 ∧ Z 3 2 ≤ 900 := hG.pr 3 2
      have eq63 : Z59 3 3 = Z 3 3 := (hf59 3 3 rfl)
      have b64 : 0 ≤ Z 3 3 ∧ Z 3 3 ≤ 900 := hG.pr 3 3
      have b65 : 0 ≤ Z59 3 4 ∧ Z59 3 4 ≤ 400 := hG59.pr 3 4
      have eq66 : Z59 3 7 = Z 3 7 := (hf59 3 7 rfl)
      have b67 : 0 ≤ Z 3 7 ∧ Z 3 7 ≤ 900 := hG.pr 3 7
      have b68 : 0 ≤ Z59 3 14 ∧ Z59 3 14 ≤ 4 := hG59.pr 3 14
      have eq69 : Z59 3 0 = Z 3 0 := (hf59 3 0 rfl)
      have b70 : 2 ≤ Z 3 0 ∧ Z 3 0 ≤ 4 := hG.pr 3 0
      have eq71 : Z59 3 1 = Z 3 1 := (hf59 3 1 rfl)
      have b72 : 0 ≤ Z 3 1 ∧ Z 3 1 ≤ 900 := hG.pr 3 1
      have eq73 : Z59 3 2 = Z 3 2 := (hf59 3 2 rfl)
      have b74 : 0 ≤ Z 3 2 ∧ Z 3 2 ≤ 900 := hG.pr 3 2
      have eq75 : Z59 3 3 = Z 3 3 := (hf59 3 3 rfl)
      have b76 : 0 ≤ Z 3 3 ∧ Z 3 3 ≤ 900 := hG.pr 3 3
      have b77 : 0 ≤ Z59 3 4 ∧ Z59 3 4 ≤ 400 := hG59.pr 3 4
      have eq78 : Z59 3 7 = Z 3 7 := (hf59 3 7 rfl)
      have b79 : 0 ≤ Z 3 7 ∧ Z 3 7 ≤ 900 := hG.pr 3 7
      have b80 : 0 ≤ Z59 3 14 ∧ Z59 3 14 ≤ 4 := hG59.pr 3 14
      exact mx_J.ret (sn_54 19) (fun _ _ => rfl) (hP 0 Z59 h59 hx59 hG59 (fr_tr (M := [(3, 2), (3, 3), (3, 4), (3, 5), (3, 14), (3, 15)]) fr_rf (hf59) (M1 := []) rfl rfl) (by omega))
theorem ct_54_3 {l : Launch} {D : va_G} {b0 : Nat} {ad : Nat → Nat} {Hb : Heap} {tau : Nat → Int64} {d n s : Nat} {S : Nat → xS} {Z : xZ} {h : mx_H} (hx : XH n s S Z h) (hG : GI n S Z)  {x0 x1 : Int} (p0 : 0 ≤ x0 ∧ x0 ≤ 1) (p1 : 0 ≤ x1 ∧ x1 ≤ 999) (k0 : Z 3 0 = 2) (k1 : (Z 3 3 ≤ Z 3 2 ∧ Z 3 2 ≤ Z 3 1 ∧ (Z 3 4 = 0 ∨ Z 3 4 = 3 ∨ Z 3 3 < Z 3 2) ∧ (Z 3 4 = 3 ∨ Z 3 14 = 0))) : ∃ (z : Int) (Z' : xZ) (h' : mx_H), mx_Ca (tB l D b0 ad Hb tau) (d + 7) 54 [.ref 3, xI x0, xI x1] h (some (xI z), h') ∧ XH n s S Z' h' ∧ GI n S Z' ∧ fr' [(3, 2), (3, 3), (3, 4), (3, 5), (3, 14), (3, 15)] Z Z' ∧ (0 ≤ z ∧ z ≤ 999 ∧ ((Z' 3 3 ≤ Z' 3 2 ∧ Z' 3 2 ≤ Z 3 1 ∧ (Z' 3 4 = 0 ∨ Z' 3 4 = 3 ∨ Z' 3 3 < Z' 3 2) ∧ (Z' 3 4 = 3 ∨ Z' 3 14 = 0)) ∧ Z 3 3 ≤ Z' 3 3 ∧ (Z' 3 4 = 3 ∨ Z 3 3 + 1 ≤ Z' 3 3) ∧ (Z 3 4 = 3 → Z' 3 4 = 3) ∧ (z = 0 ∨ (x0 ≤ z ∧ z ≤ x1)) ∧ (x0 = 1 → z = 0 → Z' 3 4 = 3) ∧ (Z 3 4 = 1 → x0 = 0 → x1 = 999 → Z 3 3 + 1 ≤ Z' 3 3))) := by
  obtain ⟨r, hca, z, Z', h', e, q⟩ := Jmt (B := tB l D b0 ad Hb tau) (M := mt_54) (mi := 54) (as := [.ref 3, xI x0, xI x1]) (d := d + 6) (ls := [some (.ref 3), some (xI x0), some (xI x1), none]) rfl rfl rfl rfl rfl rfl (cw_54_3 (l := l) (D := D) (b0 := b0) (ad := ad) (Hb := Hb) (tau := tau) (d := d) (Post := fun r => ∃ (z : Int) (Z' : xZ) (h' : mx_H), r = (some (xI z), h') ∧ XH n s S Z' h' ∧ GI n S Z' ∧ fr' [(3, 2), (3, 3), (3, 4), (3, 5), (3, 14), (3, 15)] Z Z' ∧ (0 ≤ z ∧ z ≤ 999 ∧ ((Z' 3 3 ≤ Z' 3 2 ∧ Z' 3 2 ≤ Z 3 1 ∧ (Z' 3 4 = 0 ∨ Z' 3 4 = 3 ∨ Z' 3 3 < Z' 3 2) ∧ (Z' 3 4 = 3 ∨ Z' 3 14 = 0)) ∧ Z 3 3 ≤ Z' 3 3 ∧ (Z' 3 4 = 3 ∨ Z 3 3 + 1 ≤ Z' 3 3) ∧ (Z 3 4 = 3 → Z' 3 4 = 3) ∧ (z = 0 ∨ (x0 ≤ z ∧ z ≤ x1)) ∧ (x0 = 1 → z = 0 → Z' 3 4 = 3) ∧ (Z 3 4 = 1 → x0 = 0 → x1 = 999 → Z 3 3 + 1 ≤ Z' 3 3)))) hx hG p0 p1 k0 k1 (fun z Z' h' q1 q2 q3 q4 => ⟨z, Z', h', rfl, q1, q2, q3, q4⟩))
  subst e; exact ⟨z, Z', h', hca, q⟩
set_option maxRecDepth 100000 in
theorem cw_52_3_0 {l : Launch} {D : va_G} {b0 : Nat} {ad : Nat → Nat} {Hb : Heap} {tau : Nat → Int64} {d n s : Nat} {S : Nat → xS} {Z : xZ} {h : mx_H} {Post : mx_R → Prop} (hx : XH n s S Z h) (hG : GI n S Z)  {x0 : Int} (p0 : 0 ≤ x0 ∧ x0 ≤ 1004) (hP : ∀ (Z' : xZ) (h' : mx_H), XH n s S Z' h' → GI n S Z' → fr' [(3, 7), (5, (-1))] Z Z' → (Z 3 7 ≤ Z' 3 7 ∧ Z' 3 7 ≤ Z 3 7 + 1) → Post (none, h')) : mx_J (tB l D b0 ad Hb tau) mt_52 (d + 0) 0 [some (.ref 3), some (xI x0)] [] h Post := by
    have a3 : 3 < n := lt83 (GI_n hG) rfl
    have s3 : S 3 = .inl (7, [2, 0, 0, 0, 0, 0, 2, 0, 2, 2, 0, 2, 0, 0, 0, 0]) := GI_s hG 3 rfl
    have a5 : 5 < n := lt83 (GI_n hG) rfl
    have s5 : S 5 = .inr (.int, 900, 0) := GI_s hG 5 rfl
    refine mx_J.step (sn_52 0) (fun _ _ => rfl) ?_
    have b2 : 0 ≤ Z 3 7 ∧ Z 3 7 ≤ 900 := hG.pr 3 7
    refine JgetI (g := 7) (z := Z 3 7) hx (show mx_Sn _ _ 1 (mx_getf 7 7 4) from sn_52 1) a3 s3 rfl rfl rfl ?_
    refine mx_J.step (sn_52 4) (fun _ _ => rfl) ?_
    refine JgetR (g := 6) (b := 5) hx (show mx_Sn _ _ 5 (mx_getf 7 6 8) from sn_52 5) a3 s3 rfl rfl (hG.prr 3 6 rfl) ?_
    refine JalenI (z := 900) hx (show mx_Sn _ _ 8 (mx_alen 9) from sn_52 8) a5 s5 (by decide) rfl ?_
    have c32 : ∀  (Z5 : xZ) (h5 : mx_H), (Z 3 7 ≤ Z5 3 7 ∧ Z5 3 7 ≤ Z 3 7 + 1) → XH n s S Z5 h5 → GI n S Z5 → fr' [(3, 7), (5, (-1))] Z Z5 → mx_J (tB l D b0 ad Hb tau) mt_52 (d + 0) 32 [some (.ref 3), some (xI x0)] [] h5 Post := by
      intro Z5 h5 f4_0 hx5 hG5 hf5
      have b6 : 0 ≤ Z5 3 7 ∧ Z5 3 7 ≤ 900 := hG5.pr 3 7
      have b7 : 0 ≤ Z5 3 7 ∧ Z5 3 7 ≤ 900 := hG5.pr 3 7
      have b8 : 0 ≤ Z5 3 7 ∧ Z5 3 7 ≤ 900 := hG5.pr 3 7
      exact mx_J.ret (sn_52 32) (fun _ _ => rfl) (hP Z5 h5 hx5 hG5 (fr_tr (M := [(3, 7), (5, (-1))]) fr_rf (hf5) (M1 := []) rfl rfl) (by omega))
    refine Jicmp_ge (show mx_Sn _ _ 9 (mx_icmp_ge 32 12) from sn_52 9) (by omega) (by omega) (fun q9 => ?_) (fun q9 => ?_)
    · skip
      have b10 : 0 ≤ Z 3 7 ∧ Z 3 7 ≤ 900 := hG.pr 3 7
      exact c32 Z h (by omega) hx hG fr_rf
    · skip
      refine mx_J.step (sn_52 12) (fun _ _ => rfl) ?_
      refine JgetR (g := 6) (b := 5) hx (show mx_Sn _ _ 13 (mx_getf 7 6 16) from sn_52 13) a3 s3 rfl rfl (hG.prr 3 6 rfl) ?_
      refine mx_J.step (sn_52 16) (fun _ _ => rfl) ?_
      have b13 : 0 ≤ Z 3 7 ∧ Z 3 7 ≤ 900 := hG.pr 3 7
      refine JgetI (g := 7) (z := Z 3 7) hx (show mx_Sn _ _ 17 (mx_getf 7 7 20) from sn_52 17) a3 s3 rfl rfl rfl ?_
      refine mx_J.step (sn_52 20) (fun _ _ => rfl) ?_
      refine JiastI hx (show mx_Sn _ _ 21 (mx_iast 1 22) from sn_52 21) a5 s5 rfl (by omega) (fun Z14 h14 hx14 hE14 => ?_)
      have hG14 := GI_up hG hE14 (show 0 ≤ x0 ∧ x0 ≤ 1019 by omega) (show (x0 ≤ 1004 ∨ 1010 ≤ x0) by first | omega | (unfold f57 at *; omega)) rfl
      refine mx_J.step (sn_52 22) (fun _ _ => rfl) ?_
      refine mx_J.step (sn_52 23) (fun _ _ => rfl) ?_
      have b16 : 0 ≤ Z 3 7 ∧ Z 3 7 ≤ 900 := hG.pr 3 7
      refine JgetI (g := 7) (z := Z 3 7) hx14 (show mx_Sn _ _ 24 (mx_getf 7 7 27) from sn_52 24) a3 s3 rfl rfl (up_nk hE14 rfl) ?_
      refine JcI (z := 1) (show mx_Sn _ _ 27 (mx_const (.int 1) 28) from sn_52 27) rfl ?_
      refine Jiadd (show mx_Sn _ _ 28 (mx_iadd 29) from sn_52 28) ?_
      refine JputI (g := 7) hx14 (show mx_Sn _ _ 29 (mx_putf 1 7 7 (.int) 32) from sn_52 29) a3 s3 rfl rfl rfl rfl (fun Z17 h17 hx17 hE17 => ?_)
      have hG17 := GI_up hG14 hE17 (show 0 ≤ (Z 3 7) + 1 ∧ (Z 3 7) + 1 ≤ 900 by omega) trivial rfl
      have eq18 : Z17 3 7 = (Z 3 7) + 1 := (up_at hE17)
      exact c32 Z17 h17 (by omega) hx17 hG17 (fr_tr (M := [(3, 7), (5, (-1))]) (fr_tr (M := [(3, 7), (5, (-1))]) fr_rf (fr_ua hE14) (M1 := []) rfl rfl) (fr_up hE17) rfl rfl)
theorem ct_52_3_0 {l : Launch} {D : va_G} {b0 : Nat} {ad : Nat → Nat} {Hb : Heap} {tau : Nat → Int64} {d n s : Nat} {S : Nat → xS} {Z : xZ} {h : mx_H} (hx : XH n s S Z h) (hG : GI n S Z)  {x0 : Int} (p0 : 0 ≤ x0 ∧ x0 ≤ 1004) : ∃ (Z' : xZ) (h' : mx_H), mx_Ca (tB l D b0 ad Hb tau) (d + 1) 52 [.ref 3, xI x0] h (none, h') ∧ XH n s S Z' h' ∧ GI n S Z' ∧ fr' [(3, 7), (5, (-1))] Z Z' ∧ ((Z 3 7 ≤ Z' 3 7 ∧ Z' 3 7 ≤ Z 3 7 + 1)) := by
  obtain ⟨r, hca, Z', h', e, q⟩ := Jmt (B := tB l D b0 ad Hb tau) (M := mt_52) (mi := 52) (as := [.ref 3, xI x0]) (d := d + 0) (ls := [some (.ref 3), some (xI x0)]) rfl rfl rfl rfl rfl rfl (cw_52_3_0 (l := l) (D := D) (b0 := b0) (ad := ad) (Hb := Hb) (tau := tau) (d := d) (Post := fun r => ∃ (Z' : xZ) (h' : mx_H), r = (none, h') ∧ XH n s S Z' h' ∧ GI n S Z' ∧ fr' [(3, 7), (5, (-1))] Z Z' ∧ ((Z 3 7 ≤ Z' 3 7 ∧ Z' 3 7 ≤ Z 3 7 + 1))) hx hG p0 (fun Z' h' q1 q2 q3 q4 => ⟨Z', h', rfl, q1, q2, q3, q4⟩))
  subst e; exact ⟨Z', h', hca, q⟩
set_option maxRecDepth 100000 in
theorem cw_52_3_1010 {l : Launch} {D : va_G} {b0 : Nat} {ad : Nat → Nat} {Hb : Heap} {tau : Nat → Int64} {d n s : Nat} {S : Nat → xS} {Z : xZ} {h : mx_H} {Post : mx_R → Prop} (hx : XH n s S Z h) (hG : GI n S Z)  {x0 : Int} (p0 : 1010 ≤ x0 ∧ x0 ≤ 1019) (hP : ∀ (Z' : xZ) (h' : mx_H), XH n s S Z' h' → GI n S Z' → fr' [(3, 7), (5, (-1))] Z Z' → (Z 3 7 ≤ Z' 3 7 ∧ Z' 3 7 ≤ Z 3 7 + 1) → Post (none, h')) : mx_J (tB l D b0 ad Hb tau) mt_52 (d + 0) 0 [some (.ref 3), some (xI x0)] [] h Post := by
    have a3 : 3 < n := lt83 (GI_n hG) rfl
    have s3 : S 3 = .inl (7, [2, 0, 0, 0, 0, 0, 2, 0, 2, 2, 0, 2, 0, 0, 0, 0]) := GI_s hG 3 rfl
    have a5 : 5 < n := lt83 (GI_n hG) rfl
    have s5 : S 5 = .inr (.int, 900, 0) := GI_s hG 5 rfl
    refine mx_J.step (sn_52 0) (fun _ _ => rfl) ?_
    have b2 : 0 ≤ Z 3 7 ∧ Z 3 7 ≤ 900 := hG.pr 3 7
    refine JgetI (g := 7) (z := Z 3 7) hx (show mx_Sn _ _ 1 (mx_getf 7 7 4) from sn_52 1) a3 s3 rfl rfl rfl ?_
    refine mx_J.step (sn_52 4) (fun _ _ => rfl) ?_
    refine JgetR (g := 6) (b := 5) hx (show mx_Sn _ _ 5 (mx_getf 7 6 8) from sn_52 5) a3 s3 rfl rfl (hG.prr 3 6 rfl) ?_
    refine JalenI (z := 900) hx (show mx_Sn _ _ 8 (mx_alen 9) from sn_52 8) a5 s5 (by decide) rfl ?_
    have c32 : ∀  (Z5 : xZ) (h5 : mx_H), (Z 3 7 ≤ Z5 3 7 ∧ Z5 3 7 ≤ Z 3 7 + 1) → XH n s S Z5 h5 → GI n S Z5 → fr' [(3, 7), (5, (-1))] Z Z5 → mx_J (tB l D b0 ad Hb tau) mt_52 (d + 0) 32 [some (.ref 3), some (xI x0)] [] h5 Post := by
      intro Z5 h5 f4_0 hx5 hG5 hf5
      have b6 : 0 ≤ Z5 3 7 ∧ Z5 3 7 ≤ 900 := hG5.pr 3 7
      have b7 : 0 ≤ Z5 3 7 ∧ Z5 3 7 ≤ 900 := hG5.pr 3 7
      have b8 : 0 ≤ Z5 3 7 ∧ Z5 3 7 ≤ 900 := hG5.pr 3 7
      exact mx_J.ret (sn_52 32) (fun _ _ => rfl) (hP Z5 h5 hx5 hG5 (fr_tr (M := [(3, 7), (5, (-1))]) fr_rf (hf5) (M1 := []) rfl rfl) (by omega))
    refine Jicmp_ge (show mx_Sn _ _ 9 (mx_icmp_ge 32 12) from sn_52 9) (by omega) (by omega) (fun q9 => ?_) (fun q9 => ?_)
    · skip
      have b10 : 0 ≤ Z 3 7 ∧ Z 3 7 ≤ 900 := hG.pr 3 7
      exact c32 Z h (by omega) hx hG fr_rf
    · skip
      refine mx_J.step (sn_52 12) (fun _ _ => rfl) ?_
      refine JgetR (g := 6) (b := 5) hx (show mx_Sn _ _ 13 (mx_getf 7 6 16) from sn_52 13) a3 s3 rfl rfl (hG.prr 3 6 rfl) ?_
      refine mx_J.step (sn_52 16) (fun _ _ => rfl) ?_
      have b13 : 0 ≤ Z 3 7 ∧ Z 3 7 ≤ 900 := hG.pr 3 7
      refine JgetI (g := 7) (z := Z 3 7) hx (show mx_Sn _ _ 17 (mx_getf 7 7 20) from sn_52 17) a3 s3 rfl rfl rfl ?_
      refine mx_J.step (sn_52 20) (fun _ _ => rfl) ?_
      refine JiastI hx (show mx_Sn _ _ 21 (mx_iast 1 22) from sn_52 21) a5 s5 rfl (by omega) (fun Z14 h14 hx14 hE14 => ?_)
      have hG14 := GI_up hG hE14 (show 0 ≤ x0 ∧ x0 ≤ 1019 by omega) (show (x0 ≤ 1004 ∨ 1010 ≤ x0) by first | omega | (unfold f57 at *; omega)) rfl
      refine mx_J.step (sn_52 22) (fun _ _ => rfl) ?_
      refine mx_J.step (sn_52 23) (fun _ _ => rfl) ?_
      have b16 : 0 ≤ Z 3 7 ∧ Z 3 7 ≤ 900 := hG.pr 3 7
      refine JgetI (g := 7) (z := Z 3 7) hx14 (show mx_Sn _ _ 24 (mx_getf 7 7 27) from sn_52 24) a3 s3 rfl rfl (up_nk hE14 rfl) ?_
      refine JcI (z := 1) (show mx_Sn _ _ 27 (mx_const (.int 1) 28) from sn_52 27) rfl ?_
      refine Jiadd (show mx_Sn _ _ 28 (mx_iadd 29) from sn_52 28) ?_
      refine JputI (g := 7) hx14 (show mx_Sn _ _ 29 (mx_putf 1 7 7 (.int) 32) from sn_52 29) a3 s3 rfl rfl rfl rfl (fun Z17 h17 hx17 hE17 => ?_)
      have hG17 := GI_up hG14 hE17 (show 0 ≤ (Z 3 7) + 1 ∧ (Z 3 7) + 1 ≤ 900 by omega) trivial rfl
      have eq18 : Z17 3 7 = (Z 3 7) + 1 := (up_at hE17)
      exact c32 Z17 h17 (by omega) hx17 hG17 (fr_tr (M := [(3, 7), (5, (-1))]) (fr_tr (M := [(3, 7), (5, (-1))]) fr_rf (fr_ua hE14) (M1 := []) rfl rfl) (fr_up hE17) rfl rfl)
theorem ct_52_3_1010 {l : Launch} {D : va_G} {b0 : Nat} {ad : Nat → Nat} {Hb : Heap} {tau : Nat → Int64} {d n s : Nat} {S : Nat → xS} {Z : xZ} {h : mx_H} (hx : XH n s S Z h) (hG : GI n S Z)  {x0 : Int} (p0 : 1010 ≤ x0 ∧ x0 ≤ 1019) : ∃ (Z' : xZ) (h' : mx_H), mx_Ca (tB l D b0 ad Hb tau) (d + 1) 52 [.ref 3, xI x0] h (none, h') ∧ XH n s S Z' h' ∧ GI n S Z' ∧ fr' [(3, 7), (5, (-1))] Z Z' ∧ ((Z 3 7 ≤ Z' 3 7 ∧ Z' 3 7 ≤ Z 3 7 + 1)) := by
  obtain ⟨r, hca, Z', h', e, q⟩ := Jmt (B := tB l D b0 ad Hb tau) (M := mt_52) (mi := 52) (as := [.ref 3, xI x0]) (d := d + 0) (ls := [some (.ref 3), some (xI x0)]) rfl rfl rfl rfl rfl rfl (cw_52_3_1010 (l := l) (D := D) (b0 := b0) (ad := ad) (Hb := Hb) (tau := tau) (d := d) (Post := fun r => ∃ (Z' : xZ) (h' : mx_H), r = (none, h') ∧ XH n s S Z' h' ∧ GI n S Z' ∧ fr' [(3, 7), (5, (-1))] Z Z' ∧ ((Z 3 7 ≤ Z' 3 7 ∧ Z' 3 7 ≤ Z 3 7 + 1))) hx hG p0 (fun Z' h' q1 q2 q3 q4 => ⟨Z', h', rfl, q1, q2, q3, q4⟩))
  subst e; exact ⟨Z', h', hca, q⟩
set_option maxRecDepth 100000 in
theorem cw_51_3_i6 {l : Launch} {D : va_G} {b0 : Nat} {ad : Nat → Nat} {Hb : Heap} {tau : Nat → Int64} {d n s : Nat} {S : Nat → xS} {Z : xZ} {h : mx_H} {Post : mx_R → Prop} (hx : XH n s S Z h) (hG : GI n S Z)   (k0 : Z 3 0 = 2) (k1 : (Z 3 3 ≤ Z 3 2 ∧ Z 3 2 ≤ Z 3 1 ∧ (Z 3 4 = 0 ∨ Z 3 4 = 3 ∨ Z 3 3 < Z 3 2) ∧ (Z 3 4 = 3 ∨ Z 3 14 = 0))) (k2 : ¬ Z 3 4 = 0) (k3 : ¬ Z 3 4 = 3) (hP : ∀ (z : Int) (Z' : xZ) (h' : mx_H), XH n s S Z' h' → GI n S Z' → fr' [(3, 4), (3, 14), (3, 15)] Z Z' → 0 ≤ z ∧ z ≤ 0 ∧ ((Z' 3 3 ≤ Z' 3 2 ∧ Z' 3 2 ≤ Z 3 1 ∧ (Z' 3 4 = 0 ∨ Z' 3 4 = 3 ∨ Z' 3 3 < Z' 3 2) ∧ (Z' 3 4 = 3 ∨ Z' 3 14 = 0)) ∧ Z 3 3 ≤ Z' 3 3 ∧ Z' 3 4 = 3) → Post (some (xI z), h')) : mx_J (tB l D b0 ad Hb tau) mt_51 (d + 1) 0 [some (.ref 3), some (xI 6)] [] h Post := by
    have a3 : 3 < n := lt83 (GI_n hG) rfl
    have s3 : S 3 = .inl (7, [2, 0, 0, 0, 0, 0, 2, 0, 2, 2, 0, 2, 0, 0, 0, 0]) := GI_s hG 3 rfl
    refine mx_J.step (sn_51 0) (fun _ _ => rfl) ?_
    refine JcI (z := 6) (show mx_Sn _ _ 1 (mx_const (.int 6) 3) from sn_51 1) rfl ?_
    refine Jicmp_lt (show mx_Sn _ _ 3 (mx_icmp_lt 13 6) from sn_51 3) (by omega) (by omega) (fun q1 => ?_) (fun q1 => ?_)
    · skip
      exfalso; omega
    · skip
      refine mx_J.step (sn_51 6) (fun _ _ => rfl) ?_
      refine JcI (z := 4) (show mx_Sn _ _ 7 (mx_const (.int 4) 8) from sn_51 7) rfl ?_
      obtain ⟨Z2, h2, hc2, hx2, hG2, hf2, b2⟩ := ct_55_3 (d := d + 0) (l := l) (D := D) (b0 := b0) (ad := ad) (Hb := Hb) (tau := tau) hx hG (show 2 ≤ 4 ∧ 4 ≤ 4 by omega)
      have b3 : 0 ≤ Z2 3 4 ∧ Z2 3 4 ≤ 400 := hG2.pr 3 4
      refine Jcv0 hx (show mx_Sn _ _ 8 (mx_callv 55 2 7 11) from sn_51 8) a3 s3 hc2 rfl rfl rfl ?_
      refine JcI (z := 0) (show mx_Sn _ _ 11 (mx_const (.int 0) 12) from sn_51 11) rfl ?_
      have eq4 : Z2 3 2 = Z 3 2 := (hf2 3 2 rfl)
      have b5 : 0 ≤ Z 3 2 ∧ Z 3 2 ≤ 900 := hG.pr 3 2
      have eq6 : Z2 3 3 = Z 3 3 := (hf2 3 3 rfl)
      have b7 : 0 ≤ Z 3 3 ∧ Z 3 3 ≤ 900 := hG.pr 3 3
      have b8 : 0 ≤ Z2 3 4 ∧ Z2 3 4 ≤ 400 := hG2.pr 3 4
      have eq9 : Z2 3 7 = Z 3 7 := (hf2 3 7 rfl)
      have b10 : 0 ≤ Z 3 7 ∧ Z 3 7 ≤ 900 := hG.pr 3 7
      have b11 : 0 ≤ Z2 3 14 ∧ Z2 3 14 ≤ 4 := hG2.pr 3 14
      have eq12 : Z2 3 0 = Z 3 0 := (hf2 3 0 rfl)
      have b13 : 2 ≤ Z 3 0 ∧ Z 3 0 ≤ 4 := hG.pr 3 0
      have eq14 : Z2 3 1 = Z 3 1 := (hf2 3 1 rfl)
      have b15 : 0 ≤ Z 3 1 ∧ Z 3 1 ≤ 900 := hG.pr 3 1
      have eq16 : Z2 3 2 = Z 3 2 := (hf2 3 2 rfl)
      have b17 : 0 ≤ Z 3 2 ∧ Z 3 2 ≤ 900 := hG.pr 3 2
      have eq18 : Z2 3 3 = Z 3 3 := (hf2 3 3 rfl)
      have b19 : 0 ≤ Z 3 3 ∧ Z 3 3 ≤ 900 := hG.pr 3 3
      have b20 : 0 ≤ Z2 3 4 ∧ Z2 3 4 ≤ 400 := hG2.pr 3 4
      have eq21 : Z2 3 7 = Z 3 7 := (hf2 3 7 rfl)
      have b22 : 0 ≤ Z 3 7 ∧ Z 3 7 ≤ 900 := hG.pr 3 7
      have b23 : 0 ≤ Z2 3 14 ∧ Z2 3 14 ≤ 4 := hG2.pr 3 14
      exact mx_J.ret (show mx_Sn _ _ 12 (mx_zret) from sn_51 12) (fun _ _ => zr_ok (by omega)) (hP 0 Z2 h2 hx2 hG2 (fr_tr (M := [(3, 4), (3, 14), (3, 15)]) fr_rf (hf2) (M1 := []) rfl rfl) (by omega))
theorem ct_51_3_i6 {l : Launch} {D : va_G} {b0 : Nat} {ad : Nat → Nat} {Hb : Heap} {tau : Nat → Int64} {d n s : Nat} {S : Nat → xS} {Z : xZ} {h : mx_H} (hx : XH n s S Z h) (hG : GI n S Z)   (k0 : Z 3 0 = 2) (k1 : (Z 3 3 ≤ Z 3 2 ∧ Z 3 2 ≤ Z 3 1 ∧ (Z 3 4 = 0 ∨ Z 3 4 = 3 ∨ Z 3 3 < Z 3 2) ∧ (Z 3 4 = 3 ∨ Z 3 14 = 0))) (k2 : ¬ Z 3 4 = 0) (k3 : ¬ Z 3 4 = 3) : ∃ (z : Int) (Z' : xZ) (h' : mx_H), mx_Ca (tB l D b0 ad Hb tau) (d + 2) 51 [.ref 3, xI 6] h (some (xI z), h') ∧ XH n s S Z' h' ∧ GI n S Z' ∧ fr' [(3, 4), (3, 14), (3, 15)] Z Z' ∧ (0 ≤ z ∧ z ≤ 0 ∧ ((Z' 3 3 ≤ Z' 3 2 ∧ Z' 3 2 ≤ Z 3 1 ∧ (Z' 3 4 = 0 ∨ Z' 3 4 = 3 ∨ Z' 3 3 < Z' 3 2) ∧ (Z' 3 4 = 3 ∨ Z' 3 14 = 0)) ∧ Z 3 3 ≤ Z' 3 3 ∧ Z' 3 4 = 3)) := by
  obtain ⟨r, hca, z, Z', h', e, q⟩ := Jmt (B := tB l D b0 ad Hb tau) (M := mt_51) (mi := 51) (as := [.ref 3, xI 6]) (d := d + 1) (ls := [some (.ref 3), some (xI 6)]) rfl rfl rfl rfl rfl rfl (cw_51_3_i6 (l := l) (D := D) (b0 := b0) (ad := ad) (Hb := Hb) (tau := tau) (d := d) (Post := fun r => ∃ (z : Int) (Z' : xZ) (h' : mx_H), r = (some (xI z), h') ∧ XH n s S Z' h' ∧ GI n S Z' ∧ fr' [(3, 4), (3, 14), (3, 15)] Z Z' ∧ (0 ≤ z ∧ z ≤ 0 ∧ ((Z' 3 3 ≤ Z' 3 2 ∧ Z' 3 2 ≤ Z 3 1 ∧ (Z' 3 4 = 0 ∨ Z' 3 4 = 3 ∨ Z' 3 3 < Z' 3 2) ∧ (Z' 3 4 = 3 ∨ Z' 3 14 = 0)) ∧ Z 3 3 ≤ Z' 3 3 ∧ Z' 3 4 = 3))) hx hG k0 k1 k2 k3 (fun z Z' h' q1 q2 q3 q4 => ⟨z, Z', h', rfl, q1, q2, q3, q4⟩))
  subst e; exact ⟨z, Z', h', hca, q⟩
set_option maxRecDepth 100000 in
theorem cw_51_3_i0 {l : Launch} {D : va_G} {b0 : Nat} {ad : Nat → Nat} {Hb : Heap} {tau : Nat → Int64} {d n s : Nat} {S : Nat → xS} {Z : xZ} {h : mx_H} {Post : mx_R → Prop} (hx : XH n s S Z h) (hG : GI n S Z)   (k0 : Z 3 0 = 2) (k1 : (Z 3 3 ≤ Z 3 2 ∧ Z 3 2 ≤ Z 3 1 ∧ (Z 3 4 = 0 ∨ Z 3 4 = 3 ∨ Z 3 3 < Z 3 2) ∧ (Z 3 4 = 3 ∨ Z 3 14 = 0))) (k2 : ¬ Z 3 4 = 0) (k3 : ¬ Z 3 4 = 3) (hP : ∀ (z : Int) (Z' : xZ) (h' : mx_H), XH n s S Z' h' → GI n S Z' → fr' [(3, 2), (3, 3), (3, 4), (3, 5)] Z Z' → 1 ≤ z ∧ z ≤ 1 ∧ ((Z' 3 3 ≤ Z' 3 2 ∧ Z' 3 2 ≤ Z 3 1 ∧ (Z' 3 4 = 0 ∨ Z' 3 4 = 3 ∨ Z' 3 3 < Z' 3 2) ∧ (Z' 3 4 = 3 ∨ Z' 3 14 = 0)) ∧ Z 3 3 + 1 ≤ Z' 3 3) → Post (some (xI z), h')) : mx_J (tB l D b0 ad Hb tau) mt_51 (d + 6) 0 [some (.ref 3), some (xI 0)] [] h Post := by
    have a3 : 3 < n := lt83 (GI_n hG) rfl
    have s3 : S 3 = .inl (7, [2, 0, 0, 0, 0, 0, 2, 0, 2, 2, 0, 2, 0, 0, 0, 0]) := GI_s hG 3 rfl
    refine mx_J.step (sn_51 0) (fun _ _ => rfl) ?_
    refine JcI (z := 6) (show mx_Sn _ _ 1 (mx_const (.int 6) 3) from sn_51 1) rfl ?_
    refine Jicmp_lt (show mx_Sn _ _ 3 (mx_icmp_lt 13 6) from sn_51 3) (by omega) (by omega) (fun q1 => ?_) (fun q1 => absurd q1 (by omega))
    refine mx_J.step (sn_51 13) (fun _ _ => rfl) ?_
    have b3 : 2 ≤ Z 3 0 ∧ Z 3 0 ≤ 4 := hG.pr 3 0
    have b4 : 0 ≤ Z 3 1 ∧ Z 3 1 ≤ 900 := hG.pr 3 1
    have b5 : 0 ≤ Z 3 2 ∧ Z 3 2 ≤ 900 := hG.pr 3 2
    have b6 : 0 ≤ Z 3 3 ∧ Z 3 3 ≤ 900 := hG.pr 3 3
    have b7 : 0 ≤ Z 3 4 ∧ Z 3 4 ≤ 400 := hG.pr 3 4
    have b8 : 0 ≤ Z 3 14 ∧ Z 3 14 ≤ 4 := hG.pr 3 14
    obtain ⟨Z2, h2, hc2, hx2, hG2, hf2, b2⟩ := ct_56_3 (d := d + 0) (l := l) (D := D) (b0 := b0) (ad := ad) (Hb := Hb) (tau := tau) hx hG  (show Z 3 0 = 2 by omega) (show Z 3 2 ≤ Z 3 1 by omega)
    have b9 : 0 ≤ Z2 3 2 ∧ Z2 3 2 ≤ 900 := hG2.pr 3 2
    have b10 : 0 ≤ Z2 3 3 ∧ Z2 3 3 ≤ 900 := hG2.pr 3 3
    have b11 : 0 ≤ Z2 3 4 ∧ Z2 3 4 ≤ 400 := hG2.pr 3 4
    refine Jcv0 hx (show mx_Sn _ _ 14 (mx_callv 56 1 7 17) from sn_51 14) a3 s3 hc2 rfl rfl rfl ?_
    refine JcI (z := 1) (show mx_Sn _ _ 17 (mx_const (.int 1) 18) from sn_51 17) rfl ?_
    have b12 : 0 ≤ Z2 3 2 ∧ Z2 3 2 ≤ 900 := hG2.pr 3 2
    have b13 : 0 ≤ Z2 3 3 ∧ Z2 3 3 ≤ 900 := hG2.pr 3 3
    have b14 : 0 ≤ Z2 3 4 ∧ Z2 3 4 ≤ 400 := hG2.pr 3 4
    have eq15 : Z2 3 7 = Z 3 7 := (hf2 3 7 rfl)
    have b16 : 0 ≤ Z 3 7 ∧ Z 3 7 ≤ 900 := hG.pr 3 7
    have eq17 : Z2 3 14 = Z 3 14 := (hf2 3 14 rfl)
    have b18 : 0 ≤ Z 3 14 ∧ Z 3 14 ≤ 4 := hG.pr 3 14
    have eq19 : Z2 3 0 = Z 3 0 := (hf2 3 0 rfl)
    have b20 : 2 ≤ Z 3 0 ∧ Z 3 0 ≤ 4 := hG.pr 3 0
    have eq21 : Z2 3 1 = Z 3 1 := (hf2 3 1 rfl)
    have b22 : 0 ≤ Z 3 1 ∧ Z 3 1 ≤ 900 := hG.pr 3 1
    have b23 : 0 ≤ Z2 3 2 ∧ Z2 3 2 ≤ 900 := hG2.pr 3 2
    have b24 : 0 ≤ Z2 3 3 ∧ Z2 3 3 ≤ 900 := hG2.pr 3 3
    have b25 : 0 ≤ Z2 3 4 ∧ Z2 3 4 ≤ 400 := hG2.pr 3 4
    have eq26 : Z2 3 7 = Z 3 7 := (hf2 3 7 rfl)
    have b27 : 0 ≤ Z 3 7 ∧ Z 3 7 ≤ 900 := hG.pr 3 7
    have eq28 : Z2 3 14 = Z 3 14 := (hf2 3 14 rfl)
    have b29 : 0 ≤ Z 3 14 ∧ Z 3 14 ≤ 4 := hG.pr 3 14
    exact mx_J.ret (show mx_Sn _ _ 18 (mx_zret) from sn_51 18) (fun _ _ => zr_ok (by omega)) (hP 1 Z2 h2 hx2 hG2 (fr_tr (M := [(3, 2), (3, 3), (3, 4), (3, 5)]) fr_rf (hf2) (M1 := []) rfl rfl) (by omega))
theorem ct_51_3_i0 {l : Launch} {D : va_G} {b0 : Nat} {ad : Nat → Nat} {Hb : Heap} {tau : Nat → Int64} {d n s : Nat} {S : Nat → xS} {Z : xZ} {h : mx_H} (hx : XH n s S Z h) (hG : GI n S Z)   (k0 : Z 3 0 = 2) (k1 : (Z 3 3 ≤ Z 3 2 ∧ Z 3 2 ≤ Z 3 1 ∧ (Z 3 4 = 0 ∨ Z 3 4 = 3 ∨ Z 3 3 < Z 3 2) ∧ (Z 3 4 = 3 ∨ Z 3 14 = 0))) (k2 : ¬ Z 3 4 = 0) (k3 : ¬ Z 3 4 = 3) : ∃ (z : Int) (Z' : xZ) (h' : mx_H), mx_Ca (tB l D b0 ad Hb tau) (d + 7) 51 [.ref 3, xI 0] h (some (xI z), h') ∧ XH n s S Z' h' ∧ GI n S Z' ∧ fr' [(3, 2), (3, 3), (3, 4), (3, 5)] Z Z' ∧ (1 ≤ z ∧ z ≤ 1 ∧ ((Z' 3 3 ≤ Z' 3 2 ∧ Z' 3 2 ≤ Z 3 1 ∧ (Z' 3 4 = 0 ∨ Z' 3 4 = 3 ∨ Z' 3 3 < Z' 3 2) ∧ (Z' 3 4 = 3 ∨ Z' 3 14 = 0)) ∧ Z 3 3 + 1 ≤ Z' 3 3)) := by
  obtain ⟨r, hca, z, Z', h', e, q⟩ := Jmt (B := tB l D b0 ad Hb tau) (M := mt_51) (mi := 51) (as := [.ref 3, xI 0]) (d := d + 6) (ls := [some (.ref 3), some (xI 0)]) rfl rfl rfl rfl rfl rfl (cw_51_3_i0 (l := l) (D := D) (b0 := b0) (ad := ad) (Hb := Hb) (tau := tau) (d := d) (Post := fun r => ∃ (z : Int) (Z' : xZ) (h' : mx_H), r = (some (xI z), h') ∧ XH n s S Z' h' ∧ GI n S Z' ∧ fr' [(3, 2), (3, 3), (3, 4), (3, 5)] Z Z' ∧ (1 ≤ z ∧ z ≤ 1 ∧ ((Z' 3 3 ≤ Z' 3 2 ∧ Z' 3 2 ≤ Z 3 1 ∧ (Z' 3 4 = 0 ∨ Z' 3 4 = 3 ∨ Z' 3 3 < Z' 3 2) ∧ (Z' 3 4 = 3 ∨ Z' 3 14 = 0)) ∧ Z 3 3 + 1 ≤ Z' 3 3))) hx hG k0 k1 k2 k3 (fun z Z' h' q1 q2 q3 q4 => ⟨z, Z', h', rfl, q1, q2, q3, q4⟩))
  subst e; exact ⟨z, Z', h', hca, q⟩
set_option maxRecDepth 100000 in
theorem cw_51_3_i1 {l : Launch} {D : va_G} {b0 : Nat} {ad : Nat → Nat} {Hb : Heap} {tau : Nat → Int64} {d n s : Nat} {S : Nat → xS} {Z : xZ} {h : mx_H} {Post : mx_R → Prop} (hx : XH n s S Z h) (hG : GI n S Z)   (k0 : Z 3 0 = 2) (k1 : (Z 3 3 ≤ Z 3 2 ∧ Z 3 2 ≤ Z 3 1 ∧ (Z 3 4 = 0 ∨ Z 3 4 = 3 ∨ Z 3 3 < Z 3 2) ∧ (Z 3 4 = 3 ∨ Z 3 14 = 0))) (k2 : ¬ Z 3 4 = 0) (k3 : ¬ Z 3 4 = 3) (hP : ∀ (z : Int) (Z' : xZ) (h' : mx_H), XH n s S Z' h' → GI n S Z' → fr' [(3, 2), (3, 3), (3, 4), (3, 5)] Z Z' → 1 ≤ z ∧ z ≤ 1 ∧ ((Z' 3 3 ≤ Z' 3 2 ∧ Z' 3 2 ≤ Z 3 1 ∧ (Z' 3 4 = 0 ∨ Z' 3 4 = 3 ∨ Z' 3 3 < Z' 3 2) ∧ (Z' 3 4 = 3 ∨ Z' 3 14 = 0)) ∧ Z 3 3 + 1 ≤ Z' 3 3) → Post (some (xI z), h')) : mx_J (tB l D b0 ad Hb tau) mt_51 (d + 6) 0 [some (.ref 3), some (xI 1)] [] h Post := by
    have a3 : 3 < n := lt83 (GI_n hG) rfl
    have s3 : S 3 = .inl (7, [2, 0, 0, 0, 0, 0, 2, 0, 2, 2, 0, 2, 0, 0, 0, 0]) := GI_s hG 3 rfl
    refine mx_J.step (sn_51 0) (fun _ _ => rfl) ?_
    refine JcI (z := 6) (show mx_Sn _ _ 1 (mx_const (.int 6) 3) from sn_51 1) rfl ?_
    refine Jicmp_lt (show mx_Sn _ _ 3 (mx_icmp_lt 13 6) from sn_51 3) (by omega) (by omega) (fun q1 => ?_) (fun q1 => absurd q1 (by omega))
    refine mx_J.step (sn_51 13) (fun _ _ => rfl) ?_
    have b3 : 2 ≤ Z 3 0 ∧ Z 3 0 ≤ 4 := hG.pr 3 0
    have b4 : 0 ≤ Z 3 1 ∧ Z 3 1 ≤ 900 := hG.pr 3 1
    have b5 : 0 ≤ Z 3 2 ∧ Z 3 2 ≤ 900 := hG.pr 3 2
    have b6 : 0 ≤ Z 3 3 ∧ Z 3 3 ≤ 900 := hG.pr 3 3
    have b7 : 0 ≤ Z 3 4 ∧ Z 3 4 ≤ 400 := hG.pr 3 4
    have b8 : 0 ≤ Z 3 14 ∧ Z 3 14 ≤ 4 := hG.pr 3 14
    obtain ⟨Z2, h2, hc2, hx2, hG2, hf2, b2⟩ := ct_56_3 (d := d + 0) (l := l) (D := D) (b0 := b0) (ad := ad) (Hb := Hb) (tau := tau) hx hG  (show Z 3 0 = 2 by omega) (show Z 3 2 ≤ Z 3 1 by omega)
    have b9 : 0 ≤ Z2 3 2 ∧ Z2 3 2 ≤ 900 := hG2.pr 3 2
    have b10 : 0 ≤ Z2 3 3 ∧ Z2 3 3 ≤ 900 := hG2.pr 3 3
    have b11 : 0 ≤ Z2 3 4 ∧ Z2 3 4 ≤ 400 := hG2.pr 3 4
    refine Jcv0 hx (show mx_Sn _ _ 14 (mx_callv 56 1 7 17) from sn_51 14) a3 s3 hc2 rfl rfl rfl ?_
    refine JcI (z := 1) (show mx_Sn _ _ 17 (mx_const (.int 1) 18) from sn_51 17) rfl ?_
    have b12 : 0 ≤ Z2 3 2 ∧ Z2 3 2 ≤ 900 := hG2.pr 3 2
    have b13 : 0 ≤ Z2 3 3 ∧ Z2 3 3 ≤ 900 := hG2.pr 3 3
    have b14 : 0 ≤ Z2 3 4 ∧ Z2 3 4 ≤ 400 := hG2.pr 3 4
    have eq15 : Z2 3 7 = Z 3 7 := (hf2 3 7 rfl)
    have b16 : 0 ≤ Z 3 7 ∧ Z 3 7 ≤ 900 := hG.pr 3 7
    have eq17 : Z2 3 14 = Z 3 14 := (hf2 3 14 rfl)
    have b18 : 0 ≤ Z 3 14 ∧ Z 3 14 ≤ 4 := hG.pr 3 14
    have eq19 : Z2 3 0 = Z 3 0 := (hf2 3 0 rfl)
    have b20 : 2 ≤ Z 3 0 ∧ Z 3 0 ≤ 4 := hG.pr 3 0
    have eq21 : Z2 3 1 = Z 3 1 := (hf2 3 1 rfl)
    have b22 : 0 ≤ Z 3 1 ∧ Z 3 1 ≤ 900 := hG.pr 3 1
    have b23 : 0 ≤ Z2 3 2 ∧ Z2 3 2 ≤ 900 := hG2.pr 3 2
    have b24 : 0 ≤ Z2 3 3 ∧ Z2 3 3 ≤ 900 := hG2.pr 3 3
    have b25 : 0 ≤ Z2 3 4 ∧ Z2 3 4 ≤ 400 := hG2.pr 3 4
    have eq26 : Z2 3 7 = Z 3 7 := (hf2 3 7 rfl)
    have b27 : 0 ≤ Z 3 7 ∧ Z 3 7 ≤ 900 := hG.pr 3 7
    have eq28 : Z2 3 14 = Z 3 14 := (hf2 3 14 rfl)
    have b29 : 0 ≤ Z 3 14 ∧ Z 3 14 ≤ 4 := hG.pr 3 14
    exact mx_J.ret (show mx_Sn _ _ 18 (mx_zret) from sn_51 18) (fun _ _ => zr_ok (by omega)) (hP 1 Z2 h2 hx2 hG2 (fr_tr (M := [(3, 2), (3, 3), (3, 4), (3, 5)]) fr_rf (hf2) (M1 := []) rfl rfl) (by omega))
theorem ct_51_3_i1 {l : Launch} {D : va_G} {b0 : Nat} {ad : Nat → Nat} {Hb : Heap} {tau : Nat → Int64} {d n s : Nat} {S : Nat → xS} {Z : xZ} {h : mx_H} (hx : XH n s S Z h) (hG : GI n S Z)   (k0 : Z 3 0 = 2) (k1 : (Z 3 3 ≤ Z 3 2 ∧ Z 3 2 ≤ Z 3 1 ∧ (Z 3 4 = 0 ∨ Z 3 4 = 3 ∨ Z 3 3 < Z 3 2) ∧ (Z 3 4 = 3 ∨ Z 3 14 = 0))) (k2 : ¬ Z 3 4 = 0) (k3 : ¬ Z 3 4 = 3) : ∃ (z : Int) (Z' : xZ) (h' : mx_H), mx_Ca (tB l D b0 ad Hb tau) (d + 7) 51 [.ref 3, xI 1] h (some (xI z), h') ∧ XH n s S Z' h' ∧ GI n S Z' ∧ fr' [(3, 2), (3, 3), (3, 4), (3, 5)] Z Z' ∧ (1 ≤ z ∧ z ≤ 1 ∧ ((Z' 3 3 ≤ Z' 3 2 ∧ Z' 3 2 ≤ Z 3 1 ∧ (Z' 3 4 = 0 ∨ Z' 3 4 = 3 ∨ Z' 3 3 < Z' 3 2) ∧ (Z' 3 4 = 3 ∨ Z' 3 14 = 0)) ∧ Z 3 3 + 1 ≤ Z' 3 3)) := by
  obtain ⟨r, hca, z, Z', h', e, q⟩ := Jmt (B := tB l D b0 ad Hb tau) (M := mt_51) (mi := 51) (as := [.ref 3, xI 1]) (d := d + 6) (ls := [some (.ref 3), some (xI 1)]) rfl rfl rfl rfl rfl rfl (cw_51_3_i1 (l := l) (D := D) (b0 := b0) (ad := ad) (Hb := Hb) (tau := tau) (d := d) (Post := fun r => ∃ (z : Int) (Z' : xZ) (h' : mx_H), r = (some (xI z), h') ∧ XH n s S Z' h' ∧ GI n S Z' ∧ fr' [(3, 2), (3, 3), (3, 4), (3, 5)] Z Z' ∧ (1 ≤ z ∧ z ≤ 1 ∧ ((Z' 3 3 ≤ Z' 3 2 ∧ Z' 3 2 ≤ Z 3 1 ∧ (Z' 3 4 = 0 ∨ Z' 3 4 = 3 ∨ Z' 3 3 < Z' 3 2) ∧ (Z' 3 4 = 3 ∨ Z' 3 14 = 0)) ∧ Z 3 3 + 1 ≤ Z' 3 3))) hx hG k0 k1 k2 k3 (fun z Z' h' q1 q2 q3 q4 => ⟨z, Z', h', rfl, q1, q2, q3, q4⟩))
  subst e; exact ⟨z, Z', h', hca, q⟩
set_option maxRecDepth 100000 in
theorem cw_51_3_i2 {l : Launch} {D : va_G} {b0 : Nat} {ad : Nat → Nat} {Hb : Heap} {tau : Nat → Int64} {d n s : Nat} {S : Nat → xS} {Z : xZ} {h : mx_H} {Post : mx_R → Prop} (hx : XH n s S Z h) (hG : GI n S Z)   (k0 : Z 3 0 = 2) (k1 : (Z 3 3 ≤ Z 3 2 ∧ Z 3 2 ≤ Z 3 1 ∧ (Z 3 4 = 0 ∨ Z 3 4 = 3 ∨ Z 3 3 < Z 3 2) ∧ (Z 3 4 = 3 ∨ Z 3 14 = 0))) (k2 : ¬ Z 3 4 = 0) (k3 : ¬ Z 3 4 = 3) (hP : ∀ (z : Int) (Z' : xZ) (h' : mx_H), XH n s S Z' h' → GI n S Z' → fr' [(3, 2), (3, 3), (3, 4), (3, 5)] Z Z' → 1 ≤ z ∧ z ≤ 1 ∧ ((Z' 3 3 ≤ Z' 3 2 ∧ Z' 3 2 ≤ Z 3 1 ∧ (Z' 3 4 = 0 ∨ Z' 3 4 = 3 ∨ Z' 3 3 < Z' 3 2) ∧ (Z' 3 4 = 3 ∨ Z' 3 14 = 0)) ∧ Z 3 3 + 1 ≤ Z' 3 3) → Post (some (xI z), h')) : mx_J (tB l D b0 ad Hb tau) mt_51 (d + 6) 0 [some (.ref 3), some (xI 2)] [] h Post := by
    have a3 : 3 < n := lt83 (GI_n hG) rfl
    have s3 : S 3 = .inl (7, [2, 0, 0, 0, 0, 0, 2, 0, 2, 2, 0, 2, 0, 0, 0, 0]) := GI_s hG 3 rfl
    refine mx_J.step (sn_51 0) (fun _ _ => rfl) ?_
    refine JcI (z := 6) (show mx_Sn _ _ 1 (mx_const (.int 6) 3) from sn_51 1) rfl ?_
    refine Jicmp_lt (show mx_Sn _ _ 3 (mx_icmp_lt 13 6) from sn_51 3) (by omega) (by omega) (fun q1 => ?_) (fun q1 => absurd q1 (by omega))
    refine mx_J.step (sn_51 13) (fun _ _ => rfl) ?_
    have b3 : 2 ≤ Z 3 0 ∧ Z 3 0 ≤ 4 := hG.pr 3 0
    have b4 : 0 ≤ Z 3 1 ∧ Z 3 1 ≤ 900 := hG.pr 3 1
    have b5 : 0 ≤ Z 3 2 ∧ Z 3 2 ≤ 900 := hG.pr 3 2
    have b6 : 0 ≤ Z 3 3 ∧ Z 3 3 ≤ 900 := hG.pr 3 3
    have b7 : 0 ≤ Z 3 4 ∧ Z 3 4 ≤ 400 := hG.pr 3 4
    have b8 : 0 ≤ Z 3 14 ∧ Z 3 14 ≤ 4 := hG.pr 3 14
    obtain ⟨Z2, h2, hc2, hx2, hG2, hf2, b2⟩ := ct_56_3 (d := d + 0) (l := l) (D := D) (b0 := b0) (ad := ad) (Hb := Hb) (tau := tau) hx hG  (show Z 3 0 = 2 by omega) (show Z 3 2 ≤ Z 3 1 by omega)
    have b9 : 0 ≤ Z2 3 2 ∧ Z2 3 2 ≤ 900 := hG2.pr 3 2
    have b10 : 0 ≤ Z2 3 3 ∧ Z2 3 3 ≤ 900 := hG2.pr 3 3
    have b11 : 0 ≤ Z2 3 4 ∧ Z2 3 4 ≤ 400 := hG2.pr 3 4
    refine Jcv0 hx (show mx_Sn _ _ 14 (mx_callv 56 1 7 17) from sn_51 14) a3 s3 hc2 rfl rfl rfl ?_
    refine JcI (z := 1) (show mx_Sn _ _ 17 (mx_const (.int 1) 18) from sn_51 17) rfl ?_
    have b12 : 0 ≤ Z2 3 2 ∧ Z2 3 2 ≤ 900 := hG2.pr 3 2
    have b13 : 0 ≤ Z2 3 3 ∧ Z2 3 3 ≤ 900 := hG2.pr 3 3
    have b14 : 0 ≤ Z2 3 4 ∧ Z2 3 4 ≤ 400 := hG2.pr 3 4
    have eq15 : Z2 3 7 = Z 3 7 := (hf2 3 7 rfl)
    have b16 : 0 ≤ Z 3 7 ∧ Z 3 7 ≤ 900 := hG.pr 3 7
    have eq17 : Z2 3 14 = Z 3 14 := (hf2 3 14 rfl)
    have b18 : 0 ≤ Z 3 14 ∧ Z 3 14 ≤ 4 := hG.pr 3 14
    have eq19 : Z2 3 0 = Z 3 0 := (hf2 3 0 rfl)
    have b20 : 2 ≤ Z 3 0 ∧ Z 3 0 ≤ 4 := hG.pr 3 0
    have eq21 : Z2 3 1 = Z 3 1 := (hf2 3 1 rfl)
    have b22 : 0 ≤ Z 3 1 ∧ Z 3 1 ≤ 900 := hG.pr 3 1
    have b23 : 0 ≤ Z2 3 2 ∧ Z2 3 2 ≤ 900 := hG2.pr 3 2
    have b24 : 0 ≤ Z2 3 3 ∧ Z2 3 3 ≤ 900 := hG2.pr 3 3
    have b25 : 0 ≤ Z2 3 4 ∧ Z2 3 4 ≤ 400 := hG2.pr 3 4
    have eq26 : Z2 3 7 = Z 3 7 := (hf2 3 7 rfl)
    have b27 : 0 ≤ Z 3 7 ∧ Z 3 7 ≤ 900 := hG.pr 3 7
    have eq28 : Z2 3 14 = Z 3 14 := (hf2 3 14 rfl)
    have b29 : 0 ≤ Z 3 14 ∧ Z 3 14 ≤ 4 := hG.pr 3 14
    exact mx_J.ret (show mx_Sn _ _ 18 (mx_zret) from sn_51 18) (fun _ _ => zr_ok (by omega)) (hP 1 Z2 h2 hx2 hG2 (fr_tr (M := [(3, 2), (3, 3), (3, 4), (3, 5)]) fr_rf (hf2) (M1 := []) rfl rfl) (by omega))
theorem ct_51_3_i2 {l : Launch} {D : va_G} {b0 : Nat} {ad : Nat → Nat} {Hb : Heap} {tau : Nat → Int64} {d n s : Nat} {S : Nat → xS} {Z : xZ} {h : mx_H} (hx : XH n s S Z h) (hG : GI n S Z)   (k0 : Z 3 0 = 2) (k1 : (Z 3 3 ≤ Z 3 2 ∧ Z 3 2 ≤ Z 3 1 ∧ (Z 3 4 = 0 ∨ Z 3 4 = 3 ∨ Z 3 3 < Z 3 2) ∧ (Z 3 4 = 3 ∨ Z 3 14 = 0))) (k2 : ¬ Z 3 4 = 0) (k3 : ¬ Z 3 4 = 3) : ∃ (z : Int) (Z' : xZ) (h' : mx_H), mx_Ca (tB l D b0 ad Hb tau) (d + 7) 51 [.ref 3, xI 2] h (some (xI z), h') ∧ XH n s S Z' h' ∧ GI n S Z' ∧ fr' [(3, 2), (3, 3), (3, 4), (3, 5)] Z Z' ∧ (1 ≤ z ∧ z ≤ 1 ∧ ((Z' 3 3 ≤ Z' 3 2 ∧ Z' 3 2 ≤ Z 3 1 ∧ (Z' 3 4 = 0 ∨ Z' 3 4 = 3 ∨ Z' 3 3 < Z' 3 2) ∧ (Z' 3 4 = 3 ∨ Z' 3 14 = 0)) ∧ Z 3 3 + 1 ≤ Z' 3 3)) := by
  obtain ⟨r, hca, z, Z', h', e, q⟩ := Jmt (B := tB l D b0 ad Hb tau) (M := mt_51) (mi := 51) (as := [.ref 3, xI 2]) (d := d + 6) (ls := [some (.ref 3), some (xI 2)]) rfl rfl rfl rfl rfl rfl (cw_51_3_i2 (l := l) (D := D) (b0 := b0) (ad := ad) (Hb := Hb) (tau := tau) (d := d) (Post := fun r => ∃ (z : Int) (Z' : xZ) (h' : mx_H), r = (some (xI z), h') ∧ XH n s S Z' h' ∧ GI n S Z' ∧ fr' [(3, 2), (3, 3), (3, 4), (3, 5)] Z Z' ∧ (1 ≤ z ∧ z ≤ 1 ∧ ((Z' 3 3 ≤ Z' 3 2 ∧ Z' 3 2 ≤ Z 3 1 ∧ (Z' 3 4 = 0 ∨ Z' 3 4 = 3 ∨ Z' 3 3 < Z' 3 2) ∧ (Z' 3 4 = 3 ∨ Z' 3 14 = 0)) ∧ Z 3 3 + 1 ≤ Z' 3 3))) hx hG k0 k1 k2 k3 (fun z Z' h' q1 q2 q3 q4 => ⟨z, Z', h', rfl, q1, q2, q3, q4⟩))
  subst e; exact ⟨z, Z', h', hca, q⟩
set_option maxRecDepth 100000 in
theorem cw_51_3_i3 {l : Launch} {D : va_G} {b0 : Nat} {ad : Nat → Nat} {Hb : Heap} {tau : Nat → Int64} {d n s : Nat} {S : Nat → xS} {Z : xZ} {h : mx_H} {Post : mx_R → Prop} (hx : XH n s S Z h) (hG : GI n S Z)   (k0 : Z 3 0 = 2) (k1 : (Z 3 3 ≤ Z 3 2 ∧ Z 3 2 ≤ Z 3 1 ∧ (Z 3 4 = 0 ∨ Z 3 4 = 3 ∨ Z 3 3 < Z 3 2) ∧ (Z 3 4 = 3 ∨ Z 3 14 = 0))) (k2 : ¬ Z 3 4 = 0) (k3 : ¬ Z 3 4 = 3) (hP : ∀ (z : Int) (Z' : xZ) (h' : mx_H), XH n s S Z' h' → GI n S Z' → fr' [(3, 2), (3, 3), (3, 4), (3, 5)] Z Z' → 1 ≤ z ∧ z ≤ 1 ∧ ((Z' 3 3 ≤ Z' 3 2 ∧ Z' 3 2 ≤ Z 3 1 ∧ (Z' 3 4 = 0 ∨ Z' 3 4 = 3 ∨ Z' 3 3 < Z' 3 2) ∧ (Z' 3 4 = 3 ∨ Z' 3 14 = 0)) ∧ Z 3 3 + 1 ≤ Z' 3 3) → Post (some (xI z), h')) : mx_J (tB l D b0 ad Hb tau) mt_51 (d + 6) 0 [some (.ref 3), some (xI 3)] [] h Post := by
    have a3 : 3 < n := lt83 (GI_n hG) rfl
    have s3 : S 3 = .inl (7, [2, 0, 0, 0, 0, 0, 2, 0, 2, 2, 0, 2, 0, 0, 0, 0]) := GI_s hG 3 rfl
    refine mx_J.step (sn_51 0) (fun _ _ => rfl) ?_
    refine JcI (z := 6) (show mx_Sn _ _ 1 (mx_const (.int 6) 3) from sn_51 1) rfl ?_
    refine Jicmp_lt (show mx_Sn _ _ 3 (mx_icmp_lt 13 6) from sn_51 3) (by omega) (by omega) (fun q1 => ?_) (fun q1 => absurd q1 (by omega))
    refine mx_J.step (sn_51 13) (fun _ _ => rfl) ?_
    have b3 : 2 ≤ Z 3 0 ∧ Z 3 0 ≤ 4 := hG.pr 3 0
    have b4 : 0 ≤ Z 3 1 ∧ Z 3 1 ≤ 900 := hG.pr 3 1
    have b5 : 0 ≤ Z 3 2 ∧ Z 3 2 ≤ 900 := hG.pr 3 2
    have b6 : 0 ≤ Z 3 3 ∧ Z 3 3 ≤ 900 := hG.pr 3 3
    have b7 : 0 ≤ Z 3 4 ∧ Z 3 4 ≤ 400 := hG.pr 3 4
    have b8 : 0 ≤ Z 3 14 ∧ Z 3 14 ≤ 4 := hG.pr 3 14
    obtain ⟨Z2, h2, hc2, hx2, hG2, hf2, b2⟩ := ct_56_3 (d := d + 0) (l := l) (D := D) (b0 := b0) (ad := ad) (Hb := Hb) (tau := tau) hx hG  (show Z 3 0 = 2 by omega) (show Z 3 2 ≤ Z 3 1 by omega)
    have b9 : 0 ≤ Z2 3 2 ∧ Z2 3 2 ≤ 900 := hG2.pr 3 2
    have b10 : 0 ≤ Z2 3 3 ∧ Z2 3 3 ≤ 900 := hG2.pr 3 3
    have b11 : 0 ≤ Z2 3 4 ∧ Z2 3 4 ≤ 400 := hG2.pr 3 4
    refine Jcv0 hx (show mx_Sn _ _ 14 (mx_callv 56 1 7 17) from sn_51 14) a3 s3 hc2 rfl rfl rfl ?_
    refine JcI (z := 1) (show mx_Sn _ _ 17 (mx_const (.int 1) 18) from sn_51 17) rfl ?_
    have b12 : 0 ≤ Z2 3 2 ∧ Z2 3 2 ≤ 900 := hG2.pr 3 2
    have b13 : 0 ≤ Z2 3 3 ∧ Z2 3 3 ≤ 900 := hG2.pr 3 3
    have b14 : 0 ≤ Z2 3 4 ∧ Z2 3 4 ≤ 400 := hG2.pr 3 4
    have eq15 : Z2 3 7 = Z 3 7 := (hf2 3 7 rfl)
    have b16 : 0 ≤ Z 3 7 ∧ Z 3 7 ≤ 900 := hG.pr 3 7
    have eq17 : Z2 3 14 = Z 3 14 := (hf2 3 14 rfl)
    have b18 : 0 ≤ Z 3 14 ∧ Z 3 14 ≤ 4 := hG.pr 3 14
    have eq19 : Z2 3 0 = Z 3 0 := (hf2 3 0 rfl)
    have b20 : 2 ≤ Z 3 0 ∧ Z 3 0 ≤ 4 := hG.pr 3 0
    have eq21 : Z2 3 1 = Z 3 1 := (hf2 3 1 rfl)
    have b22 : 0 ≤ Z 3 1 ∧ Z 3 1 ≤ 900 := hG.pr 3 1
    have b23 : 0 ≤ Z2 3 2 ∧ Z2 3 2 ≤ 900 := hG2.pr 3 2
    have b24 : 0 ≤ Z2 3 3 ∧ Z2 3 3 ≤ 900 := hG2.pr 3 3
    have b25 : 0 ≤ Z2 3 4 ∧ Z2 3 4 ≤ 400 := hG2.pr 3 4
    have eq26 : Z2 3 7 = Z 3 7 := (hf2 3 7 rfl)
    have b27 : 0 ≤ Z 3 7 ∧ Z 3 7 ≤ 900 := hG.pr 3 7
    have eq28 : Z2 3 14 = Z 3 14 := (hf2 3 14 rfl)
    have b29 : 0 ≤ Z 3 14 ∧ Z 3 14 ≤ 4 := hG.pr 3 14
    exact mx_J.ret (show mx_Sn _ _ 18 (mx_zret) from sn_51 18) (fun _ _ => zr_ok (by omega)) (hP 1 Z2 h2 hx2 hG2 (fr_tr (M := [(3, 2), (3, 3), (3, 4), (3, 5)]) fr_rf (hf2) (M1 := []) rfl rfl) (by omega))
theorem ct_51_3_i3 {l : Launch} {D : va_G} {b0 : Nat} {ad : Nat → Nat} {Hb : Heap} {tau : Nat → Int64} {d n s : Nat} {S : Nat → xS} {Z : xZ} {h : mx_H} (hx : XH n s S Z h) (hG : GI n S Z)   (k0 : Z 3 0 = 2) (k1 : (Z 3 3 ≤ Z 3 2 ∧ Z 3 2 ≤ Z 3 1 ∧ (Z 3 4 = 0 ∨ Z 3 4 = 3 ∨ Z 3 3 < Z 3 2) ∧ (Z 3 4 = 3 ∨ Z 3 14 = 0))) (k2 : ¬ Z 3 4 = 0) (k3 : ¬ Z 3 4 = 3) : ∃ (z : Int) (Z' : xZ) (h' : mx_H), mx_Ca (tB l D b0 ad Hb tau) (d + 7) 51 [.ref 3, xI 3] h (some (xI z), h') ∧ XH n s S Z' h' ∧ GI n S Z' ∧ fr' [(3, 2), (3, 3), (3, 4), (3, 5)] Z Z' ∧ (1 ≤ z ∧ z ≤ 1 ∧ ((Z' 3 3 ≤ Z' 3 2 ∧ Z' 3 2 ≤ Z 3 1 ∧ (Z' 3 4 = 0 ∨ Z' 3 4 = 3 ∨ Z' 3 3 < Z' 3 2) ∧ (Z' 3 4 = 3 ∨ Z' 3 14 = 0)) ∧ Z 3 3 + 1 ≤ Z' 3 3)) := by
  obtain ⟨r, hca, z, Z', h', e, q⟩ := Jmt (B := tB l D b0 ad Hb tau) (M := mt_51) (mi := 51) (as := [.ref 3, xI 3]) (d := d + 6) (ls := [some (.ref 3), some (xI 3)]) rfl rfl rfl rfl rfl rfl (cw_51_3_i3 (l := l) (D := D) (b0 := b0) (ad := ad) (Hb := Hb) (tau := tau) (d := d) (Post := fun r => ∃ (z : Int) (Z' : xZ) (h' : mx_H), r = (some (xI z), h') ∧ XH n s S Z' h' ∧ GI n S Z' ∧ fr' [(3, 2), (3, 3), (3, 4), (3, 5)] Z Z' ∧ (1 ≤ z ∧ z ≤ 1 ∧ ((Z' 3 3 ≤ Z' 3 2 ∧ Z' 3 2 ≤ Z 3 1 ∧ (Z' 3 4 = 0 ∨ Z' 3 4 = 3 ∨ Z' 3 3 < Z' 3 2) ∧ (Z' 3 4 = 3 ∨ Z' 3 14 = 0)) ∧ Z 3 3 + 1 ≤ Z' 3 3))) hx hG k0 k1 k2 k3 (fun z Z' h' q1 q2 q3 q4 => ⟨z, Z', h', rfl, q1, q2, q3, q4⟩))
  subst e; exact ⟨z, Z', h', hca, q⟩
set_option maxRecDepth 100000 in
theorem cw_51_3_i4 {l : Launch} {D : va_G} {b0 : Nat} {ad : Nat → Nat} {Hb : Heap} {tau : Nat → Int64} {d n s : Nat} {S : Nat → xS} {Z : xZ} {h : mx_H} {Post : mx_R → Prop} (hx : XH n s S Z h) (hG : GI n S Z)   (k0 : Z 3 0 = 2) (k1 : (Z 3 3 ≤ Z 3 2 ∧ Z 3 2 ≤ Z 3 1 ∧ (Z 3 4 = 0 ∨ Z 3 4 = 3 ∨ Z 3 3 < Z 3 2) ∧ (Z 3 4 = 3 ∨ Z 3 14 = 0))) (k2 : ¬ Z 3 4 = 0) (k3 : ¬ Z 3 4 = 3) (hP : ∀ (z : Int) (Z' : xZ) (h' : mx_H), XH n s S Z' h' → GI n S Z' → fr' [(3, 2), (3, 3), (3, 4), (3, 5)] Z Z' → 1 ≤ z ∧ z ≤ 1 ∧ ((Z' 3 3 ≤ Z' 3 2 ∧ Z' 3 2 ≤ Z 3 1 ∧ (Z' 3 4 = 0 ∨ Z' 3 4 = 3 ∨ Z' 3 3 < Z' 3 2) ∧ (Z' 3 4 = 3 ∨ Z' 3 14 = 0)) ∧ Z 3 3 + 1 ≤ Z' 3 3) → Post (some (xI z), h')) : mx_J (tB l D b0 ad Hb tau) mt_51 (d + 6) 0 [some (.ref 3), some (xI 4)] [] h Post := by
    have a3 : 3 < n := lt83 (GI_n hG) rfl
    have s3 : S 3 = .inl (7, [2, 0, 0, 0, 0, 0, 2, 0, 2, 2, 0, 2, 0, 0, 0, 0]) := GI_s hG 3 rfl
    refine mx_J.step (sn_51 0) (fun _ _ => rfl) ?_
    refine JcI (z := 6) (show mx_Sn _ _ 1 (mx_const (.int 6) 3) from sn_51 1) rfl ?_
    refine Jicmp_lt (show mx_Sn _ _ 3 (mx_icmp_lt 13 6) from sn_51 3) (by omega) (by omega) (fun q1 => ?_) (fun q1 => absurd q1 (by omega))
    refine mx_J.step (sn_51 13) (fun _ _ => rfl) ?_
    have b3 : 2 ≤ Z 3 0 ∧ Z 3 0 ≤ 4 := hG.pr 3 0
    have b4 : 0 ≤ Z 3 1 ∧ Z 3 1 ≤ 900 := hG.pr 3 1
    have b5 : 0 ≤ Z 3 2 ∧ Z 3 2 ≤ 900 := hG.pr 3 2
    have b6 : 0 ≤ Z 3 3 ∧ Z 3 3 ≤ 900 := hG.pr 3 3
    have b7 : 0 ≤ Z 3 4 ∧ Z 3 4 ≤ 400 := hG.pr 3 4
    have b8 : 0 ≤ Z 3 14 ∧ Z 3 14 ≤ 4 := hG.pr 3 14
    obtain ⟨Z2, h2, hc2, hx2, hG2, hf2, b2⟩ := ct_56_3 (d := d + 0) (l := l) (D := D) (b0 := b0) (ad := ad) (Hb := Hb) (tau := tau) hx hG  (show Z 3 0 = 2 by omega) (show Z 3 2 ≤ Z 3 1 by omega)
    have b9 : 0 ≤ Z2 3 2 ∧ Z2 3 2 ≤ 900 := hG2.pr 3 2
    have b10 : 0 ≤ Z2 3 3 ∧ Z2 3 3 ≤ 900 := hG2.pr 3 3
    have b11 : 0 ≤ Z2 3 4 ∧ Z2 3 4 ≤ 400 := hG2.pr 3 4
    refine Jcv0 hx (show mx_Sn _ _ 14 (mx_callv 56 1 7 17) from sn_51 14) a3 s3 hc2 rfl rfl rfl ?_
    refine JcI (z := 1) (show mx_Sn _ _ 17 (mx_const (.int 1) 18) from sn_51 17) rfl ?_
    have b12 : 0 ≤ Z2 3 2 ∧ Z2 3 2 ≤ 900 := hG2.pr 3 2
    have b13 : 0 ≤ Z2 3 3 ∧ Z2 3 3 ≤ 900 := hG2.pr 3 3
    have b14 : 0 ≤ Z2 3 4 ∧ Z2 3 4 ≤ 400 := hG2.pr 3 4
    have eq15 : Z2 3 7 = Z 3 7 := (hf2 3 7 rfl)
    have b16 : 0 ≤ Z 3 7 ∧ Z 3 7 ≤ 900 := hG.pr 3 7
    have eq17 : Z2 3 14 = Z 3 14 := (hf2 3 14 rfl)
    have b18 : 0 ≤ Z 3 14 ∧ Z 3 14 ≤ 4 := hG.pr 3 14
    have eq19 : Z2 3 0 = Z 3 0 := (hf2 3 0 rfl)
    have b20 : 2 ≤ Z 3 0 ∧ Z 3 0 ≤ 4 := hG.pr 3 0
    have eq21 : Z2 3 1 = Z 3 1 := (hf2 3 1 rfl)
    have b22 : 0 ≤ Z 3 1 ∧ Z 3 1 ≤ 900 := hG.pr 3 1
    have b23 : 0 ≤ Z2 3 2 ∧ Z2 3 2 ≤ 900 := hG2.pr 3 2
    have b24 : 0 ≤ Z2 3 3 ∧ Z2 3 3 ≤ 900 := hG2.pr 3 3
    have b25 : 0 ≤ Z2 3 4 ∧ Z2 3 4 ≤ 400 := hG2.pr 3 4
    have eq26 : Z2 3 7 = Z 3 7 := (hf2 3 7 rfl)
    have b27 : 0 ≤ Z 3 7 ∧ Z 3 7 ≤ 900 := hG.pr 3 7
    have eq28 : Z2 3 14 = Z 3 14 := (hf2 3 14 rfl)
    have b29 : 0 ≤ Z 3 14 ∧ Z 3 14 ≤ 4 := hG.pr 3 14
    exact mx_J.ret (show mx_Sn _ _ 18 (mx_zret) from sn_51 18) (fun _ _ => zr_ok (by omega)) (hP 1 Z2 h2 hx2 hG2 (fr_tr (M := [(3, 2), (3, 3), (3, 4), (3, 5)]) fr_rf (hf2) (M1 := []) rfl rfl) (by omega))
theorem ct_51_3_i4 {l : Launch} {D : va_G} {b0 : Nat} {ad : Nat → Nat} {Hb : Heap} {tau : Nat → Int64} {d n s : Nat} {S : Nat → xS} {Z : xZ} {h : mx_H} (hx : XH n s S Z h) (hG : GI n S Z)   (k0 : Z 3 0 = 2) (k1 : (Z 3 3 ≤ Z 3 2 ∧ Z 3 2 ≤ Z 3 1 ∧ (Z 3 4 = 0 ∨ Z 3 4 = 3 ∨ Z 3 3 < Z 3 2) ∧ (Z 3 4 = 3 ∨ Z 3 14 = 0))) (k2 : ¬ Z 3 4 = 0) (k3 : ¬ Z 3 4 = 3) : ∃ (z : Int) (Z' : xZ) (h' : mx_H), mx_Ca (tB l D b0 ad Hb tau) (d + 7) 51 [.ref 3, xI 4] h (some (xI z), h') ∧ XH n s S Z' h' ∧ GI n S Z' ∧ fr' [(3, 2), (3, 3), (3, 4), (3, 5)] Z Z' ∧ (1 ≤ z ∧ z ≤ 1 ∧ ((Z' 3 3 ≤ Z' 3 2 ∧ Z' 3 2 ≤ Z 3 1 ∧ (Z' 3 4 = 0 ∨ Z' 3 4 = 3 ∨ Z' 3 3 < Z' 3 2) ∧ (Z' 3 4 = 3 ∨ Z' 3 14 = 0)) ∧ Z 3 3 + 1 ≤ Z' 3 3)) := by
  obtain ⟨r, hca, z, Z', h', e, q⟩ := Jmt (B := tB l D b0 ad Hb tau) (M := mt_51) (mi := 51) (as := [.ref 3, xI 4]) (d := d + 6) (ls := [some (.ref 3), some (xI 4)]) rfl rfl rfl rfl rfl rfl (cw_51_3_i4 (l := l) (D := D) (b0 := b0) (ad := ad) (Hb := Hb) (tau := tau) (d := d) (Post := fun r => ∃ (z : Int) (Z' : xZ) (h' : mx_H), r = (some (xI z), h') ∧ XH n s S Z' h' ∧ GI n S Z' ∧ fr' [(3, 2), (3, 3), (3, 4), (3, 5)] Z Z' ∧ (1 ≤ z ∧ z ≤ 1 ∧ ((Z' 3 3 ≤ Z' 3 2 ∧ Z' 3 2 ≤ Z 3 1 ∧ (Z' 3 4 = 0 ∨ Z' 3 4 = 3 ∨ Z' 3 3 < Z' 3 2) ∧ (Z' 3 4 = 3 ∨ Z' 3 14 = 0)) ∧ Z 3 3 + 1 ≤ Z' 3 3))) hx hG k0 k1 k2 k3 (fun z Z' h' q1 q2 q3 q4 => ⟨z, Z', h', rfl, q1, q2, q3, q4⟩))
  subst e; exact ⟨z, Z', h', hca, q⟩
set_option maxRecDepth 100000 in
theorem cw_51_3_i5 {l : Launch} {D : va_G} {b0 : Nat} {ad : Nat → Nat} {Hb : Heap} {tau : Nat → Int64} {d n s : Nat} {S : Nat → xS} {Z : xZ} {h : mx_H} {Post : mx_R → Prop} (hx : XH n s S Z h) (hG : GI n S Z)   (k0 : Z 3 0 = 2) (k1 : (Z 3 3 ≤ Z 3 2 ∧ Z 3 2 ≤ Z 3 1 ∧ (Z 3 4 = 0 ∨ Z 3 4 = 3 ∨ Z 3 3 < Z 3 2) ∧ (Z 3 4 = 3 ∨ Z 3 14 = 0))) (k2 : ¬ Z 3 4 = 0) (k3 : ¬ Z 3 4 = 3) (hP : ∀ (z : Int) (Z' : xZ) (h' : mx_H), XH n s S Z' h' → GI n S Z' → fr' [(3, 2), (3, 3), (3, 4), (3, 5)] Z Z' → 1 ≤ z ∧ z ≤ 1 ∧ ((Z' 3 3 ≤ Z' 3 2 ∧ Z' 3 2 ≤ Z 3 1 ∧ (Z' 3 4 = 0 ∨ Z' 3 4 = 3 ∨ Z' 3 3 < Z' 3 2) ∧ (Z' 3 4 = 3 ∨ Z' 3 14 = 0)) ∧ Z 3 3 + 1 ≤ Z' 3 3) → Post (some (xI z), h')) : mx_J (tB l D b0 ad Hb tau) mt_51 (d + 6) 0 [some (.ref 3), some (xI 5)] [] h Post := by
    have a3 : 3 < n := lt83 (GI_n hG) rfl
    have s3 : S 3 = .inl (7, [2, 0, 0, 0, 0, 0, 2, 0, 2, 2, 0, 2, 0, 0, 0, 0]) := GI_s hG 3 rfl
    refine mx_J.step (sn_51 0) (fun _ _ => rfl) ?_
    refine JcI (z := 6) (show mx_Sn _ _ 1 (mx_const (.int 6) 3) from sn_51 1) rfl ?_
    refine Jicmp_lt (show mx_Sn _ _ 3 (mx_icmp_lt 13 6) from sn_51 3) (by omega) (by omega) (fun q1 => ?_) (fun q1 => absurd q1 (by omega))
    refine mx_J.step (sn_51 13) (fun _ _ => rfl) ?_
    have b3 : 2 ≤ Z 3 0 ∧ Z 3 0 ≤ 4 := hG.pr 3 0
    have b4 : 0 ≤ Z 3 1 ∧ Z 3 1 ≤ 900 := hG.pr 3 1
    have b5 : 0 ≤ Z 3 2 ∧ Z 3 2 ≤ 900 := hG.pr 3 2
    have b6 : 0 ≤ Z 3 3 ∧ Z 3 3 ≤ 900 := hG.pr 3 3
    have b7 : 0 ≤ Z 3 4 ∧ Z 3 4 ≤ 400 := hG.pr 3 4
    have b8 : 0 ≤ Z 3 14 ∧ Z 3 14 ≤ 4 := hG.pr 3 14
    obtain ⟨Z2, h2, hc2, hx2, hG2, hf2, b2⟩ := ct_56_3 (d := d + 0) (l := l) (D := D) (b0 := b0) (ad := ad) (Hb := Hb) (tau := tau) hx hG  (show Z 3 0 = 2 by omega) (show Z 3 2 ≤ Z 3 1 by omega)
    have b9 : 0 ≤ Z2 3 2 ∧ Z2 3 2 ≤ 900 := hG2.pr 3 2
    have b10 : 0 ≤ Z2 3 3 ∧ Z2 3 3 ≤ 900 := hG2.pr 3 3
    have b11 : 0 ≤ Z2 3 4 ∧ Z2 3 4 ≤ 400 := hG2.pr 3 4
    refine Jcv0 hx (show mx_Sn _ _ 14 (mx_callv 56 1 7 17) from sn_51 14) a3 s3 hc2 rfl rfl rfl ?_
    refine JcI (z := 1) (show mx_Sn _ _ 17 (mx_const (.int 1) 18) from sn_51 17) rfl ?_
    have b12 : 0 ≤ Z2 3 2 ∧ Z2 3 2 ≤ 900 := hG2.pr 3 2
    have b13 : 0 ≤ Z2 3 3 ∧ Z2 3 3 ≤ 900 := hG2.pr 3 3
    have b14 : 0 ≤ Z2 3 4 ∧ Z2 3 4 ≤ 400 := hG2.pr 3 4
    have eq15 : Z2 3 7 = Z 3 7 := (hf2 3 7 rfl)
    have b16 : 0 ≤ Z 3 7 ∧ Z 3 7 ≤ 900 := hG.pr 3 7
    have eq17 : Z2 3 14 = Z 3 14 := (hf2 3 14 rfl)
    have b18 : 0 ≤ Z 3 14 ∧ Z 3 14 ≤ 4 := hG.pr 3 14
    have eq19 : Z2 3 0 = Z 3 0 := (hf2 3 0 rfl)
    have b20 : 2 ≤ Z 3 0 ∧ Z 3 0 ≤ 4 := hG.pr 3 0
    have eq21 : Z2 3 1 = Z 3 1 := (hf2 3 1 rfl)
    have b22 : 0 ≤ Z 3 1 ∧ Z 3 1 ≤ 900 := hG.pr 3 1
    have b23 : 0 ≤ Z2 3 2 ∧ Z2 3 2 ≤ 900 := hG2.pr 3 2
    have b24 : 0 ≤ Z2 3 3 ∧ Z2 3 3 ≤ 900 := hG2.pr 3 3
    have b25 : 0 ≤ Z2 3 4 ∧ Z2 3 4 ≤ 400 := hG2.pr 3 4
    have eq26 : Z2 3 7 = Z 3 7 := (hf2 3 7 rfl)
    have b27 : 0 ≤ Z 3 7 ∧ Z 3 7 ≤ 900 := hG.pr 3 7
    have eq28 : Z2 3 14 = Z 3 14 := (hf2 3 14 rfl)
    have b29 : 0 ≤ Z 3 14 ∧ Z 3 14 ≤ 4 := hG.pr 3 14
    exact mx_J.ret (show mx_Sn _ _ 18 (mx_zret) from sn_51 18) (fun _ _ => zr_ok (by omega)) (hP 1 Z2 h2 hx2 hG2 (fr_tr (M := [(3, 2), (3, 3), (3, 4), (3, 5)]) fr_rf (hf2) (M1 := []) rfl rfl) (by omega))
theorem ct_51_3_i5 {l : Launch} {D : va_G} {b0 : Nat} {ad : Nat → Nat} {Hb : Heap} {tau : Nat → Int64} {d n s : Nat} {S : Nat → xS} {Z : xZ} {h : mx_H} (hx : XH n s S Z h) (hG : GI n S Z)   (k0 : Z 3 0 = 2) (k1 : (Z 3 3 ≤ Z 3 2 ∧ Z 3 2 ≤ Z 3 1 ∧ (Z 3 4 = 0 ∨ Z 3 4 = 3 ∨ Z 3 3 < Z 3 2) ∧ (Z 3 4 = 3 ∨ Z 3 14 = 0))) (k2 : ¬ Z 3 4 = 0) (k3 : ¬ Z 3 4 = 3) : ∃ (z : Int) (Z' : xZ) (h' : mx_H), mx_Ca (tB l D b0 ad Hb tau) (d + 7) 51 [.ref 3, xI 5] h (some (xI z), h') ∧ XH n s S Z' h' ∧ GI n S Z' ∧ fr' [(3, 2), (3, 3), (3, 4), (3, 5)] Z Z' ∧ (1 ≤ z ∧ z ≤ 1 ∧ ((Z' 3 3 ≤ Z' 3 2 ∧ Z' 3 2 ≤ Z 3 1 ∧ (Z' 3 4 = 0 ∨ Z' 3 4 = 3 ∨ Z' 3 3 < Z' 3 2) ∧ (Z' 3 4 = 3 ∨ Z' 3 14 = 0)) ∧ Z 3 3 + 1 ≤ Z' 3 3)) := by
  obtain ⟨r, hca, z, Z', h', e, q⟩ := Jmt (B := tB l D b0 ad Hb tau) (M := mt_51) (mi := 51) (as := [.ref 3, xI 5]) (d := d + 6) (ls := [some (.ref 3), some (xI 5)]) rfl rfl rfl rfl rfl rfl (cw_51_3_i5 (l := l) (D := D) (b0 := b0) (ad := ad) (Hb := Hb) (tau := tau) (d := d) (Post := fun r => ∃ (z : Int) (Z' : xZ) (h' : mx_H), r = (some (xI z), h') ∧ XH n s S Z' h' ∧ GI n S Z' ∧ fr' [(3, 2), (3, 3), (3, 4), (3, 5)] Z Z' ∧ (1 ≤ z ∧ z ≤ 1 ∧ ((Z' 3 3 ≤ Z' 3 2 ∧ Z' 3 2 ≤ Z 3 1 ∧ (Z' 3 4 = 0 ∨ Z' 3 4 = 3 ∨ Z' 3 3 < Z' 3 2) ∧ (Z' 3 4 = 3 ∨ Z' 3 14 = 0)) ∧ Z 3 3 + 1 ≤ Z' 3 3))) hx hG k0 k1 k2 k3 (fun z Z' h' q1 q2 q3 q4 => ⟨z, Z', h', rfl, q1, q2, q3, q4⟩))
  subst e; exact ⟨z, Z', h', hca, q⟩
set_option maxRecDepth 100000 in
theorem cw_45_3 {l : Launch} {D : va_G} {b0 : Nat} {ad : Nat → Nat} {Hb : Heap} {tau : Nat → Int64} {d n s : Nat} {S : Nat → xS} {Z : xZ} {h : mx_H} {Post : mx_R → Prop} (hx : XH n s S Z h) (hG : GI n S Z)  {x0 : Int} (p0 : 1000 ≤ x0 ∧ x0 ≤ 1004) (k0 : Z 3 0 = 2) (k1 : (Z 3 3 ≤ Z 3 2 ∧ Z 3 2 ≤ Z 3 1 ∧ (Z 3 4 = 0 ∨ Z 3 4 = 3 ∨ Z 3 3 < Z 3 2) ∧ (Z 3 4 = 3 ∨ Z 3 14 = 0))) (k2 : ¬ Z 3 4 = 0) (k3 : ¬ Z 3 4 = 3) (hP : ∀ (Z' : xZ) (h' : mx_H), XH n s S Z' h' → GI n S Z' → fr' [(3, 2), (3, 3), (3, 4), (3, 5), (3, 7), (5, (-1))] Z Z' → ((Z' 3 3 ≤ Z' 3 2 ∧ Z' 3 2 ≤ Z 3 1 ∧ (Z' 3 4 = 0 ∨ Z' 3 4 = 3 ∨ Z' 3 3 < Z' 3 2) ∧ (Z' 3 4 = 3 ∨ Z' 3 14 = 0)) ∧ Z 3 3 + 1 ≤ Z' 3 3 ∧ Z' 3 7 - Z 3 7 ≤ Z' 3 3 - Z 3 3) → Post (none, h')) : mx_J (tB l D b0 ad Hb tau) mt_45 (d + 6) 0 [some (.ref 3), some (xI x0)] [] h Post := by
    have a3 : 3 < n := lt83 (GI_n hG) rfl
    have s3 : S 3 = .inl (7, [2, 0, 0, 0, 0, 0, 2, 0, 2, 2, 0, 2, 0, 0, 0, 0]) := GI_s hG 3 rfl
    refine mx_J.step (sn_45 0) (fun _ _ => rfl) ?_
    refine mx_J.step (sn_45 1) (fun _ _ => rfl) ?_
    have b2 : 0 ≤ Z 3 7 ∧ Z 3 7 ≤ 900 := hG.pr 3 7
    obtain ⟨Z1, h1, hc1, hx1, hG1, hf1, b1⟩ := ct_52_3_0 (d := d + 5) (l := l) (D := D) (b0 := b0) (ad := ad) (Hb := Hb) (tau := tau) hx hG (show 0 ≤ x0 ∧ x0 ≤ 1004 by omega)
    have b3 : 0 ≤ Z1 3 7 ∧ Z1 3 7 ≤ 900 := hG1.pr 3 7
    refine Jcv0 hx (show mx_Sn _ _ 2 (mx_callv 52 2 7 5) from sn_45 2) a3 s3 hc1 rfl rfl rfl ?_
    refine mx_J.step (sn_45 5) (fun _ _ => rfl) ?_
    have eq5 : Z1 3 0 = Z 3 0 := (hf1 3 0 rfl)
    have b6 : 2 ≤ Z 3 0 ∧ Z 3 0 ≤ 4 := hG.pr 3 0
    have eq7 : Z1 3 1 = Z 3 1 := (hf1 3 1 rfl)
    have b8 : 0 ≤ Z 3 1 ∧ Z 3 1 ≤ 900 := hG.pr 3 1
    have eq9 : Z1 3 2 = Z 3 2 := (hf1 3 2 rfl)
    have b10 : 0 ≤ Z 3 2 ∧ Z 3 2 ≤ 900 := hG.pr 3 2
    have eq11 : Z1 3 3 = Z 3 3 := (hf1 3 3 rfl)
    have b12 : 0 ≤ Z 3 3 ∧ Z 3 3 ≤ 900 := hG.pr 3 3
    have eq13 : Z1 3 4 = Z 3 4 := (hf1 3 4 rfl)
    have b14 : 0 ≤ Z 3 4 ∧ Z 3 4 ≤ 400 := hG.pr 3 4
    have eq15 : Z1 3 14 = Z 3 14 := (hf1 3 14 rfl)
    have b16 : 0 ≤ Z 3 14 ∧ Z 3 14 ≤ 4 := hG.pr 3 14
    obtain ⟨Z4, h4, hc4, hx4, hG4, hf4, b4⟩ := ct_56_3 (d := d + 0) (l := l) (D := D) (b0 := b0) (ad := ad) (Hb := Hb) (tau := tau) hx1 hG1  (show Z1 3 0 = 2 by first | omega | (simp only [eq5, eq7, eq9, eq11, eq13, eq15]; omega)) (show Z1 3 2 ≤ Z1 3 1 by first | omega | (simp only [eq5, eq7, eq9, eq11, eq13, eq15]; omega))
    try rw [eq5] at b4
    try rw [eq7] at b4
    try rw [eq9] at b4
    try rw [eq11] at b4
    try rw [eq13] at b4
    try rw [eq15] at b4
    have b17 : 0 ≤ Z4 3 2 ∧ Z4 3 2 ≤ 900 := hG4.pr 3 2
    have b18 : 0 ≤ Z4 3 3 ∧ Z4 3 3 ≤ 900 := hG4.pr 3 3
    have b19 : 0 ≤ Z4 3 4 ∧ Z4 3 4 ≤ 400 := hG4.pr 3 4
    refine Jcv0 hx1 (show mx_Sn _ _ 6 (mx_callv 56 1 7 9) from sn_45 6) a3 s3 hc4 rfl rfl rfl ?_
    have b20 : 0 ≤ Z4 3 2 ∧ Z4 3 2 ≤ 900 := hG4.pr 3 2
    have b21 : 0 ≤ Z4 3 3 ∧ Z4 3 3 ≤ 900 := hG4.pr 3 3
    have b22 : 0 ≤ Z4 3 4 ∧ Z4 3 4 ≤ 400 := hG4.pr 3 4
    have eq23 : Z4 3 7 = Z1 3 7 := (hf4 3 7 rfl)
    have b24 : 0 ≤ Z1 3 7 ∧ Z1 3 7 ≤ 900 := hG1.pr 3 7
    have eq25 : Z4 3 14 = Z 3 14 := ((hf4 3 14 rfl).trans (hf1 3 14 rfl))
    have b26 : 0 ≤ Z 3 14 ∧ Z 3 14 ≤ 4 := hG.pr 3 14
    have eq27 : Z4 3 0 = Z 3 0 := ((hf4 3 0 rfl).trans (hf1 3 0 rfl))
    have b28 : 2 ≤ Z 3 0 ∧ Z 3 0 ≤ 4 := hG.pr 3 0
    have eq29 : Z4 3 1 = Z 3 1 := ((hf4 3 1 rfl).trans (hf1 3 1 rfl))
    have b30 : 0 ≤ Z 3 1 ∧ Z 3 1 ≤ 900 := hG.pr 3 1
    have b31 : 0 ≤ Z4 3 2 ∧ Z4 3 2 ≤ 900 := hG4.pr 3 2
    have b32 : 0 ≤ Z4 3 3 ∧ Z4 3 3 ≤ 900 := hG4.pr 3 3
    have b33 : 0 ≤ Z4 3 4 ∧ Z4 3 4 ≤ 400 := hG4.pr 3 4
    have eq34 : Z4 3 7 = Z1 3 7 := (hf4 3 7 rfl)
    have b35 : 0 ≤ Z1 3 7 ∧ Z1 3 7 ≤ 900 := hG1.pr 3 7
    have eq36 : Z4 3 14 = Z 3 14 := ((hf4 3 14 rfl).trans (hf1 3 14 rfl))
    have b37 : 0 ≤ Z 3 14 ∧ Z 3 14 ≤ 4 := hG.pr 3 14
    exact mx_J.ret (sn_45 9) (fun _ _ => rfl) (hP Z4 h4 hx4 hG4 (fr_tr (M := [(3, 2), (3, 3), (3, 4), (3, 5), (3, 7), (5, (-1))]) (fr_tr (M := [(3, 2), (3, 3), (3, 4), (3, 5), (3, 7), (5, (-1))]) fr_rf (hf1) (M1 := []) rfl rfl) (hf4) rfl rfl) (by omega))
theorem ct_45_3 {l : Launch} {D : va_G} {b0 : Nat} {ad : Nat → Nat} {Hb : Heap} {tau : Nat → Int64} {d n s : Nat} {S : Nat → xS} {Z : xZ} {h : mx_H} (hx : XH n s S Z h) (hG : GI n S Z)  {x0 : Int} (p0 : 1000 ≤ x0 ∧ x0 ≤ 1004) (k0 : Z 3 0 = 2) (k1 : (Z 3 3 ≤ Z 3 2 ∧ Z 3 2 ≤ Z 3 1 ∧ (Z 3 4 = 0 ∨ Z 3 4 = 3 ∨ Z 3 3 < Z 3 2) ∧ (Z 3 4 = 3 ∨ Z 3 14 = 0))) (k2 : ¬ Z 3 4 = 0) (k3 : ¬ Z 3 4 = 3) : ∃ (Z' : xZ) (h' : mx_H), mx_Ca (tB l D b0 ad Hb tau) (d + 7) 45 [.ref 3, xI x0] h (none, h') ∧ XH n s S Z' h' ∧ GI n S Z' ∧ fr' [(3, 2), (3, 3), (3, 4), (3, 5), (3, 7), (5, (-1))] Z Z' ∧ (((Z' 3 3 ≤ Z' 3 2 ∧ Z' 3 2 ≤ Z 3 1 ∧ (Z' 3 4 = 0 ∨ Z' 3 4 = 3 ∨ Z' 3 3 < Z' 3 2) ∧ (Z' 3 4 = 3 ∨ Z' 3 14 = 0)) ∧ Z 3 3 + 1 ≤ Z' 3 3 ∧ Z' 3 7 - Z 3 7 ≤ Z' 3 3 - Z 3 3)) := by
  obtain ⟨r, hca, Z', h', e, q⟩ := Jmt (B := tB l D b0 ad Hb tau) (M := mt_45) (mi := 45) (as := [.ref 3, xI x0]) (d := d + 6) (ls := [some (.ref 3), some (xI x0)]) rfl rfl rfl rfl rfl rfl (cw_45_3 (l := l) (D := D) (b0 := b0) (ad := ad) (Hb := Hb) (tau := tau) (d := d) (Post := fun r => ∃ (Z' : xZ) (h' : mx_H), r = (none, h') ∧ XH n s S Z' h' ∧ GI n S Z' ∧ fr' [(3, 2), (3, 3), (3, 4), (3, 5), (3, 7), (5, (-1))] Z Z' ∧ (((Z' 3 3 ≤ Z' 3 2 ∧ Z' 3 2 ≤ Z 3 1 ∧ (Z' 3 4 = 0 ∨ Z' 3 4 = 3 ∨ Z' 3 3 < Z' 3 2) ∧ (Z' 3 4 = 3 ∨ Z' 3 14 = 0)) ∧ Z 3 3 + 1 ≤ Z' 3 3 ∧ Z' 3 7 - Z 3 7 ≤ Z' 3 3 - Z 3 3))) hx hG p0 k0 k1 k2 k3 (fun Z' h' q1 q2 q3 q4 => ⟨Z', h', rfl, q1, q2, q3, q4⟩))
  subst e; exact ⟨Z', h', hca, q⟩
set_option maxRecDepth 100000 in
theorem cw_41_3 {l : Launch} {D : va_G} {b0 : Nat} {ad : Nat → Nat} {Hb : Heap} {tau : Nat → Int64} {d n s : Nat} {S : Nat → xS} {Z : xZ} {h : mx_H} {Post : mx_R → Prop} (hx : XH n s S Z h) (hG : GI n S Z)   (k0 : Z 3 0 = 2) (k1 : (Z 3 3 ≤ Z 3 2 ∧ Z 3 2 ≤ Z 3 1 ∧ (Z 3 4 = 0 ∨ Z 3 4 = 3 ∨ Z 3 3 < Z 3 2) ∧ (Z 3 4 = 3 ∨ Z 3 14 = 0))) (k2 : ¬ Z 3 4 = 0) (k3 : ¬ Z 3 4 = 3) (hP : ∀ (Z' : xZ) (h' : mx_H), XH n s S Z' h' → GI n S Z' → fr' [(3, 2), (3, 3), (3, 4), (3, 5), (3, 7), (3, 14), (3, 15)] Z Z' → ((Z' 3 3 ≤ Z' 3 2 ∧ Z' 3 2 ≤ Z 3 1 ∧ (Z' 3 4 = 0 ∨ Z' 3 4 = 3 ∨ Z' 3 3 < Z' 3 2) ∧ (Z' 3 4 = 3 ∨ Z' 3 14 = 0)) ∧ Z 3 3 + 1 ≤ Z' 3 3 ∧ Z' 3 7 = 0 ∧ (Z' 3 4 = 3 ∨ Z 3 3 + 2 ≤ Z' 3 3)) → Post (none, h')) : mx_J (tB l D b0 ad Hb tau) mt_41 (d + 7) 0 [some (.ref 3)] [] h Post := by
    have a3 : 3 < n := lt83 (GI_n hG) rfl
    have s3 : S 3 = .inl (7, [2, 0, 0, 0, 0, 0, 2, 0, 2, 2, 0, 2, 0, 0, 0, 0]) := GI_s hG 3 rfl
    refine mx_J.step (sn_41 0) (fun _ _ => rfl) ?_
    have b2 : 2 ≤ Z 3 0 ∧ Z 3 0 ≤ 4 := hG.pr 3 0
    have b3 : 0 ≤ Z 3 1 ∧ Z 3 1 ≤ 900 := hG.pr 3 1
    have b4 : 0 ≤ Z 3 2 ∧ Z 3 2 ≤ 900 := hG.pr 3 2
    have b5 : 0 ≤ Z 3 3 ∧ Z 3 3 ≤ 900 := hG.pr 3 3
    have b6 : 0 ≤ Z 3 4 ∧ Z 3 4 ≤ 400 := hG.pr 3 4
    have b7 : 0 ≤ Z 3 14 ∧ Z 3 14 ≤ 4 := hG.pr 3 14
    obtain ⟨Z1, h1, hc1, hx1, hG1, hf1, b1⟩ := ct_56_3 (d := d + 1) (l := l) (D := D) (b0 := b0) (ad := ad) (Hb := Hb) (tau := tau) hx hG  (show Z 3 0 = 2 by omega) (show Z 3 2 ≤ Z 3 1 by omega)
    have b8 : 0 ≤ Z1 3 2 ∧ Z1 3 2 ≤ 900 := hG1.pr 3 2
    have b9 : 0 ≤ Z1 3 3 ∧ Z1 3 3 ≤ 900 := hG1.pr 3 3
    have b10 : 0 ≤ Z1 3 4 ∧ Z1 3 4 ≤ 400 := hG1.pr 3 4
    refine Jcv0 hx (show mx_Sn _ _ 1 (mx_callv 56 1 7 4) from sn_41 1) a3 s3 hc1 rfl rfl rfl ?_
    refine mx_J.step (sn_41 4) (fun _ _ => rfl) ?_
    refine JcI (z := 58) (show mx_Sn _ _ 5 (mx_const (.int 58) 7) from sn_41 5) rfl ?_
    have eq12 : Z1 3 0 = Z 3 0 := (hf1 3 0 rfl)
    have b13 : 2 ≤ Z 3 0 ∧ Z 3 0 ≤ 4 := hG.pr 3 0
    have eq14 : Z1 3 1 = Z 3 1 := (hf1 3 1 rfl)
    have b15 : 0 ≤ Z 3 1 ∧ Z 3 1 ≤ 900 := hG.pr 3 1
    have b16 : 0 ≤ Z1 3 2 ∧ Z1 3 2 ≤ 900 := hG1.pr 3 2
    have b17 : 0 ≤ Z1 3 3 ∧ Z1 3 3 ≤ 900 := hG1.pr 3 3
    have b18 : 0 ≤ Z1 3 4 ∧ Z1 3 4 ≤ 400 := hG1.pr 3 4
    have eq19 : Z1 3 7 = Z 3 7 := (hf1 3 7 rfl)
    have b20 : 0 ≤ Z 3 7 ∧ Z 3 7 ≤ 900 := hG.pr 3 7
    have eq21 : Z1 3 14 = Z 3 14 := (hf1 3 14 rfl)
    have b22 : 0 ≤ Z 3 14 ∧ Z 3 14 ≤ 4 := hG.pr 3 14
    obtain ⟨Z11, h11, hc11, hx11, hG11, hf11, b11⟩ := ct_53_3 (d := d + 0) (l := l) (D := D) (b0 := b0) (ad := ad) (Hb := Hb) (tau := tau) hx1 hG1 (show 40 ≤ 58 ∧ 58 ≤ 320 by omega) (show Z1 3 0 = 2 by first | omega | (simp only [eq12, eq14, eq19, eq21]; omega)) (show (Z1 3 3 ≤ Z1 3 2 ∧ Z1 3 2 ≤ Z1 3 1 ∧ (Z1 3 4 = 0 ∨ Z1 3 4 = 3 ∨ Z1 3 3 < Z1 3 2) ∧ (Z1 3 4 = 3 ∨ Z1 3 14 = 0)) by first | omega | (simp only [eq12, eq14, eq19, eq21]; omega))
    try rw [eq12] at b11
    try rw [eq14] at b11
    try rw [eq19] at b11
    try rw [eq21] at b11
    have b23 : 0 ≤ Z11 3 2 ∧ Z11 3 2 ≤ 900 := hG11.pr 3 2
    have b24 : 0 ≤ Z11 3 3 ∧ Z11 3 3 ≤ 900 := hG11.pr 3 3
    have b25 : 0 ≤ Z11 3 4 ∧ Z11 3 4 ≤ 400 := hG11.pr 3 4
    have eq26 : Z11 3 7 = Z 3 7 := ((hf11 3 7 rfl).trans (hf1 3 7 rfl))
    have b27 : 0 ≤ Z 3 7 ∧ Z 3 7 ≤ 900 := hG.pr 3 7
    have b28 : 0 ≤ Z11 3 14 ∧ Z11 3 14 ≤ 4 := hG11.pr 3 14
    refine Jcv0 hx1 (show mx_Sn _ _ 7 (mx_callv 53 2 7 10) from sn_41 7) a3 s3 hc11 rfl rfl rfl ?_
    refine mx_J.step (sn_41 10) (fun _ _ => rfl) ?_
    refine JcI (z := 0) (show mx_Sn _ _ 11 (mx_const (.int 0) 12) from sn_41 11) rfl ?_
    refine JputI (g := 7) hx11 (show mx_Sn _ _ 12 (mx_putf 1 7 7 (.int) 15) from sn_41 12) a3 s3 rfl rfl rfl rfl (fun Z29 h29 hx29 hE29 => ?_)
    have hG29 := GI_up hG11 hE29 (show 0 ≤ 0 ∧ 0 ≤ 900 by omega) trivial rfl
    have eq30 : Z29 3 2 = Z11 3 2 := (up_ni hE29 (by decide))
    have b31 : 0 ≤ Z11 3 2 ∧ Z11 3 2 ≤ 900 := hG11.pr 3 2
    have eq32 : Z29 3 3 = Z11 3 3 := (up_ni hE29 (by decide))
    have b33 : 0 ≤ Z11 3 3 ∧ Z11 3 3 ≤ 900 := hG11.pr 3 3
    have eq34 : Z29 3 4 = Z11 3 4 := (up_ni hE29 (by decide))
    have b35 : 0 ≤ Z11 3 4 ∧ Z11 3 4 ≤ 400 := hG11.pr 3 4
    have eq36 : Z29 3 7 = 0 := (up_at hE29)
    have eq37 : Z29 3 14 = Z11 3 14 := (up_ni hE29 (by decide))
    have b38 : 0 ≤ Z11 3 14 ∧ Z11 3 14 ≤ 4 := hG11.pr 3 14
    have eq39 : Z29 3 0 = Z 3 0 := ((up_ni hE29 (by decide)).trans ((hf11 3 0 rfl).trans (hf1 3 0 rfl)))
    have b40 : 2 ≤ Z 3 0 ∧ Z 3 0 ≤ 4 := hG.pr 3 0
    have eq41 : Z29 3 1 = Z 3 1 := ((up_ni hE29 (by decide)).trans ((hf11 3 1 rfl).trans (hf1 3 1 rfl)))
    have b42 : 0 ≤ Z 3 1 ∧ Z 3 1 ≤ 900 := hG.pr 3 1
    have eq43 : Z29 3 2 = Z11 3 2 := (up_ni hE29 (by decide))
    have b44 : 0 ≤ Z11 3 2 ∧ Z11 3 2 ≤ 900 := hG11.pr 3 2
    have eq45 : Z29 3 3 = Z11 3 3 := (up_ni hE29 (by decide))
    have b46 : 0 ≤ Z11 3 3 ∧ Z11 3 3 ≤ 900 := hG11.pr 3 3
    have eq47 : Z29 3 4 = Z11 3 4 := (up_ni hE29 (by decide))
    have b48 : 0 ≤ Z11 3 4 ∧ Z11 3 4 ≤ 400 := hG11.pr 3 4
    have eq49 : Z29 3 7 = 0 := (up_at hE29)
    have eq50 : Z29 3 14 = Z11 3 14 := (up_ni hE29 (by decide))
    have b51 : 0 ≤ Z11 3 14 ∧ Z11 3 14 ≤ 4 := hG11.pr 3 14
    exact mx_J.ret (sn_41 15) (fun _ _ => rfl) (hP Z29 h29 hx29 hG29 (fr_tr (M := [(3, 2), (3, 3), (3, 4), (3, 5), (3, 7), (3, 14), (3, 15)]) (fr_tr (M := [(3, 2), (3, 3), (3, 4), (3, 5), (3, 7), (3, 14), (3, 15)]) (fr_tr (M := [(3, 2), (3, 3), (3, 4), (3, 5), (3, 7), (3, 14), (3, 15)]) fr_rf (hf1) (M1 := []) rfl rfl) (hf11) rfl rfl) (fr_up hE29) rfl rfl) (by omega))
theorem ct_41_3 {l : Launch} {D : va_G} {b0 : Nat} {ad : Nat → Nat} {Hb : Heap} {tau : Nat → Int64} {d n s : Nat} {S : Nat → xS} {Z : xZ} {h : mx_H} (hx : XH n s S Z h) (hG : GI n S Z)   (k0 : Z 3 0 = 2) (k1 : (Z 3 3 ≤ Z 3 2 ∧ Z 3 2 ≤ Z 3 1 ∧ (Z 3 4 = 0 ∨ Z 3 4 = 3 ∨ Z 3 3 < Z 3 2) ∧ (Z 3 4 = 3 ∨ Z 3 14 = 0))) (k2 : ¬ Z 3 4 = 0) (k3 : ¬ Z 3 4 = 3) : ∃ (Z' : xZ) (h' : mx_H), mx_Ca (tB l D b0 ad Hb tau) (d + 8) 41 [.ref 3] h (none, h') ∧ XH n s S Z' h' ∧ GI n S Z' ∧ fr' [(3, 2), (3, 3), (3, 4), (3, 5), (3, 7), (3, 14), (3, 15)] Z Z' ∧ (((Z' 3 3 ≤ Z' 3 2 ∧ Z' 3 2 ≤ Z 3 1 ∧ (Z' 3 4 = 0 ∨ Z' 3 4 = 3 ∨ Z' 3 3 < Z' 3 2) ∧ (Z' 3 4 = 3 ∨ Z' 3 14 = 0)) ∧ Z 3 3 + 1 ≤ Z' 3 3 ∧ Z' 3 7 = 0 ∧ (Z' 3 4 = 3 ∨ Z 3 3 + 2 ≤ Z' 3 3))) := by
  obtain ⟨r, hca, Z', h', e, q⟩ := Jmt (B := tB l D b0 ad Hb tau) (M := mt_41) (mi := 41) (as := [.ref 3]) (d := d + 7) (ls := [some (.ref 3)]) rfl rfl rfl rfl rfl rfl (cw_41_3 (l := l) (D := D) (b0 := b0) (ad := ad) (Hb := Hb) (tau := tau) (d := d) (Post := fun r => ∃ (Z' : xZ) (h' : mx_H), r = (none, h') ∧ XH n s S Z' h' ∧ GI n S Z' ∧ fr' [(3, 2), (3, 3), (3, 4), (3, 5), (3, 7), (3, 14), (3, 15)] Z Z' ∧ (((Z' 3 3 ≤ Z' 3 2 ∧ Z' 3 2 ≤ Z 3 1 ∧ (Z' 3 4 = 0 ∨ Z' 3 4 = 3 ∨ Z' 3 3 < Z' 3 2) ∧ (Z' 3 4 = 3 ∨ Z' 3 14 = 0)) ∧ Z 3 3 + 1 ≤ Z' 3 3 ∧ Z' 3 7 = 0 ∧ (Z' 3 4 = 3 ∨ Z 3 3 + 2 ≤ Z' 3 3)))) hx hG k0 k1 k2 k3 (fun Z' h' q1 q2 q3 q4 => ⟨Z', h', rfl, q1, q2, q3, q4⟩))
  subst e; exact ⟨Z', h', hca, q⟩
set_option maxRecDepth 100000 in
theorem cw_44_3_i6 {l : Launch} {D : va_G} {b0 : Nat} {ad : Nat → Nat} {Hb : Heap} {tau : Nat → Int64} {d n s : Nat} {S : Nat → xS} {Z : xZ} {h : mx_H} {Post : mx_R → Prop} (hx : XH n s S Z h) (hG : GI n S Z)   (k0 : Z 3 0 = 2) (k1 : (Z 3 3 ≤ Z 3 2 ∧ Z 3 2 ≤ Z 3 1 ∧ (Z 3 4 = 0 ∨ Z 3 4 = 3 ∨ Z 3 3 < Z 3 2) ∧ (Z 3 4 = 3 ∨ Z 3 14 = 0))) (hP : ∀ (Z' : xZ) (h' : mx_H), XH n s S Z' h' → GI n S Z' → fr' [(3, 2), (3, 3), (3, 4), (3, 5), (3, 7), (3, 14), (3, 15), (5, (-1))] Z Z' → ((Z' 3 3 ≤ Z' 3 2 ∧ Z' 3 2 ≤ Z 3 1 ∧ (Z' 3 4 = 0 ∨ Z' 3 4 = 3 ∨ Z' 3 3 < Z' 3 2) ∧ (Z' 3 4 = 3 ∨ Z' 3 14 = 0)) ∧ Z 3 3 ≤ Z' 3 3 ∧ Z' 3 7 - Z 3 7 ≤ Z' 3 3 - Z 3 3 ∧ (Z' 3 4 = 3 ∨ Z 3 3 + 1 ≤ Z' 3 3) ∧ (Z 3 4 = 3 → Z' 3 4 = 3)) → Post (none, h')) : mx_J (tB l D b0 ad Hb tau) mt_44 (d + 7) 0 [some (.ref 3), some (xI 6)] [] h Post := by
    have a3 : 3 < n := lt83 (GI_n hG) rfl
    have s3 : S 3 = .inl (7, [2, 0, 0, 0, 0, 0, 2, 0, 2, 2, 0, 2, 0, 0, 0, 0]) := GI_s hG 3 rfl
    refine mx_J.step (sn_44 0) (fun _ _ => rfl) ?_
    have b2 : 0 ≤ Z 3 4 ∧ Z 3 4 ≤ 400 := hG.pr 3 4
    refine JgetI (g := 4) (z := Z 3 4) hx (show mx_Sn _ _ 1 (mx_getf 7 4 4) from sn_44 1) a3 s3 rfl rfl rfl ?_
    refine JcI (z := 1) (show mx_Sn _ _ 4 (mx_const (.int 1) 5) from sn_44 4) rfl ?_
    have c148 : ∀  (Z4 : xZ) (h4 : mx_H), (Z4 3 3 ≤ Z4 3 2 ∧ Z4 3 2 ≤ Z 3 1 ∧ (Z4 3 4 = 0 ∨ Z4 3 4 = 3 ∨ Z4 3 3 < Z4 3 2) ∧ (Z4 3 4 = 3 ∨ Z4 3 14 = 0)) → (Z 3 3 ≤ Z4 3 3 ∧ Z4 3 7 - Z 3 7 ≤ Z4 3 3 - Z 3 3 + 0) → ((Z4 3 4 = 3 ∨ Z 3 3 + 1 ≤ Z4 3 3) ∧ (Z 3 4 = 3 → Z4 3 4 = 3)) → XH n s S Z4 h4 → GI n S Z4 → fr' [(3, 2), (3, 3), (3, 4), (3, 5), (3, 7), (3, 14), (3, 15), (5, (-1))] Z Z4 → mx_J (tB l D b0 ad Hb tau) mt_44 (d + 7) 148 [some (.ref 3), some (xI 6)] [] h4 Post := by
      intro Z4 h4 f3_0 f3_1 f3_2 hx4 hG4 hf4
      have eq5 : Z4 3 0 = Z 3 0 := (hf4 3 0 rfl)
      have b6 : 2 ≤ Z 3 0 ∧ Z 3 0 ≤ 4 := hG.pr 3 0
      have b7 : 0 ≤ Z4 3 2 ∧ Z4 3 2 ≤ 900 := hG4.pr 3 2
      have b8 : 0 ≤ Z4 3 3 ∧ Z4 3 3 ≤ 900 := hG4.pr 3 3
      have b9 : 0 ≤ Z4 3 4 ∧ Z4 3 4 ≤ 400 := hG4.pr 3 4
      have b10 : 0 ≤ Z4 3 7 ∧ Z4 3 7 ≤ 900 := hG4.pr 3 7
      have b11 : 0 ≤ Z4 3 14 ∧ Z4 3 14 ≤ 4 := hG4.pr 3 14
      have b12 : 0 ≤ Z4 3 3 ∧ Z4 3 3 ≤ 900 := hG4.pr 3 3
      have b13 : 0 ≤ Z4 3 7 ∧ Z4 3 7 ≤ 900 := hG4.pr 3 7
      have b14 : 0 ≤ Z4 3 3 ∧ Z4 3 3 ≤ 900 := hG4.pr 3 3
      have b15 : 0 ≤ Z4 3 4 ∧ Z4 3 4 ≤ 400 := hG4.pr 3 4
      have b16 : 0 ≤ Z4 3 2 ∧ Z4 3 2 ≤ 900 := hG4.pr 3 2
      have b17 : 0 ≤ Z4 3 3 ∧ Z4 3 3 ≤ 900 := hG4.pr 3 3
      have b18 : 0 ≤ Z4 3 4 ∧ Z4 3 4 ≤ 400 := hG4.pr 3 4
      have b19 : 0 ≤ Z4 3 7 ∧ Z4 3 7 ≤ 900 := hG4.pr 3 7
      have b20 : 0 ≤ Z4 3 14 ∧ Z4 3 14 ≤ 4 := hG4.pr 3 14
      have eq21 : Z4 3 0 = Z 3 0 := (hf4 3 0 rfl)
      have b22 : 2 ≤ Z 3 0 ∧ Z 3 0 ≤ 4 := hG.pr 3 0
      have eq23 : Z4 3 1 = Z 3 1 := (hf4 3 1 rfl)
      have b24 : 0 ≤ Z 3 1 ∧ Z 3 1 ≤ 900 := hG.pr 3 1
      have b25 : 0 ≤ Z4 3 2 ∧ Z4 3 2 ≤ 900 := hG4.pr 3 2
      have b26 : 0 ≤ Z4 3 3 ∧ Z4 3 3 ≤ 900 := hG4.pr 3 3
      have b27 : 0 ≤ Z4 3 4 ∧ Z4 3 4 ≤ 400 := hG4.pr 3 4
      have b28 : 0 ≤ Z4 3 7 ∧ Z4 3 7 ≤ 900 := hG4.pr 3 7
      have b29 : 0 ≤ Z4 3 14 ∧ Z4 3 14 ≤ 4 := hG4.pr 3 14
      exact mx_J.ret (sn_44 148) (fun _ _ => rfl) (hP Z4 h4 hx4 hG4 (fr_tr (M := [(3, 2), (3, 3), (3, 4), (3, 5), (3, 7), (3, 14), (3, 15), (5, (-1))]) fr_rf (hf4) (M1 := []) rfl rfl) (by omega))
    refine Jicmp_ne (show mx_Sn _ _ 5 (mx_icmp_ne 23 8) from sn_44 5) (by omega) (by omega) (fun q30 => ?_) (fun q30 => ?_)
    · skip
      refine mx_J.step (sn_44 23) (fun _ _ => rfl) ?_
      have b32 : 0 ≤ Z 3 4 ∧ Z 3 4 ≤ 400 := hG.pr 3 4
      refine JgetI (g := 4) (z := Z 3 4) hx (show mx_Sn _ _ 24 (mx_getf 7 4 27) from sn_44 24) a3 s3 rfl rfl rfl ?_
      refine JcI (z := 40) (show mx_Sn _ _ 27 (mx_const (.int 40) 29) from sn_44 27) rfl ?_
      refine Jicmp_ne (show mx_Sn _ _ 29 (mx_icmp_ne 56 32) from sn_44 29) (by omega) (by omega) (fun q33 => ?_) (fun q33 => ?_)
      · skip
        refine mx_J.step (sn_44 56) (fun _ _ => rfl) ?_
        have b35 : 0 ≤ Z 3 4 ∧ Z 3 4 ≤ 400 := hG.pr 3 4
        refine JgetI (g := 4) (z := Z 3 4) hx (show mx_Sn _ _ 57 (mx_getf 7 4 60) from sn_44 57) a3 s3 rfl rfl rfl ?_
        refine JcI (z := 305) (show mx_Sn _ _ 60 (mx_const (.int 305) 63) from sn_44 60) rfl ?_
        refine Jicmp_ne (show mx_Sn _ _ 63 (mx_icmp_ne 84 66) from sn_44 63) (by omega) (by omega) (fun q36 => ?_) (fun q36 => ?_)
        · skip
          refine mx_J.step (sn_44 84) (fun _ _ => rfl) ?_
          have b38 : 0 ≤ Z 3 4 ∧ Z 3 4 ≤ 400 := hG.pr 3 4
          refine JgetI (g := 4) (z := Z 3 4) hx (show mx_Sn _ _ 85 (mx_getf 7 4 88) from sn_44 85) a3 s3 rfl rfl rfl ?_
          refine JcI (z := 301) (show mx_Sn _ _ 88 (mx_const (.int 301) 91) from sn_44 88) rfl ?_
          refine Jicmp_ne (show mx_Sn _ _ 91 (mx_icmp_ne 104 94) from sn_44 91) (by omega) (by omega) (fun q39 => ?_) (fun q39 => ?_)
          · skip
            refine mx_J.step (sn_44 104) (fun _ _ => rfl) ?_
            have b41 : 0 ≤ Z 3 4 ∧ Z 3 4 ≤ 400 := hG.pr 3 4
            refine JgetI (g := 4) (z := Z 3 4) hx (show mx_Sn _ _ 105 (mx_getf 7 4 108) from sn_44 105) a3 s3 rfl rfl rfl ?_
            refine JcI (z := 309) (show mx_Sn _ _ 108 (mx_const (.int 309) 111) from sn_44 108) rfl ?_
            have c143 : mx_J (tB l D b0 ad Hb tau) mt_44 (d + 7) 143 [some (.ref 3), some (xI 6)] [] h Post := by
              refine mx_J.step (sn_44 143) (fun _ _ => rfl) ?_
              refine JcI (z := 2) (show mx_Sn _ _ 144 (mx_const (.int 2) 145) from sn_44 144) rfl ?_
              obtain ⟨Z43, h43, hc43, hx43, hG43, hf43, b43⟩ := ct_55_3 (d := d + 6) (l := l) (D := D) (b0 := b0) (ad := ad) (Hb := Hb) (tau := tau) hx hG (show 2 ≤ 2 ∧ 2 ≤ 4 by omega)
              have b44 : 0 ≤ Z43 3 4 ∧ Z43 3 4 ≤ 400 := hG43.pr 3 4
              refine Jcv0 hx (show mx_Sn _ _ 145 (mx_callv 55 2 7 148) from sn_44 145) a3 s3 hc43 rfl rfl rfl ?_
              have eq45 : Z43 3 0 = Z 3 0 := (hf43 3 0 rfl)
              have b46 : 2 ≤ Z 3 0 ∧ Z 3 0 ≤ 4 := hG.pr 3 0
              have eq47 : Z43 3 2 = Z 3 2 := (hf43 3 2 rfl)
              have b48 : 0 ≤ Z 3 2 ∧ Z 3 2 ≤ 900 := hG.pr 3 2
              have eq49 : Z43 3 3 = Z 3 3 := (hf43 3 3 rfl)
              have b50 : 0 ≤ Z 3 3 ∧ Z 3 3 ≤ 900 := hG.pr 3 3
              have b51 : 0 ≤ Z43 3 4 ∧ Z43 3 4 ≤ 400 := hG43.pr 3 4
              have eq52 : Z43 3 7 = Z 3 7 := (hf43 3 7 rfl)
              have b53 : 0 ≤ Z 3 7 ∧ Z 3 7 ≤ 900 := hG.pr 3 7
              have b54 : 0 ≤ Z43 3 14 ∧ Z43 3 14 ≤ 4 := hG43.pr 3 14
              have eq55 : Z43 3 3 = Z 3 3 := (hf43 3 3 rfl)
              have b56 : 0 ≤ Z 3 3 ∧ Z 3 3 ≤ 900 := hG.pr 3 3
              have eq57 : Z43 3 7 = Z 3 7 := (hf43 3 7 rfl)
              have b58 : 0 ≤ Z 3 7 ∧ Z 3 7 ≤ 900 := hG.pr 3 7
              have eq59 : Z43 3 3 = Z 3 3 := (hf43 3 3 rfl)
              have b60 : 0 ≤ Z 3 3 ∧ Z 3 3 ≤ 900 := hG.pr 3 3
              have b61 : 0 ≤ Z43 3 4 ∧ Z43 3 4 ≤ 400 := hG43.pr 3 4
              exact c148 Z43 h43 (by omega) (by omega) (by omega) hx43 hG43 (fr_tr (M := [(3, 2), (3, 3), (3, 4), (3, 5), (3, 7), (3, 14), (3, 15), (5, (-1))]) fr_rf (hf43) (M1 := []) rfl rfl)
            refine Jicmp_lt (show mx_Sn _ _ 111 (mx_icmp_lt 143 114) from sn_44 111) (by omega) (by omega) (fun q62 => ?_) (fun q62 => ?_)
            · skip
              exact c143 
            · skip
              refine mx_J.step (sn_44 114) (fun _ _ => rfl) ?_
              have b64 : 0 ≤ Z 3 4 ∧ Z 3 4 ≤ 400 := hG.pr 3 4
              refine JgetI (g := 4) (z := Z 3 4) hx (show mx_Sn _ _ 115 (mx_getf 7 4 118) from sn_44 115) a3 s3 rfl rfl rfl ?_
              refine JcI (z := 312) (show mx_Sn _ _ 118 (mx_const (.int 312) 121) from sn_44 118) rfl ?_
              refine Jicmp_gt (show mx_Sn _ _ 121 (mx_icmp_gt 143 124) from sn_44 121) (by omega) (by omega) (fun q65 => ?_) (fun q65 => ?_)
              · skip
                exact c143 
              · skip
                refine mx_J.step (sn_44 124) (fun _ _ => rfl) ?_
                refine JcI (z := 1000) (show mx_Sn _ _ 125 (mx_const (.int 1000) 128) from sn_44 125) rfl ?_
                refine mx_J.step (sn_44 128) (fun _ _ => rfl) ?_
                have b67 : 0 ≤ Z 3 4 ∧ Z 3 4 ≤ 400 := hG.pr 3 4
                refine JgetI (g := 4) (z := Z 3 4) hx (show mx_Sn _ _ 129 (mx_getf 7 4 132) from sn_44 129) a3 s3 rfl rfl rfl ?_
                refine Jiadd (show mx_Sn _ _ 132 (mx_iadd 133) from sn_44 132) ?_
                refine JcI (z := 309) (show mx_Sn _ _ 133 (mx_const (.int 309) 136) from sn_44 133) rfl ?_
                refine Jisub (show mx_Sn _ _ 136 (mx_isub 137) from sn_44 136) ?_
                have b69 : 2 ≤ Z 3 0 ∧ Z 3 0 ≤ 4 := hG.pr 3 0
                have b70 : 0 ≤ Z 3 1 ∧ Z 3 1 ≤ 900 := hG.pr 3 1
                have b71 : 0 ≤ Z 3 2 ∧ Z 3 2 ≤ 900 := hG.pr 3 2
                have b72 : 0 ≤ Z 3 3 ∧ Z 3 3 ≤ 900 := hG.pr 3 3
                have b73 : 0 ≤ Z 3 4 ∧ Z 3 4 ≤ 400 := hG.pr 3 4
                have b74 : 0 ≤ Z 3 7 ∧ Z 3 7 ≤ 900 := hG.pr 3 7
                have b75 : 0 ≤ Z 3 14 ∧ Z 3 14 ≤ 4 := hG.pr 3 14
                obtain ⟨Z68, h68, hc68, hx68, hG68, hf68, b68⟩ := ct_45_3 (d := d + 0) (l := l) (D := D) (b0 := b0) (ad := ad) (Hb := Hb) (tau := tau) hx hG (show 1000 ≤ (1000 + (Z 3 4)) - 309 ∧ (1000 + (Z 3 4)) - 309 ≤ 1004 by omega) (show Z 3 0 = 2 by omega) (show (Z 3 3 ≤ Z 3 2 ∧ Z 3 2 ≤ Z 3 1 ∧ (Z 3 4 = 0 ∨ Z 3 4 = 3 ∨ Z 3 3 < Z 3 2) ∧ (Z 3 4 = 3 ∨ Z 3 14 = 0)) by omega) (show ¬ Z 3 4 = 0 by omega) (show ¬ Z 3 4 = 3 by omega)
                have b76 : 0 ≤ Z68 3 2 ∧ Z68 3 2 ≤ 900 := hG68.pr 3 2
                have b77 : 0 ≤ Z68 3 3 ∧ Z68 3 3 ≤ 900 := hG68.pr 3 3
                have b78 : 0 ≤ Z68 3 4 ∧ Z68 3 4 ≤ 400 := hG68.pr 3 4
                have b79 : 0 ≤ Z68 3 7 ∧ Z68 3 7 ≤ 900 := hG68.pr 3 7
                have eq80 : Z68 3 14 = Z 3 14 := (hf68 3 14 rfl)
                have b81 : 0 ≤ Z 3 14 ∧ Z 3 14 ≤ 4 := hG.pr 3 14
                refine Jcv0 hx (show mx_Sn _ _ 137 (mx_callv 45 2 7 140) from sn_44 137) a3 s3 hc68 rfl rfl rfl ?_
                refine mx_J.step (sn_44 140) (fun _ _ => rfl) ?_
                have eq82 : Z68 3 0 = Z 3 0 := (hf68 3 0 rfl)
                have b83 : 2 ≤ Z 3 0 ∧ Z 3 0 ≤ 4 := hG.pr 3 0
                have b84 : 0 ≤ Z68 3 2 ∧ Z68 3 2 ≤ 900 := hG68.pr 3 2
                have b85 : 0 ≤ Z68 3 3 ∧ Z68 3 3 ≤ 900 := hG68.pr 3 3
                have b86 : 0 ≤ Z68 3 4 ∧ Z68 3 4 ≤ 400 := hG68.pr 3 4
                have b87 : 0 ≤ Z68 3 7 ∧ Z68 3 7 ≤ 900 := hG68.pr 3 7
                have eq88 : Z68 3 14 = Z 3 14 := (hf68 3 14 rfl)
                have b89 : 0 ≤ Z 3 14 ∧ Z 3 14 ≤ 4 := hG.pr 3 14
                have b90 : 0 ≤ Z68 3 3 ∧ Z68 3 3 ≤ 900 := hG68.pr 3 3
                have b91 : 0 ≤ Z68 3 7 ∧ Z68 3 7 ≤ 900 := hG68.pr 3 7
                have b92 : 0 ≤ Z68 3 3 ∧ Z68 3 3 ≤ 900 := hG68.pr 3 3
                have b93 : 0 ≤ Z68 3 4 ∧ Z68 3 4 ≤ 400 := hG68.pr 3 4
                exact c148 Z68 h68 (by omega) (by omega) (by omega) hx68 hG68 (fr_tr (M := [(3, 2), (3, 3), (3, 4), (3, 5), (3, 7), (3, 14), (3, 15), (5, (-1))]) fr_rf (hf68) (M1 := []) rfl rfl)
          · skip
            refine mx_J.step (sn_44 94) (fun _ _ => rfl) ?_
            refine JcI (z := 1004) (show mx_Sn _ _ 95 (mx_const (.int 1004) 98) from sn_44 95) rfl ?_
            have b95 : 2 ≤ Z 3 0 ∧ Z 3 0 ≤ 4 := hG.pr 3 0
            have b96 : 0 ≤ Z 3 1 ∧ Z 3 1 ≤ 900 := hG.pr 3 1
            have b97 : 0 ≤ Z 3 2 ∧ Z 3 2 ≤ 900 := hG.pr 3 2
            have b98 : 0 ≤ Z 3 3 ∧ Z 3 3 ≤ 900 := hG.pr 3 3
            have b99 : 0 ≤ Z 3 4 ∧ Z 3 4 ≤ 400 := hG.pr 3 4
            have b100 : 0 ≤ Z 3 7 ∧ Z 3 7 ≤ 900 := hG.pr 3 7
            have b101 : 0 ≤ Z 3 14 ∧ Z 3 14 ≤ 4 := hG.pr 3 14
            obtain ⟨Z94, h94, hc94, hx94, hG94, hf94, b94⟩ := ct_45_3 (d := d + 0) (l := l) (D := D) (b0 := b0) (ad := ad) (Hb := Hb) (tau := tau) hx hG (show 1000 ≤ 1004 ∧ 1004 ≤ 1004 by omega) (show Z 3 0 = 2 by omega) (show (Z 3 3 ≤ Z 3 2 ∧ Z 3 2 ≤ Z 3 1 ∧ (Z 3 4 = 0 ∨ Z 3 4 = 3 ∨ Z 3 3 < Z 3 2) ∧ (Z 3 4 = 3 ∨ Z 3 14 = 0)) by omega) (show ¬ Z 3 4 = 0 by omega) (show ¬ Z 3 4 = 3 by omega)
            have b102 : 0 ≤ Z94 3 2 ∧ Z94 3 2 ≤ 900 := hG94.pr 3 2
            have b103 : 0 ≤ Z94 3 3 ∧ Z94 3 3 ≤ 900 := hG94.pr 3 3
            have b104 : 0 ≤ Z94 3 4 ∧ Z94 3 4 ≤ 400 := hG94.pr 3 4
            have b105 : 0 ≤ Z94 3 7 ∧ Z94 3 7 ≤ 900 := hG94.pr 3 7
            have eq106 : Z94 3 14 = Z 3 14 := (hf94 3 14 rfl)
            have b107 : 0 ≤ Z 3 14 ∧ Z 3 14 ≤ 4 := hG.pr 3 14
            refine Jcv0 hx (show mx_Sn _ _ 98 (mx_callv 45 2 7 101) from sn_44 98) a3 s3 hc94 rfl rfl rfl ?_
            refine mx_J.step (sn_44 101) (fun _ _ => rfl) ?_
            have eq108 : Z94 3 0 = Z 3 0 := (hf94 3 0 rfl)
            have b109 : 2 ≤ Z 3 0 ∧ Z 3 0 ≤ 4 := hG.pr 3 0
            have b110 : 0 ≤ Z94 3 2 ∧ Z94 3 2 ≤ 900 := hG94.pr 3 2
            have b111 : 0 ≤ Z94 3 3 ∧ Z94 3 3 ≤ 900 := hG94.pr 3 3
            have b112 : 0 ≤ Z94 3 4 ∧ Z94 3 4 ≤ 400 := hG94.pr 3 4
            have b113 : 0 ≤ Z94 3 7 ∧ Z94 3 7 ≤ 900 := hG94.pr 3 7
            have eq114 : Z94 3 14 = Z 3 14 := (hf94 3 14 rfl)
            have b115 : 0 ≤ Z 3 14 ∧ Z 3 14 ≤ 4 := hG.pr 3 14
            have b116 : 0 ≤ Z94 3 3 ∧ Z94 3 3 ≤ 900 := hG94.pr 3 3
            have b117 : 0 ≤ Z94 3 7 ∧ Z94 3 7 ≤ 900 := hG94.pr 3 7
            have b118 : 0 ≤ Z94 3 3 ∧ Z94 3 3 ≤ 900 := hG94.pr 3 3
            have b119 : 0 ≤ Z94 3 4 ∧ Z94 3 4 ≤ 400 := hG94.pr 3 4
            exact c148 Z94 h94 (by omega) (by omega) (by omega) hx94 hG94 (fr_tr (M := [(3, 2), (3, 3), (3, 4), (3, 5), (3, 7), (3, 14), (3, 15), (5, (-1))]) fr_rf (hf94) (M1 := []) rfl rfl)
        · skip
          refine mx_J.step (sn_44 66) (fun _ _ => rfl) ?_
          refine mx_J.step (sn_44 67) (fun _ _ => rfl) ?_
          have b121 : 2 ≤ Z 3 0 ∧ Z 3 0 ≤ 4 := hG.pr 3 0
          have b122 : 0 ≤ Z 3 1 ∧ Z 3 1 ≤ 900 := hG.pr 3 1
          have b123 : 0 ≤ Z 3 2 ∧ Z 3 2 ≤ 900 := hG.pr 3 2
          have b124 : 0 ≤ Z 3 3 ∧ Z 3 3 ≤ 900 := hG.pr 3 3
          have b125 : 0 ≤ Z 3 4 ∧ Z 3 4 ≤ 400 := hG.pr 3 4
          have b126 : 0 ≤ Z 3 7 ∧ Z 3 7 ≤ 900 := hG.pr 3 7
          have b127 : 0 ≤ Z 3 14 ∧ Z 3 14 ≤ 4 := hG.pr 3 14
          obtain ⟨z120, Z120, h120, hc120, hx120, hG120, hf120, b120⟩ := ct_51_3_i6 (d := d + 5) (l := l) (D := D) (b0 := b0) (ad := ad) (Hb := Hb) (tau := tau) hx hG  (show Z 3 0 = 2 by omega) (show (Z 3 3 ≤ Z 3 2 ∧ Z 3 2 ≤ Z 3 1 ∧ (Z 3 4 = 0 ∨ Z 3 4 = 3 ∨ Z 3 3 < Z 3 2) ∧ (Z 3 4 = 3 ∨ Z 3 14 = 0)) by omega) (show ¬ Z 3 4 = 0 by omega) (show ¬ Z 3 4 = 3 by omega)
          have eq128 : Z120 3 2 = Z 3 2 := (hf120 3 2 rfl)
          have b129 : 0 ≤ Z 3 2 ∧ Z 3 2 ≤ 900 := hG.pr 3 2
          have eq130 : Z120 3 3 = Z 3 3 := (hf120 3 3 rfl)
          have b131 : 0 ≤ Z 3 3 ∧ Z 3 3 ≤ 900 := hG.pr 3 3
          have b132 : 0 ≤ Z120 3 4 ∧ Z120 3 4 ≤ 400 := hG120.pr 3 4
          have eq133 : Z120 3 7 = Z 3 7 := (hf120 3 7 rfl)
          have b134 : 0 ≤ Z 3 7 ∧ Z 3 7 ≤ 900 := hG.pr 3 7
          have b135 : 0 ≤ Z120 3 14 ∧ Z120 3 14 ≤ 4 := hG120.pr 3 14
          refine Jcv hx (show mx_Sn _ _ 68 (mx_callv 51 2 7 71) from sn_44 68) a3 s3 hc120 rfl rfl rfl ?_
          refine Jif_eq (show mx_Sn _ _ 71 (mx_if_eq 148 74) from sn_44 71) (by omega) (fun q136 => ?_) (fun q136 => ?_)
          · skip
            have eq137 : Z120 3 0 = Z 3 0 := (hf120 3 0 rfl)
            have b138 : 2 ≤ Z 3 0 ∧ Z 3 0 ≤ 4 := hG.pr 3 0
            have eq139 : Z120 3 2 = Z 3 2 := (hf120 3 2 rfl)
            have b140 : 0 ≤ Z 3 2 ∧ Z 3 2 ≤ 900 := hG.pr 3 2
            have eq141 : Z120 3 3 = Z 3 3 := (hf120 3 3 rfl)
            have b142 : 0 ≤ Z 3 3 ∧ Z 3 3 ≤ 900 := hG.pr 3 3
            have b143 : 0 ≤ Z120 3 4 ∧ Z120 3 4 ≤ 400 := hG120.pr 3 4
            have eq144 : Z120 3 7 = Z 3 7 := (hf120 3 7 rfl)
            have b145 : 0 ≤ Z 3 7 ∧ Z 3 7 ≤ 900 := hG.pr 3 7
            have b146 : 0 ≤ Z120 3 14 ∧ Z120 3 14 ≤ 4 := hG120.pr 3 14
            have eq147 : Z120 3 3 = Z 3 3 := (hf120 3 3 rfl)
            have b148 : 0 ≤ Z 3 3 ∧ Z 3 3 ≤ 900 := hG.pr 3 3
            have eq149 : Z120 3 7 = Z 3 7 := (hf120 3 7 rfl)
            have b150 : 0 ≤ Z 3 7 ∧ Z 3 7 ≤ 900 := hG.pr 3 7
            have eq151 : Z120 3 3 = Z 3 3 := (hf120 3 3 rfl)
            have b152 : 0 ≤ Z 3 3 ∧ Z 3 3 ≤ 900 := hG.pr 3 3
            have b153 : 0 ≤ Z120 3 4 ∧ Z120 3 4 ≤ 400 := hG120.pr 3 4
            exact c148 Z120 h120 (by omega) (by omega) (by omega) hx120 hG120 (fr_tr (M := [(3, 2), (3, 3), (3, 4), (3, 5), (3, 7), (3, 14), (3, 15), (5, (-1))]) fr_rf (hf120) (M1 := []) rfl rfl)
          · skip
            exfalso; omega
      · skip
        refine mx_J.step (sn_44 32) (fun _ _ => rfl) ?_
        refine mx_J.step (sn_44 33) (fun _ _ => rfl) ?_
        have b155 : 2 ≤ Z 3 0 ∧ Z 3 0 ≤ 4 := hG.pr 3 0
        have b156 : 0 ≤ Z 3 1 ∧ Z 3 1 ≤ 900 := hG.pr 3 1
        have b157 : 0 ≤ Z 3 2 ∧ Z 3 2 ≤ 900 := hG.pr 3 2
        have b158 : 0 ≤ Z 3 3 ∧ Z 3 3 ≤ 900 := hG.pr 3 3
        have b159 : 0 ≤ Z 3 4 ∧ Z 3 4 ≤ 400 := hG.pr 3 4
        have b160 : 0 ≤ Z 3 7 ∧ Z 3 7 ≤ 900 := hG.pr 3 7
        have b161 : 0 ≤ Z 3 14 ∧ Z 3 14 ≤ 4 := hG.pr 3 14
        obtain ⟨z154, Z154, h154, hc154, hx154, hG154, hf154, b154⟩ := ct_51_3_i6 (d := d + 5) (l := l) (D := D) (b0 := b0) (ad := ad) (Hb := Hb) (tau := tau) hx hG  (show Z 3 0 = 2 by omega) (show (Z 3 3 ≤ Z 3 2 ∧ Z 3 2 ≤ Z 3 1 ∧ (Z 3 4 = 0 ∨ Z 3 4 = 3 ∨ Z 3 3 < Z 3 2) ∧ (Z 3 4 = 3 ∨ Z 3 14 = 0)) by omega) (show ¬ Z 3 4 = 0 by omega) (show ¬ Z 3 4 = 3 by omega)
        have eq162 : Z154 3 2 = Z 3 2 := (hf154 3 2 rfl)
        have b163 : 0 ≤ Z 3 2 ∧ Z 3 2 ≤ 900 := hG.pr 3 2
        have eq164 : Z154 3 3 = Z 3 3 := (hf154 3 3 rfl)
        have b165 : 0 ≤ Z 3 3 ∧ Z 3 3 ≤ 900 := hG.pr 3 3
        have b166 : 0 ≤ Z154 3 4 ∧ Z154 3 4 ≤ 400 := hG154.pr 3 4
        have eq167 : Z154 3 7 = Z 3 7 := (hf154 3 7 rfl)
        have b168 : 0 ≤ Z 3 7 ∧ Z 3 7 ≤ 900 := hG.pr 3 7
        have b169 : 0 ≤ Z154 3 14 ∧ Z154 3 14 ≤ 4 := hG154.pr 3 14
        refine Jcv hx (show mx_Sn _ _ 34 (mx_callv 51 2 7 37) from sn_44 34) a3 s3 hc154 rfl rfl rfl ?_
        refine Jif_eq (show mx_Sn _ _ 37 (mx_if_eq 148 40) from sn_44 37) (by omega) (fun q170 => ?_) (fun q170 => ?_)
        · skip
          have eq171 : Z154 3 0 = Z 3 0 := (hf154 3 0 rfl)
          have b172 : 2 ≤ Z 3 0 ∧ Z 3 0 ≤ 4 := hG.pr 3 0
          have eq173 : Z154 3 2 = Z 3 2 := (hf154 3 2 rfl)
          have b174 : 0 ≤ Z 3 2 ∧ Z 3 2 ≤ 900 := hG.pr 3 2
          have eq175 : Z154 3 3 = Z 3 3 := (hf154 3 3 rfl)
          have b176 : 0 ≤ Z 3 3 ∧ Z 3 3 ≤ 900 := hG.pr 3 3
          have b177 : 0 ≤ Z154 3 4 ∧ Z154 3 4 ≤ 400 := hG154.pr 3 4
          have eq178 : Z154 3 7 = Z 3 7 := (hf154 3 7 rfl)
          have b179 : 0 ≤ Z 3 7 ∧ Z 3 7 ≤ 900 := hG.pr 3 7
          have b180 : 0 ≤ Z154 3 14 ∧ Z154 3 14 ≤ 4 := hG154.pr 3 14
          have eq181 : Z154 3 3 = Z 3 3 := (hf154 3 3 rfl)
          have b182 : 0 ≤ Z 3 3 ∧ Z 3 3 ≤ 900 := hG.pr 3 3
          have eq183 : Z154 3 7 = Z 3 7 := (hf154 3 7 rfl)
          have b184 : 0 ≤ Z 3 7 ∧ Z 3 7 ≤ 900 := hG.pr 3 7
          have eq185 : Z154 3 3 = Z 3 3 := (hf154 3 3 rfl)
          have b186 : 0 ≤ Z 3 3 ∧ Z 3 3 ≤ 900 := hG.pr 3 3
          have b187 : 0 ≤ Z154 3 4 ∧ Z154 3 4 ≤ 400 := hG154.pr 3 4
          exact c148 Z154 h154 (by omega) (by omega) (by omega) hx154 hG154 (fr_tr (M := [(3, 2), (3, 3), (3, 4), (3, 5), (3, 7), (3, 14), (3, 15), (5, (-1))]) fr_rf (hf154) (M1 := []) rfl rfl)
        · skip
          exfalso; omega
    · skip
      refine mx_J.step (sn_44 8) (fun _ _ => rfl) ?_
      refine mx_J.step (sn_44 9) (fun _ _ => rfl) ?_
      refine JcI (z := 0) (show mx_Sn _ _ 10 (mx_const (.int 0) 11) from sn_44 10) rfl ?_
      refine JcI (z := 999) (show mx_Sn _ _ 11 (mx_const (.int 999) 14) from sn_44 11) rfl ?_
      have b189 : 2 ≤ Z 3 0 ∧ Z 3 0 ≤ 4 := hG.pr 3 0
      have b190 : 0 ≤ Z 3 1 ∧ Z 3 1 ≤ 900 := hG.pr 3 1
      have b191 : 0 ≤ Z 3 2 ∧ Z 3 2 ≤ 900 := hG.pr 3 2
      have b192 : 0 ≤ Z 3 3 ∧ Z 3 3 ≤ 900 := hG.pr 3 3
      have b193 : 0 ≤ Z 3 4 ∧ Z 3 4 ≤ 400 := hG.pr 3 4
      have b194 : 0 ≤ Z 3 7 ∧ Z 3 7 ≤ 900 := hG.pr 3 7
      have b195 : 0 ≤ Z 3 14 ∧ Z 3 14 ≤ 4 := hG.pr 3 14
      obtain ⟨z188, Z188, h188, hc188, hx188, hG188, hf188, b188⟩ := ct_54_3 (d := d + 0) (l := l) (D := D) (b0 := b0) (ad := ad) (Hb := Hb) (tau := tau) hx hG (show 0 ≤ 0 ∧ 0 ≤ 1 by omega) (show 0 ≤ 999 ∧ 999 ≤ 999 by omega) (show Z 3 0 = 2 by omega) (show (Z 3 3 ≤ Z 3 2 ∧ Z 3 2 ≤ Z 3 1 ∧ (Z 3 4 = 0 ∨ Z 3 4 = 3 ∨ Z 3 3 < Z 3 2) ∧ (Z 3 4 = 3 ∨ Z 3 14 = 0)) by omega)
      have b196 : 0 ≤ Z188 3 2 ∧ Z188 3 2 ≤ 900 := hG188.pr 3 2
      have b197 : 0 ≤ Z188 3 3 ∧ Z188 3 3 ≤ 900 := hG188.pr 3 3
      have b198 : 0 ≤ Z188 3 4 ∧ Z188 3 4 ≤ 400 := hG188.pr 3 4
      have eq199 : Z188 3 7 = Z 3 7 := (hf188 3 7 rfl)
      have b200 : 0 ≤ Z 3 7 ∧ Z 3 7 ≤ 900 := hG.pr 3 7
      have b201 : 0 ≤ Z188 3 14 ∧ Z188 3 14 ≤ 4 := hG188.pr 3 14
      refine Jcv hx (show mx_Sn _ _ 14 (mx_callv 54 3 7 17) from sn_44 14) a3 s3 hc188 rfl rfl rfl ?_
      have eq203 : Z188 3 7 = Z 3 7 := (hf188 3 7 rfl)
      have b204 : 0 ≤ Z 3 7 ∧ Z 3 7 ≤ 900 := hG.pr 3 7
      obtain ⟨Z202, h202, hc202, hx202, hG202, hf202, b202⟩ := ct_52_3_0 (d := d + 6) (l := l) (D := D) (b0 := b0) (ad := ad) (Hb := Hb) (tau := tau) hx188 hG188 (show 0 ≤ z188 ∧ z188 ≤ 1004 by omega)
      try rw [eq203] at b202
      have b205 : 0 ≤ Z202 3 7 ∧ Z202 3 7 ≤ 900 := hG202.pr 3 7
      refine Jcv0 hx188 (show mx_Sn _ _ 17 (mx_callv 52 2 7 20) from sn_44 17) a3 s3 hc202 rfl rfl rfl ?_
      refine mx_J.step (sn_44 20) (fun _ _ => rfl) ?_
      have eq206 : Z202 3 0 = Z 3 0 := ((hf202 3 0 rfl).trans (hf188 3 0 rfl))
      have b207 : 2 ≤ Z 3 0 ∧ Z 3 0 ≤ 4 := hG.pr 3 0
      have eq208 : Z202 3 2 = Z188 3 2 := (hf202 3 2 rfl)
      have b209 : 0 ≤ Z188 3 2 ∧ Z188 3 2 ≤ 900 := hG188.pr 3 2
      have eq210 : Z202 3 3 = Z188 3 3 := (hf202 3 3 rfl)
      have b211 : 0 ≤ Z188 3 3 ∧ Z188 3 3 ≤ 900 := hG188.pr 3 3
      have eq212 : Z202 3 4 = Z188 3 4 := (hf202 3 4 rfl)
      have b213 : 0 ≤ Z188 3 4 ∧ Z188 3 4 ≤ 400 := hG188.pr 3 4
      have b214 : 0 ≤ Z202 3 7 ∧ Z202 3 7 ≤ 900 := hG202.pr 3 7
      have eq215 : Z202 3 14 = Z188 3 14 := (hf202 3 14 rfl)
      have b216 : 0 ≤ Z188 3 14 ∧ Z188 3 14 ≤ 4 := hG188.pr 3 14
      have eq217 : Z202 3 3 = Z188 3 3 := (hf202 3 3 rfl)
      have b218 : 0 ≤ Z188 3 3 ∧ Z188 3 3 ≤ 900 := hG188.pr 3 3
      have b219 : 0 ≤ Z202 3 7 ∧ Z202 3 7 ≤ 900 := hG202.pr 3 7
      have eq220 : Z202 3 3 = Z188 3 3 := (hf202 3 3 rfl)
      have b221 : 0 ≤ Z188 3 3 ∧ Z188 3 3 ≤ 900 := hG188.pr 3 3
      have eq222 : Z202 3 4 = Z188 3 4 := (hf202 3 4 rfl)
      have b223 : 0 ≤ Z188 3 4 ∧ Z188 3 4 ≤ 400 := hG188.pr 3 4
      exact c148 Z202 h202 (by omega) (by omega) (by omega) hx202 hG202 (fr_tr (M := [(3, 2), (3, 3), (3, 4), (3, 5), (3, 7), (3, 14), (3, 15), (5, (-1))]) (fr_tr (M := [(3, 2), (3, 3), (3, 4), (3, 5), (3, 7), (3, 14), (3, 15), (5, (-1))]) fr_rf (hf188) (M1 := []) rfl rfl) (hf202) rfl rfl)
theorem ct_44_3_i6 {l : Launch} {D : va_G} {b0 : Nat} {ad : Nat → Nat} {Hb : Heap} {tau : Nat → Int64} {d n s : Nat} {S : Nat → xS} {Z : xZ} {h : mx_H} (hx : XH n s S Z h) (hG : GI n S Z)   (k0 : Z 3 0 = 2) (k1 : (Z 3 3 ≤ Z 3 2 ∧ Z 3 2 ≤ Z 3 1 ∧ (Z 3 4 = 0 ∨ Z 3 4 = 3 ∨ Z 3 3 < Z 3 2) ∧ (Z 3 4 = 3 ∨ Z 3 14 = 0))) : ∃ (Z' : xZ) (h' : mx_H), mx_Ca (tB l D b0 ad Hb tau) (d + 8) 44 [.ref 3, xI 6] h (none, h') ∧ XH n s S Z' h' ∧ GI n S Z' ∧ fr' [(3, 2), (3, 3), (3, 4), (3, 5), (3, 7), (3, 14), (3, 15), (5, (-1))] Z Z' ∧ (((Z' 3 3 ≤ Z' 3 2 ∧ Z' 3 2 ≤ Z 3 1 ∧ (Z' 3 4 = 0 ∨ Z' 3 4 = 3 ∨ Z' 3 3 < Z' 3 2) ∧ (Z' 3 4 = 3 ∨ Z' 3 14 = 0)) ∧ Z 3 3 ≤ Z' 3 3 ∧ Z' 3 7 - Z 3 7 ≤ Z' 3 3 - Z 3 3 ∧ (Z' 3 4 = 3 ∨ Z 3 3 + 1 ≤ Z' 3 3) ∧ (Z 3 4 = 3 → Z' 3 4 = 3))) := by
  obtain ⟨r, hca, Z', h', e, q⟩ := Jmt (B := tB l D b0 ad Hb tau) (M := mt_44) (mi := 44) (as := [.ref 3, xI 6]) (d := d + 7) (ls := [some (.ref 3), some (xI 6)]) rfl rfl rfl rfl rfl rfl (cw_44_3_i6 (l := l) (D := D) (b0 := b0) (ad := ad) (Hb := Hb) (tau := tau) (d := d) (Post := fun r => ∃ (Z' : xZ) (h' : mx_H), r = (none, h') ∧ XH n s S Z' h' ∧ GI n S Z' ∧ fr' [(3, 2), (3, 3), (3, 4), (3, 5), (3, 7), (3, 14), (3, 15), (5, (-1))] Z Z' ∧ (((Z' 3 3 ≤ Z' 3 2 ∧ Z' 3 2 ≤ Z 3 1 ∧ (Z' 3 4 = 0 ∨ Z' 3 4 = 3 ∨ Z' 3 3 < Z' 3 2) ∧ (Z' 3 4 = 3 ∨ Z' 3 14 = 0)) ∧ Z 3 3 ≤ Z' 3 3 ∧ Z' 3 7 - Z 3 7 ≤ Z' 3 3 - Z 3 3 ∧ (Z' 3 4 = 3 ∨ Z 3 3 + 1 ≤ Z' 3 3) ∧ (Z 3 4 = 3 → Z' 3 4 = 3)))) hx hG k0 k1 (fun Z' h' q1 q2 q3 q4 => ⟨Z', h', rfl, q1, q2, q3, q4⟩))
  subst e; exact ⟨Z', h', hca, q⟩
set_option maxRecDepth 100000 in
theorem cw_43_3_i6 {l : Launch} {D : va_G} {b0 : Nat} {ad : Nat → Nat} {Hb : Heap} {tau : Nat → Int64} {d n s : Nat} {S : Nat → xS} {Z : xZ} {h : mx_H} {Post : mx_R → Prop} (hx : XH n s S Z h) (hG : GI n S Z)   (k0 : Z 3 0 = 2) (k1 : (Z 3 3 ≤ Z 3 2 ∧ Z 3 2 ≤ Z 3 1 ∧ (Z 3 4 = 0 ∨ Z 3 4 = 3 ∨ Z 3 3 < Z 3 2) ∧ (Z 3 4 = 3 ∨ Z 3 14 = 0))) (hP : ∀ (Z' : xZ) (h' : mx_H), XH n s S Z' h' → GI n S Z' → fr' [(3, 2), (3, 3), (3, 4), (3, 5), (3, 7), (3, 14), (3, 15), (5, (-1))] Z Z' → ((Z' 3 3 ≤ Z' 3 2 ∧ Z' 3 2 ≤ Z 3 1 ∧ (Z' 3 4 = 0 ∨ Z' 3 4 = 3 ∨ Z' 3 3 < Z' 3 2) ∧ (Z' 3 4 = 3 ∨ Z' 3 14 = 0)) ∧ Z 3 3 ≤ Z' 3 3 ∧ Z' 3 7 - Z 3 7 ≤ Z' 3 3 - Z 3 3 ∧ (Z' 3 4 = 3 ∨ Z 3 3 + 1 ≤ Z' 3 3) ∧ (Z 3 4 = 3 → Z' 3 4 = 3)) → Post (none, h')) : mx_J (tB l D b0 ad Hb tau) mt_43 (d + 8) 0 [some (.ref 3), some (xI 6), none] [] h Post := by
    have a3 : 3 < n := lt83 (GI_n hG) rfl
    have s3 : S 3 = .inl (7, [2, 0, 0, 0, 0, 0, 2, 0, 2, 2, 0, 2, 0, 0, 0, 0]) := GI_s hG 3 rfl
    refine mx_J.step (sn_43 0) (fun _ _ => rfl) ?_
    refine mx_J.step (sn_43 1) (fun _ _ => rfl) ?_
    have b2 : 2 ≤ Z 3 0 ∧ Z 3 0 ≤ 4 := hG.pr 3 0
    have b3 : 0 ≤ Z 3 1 ∧ Z 3 1 ≤ 900 := hG.pr 3 1
    have b4 : 0 ≤ Z 3 2 ∧ Z 3 2 ≤ 900 := hG.pr 3 2
    have b5 : 0 ≤ Z 3 3 ∧ Z 3 3 ≤ 900 := hG.pr 3 3
    have b6 : 0 ≤ Z 3 4 ∧ Z 3 4 ≤ 400 := hG.pr 3 4
    have b7 : 0 ≤ Z 3 7 ∧ Z 3 7 ≤ 900 := hG.pr 3 7
    have b8 : 0 ≤ Z 3 14 ∧ Z 3 14 ≤ 4 := hG.pr 3 14
    obtain ⟨Z1, h1, hc1, hx1, hG1, hf1, b1⟩ := ct_44_3_i6 (d := d + 0) (l := l) (D := D) (b0 := b0) (ad := ad) (Hb := Hb) (tau := tau) hx hG  (show Z 3 0 = 2 by omega) (show (Z 3 3 ≤ Z 3 2 ∧ Z 3 2 ≤ Z 3 1 ∧ (Z 3 4 = 0 ∨ Z 3 4 = 3 ∨ Z 3 3 < Z 3 2) ∧ (Z 3 4 = 3 ∨ Z 3 14 = 0)) by omega)
    have b9 : 0 ≤ Z1 3 2 ∧ Z1 3 2 ≤ 900 := hG1.pr 3 2
    have b10 : 0 ≤ Z1 3 3 ∧ Z1 3 3 ≤ 900 := hG1.pr 3 3
    have b11 : 0 ≤ Z1 3 4 ∧ Z1 3 4 ≤ 400 := hG1.pr 3 4
    have b12 : 0 ≤ Z1 3 7 ∧ Z1 3 7 ≤ 900 := hG1.pr 3 7
    have b13 : 0 ≤ Z1 3 14 ∧ Z1 3 14 ≤ 4 := hG1.pr 3 14
    refine Jcv0 hx (show mx_Sn _ _ 2 (mx_callv 44 2 7 5) from sn_43 2) a3 s3 hc1 rfl rfl rfl ?_
    refine JcI (z := 0) (show mx_Sn _ _ 5 (mx_const (.int 0) 6) from sn_43 5) rfl ?_
    refine mx_J.step (ls2 := [some (.ref 3), some (xI 6), some (xI 0)]) (sn_43 6) (fun _ _ => rfl) ?_
    have c7 : ∀ (m14 : Nat) (w14_2 : Int) (Z15 : xZ) (h15 : mx_H), 900 - w14_2 < (m14 : Int) → 0 ≤ w14_2 ∧ w14_2 ≤ 900 → (Z15 3 3 ≤ Z15 3 2 ∧ Z15 3 2 ≤ Z 3 1 ∧ (Z15 3 4 = 0 ∨ Z15 3 4 = 3 ∨ Z15 3 3 < Z15 3 2) ∧ (Z15 3 4 = 3 ∨ Z15 3 14 = 0)) → (Z 3 3 ≤ Z15 3 3 ∧ Z15 3 7 - Z 3 7 ≤ Z15 3 3 - Z 3 3 + 0) → ((Z15 3 4 = 3 ∨ Z 3 3 + 1 ≤ Z15 3 3) ∧ (Z 3 4 = 3 → Z15 3 4 = 3)) → XH n s S Z15 h15 → GI n S Z15 → fr' [(3, 2), (3, 3), (3, 4), (3, 5), (3, 7), (3, 14), (3, 15), (5, (-1))] Z1 Z15 → mx_J (tB l D b0 ad Hb tau) mt_43 (d + 8) 7 [some (.ref 3), some (xI 6), some (xI w14_2)] [] h15 Post := by
      intro m14
      induction m14 with
      | zero => intro w14_2 Z15 h15 q14 f14_0 f14_1 f14_2 f14_3 hx15 hG15 hf15; exact absurd q14 (by omega)
      | succ m14 ih14 =>
        intro w14_2 Z15 h15 q14 f14_0 f14_1 f14_2 f14_3 hx15 hG15 hf15
        have eq16 : Z15 3 0 = Z 3 0 := ((hf15 3 0 rfl).trans (hf1 3 0 rfl))
        have b17 : 2 ≤ Z 3 0 ∧ Z 3 0 ≤ 4 := hG.pr 3 0
        have b18 : 0 ≤ Z15 3 2 ∧ Z15 3 2 ≤ 900 := hG15.pr 3 2
        have b19 : 0 ≤ Z15 3 3 ∧ Z15 3 3 ≤ 900 := hG15.pr 3 3
        have b20 : 0 ≤ Z15 3 4 ∧ Z15 3 4 ≤ 400 := hG15.pr 3 4
        have b21 : 0 ≤ Z15 3 7 ∧ Z15 3 7 ≤ 900 := hG15.pr 3 7
        have b22 : 0 ≤ Z15 3 14 ∧ Z15 3 14 ≤ 4 := hG15.pr 3 14
        have b23 : 0 ≤ Z15 3 3 ∧ Z15 3 3 ≤ 900 := hG15.pr 3 3
        have b24 : 0 ≤ Z15 3 7 ∧ Z15 3 7 ≤ 900 := hG15.pr 3 7
        have b25 : 0 ≤ Z15 3 3 ∧ Z15 3 3 ≤ 900 := hG15.pr 3 3
        have b26 : 0 ≤ Z15 3 4 ∧ Z15 3 4 ≤ 400 := hG15.pr 3 4
        refine mx_J.step (sn_43 7) (fun _ _ => rfl) ?_
        refine mx_J.step (sn_43 8) (fun _ _ => rfl) ?_
        have b28 : 0 ≤ Z 3 1 ∧ Z 3 1 ≤ 900 := hG.pr 3 1
        refine JgetI (g := 1) (z := Z 3 1) hx15 (show mx_Sn _ _ 9 (mx_getf 7 1 12) from sn_43 9) a3 s3 rfl rfl ((hf15 3 1 rfl).trans (hf1 3 1 rfl)) ?_
        have c46 : mx_J (tB l D b0 ad Hb tau) mt_43 (d + 8) 46 [some (.ref 3), some (xI 6), some (xI w14_2)] [] h15 Post := by
          have b30 : 0 ≤ Z15 3 2 ∧ Z15 3 2 ≤ 900 := hG15.pr 3 2
          have b31 : 0 ≤ Z15 3 3 ∧ Z15 3 3 ≤ 900 := hG15.pr 3 3
          have b32 : 0 ≤ Z15 3 4 ∧ Z15 3 4 ≤ 400 := hG15.pr 3 4
          have b33 : 0 ≤ Z15 3 7 ∧ Z15 3 7 ≤ 900 := hG15.pr 3 7
          have b34 : 0 ≤ Z15 3 14 ∧ Z15 3 14 ≤ 4 := hG15.pr 3 14
          have eq35 : Z15 3 0 = Z 3 0 := ((hf15 3 0 rfl).trans (hf1 3 0 rfl))
          have b36 : 2 ≤ Z 3 0 ∧ Z 3 0 ≤ 4 := hG.pr 3 0
          have eq37 : Z15 3 1 = Z 3 1 := ((hf15 3 1 rfl).trans (hf1 3 1 rfl))
          have b38 : 0 ≤ Z 3 1 ∧ Z 3 1 ≤ 900 := hG.pr 3 1
          have b39 : 0 ≤ Z15 3 2 ∧ Z15 3 2 ≤ 900 := hG15.pr 3 2
          have b40 : 0 ≤ Z15 3 3 ∧ Z15 3 3 ≤ 900 := hG15.pr 3 3
          have b41 : 0 ≤ Z15 3 4 ∧ Z15 3 4 ≤ 400 := hG15.pr 3 4
          have b42 : 0 ≤ Z15 3 7 ∧ Z15 3 7 ≤ 900 := hG15.pr 3 7
          have b43 : 0 ≤ Z15 3 14 ∧ Z15 3 14 ≤ 4 := hG15.pr 3 14
          exact mx_J.ret (sn_43 46) (fun _ _ => rfl) (hP Z15 h15 hx15 hG15 (fr_tr (M := [(3, 2), (3, 3), (3, 4), (3, 5), (3, 7), (3, 14), (3, 15), (5, (-1))]) (fr_tr (M := [(3, 2), (3, 3), (3, 4), (3, 5), (3, 7), (3, 14), (3, 15), (5, (-1))]) fr_rf (hf1) (M1 := []) rfl rfl) (hf15) rfl rfl) (by omega))
        refine Jicmp_ge (show mx_Sn _ _ 12 (mx_icmp_ge 46 15) from sn_43 12) (by omega) (by omega) (fun q44 => ?_) (fun q44 => ?_)
        · skip
          exact c46 
        · skip
          refine mx_J.step (sn_43 15) (fun _ _ => rfl) ?_
          have b46 : 0 ≤ Z15 3 4 ∧ Z15 3 4 ≤ 400 := hG15.pr 3 4
          refine JgetI (g := 4) (z := Z15 3 4) hx15 (show mx_Sn _ _ 16 (mx_getf 7 4 19) from sn_43 16) a3 s3 rfl rfl rfl ?_
          refine JcI (z := 42) (show mx_Sn _ _ 19 (mx_const (.int 42) 21) from sn_43 19) rfl ?_
          refine Jicmp_ne (show mx_Sn _ _ 21 (mx_icmp_ne 46 24) from sn_43 21) (by omega) (by omega) (fun q47 => ?_) (fun q47 => ?_)
          · skip
            exact c46 
          · skip
            refine mx_J.step (sn_43 24) (fun _ _ => rfl) ?_
            have eq49 : Z15 3 0 = Z 3 0 := ((hf15 3 0 rfl).trans (hf1 3 0 rfl))
            have b50 : 2 ≤ Z 3 0 ∧ Z 3 0 ≤ 4 := hG.pr 3 0
            have eq51 : Z15 3 1 = Z 3 1 := ((hf15 3 1 rfl).trans (hf1 3 1 rfl))
            have b52 : 0 ≤ Z 3 1 ∧ Z 3 1 ≤ 900 := hG.pr 3 1
            have b53 : 0 ≤ Z15 3 2 ∧ Z15 3 2 ≤ 900 := hG15.pr 3 2
            have b54 : 0 ≤ Z15 3 3 ∧ Z15 3 3 ≤ 900 := hG15.pr 3 3
            have b55 : 0 ≤ Z15 3 4 ∧ Z15 3 4 ≤ 400 := hG15.pr 3 4
            have b56 : 0 ≤ Z15 3 14 ∧ Z15 3 14 ≤ 4 := hG15.pr 3 14
            obtain ⟨Z48, h48, hc48, hx48, hG48, hf48, b48⟩ := ct_56_3 (d := d + 2) (l := l) (D := D) (b0 := b0) (ad := ad) (Hb := Hb) (tau := tau) hx15 hG15  (show Z15 3 0 = 2 by first | omega | (simp only [eq49, eq51]; omega)) (show Z15 3 2 ≤ Z15 3 1 by first | omega | (simp only [eq49, eq51]; omega))
            try rw [eq49] at b48
            try rw [eq51] at b48
            have b57 : 0 ≤ Z48 3 2 ∧ Z48 3 2 ≤ 900 := hG48.pr 3 2
            have b58 : 0 ≤ Z48 3 3 ∧ Z48 3 3 ≤ 900 := hG48.pr 3 3
            have b59 : 0 ≤ Z48 3 4 ∧ Z48 3 4 ≤ 400 := hG48.pr 3 4
            refine Jcv0 hx15 (show mx_Sn _ _ 25 (mx_callv 56 1 7 28) from sn_43 25) a3 s3 hc48 rfl rfl rfl ?_
            refine mx_J.step (sn_43 28) (fun _ _ => rfl) ?_
            refine mx_J.step (sn_43 29) (fun _ _ => rfl) ?_
            have eq61 : Z48 3 0 = Z 3 0 := ((hf48 3 0 rfl).trans ((hf15 3 0 rfl).trans (hf1 3 0 rfl)))
            have b62 : 2 ≤ Z 3 0 ∧ Z 3 0 ≤ 4 := hG.pr 3 0
            have eq63 : Z48 3 1 = Z 3 1 := ((hf48 3 1 rfl).trans ((hf15 3 1 rfl).trans (hf1 3 1 rfl)))
            have b64 : 0 ≤ Z 3 1 ∧ Z 3 1 ≤ 900 := hG.pr 3 1
            have b65 : 0 ≤ Z48 3 2 ∧ Z48 3 2 ≤ 900 := hG48.pr 3 2
            have b66 : 0 ≤ Z48 3 3 ∧ Z48 3 3 ≤ 900 := hG48.pr 3 3
            have b67 : 0 ≤ Z48 3 4 ∧ Z48 3 4 ≤ 400 := hG48.pr 3 4
            have eq68 : Z48 3 7 = Z15 3 7 := (hf48 3 7 rfl)
            have b69 : 0 ≤ Z15 3 7 ∧ Z15 3 7 ≤ 900 := hG15.pr 3 7
            have eq70 : Z48 3 14 = Z15 3 14 := (hf48 3 14 rfl)
            have b71 : 0 ≤ Z15 3 14 ∧ Z15 3 14 ≤ 4 := hG15.pr 3 14
            obtain ⟨Z60, h60, hc60, hx60, hG60, hf60, b60⟩ := ct_44_3_i6 (d := d + 0) (l := l) (D := D) (b0 := b0) (ad := ad) (Hb := Hb) (tau := tau) hx48 hG48  (show Z48 3 0 = 2 by first | omega | (simp only [eq61, eq63, eq68, eq70]; omega)) (show (Z48 3 3 ≤ Z48 3 2 ∧ Z48 3 2 ≤ Z48 3 1 ∧ (Z48 3 4 = 0 ∨ Z48 3 4 = 3 ∨ Z48 3 3 < Z48 3 2) ∧ (Z48 3 4 = 3 ∨ Z48 3 14 = 0)) by first | omega | (simp only [eq61, eq63, eq68, eq70]; omega))
            try rw [eq61] at b60
            try rw [eq63] at b60
            try rw [eq68] at b60
            try rw [eq70] at b60
            have b72 : 0 ≤ Z60 3 2 ∧ Z60 3 2 ≤ 900 := hG60.pr 3 2
            have b73 : 0 ≤ Z60 3 3 ∧ Z60 3 3 ≤ 900 := hG60.pr 3 3
            have b74 : 0 ≤ Z60 3 4 ∧ Z60 3 4 ≤ 400 := hG60.pr 3 4
            have b75 : 0 ≤ Z60 3 7 ∧ Z60 3 7 ≤ 900 := hG60.pr 3 7
            have b76 : 0 ≤ Z60 3 14 ∧ Z60 3 14 ≤ 4 := hG60.pr 3 14
            refine Jcv0 hx48 (show mx_Sn _ _ 30 (mx_callv 44 2 7 33) from sn_43 30) a3 s3 hc60 rfl rfl rfl ?_
            refine mx_J.step (sn_43 33) (fun _ _ => rfl) ?_
            refine JcI (z := 1012) (show mx_Sn _ _ 34 (mx_const (.int 1012) 37) from sn_43 34) rfl ?_
            have b78 : 0 ≤ Z60 3 7 ∧ Z60 3 7 ≤ 900 := hG60.pr 3 7
            obtain ⟨Z77, h77, hc77, hx77, hG77, hf77, b77⟩ := ct_52_3_1010 (d := d + 7) (l := l) (D := D) (b0 := b0) (ad := ad) (Hb := Hb) (tau := tau) hx60 hG60 (show 1010 ≤ 1012 ∧ 1012 ≤ 1019 by omega)
            have b79 : 0 ≤ Z77 3 7 ∧ Z77 3 7 ≤ 900 := hG77.pr 3 7
            refine Jcv0 hx60 (show mx_Sn _ _ 37 (mx_callv 52 2 7 40) from sn_43 37) a3 s3 hc77 rfl rfl rfl ?_
            refine Jiinc (z := w14_2) (cz := 1) (ls2 := [some (.ref 3), some (xI 6), some (xI (w14_2 + 1))]) (show mx_Sn _ _ 40 (mx_iinc 2 1 43) from sn_43 40) rfl rfl rfl rfl ?_
            refine mx_J.step (sn_43 43) (fun _ _ => rfl) ?_
            have eq80 : Z77 3 0 = Z 3 0 := ((hf77 3 0 rfl).trans ((hf60 3 0 rfl).trans ((hf48 3 0 rfl).trans ((hf15 3 0 rfl).trans (hf1 3 0 rfl)))))
            have b81 : 2 ≤ Z 3 0 ∧ Z 3 0 ≤ 4 := hG.pr 3 0
            have eq82 : Z77 3 2 = Z60 3 2 := (hf77 3 2 rfl)
            have b83 : 0 ≤ Z60 3 2 ∧ Z60 3 2 ≤ 900 := hG60.pr 3 2
            have eq84 : Z77 3 3 = Z60 3 3 := (hf77 3 3 rfl)
            have b85 : 0 ≤ Z60 3 3 ∧ Z60 3 3 ≤ 900 := hG60.pr 3 3
            have eq86 : Z77 3 4 = Z60 3 4 := (hf77 3 4 rfl)
            have b87 : 0 ≤ Z60 3 4 ∧ Z60 3 4 ≤ 400 := hG60.pr 3 4
            have b88 : 0 ≤ Z77 3 7 ∧ Z77 3 7 ≤ 900 := hG77.pr 3 7
            have eq89 : Z77 3 14 = Z60 3 14 := (hf77 3 14 rfl)
            have b90 : 0 ≤ Z60 3 14 ∧ Z60 3 14 ≤ 4 := hG60.pr 3 14
            have eq91 : Z77 3 3 = Z60 3 3 := (hf77 3 3 rfl)
            have b92 : 0 ≤ Z60 3 3 ∧ Z60 3 3 ≤ 900 := hG60.pr 3 3
            have b93 : 0 ≤ Z77 3 7 ∧ Z77 3 7 ≤ 900 := hG77.pr 3 7
            have eq94 : Z77 3 3 = Z60 3 3 := (hf77 3 3 rfl)
            have b95 : 0 ≤ Z60 3 3 ∧ Z60 3 3 ≤ 900 := hG60.pr 3 3
            have eq96 : Z77 3 4 = Z60 3 4 := (hf77 3 4 rfl)
            have b97 : 0 ≤ Z60 3 4 ∧ Z60 3 4 ≤ 400 := hG60.pr 3 4
            exact ih14 (w14_2 + 1) Z77 h77 (by omega) (by omega) (by omega) (by omega) (by omega) hx77 hG77 (fr_tr (M := [(3, 2), (3, 3), (3, 4), (3, 5), (3, 7), (3, 14), (3, 15), (5, (-1))]) (fr_tr (M := [(3, 2), (3, 3), (3, 4), (3, 5), (3, 7), (3, 14), (3, 15), (5, (-1))]) (fr_tr (M := [(3, 2), (3, 3), (3, 4), (3, 5), (3, 7), (3, 14), (3, 15), (5, (-1))]) (fr_tr (M := [(3, 2), (3, 3), (3, 4), (3, 5), (3, 7), (3, 14), (3, 15), (5, (-1))]) fr_rf (hf15) (M1 := []) rfl rfl) (hf48) rfl rfl) (hf60) rfl rfl) (hf77) rfl rfl)
    have eq98 : Z1 3 0 = Z 3 0 := (hf1 3 0 rfl)
    have b99 : 2 ≤ Z 3 0 ∧ Z 3 0 ≤ 4 := hG.pr 3 0
    have b100 : 0 ≤ Z1 3 2 ∧ Z1 3 2 ≤ 900 := hG1.pr 3 2
    have b101 : 0 ≤ Z1 3 3 ∧ Z1 3 3 ≤ 900 := hG1.pr 3 3
    have b102 : 0 ≤ Z1 3 4 ∧ Z1 3 4 ≤ 400 := hG1.pr 3 4
    have b103 : 0 ≤ Z1 3 7 ∧ Z1 3 7 ≤ 900 := hG1.pr 3 7
    have b104 : 0 ≤ Z1 3 14 ∧ Z1 3 14 ≤ 4 := hG1.pr 3 14
    have b105 : 0 ≤ Z1 3 3 ∧ Z1 3 3 ≤ 900 := hG1.pr 3 3
    have b106 : 0 ≤ Z1 3 7 ∧ Z1 3 7 ≤ 900 := hG1.pr 3 7
    have b107 : 0 ≤ Z1 3 3 ∧ Z1 3 3 ≤ 900 := hG1.pr 3 3
    have b108 : 0 ≤ Z1 3 4 ∧ Z1 3 4 ≤ 400 := hG1.pr 3 4
    exact c7 (Int.toNat (900 - 0) + 1) 0 Z1 h1 (by omega) (by omega) (by omega) (by omega) (by omega) hx1 hG1 fr_rf
theorem ct_43_3_i6 {l : Launch} {D : va_G} {b0 : Nat} {ad : Nat → Nat} {Hb : Heap} {tau : Nat → Int64} {d n s : Nat} {S : Nat → xS} {Z : xZ} {h : mx_H} (hx : XH n s S Z h) (hG : GI n S Z)   (k0 : Z 3 0 = 2) (k1 : (Z 3 3 ≤ Z 3 2 ∧ Z 3 2 ≤ Z 3 1 ∧ (Z 3 4 = 0 ∨ Z 3 4 = 3 ∨ Z 3 3 < Z 3 2) ∧ (Z 3 4 = 3 ∨ Z 3 14 = 0))) : ∃ (Z' : xZ) (h' : mx_H), mx_Ca (tB l D b0 ad Hb tau) (d + 9) 43 [.ref 3, xI 6] h (none, h') ∧ XH n s S Z' h' ∧ GI n S Z' ∧ fr' [(3, 2), (3, 3), (3, 4), (3, 5), (3, 7), (3, 14), (3, 15), (5, (-1))] Z Z' ∧ (((Z' 3 3 ≤ Z' 3 2 ∧ Z' 3 2 ≤ Z 3 1 ∧ (Z' 3 4 = 0 ∨ Z' 3 4 = 3 ∨ Z' 3 3 < Z' 3 2) ∧ (Z' 3 4 = 3 ∨ Z' 3 14 = 0)) ∧ Z 3 3 ≤ Z' 3 3 ∧ Z' 3 7 - Z 3 7 ≤ Z' 3 3 - Z 3 3 ∧ (Z' 3 4 = 3 ∨ Z 3 3 + 1 ≤ Z' 3 3) ∧ (Z 3 4 = 3 → Z' 3 4 = 3))) := by
  obtain ⟨r, hca, Z', h', e, q⟩ := Jmt (B := tB l D b0 ad Hb tau) (M := mt_43) (mi := 43) (as := [.ref 3, xI 6]) (d := d + 8) (ls := [some (.ref 3), some (xI 6), none]) rfl rfl rfl rfl rfl rfl (cw_43_3_i6 (l := l) (D := D) (b0 := b0) (ad := ad) (Hb := Hb) (tau := tau) (d := d) (Post := fun r => ∃ (Z' : xZ) (h' : mx_H), r = (none, h') ∧ XH n s S Z' h' ∧ GI n S Z' ∧ fr' [(3, 2), (3, 3), (3, 4), (3, 5), (3, 7), (3, 14), (3, 15), (5, (-1))] Z Z' ∧ (((Z' 3 3 ≤ Z' 3 2 ∧ Z' 3 2 ≤ Z 3 1 ∧ (Z' 3 4 = 0 ∨ Z' 3 4 = 3 ∨ Z' 3 3 < Z' 3 2) ∧ (Z' 3 4 = 3 ∨ Z' 3 14 = 0)) ∧ Z 3 3 ≤ Z' 3 3 ∧ Z' 3 7 - Z 3 7 ≤ Z' 3 3 - Z 3 3 ∧ (Z' 3 4 = 3 ∨ Z 3 3 + 1 ≤ Z' 3 3) ∧ (Z 3 4 = 3 → Z' 3 4 = 3)))) hx hG k0 k1 (fun Z' h' q1 q2 q3 q4 => ⟨Z', h', rfl, q1, q2, q3, q4⟩))
  subst e; exact ⟨Z', h', hca, q⟩
set_option maxRecDepth 100000 in
theorem cw_42_3_i6 {l : Launch} {D : va_G} {b0 : Nat} {ad : Nat → Nat} {Hb : Heap} {tau : Nat → Int64} {d n s : Nat} {S : Nat → xS} {Z : xZ} {h : mx_H} {Post : mx_R → Prop} (hx : XH n s S Z h) (hG : GI n S Z)   (k0 : Z 3 0 = 2) (k1 : (Z 3 3 ≤ Z 3 2 ∧ Z 3 2 ≤ Z 3 1 ∧ (Z 3 4 = 0 ∨ Z 3 4 = 3 ∨ Z 3 3 < Z 3 2) ∧ (Z 3 4 = 3 ∨ Z 3 14 = 0))) (hP : ∀ (Z' : xZ) (h' : mx_H), XH n s S Z' h' → GI n S Z' → fr' [(3, 2), (3, 3), (3, 4), (3, 5), (3, 7), (3, 14), (3, 15), (5, (-1))] Z Z' → ((Z' 3 3 ≤ Z' 3 2 ∧ Z' 3 2 ≤ Z 3 1 ∧ (Z' 3 4 = 0 ∨ Z' 3 4 = 3 ∨ Z' 3 3 < Z' 3 2) ∧ (Z' 3 4 = 3 ∨ Z' 3 14 = 0)) ∧ Z 3 3 ≤ Z' 3 3 ∧ Z' 3 7 - Z 3 7 ≤ Z' 3 3 - Z 3 3 ∧ (Z' 3 4 = 3 ∨ Z 3 3 + 1 ≤ Z' 3 3) ∧ (Z 3 4 = 3 → Z' 3 4 = 3)) → Post (none, h')) : mx_J (tB l D b0 ad Hb tau) mt_42 (d + 9) 0 [some (.ref 3), some (xI 6), none, none] [] h Post := by
    have a3 : 3 < n := lt83 (GI_n hG) rfl
    have s3 : S 3 = .inl (7, [2, 0, 0, 0, 0, 0, 2, 0, 2, 2, 0, 2, 0, 0, 0, 0]) := GI_s hG 3 rfl
    refine mx_J.step (sn_42 0) (fun _ _ => rfl) ?_
    refine mx_J.step (sn_42 1) (fun _ _ => rfl) ?_
    have b2 : 2 ≤ Z 3 0 ∧ Z 3 0 ≤ 4 := hG.pr 3 0
    have b3 : 0 ≤ Z 3 1 ∧ Z 3 1 ≤ 900 := hG.pr 3 1
    have b4 : 0 ≤ Z 3 2 ∧ Z 3 2 ≤ 900 := hG.pr 3 2
    have b5 : 0 ≤ Z 3 3 ∧ Z 3 3 ≤ 900 := hG.pr 3 3
    have b6 : 0 ≤ Z 3 4 ∧ Z 3 4 ≤ 400 := hG.pr 3 4
    have b7 : 0 ≤ Z 3 7 ∧ Z 3 7 ≤ 900 := hG.pr 3 7
    have b8 : 0 ≤ Z 3 14 ∧ Z 3 14 ≤ 4 := hG.pr 3 14
    obtain ⟨Z1, h1, hc1, hx1, hG1, hf1, b1⟩ := ct_43_3_i6 (d := d + 0) (l := l) (D := D) (b0 := b0) (ad := ad) (Hb := Hb) (tau := tau) hx hG  (show Z 3 0 = 2 by omega) (show (Z 3 3 ≤ Z 3 2 ∧ Z 3 2 ≤ Z 3 1 ∧ (Z 3 4 = 0 ∨ Z 3 4 = 3 ∨ Z 3 3 < Z 3 2) ∧ (Z 3 4 = 3 ∨ Z 3 14 = 0)) by omega)
    have b9 : 0 ≤ Z1 3 2 ∧ Z1 3 2 ≤ 900 := hG1.pr 3 2
    have b10 : 0 ≤ Z1 3 3 ∧ Z1 3 3 ≤ 900 := hG1.pr 3 3
    have b11 : 0 ≤ Z1 3 4 ∧ Z1 3 4 ≤ 400 := hG1.pr 3 4
    have b12 : 0 ≤ Z1 3 7 ∧ Z1 3 7 ≤ 900 := hG1.pr 3 7
    have b13 : 0 ≤ Z1 3 14 ∧ Z1 3 14 ≤ 4 := hG1.pr 3 14
    refine Jcv0 hx (show mx_Sn _ _ 2 (mx_callv 43 2 7 5) from sn_42 2) a3 s3 hc1 rfl rfl rfl ?_
    refine JcI (z := 0) (show mx_Sn _ _ 5 (mx_const (.int 0) 6) from sn_42 5) rfl ?_
    refine mx_J.step (ls2 := [some (.ref 3), some (xI 6), some (xI 0), none]) (sn_42 6) (fun _ _ => rfl) ?_
    have c7 : ∀ (m14 : Nat) (w14_2 : Int) (u14_3 : Option Value) (Z15 : xZ) (h15 : mx_H), 900 - w14_2 < (m14 : Int) → 0 ≤ w14_2 ∧ w14_2 ≤ 900 → (Z15 3 3 ≤ Z15 3 2 ∧ Z15 3 2 ≤ Z 3 1 ∧ (Z15 3 4 = 0 ∨ Z15 3 4 = 3 ∨ Z15 3 3 < Z15 3 2) ∧ (Z15 3 4 = 3 ∨ Z15 3 14 = 0)) → (Z 3 3 ≤ Z15 3 3 ∧ Z15 3 7 - Z 3 7 ≤ Z15 3 3 - Z 3 3 + 0) → ((Z15 3 4 = 3 ∨ Z 3 3 + 1 ≤ Z15 3 3) ∧ (Z 3 4 = 3 → Z15 3 4 = 3)) → XH n s S Z15 h15 → GI n S Z15 → fr' [(3, 2), (3, 3), (3, 4), (3, 5), (3, 7), (3, 14), (3, 15), (5, (-1))] Z1 Z15 → mx_J (tB l D b0 ad Hb tau) mt_42 (d + 9) 7 [some (.ref 3), some (xI 6), some (xI w14_2), u14_3] [] h15 Post := by
      intro m14
      induction m14 with
      | zero => intro w14_2 u14_3 Z15 h15 q14 f14_0 f14_1 f14_2 f14_3 hx15 hG15 hf15; exact absurd q14 (by omega)
      | succ m14 ih14 =>
        intro w14_2 u14_3 Z15 h15 q14 f14_0 f14_1 f14_2 f14_3 hx15 hG15 hf15
        have eq16 : Z15 3 0 = Z 3 0 := ((hf15 3 0 rfl).trans (hf1 3 0 rfl))
        have b17 : 2 ≤ Z 3 0 ∧ Z 3 0 ≤ 4 := hG.pr 3 0
        have b18 : 0 ≤ Z15 3 2 ∧ Z15 3 2 ≤ 900 := hG15.pr 3 2
        have b19 : 0 ≤ Z15 3 3 ∧ Z15 3 3 ≤ 900 := hG15.pr 3 3
        have b20 : 0 ≤ Z15 3 4 ∧ Z15 3 4 ≤ 400 := hG15.pr 3 4
        have b21 : 0 ≤ Z15 3 7 ∧ Z15 3 7 ≤ 900 := hG15.pr 3 7
        have b22 : 0 ≤ Z15 3 14 ∧ Z15 3 14 ≤ 4 := hG15.pr 3 14
        have b23 : 0 ≤ Z15 3 3 ∧ Z15 3 3 ≤ 900 := hG15.pr 3 3
        have b24 : 0 ≤ Z15 3 7 ∧ Z15 3 7 ≤ 900 := hG15.pr 3 7
        have b25 : 0 ≤ Z15 3 3 ∧ Z15 3 3 ≤ 900 := hG15.pr 3 3
        have b26 : 0 ≤ Z15 3 4 ∧ Z15 3 4 ≤ 400 := hG15.pr 3 4
        refine mx_J.step (sn_42 7) (fun _ _ => rfl) ?_
        refine mx_J.step (sn_42 8) (fun _ _ => rfl) ?_
        have b28 : 0 ≤ Z 3 1 ∧ Z 3 1 ≤ 900 := hG.pr 3 1
        refine JgetI (g := 1) (z := Z 3 1) hx15 (show mx_Sn _ _ 9 (mx_getf 7 1 12) from sn_42 9) a3 s3 rfl rfl ((hf15 3 1 rfl).trans (hf1 3 1 rfl)) ?_
        have c72 : mx_J (tB l D b0 ad Hb tau) mt_42 (d + 9) 72 [some (.ref 3), some (xI 6), some (xI w14_2), u14_3] [] h15 Post := by
          have b30 : 0 ≤ Z15 3 2 ∧ Z15 3 2 ≤ 900 := hG15.pr 3 2
          have b31 : 0 ≤ Z15 3 3 ∧ Z15 3 3 ≤ 900 := hG15.pr 3 3
          have b32 : 0 ≤ Z15 3 4 ∧ Z15 3 4 ≤ 400 := hG15.pr 3 4
          have b33 : 0 ≤ Z15 3 7 ∧ Z15 3 7 ≤ 900 := hG15.pr 3 7
          have b34 : 0 ≤ Z15 3 14 ∧ Z15 3 14 ≤ 4 := hG15.pr 3 14
          have eq35 : Z15 3 0 = Z 3 0 := ((hf15 3 0 rfl).trans (hf1 3 0 rfl))
          have b36 : 2 ≤ Z 3 0 ∧ Z 3 0 ≤ 4 := hG.pr 3 0
          have eq37 : Z15 3 1 = Z 3 1 := ((hf15 3 1 rfl).trans (hf1 3 1 rfl))
          have b38 : 0 ≤ Z 3 1 ∧ Z 3 1 ≤ 900 := hG.pr 3 1
          have b39 : 0 ≤ Z15 3 2 ∧ Z15 3 2 ≤ 900 := hG15.pr 3 2
          have b40 : 0 ≤ Z15 3 3 ∧ Z15 3 3 ≤ 900 := hG15.pr 3 3
          have b41 : 0 ≤ Z15 3 4 ∧ Z15 3 4 ≤ 400 := hG15.pr 3 4
          have b42 : 0 ≤ Z15 3 7 ∧ Z15 3 7 ≤ 900 := hG15.pr 3 7
          have b43 : 0 ≤ Z15 3 14 ∧ Z15 3 14 ≤ 4 := hG15.pr 3 14
          exact mx_J.ret (sn_42 72) (fun _ _ => rfl) (hP Z15 h15 hx15 hG15 (fr_tr (M := [(3, 2), (3, 3), (3, 4), (3, 5), (3, 7), (3, 14), (3, 15), (5, (-1))]) (fr_tr (M := [(3, 2), (3, 3), (3, 4), (3, 5), (3, 7), (3, 14), (3, 15), (5, (-1))]) fr_rf (hf1) (M1 := []) rfl rfl) (hf15) rfl rfl) (by omega))
        refine Jicmp_ge (show mx_Sn _ _ 12 (mx_icmp_ge 72 15) from sn_42 12) (by omega) (by omega) (fun q44 => ?_) (fun q44 => ?_)
        · skip
          exact c72 
        · skip
          refine mx_J.step (sn_42 15) (fun _ _ => rfl) ?_
          have b46 : 0 ≤ Z15 3 4 ∧ Z15 3 4 ≤ 400 := hG15.pr 3 4
          refine JgetI (g := 4) (z := Z15 3 4) hx15 (show mx_Sn _ _ 16 (mx_getf 7 4 19) from sn_42 16) a3 s3 rfl rfl rfl ?_
          refine JcI (z := 43) (show mx_Sn _ _ 19 (mx_const (.int 43) 21) from sn_42 19) rfl ?_
          have c33 : (Z15 3 4 = 43 ∨ Z15 3 4 = 45) → mx_J (tB l D b0 ad Hb tau) mt_42 (d + 9) 33 [some (.ref 3), some (xI 6), some (xI w14_2), u14_3] [] h15 Post := by
            intro f47_0
            have b48 : 0 ≤ Z15 3 4 ∧ Z15 3 4 ≤ 400 := hG15.pr 3 4
            refine mx_J.step (sn_42 33) (fun _ _ => rfl) ?_
            have b50 : 0 ≤ Z15 3 4 ∧ Z15 3 4 ≤ 400 := hG15.pr 3 4
            refine JgetI (g := 4) (z := Z15 3 4) hx15 (show mx_Sn _ _ 34 (mx_getf 7 4 37) from sn_42 34) a3 s3 rfl rfl rfl ?_
            refine mx_J.step (ls2 := [some (.ref 3), some (xI 6), some (xI w14_2), some (xI (Z15 3 4))]) (sn_42 37) (fun _ _ => rfl) ?_
            refine mx_J.step (sn_42 38) (fun _ _ => rfl) ?_
            have eq52 : Z15 3 0 = Z 3 0 := ((hf15 3 0 rfl).trans (hf1 3 0 rfl))
            have b53 : 2 ≤ Z 3 0 ∧ Z 3 0 ≤ 4 := hG.pr 3 0
            have eq54 : Z15 3 1 = Z 3 1 := ((hf15 3 1 rfl).trans (hf1 3 1 rfl))
            have b55 : 0 ≤ Z 3 1 ∧ Z 3 1 ≤ 900 := hG.pr 3 1
            have b56 : 0 ≤ Z15 3 2 ∧ Z15 3 2 ≤ 900 := hG15.pr 3 2
            have b57 : 0 ≤ Z15 3 3 ∧ Z15 3 3 ≤ 900 := hG15.pr 3 3
            have b58 : 0 ≤ Z15 3 4 ∧ Z15 3 4 ≤ 400 := hG15.pr 3 4
            have b59 : 0 ≤ Z15 3 14 ∧ Z15 3 14 ≤ 4 := hG15.pr 3 14
            obtain ⟨Z51, h51, hc51, hx51, hG51, hf51, b51⟩ := ct_56_3 (d := d + 3) (l := l) (D := D) (b0 := b0) (ad := ad) (Hb := Hb) (tau := tau) hx15 hG15  (show Z15 3 0 = 2 by first | omega | (simp only [eq52, eq54]; omega)) (show Z15 3 2 ≤ Z15 3 1 by first | omega | (simp only [eq52, eq54]; omega))
            try rw [eq52] at b51
            try rw [eq54] at b51
            have b60 : 0 ≤ Z51 3 2 ∧ Z51 3 2 ≤ 900 := hG51.pr 3 2
            have b61 : 0 ≤ Z51 3 3 ∧ Z51 3 3 ≤ 900 := hG51.pr 3 3
            have b62 : 0 ≤ Z51 3 4 ∧ Z51 3 4 ≤ 400 := hG51.pr 3 4
            refine Jcv0 hx15 (show mx_Sn _ _ 39 (mx_callv 56 1 7 42) from sn_42 39) a3 s3 hc51 rfl rfl rfl ?_
            refine mx_J.step (sn_42 42) (fun _ _ => rfl) ?_
            refine mx_J.step (sn_42 43) (fun _ _ => rfl) ?_
            have eq64 : Z51 3 0 = Z 3 0 := ((hf51 3 0 rfl).trans ((hf15 3 0 rfl).trans (hf1 3 0 rfl)))
            have b65 : 2 ≤ Z 3 0 ∧ Z 3 0 ≤ 4 := hG.pr 3 0
            have eq66 : Z51 3 1 = Z 3 1 := ((hf51 3 1 rfl).trans ((hf15 3 1 rfl).trans (hf1 3 1 rfl)))
            have b67 : 0 ≤ Z 3 1 ∧ Z 3 1 ≤ 900 := hG.pr 3 1
            have b68 : 0 ≤ Z51 3 2 ∧ Z51 3 2 ≤ 900 := hG51.pr 3 2
            have b69 : 0 ≤ Z51 3 3 ∧ Z51 3 3 ≤ 900 := hG51.pr 3 3
            have b70 : 0 ≤ Z51 3 4 ∧ Z51 3 4 ≤ 400 := hG51.pr 3 4
            have eq71 : Z51 3 7 = Z15 3 7 := (hf51 3 7 rfl)
            have b72 : 0 ≤ Z15 3 7 ∧ Z15 3 7 ≤ 900 := hG15.pr 3 7
            have eq73 : Z51 3 14 = Z15 3 14 := (hf51 3 14 rfl)
            have b74 : 0 ≤ Z15 3 14 ∧ Z15 3 14 ≤ 4 := hG15.pr 3 14
            obtain ⟨Z63, h63, hc63, hx63, hG63, hf63, b63⟩ := ct_43_3_i6 (d := d + 0) (l := l) (D := D) (b0 := b0) (ad := ad) (Hb := Hb) (tau := tau) hx51 hG51  (show Z51 3 0 = 2 by first | omega | (simp only [eq64, eq66, eq71, eq73]; omega)) (show (Z51 3 3 ≤ Z51 3 2 ∧ Z51 3 2 ≤ Z51 3 1 ∧ (Z51 3 4 = 0 ∨ Z51 3 4 = 3 ∨ Z51 3 3 < Z51 3 2) ∧ (Z51 3 4 = 3 ∨ Z51 3 14 = 0)) by first | omega | (simp only [eq64, eq66, eq71, eq73]; omega))
            try rw [eq64] at b63
            try rw [eq66] at b63
            try rw [eq71] at b63
            try rw [eq73] at b63
            have b75 : 0 ≤ Z63 3 2 ∧ Z63 3 2 ≤ 900 := hG63.pr 3 2
            have b76 : 0 ≤ Z63 3 3 ∧ Z63 3 3 ≤ 900 := hG63.pr 3 3
            have b77 : 0 ≤ Z63 3 4 ∧ Z63 3 4 ≤ 400 := hG63.pr 3 4
            have b78 : 0 ≤ Z63 3 7 ∧ Z63 3 7 ≤ 900 := hG63.pr 3 7
            have b79 : 0 ≤ Z63 3 14 ∧ Z63 3 14 ≤ 4 := hG63.pr 3 14
            refine Jcv0 hx51 (show mx_Sn _ _ 44 (mx_callv 43 2 7 47) from sn_42 44) a3 s3 hc63 rfl rfl rfl ?_
            refine mx_J.step (sn_42 47) (fun _ _ => rfl) ?_
            refine mx_J.step (sn_42 48) (fun _ _ => rfl) ?_
            refine JcI (z := 43) (show mx_Sn _ _ 49 (mx_const (.int 43) 51) from sn_42 49) rfl ?_
            have c63 : ∀ (k80_1 : Int), 1010 ≤ k80_1 ∧ k80_1 ≤ 1011 → mx_J (tB l D b0 ad Hb tau) mt_42 (d + 9) 63 [some (.ref 3), some (xI 6), some (xI w14_2), some (xI (Z15 3 4))] [xI k80_1, .ref 3] h63 Post := by
              intro k80_1 f80_0
              have b82 : 0 ≤ Z63 3 7 ∧ Z63 3 7 ≤ 900 := hG63.pr 3 7
              obtain ⟨Z81, h81, hc81, hx81, hG81, hf81, b81⟩ := ct_52_3_1010 (d := d + 8) (l := l) (D := D) (b0 := b0) (ad := ad) (Hb := Hb) (tau := tau) hx63 hG63 (show 1010 ≤ k80_1 ∧ k80_1 ≤ 1019 by omega)
              have b83 : 0 ≤ Z81 3 7 ∧ Z81 3 7 ≤ 900 := hG81.pr 3 7
              refine Jcv0 hx63 (show mx_Sn _ _ 63 (mx_callv 52 2 7 66) from sn_42 63) a3 s3 hc81 rfl rfl rfl ?_
              refine Jiinc (z := w14_2) (cz := 1) (ls2 := [some (.ref 3), some (xI 6), some (xI (w14_2 + 1)), some (xI (Z15 3 4))]) (show mx_Sn _ _ 66 (mx_iinc 2 1 69) from sn_42 66) rfl rfl rfl rfl ?_
              refine mx_J.step (sn_42 69) (fun _ _ => rfl) ?_
              have eq84 : Z81 3 0 = Z 3 0 := ((hf81 3 0 rfl).trans ((hf63 3 0 rfl).trans ((hf51 3 0 rfl).trans ((hf15 3 0 rfl).trans (hf1 3 0 rfl)))))
              have b85 : 2 ≤ Z 3 0 ∧ Z 3 0 ≤ 4 := hG.pr 3 0
              have eq86 : Z81 3 2 = Z63 3 2 := (hf81 3 2 rfl)
              have b87 : 0 ≤ Z63 3 2 ∧ Z63 3 2 ≤ 900 := hG63.pr 3 2
              have eq88 : Z81 3 3 = Z63 3 3 := (hf81 3 3 rfl)
              have b89 : 0 ≤ Z63 3 3 ∧ Z63 3 3 ≤ 900 := hG63.pr 3 3
              have eq90 : Z81 3 4 = Z63 3 4 := (hf81 3 4 rfl)
              have b91 : 0 ≤ Z63 3 4 ∧ Z63 3 4 ≤ 400 := hG63.pr 3 4
              have b92 : 0 ≤ Z81 3 7 ∧ Z81 3 7 ≤ 900 := hG81.pr 3 7
              have eq93 : Z81 3 14 = Z63 3 14 := (hf81 3 14 rfl)
              have b94 : 0 ≤ Z63 3 14 ∧ Z63 3 14 ≤ 4 := hG63.pr 3 14
              have eq95 : Z81 3 3 = Z63 3 3 := (hf81 3 3 rfl)
              have b96 : 0 ≤ Z63 3 3 ∧ Z63 3 3 ≤ 900 := hG63.pr 3 3
              have b97 : 0 ≤ Z81 3 7 ∧ Z81 3 7 ≤ 900 := hG81.pr 3 7
              have eq98 : Z81 3 3 = Z63 3 3 := (hf81 3 3 rfl)
              have b99 : 0 ≤ Z63 3 3 ∧ Z63 3 3 ≤ 900 := hG63.pr 3 3
              have eq100 : Z81 3 4 = Z63 3 4 := (hf81 3 4 rfl)
              have b101 : 0 ≤ Z63 3 4 ∧ Z63 3 4 ≤ 400 := hG63.pr 3 4
              exact ih14 (w14_2 + 1) (some (xI (Z15 3 4))) Z81 h81 (by omega) (by omega) (by omega) (by omega) (by omega) hx81 hG81 (fr_tr (M := [(3, 2), (3, 3), (3, 4), (3, 5), (3, 7), (3, 14), (3, 15), (5, (-1))]) (fr_tr (M := [(3, 2), (3, 3), (3, 4), (3, 5), (3, 7), (3, 14), (3, 15), (5, (-1))]) (fr_tr (M := [(3, 2), (3, 3), (3, 4), (3, 5), (3, 7), (3, 14), (3, 15), (5, (-1))]) (fr_tr (M := [(3, 2), (3, 3), (3, 4), (3, 5), (3, 7), (3, 14), (3, 15), (5, (-1))]) fr_rf (hf15) (M1 := []) rfl rfl) (hf51) rfl rfl) (hf63) rfl rfl) (hf81) rfl rfl)
            refine Jicmp_ne (show mx_Sn _ _ 51 (mx_icmp_ne 60 54) from sn_42 51) (by omega) (by omega) (fun q102 => ?_) (fun q102 => ?_)
            · skip
              refine JcI (z := 1011) (show mx_Sn _ _ 60 (mx_const (.int 1011) 63) from sn_42 60) rfl ?_
              exact c63 1011 (by omega)
            · skip
              refine JcI (z := 1010) (show mx_Sn _ _ 54 (mx_const (.int 1010) 57) from sn_42 54) rfl ?_
              refine mx_J.step (sn_42 57) (fun _ _ => rfl) ?_
              exact c63 1010 (by omega)
          refine Jicmp_eq (show mx_Sn _ _ 21 (mx_icmp_eq 33 24) from sn_42 21) (by omega) (by omega) (fun q103 => ?_) (fun q103 => ?_)
          · skip
            have b104 : 0 ≤ Z15 3 4 ∧ Z15 3 4 ≤ 400 := hG15.pr 3 4
            exact c33 (by omega)
          · skip
            refine mx_J.step (sn_42 24) (fun _ _ => rfl) ?_
            have b106 : 0 ≤ Z15 3 4 ∧ Z15 3 4 ≤ 400 := hG15.pr 3 4
            refine JgetI (g := 4) (z := Z15 3 4) hx15 (show mx_Sn _ _ 25 (mx_getf 7 4 28) from sn_42 25) a3 s3 rfl rfl rfl ?_
            refine JcI (z := 45) (show mx_Sn _ _ 28 (mx_const (.int 45) 30) from sn_42 28) rfl ?_
            refine Jicmp_ne (show mx_Sn _ _ 30 (mx_icmp_ne 72 33) from sn_42 30) (by omega) (by omega) (fun q107 => ?_) (fun q107 => ?_)
            · skip
              exact c72 
            · skip
              have b108 : 0 ≤ Z15 3 4 ∧ Z15 3 4 ≤ 400 := hG15.pr 3 4
              exact c33 (by omega)
    have eq109 : Z1 3 0 = Z 3 0 := (hf1 3 0 rfl)
    have b110 : 2 ≤ Z 3 0 ∧ Z 3 0 ≤ 4 := hG.pr 3 0
    have b111 : 0 ≤ Z1 3 2 ∧ Z1 3 2 ≤ 900 := hG1.pr 3 2
    have b112 : 0 ≤ Z1 3 3 ∧ Z1 3 3 ≤ 900 := hG1.pr 3 3
    have b113 : 0 ≤ Z1 3 4 ∧ Z1 3 4 ≤ 400 := hG1.pr 3 4
    have b114 : 0 ≤ Z1 3 7 ∧ Z1 3 7 ≤ 900 := hG1.pr 3 7
    have b115 : 0 ≤ Z1 3 14 ∧ Z1 3 14 ≤ 4 := hG1.pr 3 14
    have b116 : 0 ≤ Z1 3 3 ∧ Z1 3 3 ≤ 900 := hG1.pr 3 3
    have b117 : 0 ≤ Z1 3 7 ∧ Z1 3 7 ≤ 900 := hG1.pr 3 7
    have b118 : 0 ≤ Z1 3 3 ∧ Z1 3 3 ≤ 900 := hG1.pr 3 3
    have b119 : 0 ≤ Z1 3 4 ∧ Z1 3 4 ≤ 400 := hG1.pr 3 4
    exact c7 (Int.toNat (900 - 0) + 1) 0 none Z1 h1 (by omega) (by omega) (by omega) (by omega) (by omega) hx1 hG1 fr_rf
theorem ct_42_3_i6 {l : Launch} {D : va_G} {b0 : Nat} {ad : Nat → Nat} {Hb : Heap} {tau : Nat → Int64} {d n s : Nat} {S : Nat → xS} {Z : xZ} {h : mx_H} (hx : XH n s S Z h) (hG : GI n S Z)   (k0 : Z 3 0 = 2) (k1 : (Z 3 3 ≤ Z 3 2 ∧ Z 3 2 ≤ Z 3 1 ∧ (Z 3 4 = 0 ∨ Z 3 4 = 3 ∨ Z 3 3 < Z 3 2) ∧ (Z 3 4 = 3 ∨ Z 3 14 = 0))) : ∃ (Z' : xZ) (h' : mx_H), mx_Ca (tB l D b0 ad Hb tau) (d + 10) 42 [.ref 3, xI 6] h (none, h') ∧ XH n s S Z' h' ∧ GI n S Z' ∧ fr' [(3, 2), (3, 3), (3, 4), (3, 5), (3, 7), (3, 14), (3, 15), (5, (-1))] Z Z' ∧ (((Z' 3 3 ≤ Z' 3 2 ∧ Z' 3 2 ≤ Z 3 1 ∧ (Z' 3 4 = 0 ∨ Z' 3 4 = 3 ∨ Z' 3 3 < Z' 3 2) ∧ (Z' 3 4 = 3 ∨ Z' 3 14 = 0)) ∧ Z 3 3 ≤ Z' 3 3 ∧ Z' 3 7 - Z 3 7 ≤ Z' 3 3 - Z 3 3 ∧ (Z' 3 4 = 3 ∨ Z 3 3 + 1 ≤ Z' 3 3) ∧ (Z 3 4 = 3 → Z' 3 4 = 3))) := by
  obtain ⟨r, hca, Z', h', e, q⟩ := Jmt (B := tB l D b0 ad Hb tau) (M := mt_42) (mi := 42) (as := [.ref 3, xI 6]) (d := d + 9) (ls := [some (.ref 3), some (xI 6), none, none]) rfl rfl rfl rfl rfl rfl (cw_42_3_i6 (l := l) (D := D) (b0 := b0) (ad := ad) (Hb := Hb) (tau := tau) (d := d) (Post := fun r => ∃ (Z' : xZ) (h' : mx_H), r = (none, h') ∧ XH n s S Z' h' ∧ GI n S Z' ∧ fr' [(3, 2), (3, 3), (3, 4), (3, 5), (3, 7), (3, 14), (3, 15), (5, (-1))] Z Z' ∧ (((Z' 3 3 ≤ Z' 3 2 ∧ Z' 3 2 ≤ Z 3 1 ∧ (Z' 3 4 = 0 ∨ Z' 3 4 = 3 ∨ Z' 3 3 < Z' 3 2) ∧ (Z' 3 4 = 3 ∨ Z' 3 14 = 0)) ∧ Z 3 3 ≤ Z' 3 3 ∧ Z' 3 7 - Z 3 7 ≤ Z' 3 3 - Z 3 3 ∧ (Z' 3 4 = 3 ∨ Z 3 3 + 1 ≤ Z' 3 3) ∧ (Z 3 4 = 3 → Z' 3 4 = 3)))) hx hG k0 k1 (fun Z' h' q1 q2 q3 q4 => ⟨Z', h', rfl, q1, q2, q3, q4⟩))
  subst e; exact ⟨Z', h', hca, q⟩
set_option maxRecDepth 100000 in
theorem cw_50_3_i6 {l : Launch} {D : va_G} {b0 : Nat} {ad : Nat → Nat} {Hb : Heap} {tau : Nat → Int64} {d n s : Nat} {S : Nat → xS} {Z : xZ} {h : mx_H} {Post : mx_R → Prop} (hx : XH n s S Z h) (hG : GI n S Z)   (k0 : Z 3 0 = 2) (k1 : (Z 3 3 ≤ Z 3 2 ∧ Z 3 2 ≤ Z 3 1 ∧ (Z 3 4 = 0 ∨ Z 3 4 = 3 ∨ Z 3 3 < Z 3 2) ∧ (Z 3 4 = 3 ∨ Z 3 14 = 0))) (hP : ∀ (Z' : xZ) (h' : mx_H), XH n s S Z' h' → GI n S Z' → fr' [(3, 2), (3, 3), (3, 4), (3, 5), (3, 7), (3, 14), (3, 15), (5, (-1))] Z Z' → ((Z' 3 3 ≤ Z' 3 2 ∧ Z' 3 2 ≤ Z 3 1 ∧ (Z' 3 4 = 0 ∨ Z' 3 4 = 3 ∨ Z' 3 3 < Z' 3 2) ∧ (Z' 3 4 = 3 ∨ Z' 3 14 = 0)) ∧ Z 3 3 ≤ Z' 3 3 ∧ Z' 3 7 - Z 3 7 ≤ Z' 3 3 - Z 3 3 ∧ (Z' 3 4 = 3 ∨ Z 3 3 + 1 ≤ Z' 3 3) ∧ (Z 3 4 = 3 → Z' 3 4 = 3)) → Post (none, h')) : mx_J (tB l D b0 ad Hb tau) mt_50 (d + 10) 0 [some (.ref 3), some (xI 6), none] [] h Post := by
    have a3 : 3 < n := lt83 (GI_n hG) rfl
    have s3 : S 3 = .inl (7, [2, 0, 0, 0, 0, 0, 2, 0, 2, 2, 0, 2, 0, 0, 0, 0]) := GI_s hG 3 rfl
    refine mx_J.step (sn_50 0) (fun _ _ => rfl) ?_
    refine mx_J.step (sn_50 1) (fun _ _ => rfl) ?_
    have b2 : 2 ≤ Z 3 0 ∧ Z 3 0 ≤ 4 := hG.pr 3 0
    have b3 : 0 ≤ Z 3 1 ∧ Z 3 1 ≤ 900 := hG.pr 3 1
    have b4 : 0 ≤ Z 3 2 ∧ Z 3 2 ≤ 900 := hG.pr 3 2
    have b5 : 0 ≤ Z 3 3 ∧ Z 3 3 ≤ 900 := hG.pr 3 3
    have b6 : 0 ≤ Z 3 4 ∧ Z 3 4 ≤ 400 := hG.pr 3 4
    have b7 : 0 ≤ Z 3 7 ∧ Z 3 7 ≤ 900 := hG.pr 3 7
    have b8 : 0 ≤ Z 3 14 ∧ Z 3 14 ≤ 4 := hG.pr 3 14
    obtain ⟨Z1, h1, hc1, hx1, hG1, hf1, b1⟩ := ct_42_3_i6 (d := d + 0) (l := l) (D := D) (b0 := b0) (ad := ad) (Hb := Hb) (tau := tau) hx hG  (show Z 3 0 = 2 by omega) (show (Z 3 3 ≤ Z 3 2 ∧ Z 3 2 ≤ Z 3 1 ∧ (Z 3 4 = 0 ∨ Z 3 4 = 3 ∨ Z 3 3 < Z 3 2) ∧ (Z 3 4 = 3 ∨ Z 3 14 = 0)) by omega)
    have b9 : 0 ≤ Z1 3 2 ∧ Z1 3 2 ≤ 900 := hG1.pr 3 2
    have b10 : 0 ≤ Z1 3 3 ∧ Z1 3 3 ≤ 900 := hG1.pr 3 3
    have b11 : 0 ≤ Z1 3 4 ∧ Z1 3 4 ≤ 400 := hG1.pr 3 4
    have b12 : 0 ≤ Z1 3 7 ∧ Z1 3 7 ≤ 900 := hG1.pr 3 7
    have b13 : 0 ≤ Z1 3 14 ∧ Z1 3 14 ≤ 4 := hG1.pr 3 14
    refine Jcv0 hx (show mx_Sn _ _ 2 (mx_callv 42 2 7 5) from sn_50 2) a3 s3 hc1 rfl rfl rfl ?_
    refine mx_J.step (sn_50 5) (fun _ _ => rfl) ?_
    have b15 : 0 ≤ Z1 3 4 ∧ Z1 3 4 ≤ 400 := hG1.pr 3 4
    refine JgetI (g := 4) (z := Z1 3 4) hx1 (show mx_Sn _ _ 6 (mx_getf 7 4 9) from sn_50 6) a3 s3 rfl rfl rfl ?_
    refine mx_J.step (ls2 := [some (.ref 3), some (xI 6), some (xI (Z1 3 4))]) (sn_50 9) (fun _ _ => rfl) ?_
    refine mx_J.step (sn_50 10) (fun _ _ => rfl) ?_
    refine JcI (z := 61) (show mx_Sn _ _ 11 (mx_const (.int 61) 13) from sn_50 11) rfl ?_
    have c34 : ((Z1 3 4) = 61 ∨ (Z1 3 4) = 60 ∨ (Z1 3 4) = 62) → mx_J (tB l D b0 ad Hb tau) mt_50 (d + 10) 34 [some (.ref 3), some (xI 6), some (xI (Z1 3 4))] [] h1 Post := by
      intro f16_0
      refine mx_J.step (sn_50 34) (fun _ _ => rfl) ?_
      have eq18 : Z1 3 0 = Z 3 0 := (hf1 3 0 rfl)
      have b19 : 2 ≤ Z 3 0 ∧ Z 3 0 ≤ 4 := hG.pr 3 0
      have eq20 : Z1 3 1 = Z 3 1 := (hf1 3 1 rfl)
      have b21 : 0 ≤ Z 3 1 ∧ Z 3 1 ≤ 900 := hG.pr 3 1
      have b22 : 0 ≤ Z1 3 2 ∧ Z1 3 2 ≤ 900 := hG1.pr 3 2
      have b23 : 0 ≤ Z1 3 3 ∧ Z1 3 3 ≤ 900 := hG1.pr 3 3
      have b24 : 0 ≤ Z1 3 4 ∧ Z1 3 4 ≤ 400 := hG1.pr 3 4
      have b25 : 0 ≤ Z1 3 14 ∧ Z1 3 14 ≤ 4 := hG1.pr 3 14
      obtain ⟨Z17, h17, hc17, hx17, hG17, hf17, b17⟩ := ct_56_3 (d := d + 4) (l := l) (D := D) (b0 := b0) (ad := ad) (Hb := Hb) (tau := tau) hx1 hG1  (show Z1 3 0 = 2 by first | omega | (simp only [eq18, eq20]; omega)) (show Z1 3 2 ≤ Z1 3 1 by first | omega | (simp only [eq18, eq20]; omega))
      try rw [eq18] at b17
      try rw [eq20] at b17
      have b26 : 0 ≤ Z17 3 2 ∧ Z17 3 2 ≤ 900 := hG17.pr 3 2
      have b27 : 0 ≤ Z17 3 3 ∧ Z17 3 3 ≤ 900 := hG17.pr 3 3
      have b28 : 0 ≤ Z17 3 4 ∧ Z17 3 4 ≤ 400 := hG17.pr 3 4
      refine Jcv0 hx1 (show mx_Sn _ _ 35 (mx_callv 56 1 7 38) from sn_50 35) a3 s3 hc17 rfl rfl rfl ?_
      refine mx_J.step (sn_50 38) (fun _ _ => rfl) ?_
      refine mx_J.step (sn_50 39) (fun _ _ => rfl) ?_
      have eq30 : Z17 3 0 = Z 3 0 := ((hf17 3 0 rfl).trans (hf1 3 0 rfl))
      have b31 : 2 ≤ Z 3 0 ∧ Z 3 0 ≤ 4 := hG.pr 3 0
      have eq32 : Z17 3 1 = Z 3 1 := ((hf17 3 1 rfl).trans (hf1 3 1 rfl))
      have b33 : 0 ≤ Z 3 1 ∧ Z 3 1 ≤ 900 := hG.pr 3 1
      have b34 : 0 ≤ Z17 3 2 ∧ Z17 3 2 ≤ 900 := hG17.pr 3 2
      have b35 : 0 ≤ Z17 3 3 ∧ Z17 3 3 ≤ 900 := hG17.pr 3 3
      have b36 : 0 ≤ Z17 3 4 ∧ Z17 3 4 ≤ 400 := hG17.pr 3 4
      have eq37 : Z17 3 7 = Z1 3 7 := (hf17 3 7 rfl)
      have b38 : 0 ≤ Z1 3 7 ∧ Z1 3 7 ≤ 900 := hG1.pr 3 7
      have eq39 : Z17 3 14 = Z1 3 14 := (hf17 3 14 rfl)
      have b40 : 0 ≤ Z1 3 14 ∧ Z1 3 14 ≤ 4 := hG1.pr 3 14
      obtain ⟨Z29, h29, hc29, hx29, hG29, hf29, b29⟩ := ct_42_3_i6 (d := d + 0) (l := l) (D := D) (b0 := b0) (ad := ad) (Hb := Hb) (tau := tau) hx17 hG17  (show Z17 3 0 = 2 by first | omega | (simp only [eq30, eq32, eq37, eq39]; omega)) (show (Z17 3 3 ≤ Z17 3 2 ∧ Z17 3 2 ≤ Z17 3 1 ∧ (Z17 3 4 = 0 ∨ Z17 3 4 = 3 ∨ Z17 3 3 < Z17 3 2) ∧ (Z17 3 4 = 3 ∨ Z17 3 14 = 0)) by first | omega | (simp only [eq30, eq32, eq37, eq39]; omega))
      try rw [eq30] at b29
      try rw [eq32] at b29
      try rw [eq37] at b29
      try rw [eq39] at b29
      have b41 : 0 ≤ Z29 3 2 ∧ Z29 3 2 ≤ 900 := hG29.pr 3 2
      have b42 : 0 ≤ Z29 3 3 ∧ Z29 3 3 ≤ 900 := hG29.pr 3 3
      have b43 : 0 ≤ Z29 3 4 ∧ Z29 3 4 ≤ 400 := hG29.pr 3 4
      have b44 : 0 ≤ Z29 3 7 ∧ Z29 3 7 ≤ 900 := hG29.pr 3 7
      have b45 : 0 ≤ Z29 3 14 ∧ Z29 3 14 ≤ 4 := hG29.pr 3 14
      refine Jcv0 hx17 (show mx_Sn _ _ 40 (mx_callv 42 2 7 43) from sn_50 40) a3 s3 hc29 rfl rfl rfl ?_
      refine mx_J.step (sn_50 43) (fun _ _ => rfl) ?_
      refine mx_J.step (sn_50 44) (fun _ _ => rfl) ?_
      refine JcI (z := 61) (show mx_Sn _ _ 45 (mx_const (.int 61) 47) from sn_50 45) rfl ?_
      have c71 : ∀ (k46_1 : Int), 1013 ≤ k46_1 ∧ k46_1 ≤ 1015 → mx_J (tB l D b0 ad Hb tau) mt_50 (d + 10) 71 [some (.ref 3), some (xI 6), some (xI (Z1 3 4))] [xI k46_1, .ref 3] h29 Post := by
        intro k46_1 f46_0
        have b48 : 0 ≤ Z29 3 7 ∧ Z29 3 7 ≤ 900 := hG29.pr 3 7
        obtain ⟨Z47, h47, hc47, hx47, hG47, hf47, b47⟩ := ct_52_3_1010 (d := d + 9) (l := l) (D := D) (b0 := b0) (ad := ad) (Hb := Hb) (tau := tau) hx29 hG29 (show 1010 ≤ k46_1 ∧ k46_1 ≤ 1019 by omega)
        have b49 : 0 ≤ Z47 3 7 ∧ Z47 3 7 ≤ 900 := hG47.pr 3 7
        refine Jcv0 hx29 (show mx_Sn _ _ 71 (mx_callv 52 2 7 74) from sn_50 71) a3 s3 hc47 rfl rfl rfl ?_
        have eq50 : Z47 3 2 = Z29 3 2 := (hf47 3 2 rfl)
        have b51 : 0 ≤ Z29 3 2 ∧ Z29 3 2 ≤ 900 := hG29.pr 3 2
        have eq52 : Z47 3 3 = Z29 3 3 := (hf47 3 3 rfl)
        have b53 : 0 ≤ Z29 3 3 ∧ Z29 3 3 ≤ 900 := hG29.pr 3 3
        have eq54 : Z47 3 4 = Z29 3 4 := (hf47 3 4 rfl)
        have b55 : 0 ≤ Z29 3 4 ∧ Z29 3 4 ≤ 400 := hG29.pr 3 4
        have b56 : 0 ≤ Z47 3 7 ∧ Z47 3 7 ≤ 900 := hG47.pr 3 7
        have eq57 : Z47 3 14 = Z29 3 14 := (hf47 3 14 rfl)
        have b58 : 0 ≤ Z29 3 14 ∧ Z29 3 14 ≤ 4 := hG29.pr 3 14
        have eq59 : Z47 3 0 = Z 3 0 := ((hf47 3 0 rfl).trans ((hf29 3 0 rfl).trans ((hf17 3 0 rfl).trans (hf1 3 0 rfl))))
        have b60 : 2 ≤ Z 3 0 ∧ Z 3 0 ≤ 4 := hG.pr 3 0
        have eq61 : Z47 3 1 = Z 3 1 := ((hf47 3 1 rfl).trans ((hf29 3 1 rfl).trans ((hf17 3 1 rfl).trans (hf1 3 1 rfl))))
        have b62 : 0 ≤ Z 3 1 ∧ Z 3 1 ≤ 900 := hG.pr 3 1
        have eq63 : Z47 3 2 = Z29 3 2 := (hf47 3 2 rfl)
        have b64 : 0 ≤ Z29 3 2 ∧ Z29 3 2 ≤ 900 := hG29.pr 3 2
        have eq65 : Z47 3 3 = Z29 3 3 := (hf47 3 3 rfl)
        have b66 : 0 ≤ Z29 3 3 ∧ Z29 3 3 ≤ 900 := hG29.pr 3 3
        have eq67 : Z47 3 4 = Z29 3 4 := (hf47 3 4 rfl)
        have b68 : 0 ≤ Z29 3 4 ∧ Z29 3 4 ≤ 400 := hG29.pr 3 4
        have b69 : 0 ≤ Z47 3 7 ∧ Z47 3 7 ≤ 900 := hG47.pr 3 7
        have eq70 : Z47 3 14 = Z29 3 14 := (hf47 3 14 rfl)
        have b71 : 0 ≤ Z29 3 14 ∧ Z29 3 14 ≤ 4 := hG29.pr 3 14
        exact mx_J.ret (sn_50 74) (fun _ _ => rfl) (hP Z47 h47 hx47 hG47 (fr_tr (M := [(3, 2), (3, 3), (3, 4), (3, 5), (3, 7), (3, 14), (3, 15), (5, (-1))]) (fr_tr (M := [(3, 2), (3, 3), (3, 4), (3, 5), (3, 7), (3, 14), (3, 15), (5, (-1))]) (fr_tr (M := [(3, 2), (3, 3), (3, 4), (3, 5), (3, 7), (3, 14), (3, 15), (5, (-1))]) (fr_tr (M := [(3, 2), (3, 3), (3, 4), (3, 5), (3, 7), (3, 14), (3, 15), (5, (-1))]) fr_rf (hf1) (M1 := []) rfl rfl) (hf17) rfl rfl) (hf29) rfl rfl) (hf47) rfl rfl) (by omega))
      refine Jicmp_ne (show mx_Sn _ _ 47 (mx_icmp_ne 56 50) from sn_50 47) (by omega) (by omega) (fun q72 => ?_) (fun q72 => ?_)
      · skip
        refine mx_J.step (sn_50 56) (fun _ _ => rfl) ?_
        refine JcI (z := 60) (show mx_Sn _ _ 57 (mx_const (.int 60) 59) from sn_50 57) rfl ?_
        refine Jicmp_ne (show mx_Sn _ _ 59 (mx_icmp_ne 68 62) from sn_50 59) (by omega) (by omega) (fun q73 => ?_) (fun q73 => ?_)
        · skip
          refine JcI (z := 1015) (show mx_Sn _ _ 68 (mx_const (.int 1015) 71) from sn_50 68) rfl ?_
          exact c71 1015 (by omega)
        · skip
          refine JcI (z := 1014) (show mx_Sn _ _ 62 (mx_const (.int 1014) 65) from sn_50 62) rfl ?_
          refine mx_J.step (sn_50 65) (fun _ _ => rfl) ?_
          exact c71 1014 (by omega)
      · skip
        refine JcI (z := 1013) (show mx_Sn _ _ 50 (mx_const (.int 1013) 53) from sn_50 50) rfl ?_
        refine mx_J.step (sn_50 53) (fun _ _ => rfl) ?_
        exact c71 1013 (by omega)
    refine Jicmp_eq (show mx_Sn _ _ 13 (mx_icmp_eq 34 16) from sn_50 13) (by omega) (by omega) (fun q74 => ?_) (fun q74 => ?_)
    · skip
      exact c34 (by omega)
    · skip
      refine mx_J.step (sn_50 16) (fun _ _ => rfl) ?_
      refine JcI (z := 60) (show mx_Sn _ _ 17 (mx_const (.int 60) 19) from sn_50 17) rfl ?_
      refine Jicmp_eq (show mx_Sn _ _ 19 (mx_icmp_eq 34 22) from sn_50 19) (by omega) (by omega) (fun q75 => ?_) (fun q75 => ?_)
      · skip
        exact c34 (by omega)
      · skip
        refine mx_J.step (sn_50 22) (fun _ _ => rfl) ?_
        refine JcI (z := 62) (show mx_Sn _ _ 23 (mx_const (.int 62) 25) from sn_50 23) rfl ?_
        refine Jicmp_eq (show mx_Sn _ _ 25 (mx_icmp_eq 34 28) from sn_50 25) (by omega) (by omega) (fun q76 => ?_) (fun q76 => ?_)
        · skip
          exact c34 (by omega)
        · skip
          refine mx_J.step (sn_50 28) (fun _ _ => rfl) ?_
          refine JcI (z := 2) (show mx_Sn _ _ 29 (mx_const (.int 2) 30) from sn_50 29) rfl ?_
          obtain ⟨Z77, h77, hc77, hx77, hG77, hf77, b77⟩ := ct_55_3 (d := d + 9) (l := l) (D := D) (b0 := b0) (ad := ad) (Hb := Hb) (tau := tau) hx1 hG1 (show 2 ≤ 2 ∧ 2 ≤ 4 by omega)
          have b78 : 0 ≤ Z77 3 4 ∧ Z77 3 4 ≤ 400 := hG77.pr 3 4
          refine Jcv0 hx1 (show mx_Sn _ _ 30 (mx_callv 55 2 7 33) from sn_50 30) a3 s3 hc77 rfl rfl rfl ?_
          have eq79 : Z77 3 2 = Z1 3 2 := (hf77 3 2 rfl)
          have b80 : 0 ≤ Z1 3 2 ∧ Z1 3 2 ≤ 900 := hG1.pr 3 2
          have eq81 : Z77 3 3 = Z1 3 3 := (hf77 3 3 rfl)
          have b82 : 0 ≤ Z1 3 3 ∧ Z1 3 3 ≤ 900 := hG1.pr 3 3
          have b83 : 0 ≤ Z77 3 4 ∧ Z77 3 4 ≤ 400 := hG77.pr 3 4
          have eq84 : Z77 3 7 = Z1 3 7 := (hf77 3 7 rfl)
          have b85 : 0 ≤ Z1 3 7 ∧ Z1 3 7 ≤ 900 := hG1.pr 3 7
          have b86 : 0 ≤ Z77 3 14 ∧ Z77 3 14 ≤ 4 := hG77.pr 3 14
          have eq87 : Z77 3 0 = Z 3 0 := ((hf77 3 0 rfl).trans (hf1 3 0 rfl))
          have b88 : 2 ≤ Z 3 0 ∧ Z 3 0 ≤ 4 := hG.pr 3 0
          have eq89 : Z77 3 1 = Z 3 1 := ((hf77 3 1 rfl).trans (hf1 3 1 rfl))
          have b90 : 0 ≤ Z 3 1 ∧ Z 3 1 ≤ 900 := hG.pr 3 1
          have eq91 : Z77 3 2 = Z1 3 2 := (hf77 3 2 rfl)
          have b92 : 0 ≤ Z1 3 2 ∧ Z1 3 2 ≤ 900 := hG1.pr 3 2
          have eq93 : Z77 3 3 = Z1 3 3 := (hf77 3 3 rfl)
          have b94 : 0 ≤ Z1 3 3 ∧ Z1 3 3 ≤ 900 := hG1.pr 3 3
          have b95 : 0 ≤ Z77 3 4 ∧ Z77 3 4 ≤ 400 := hG77.pr 3 4
          have eq96 : Z77 3 7 = Z1 3 7 := (hf77 3 7 rfl)
          have b97 : 0 ≤ Z1 3 7 ∧ Z1 3 7 ≤ 900 := hG1.pr 3 7
          have b98 : 0 ≤ Z77 3 14 ∧ Z77 3 14 ≤ 4 := hG77.pr 3 14
          exact mx_J.ret (sn_50 33) (fun _ _ => rfl) (hP Z77 h77 hx77 hG77 (fr_tr (M := [(3, 2), (3, 3), (3, 4), (3, 5), (3, 7), (3, 14), (3, 15), (5, (-1))]) (fr_tr (M := [(3, 2), (3, 3), (3, 4), (3, 5), (3, 7), (3, 14), (3, 15), (5, (-1))]) fr_rf (hf1) (M1 := []) rfl rfl) (hf77) rfl rfl) (by omega))
theorem ct_50_3_i6 {l : Launch} {D : va_G} {b0 : Nat} {ad : Nat → Nat} {Hb : Heap} {tau : Nat → Int64} {d n s : Nat} {S : Nat → xS} {Z : xZ} {h : mx_H} (hx : XH n s S Z h) (hG : GI n S Z)   (k0 : Z 3 0 = 2) (k1 : (Z 3 3 ≤ Z 3 2 ∧ Z 3 2 ≤ Z 3 1 ∧ (Z 3 4 = 0 ∨ Z 3 4 = 3 ∨ Z 3 3 < Z 3 2) ∧ (Z 3 4 = 3 ∨ Z 3 14 = 0))) : ∃ (Z' : xZ) (h' : mx_H), mx_Ca (tB l D b0 ad Hb tau) (d + 11) 50 [.ref 3, xI 6] h (none, h') ∧ XH n s S Z' h' ∧ GI n S Z' ∧ fr' [(3, 2), (3, 3), (3, 4), (3, 5), (3, 7), (3, 14), (3, 15), (5, (-1))] Z Z' ∧ (((Z' 3 3 ≤ Z' 3 2 ∧ Z' 3 2 ≤ Z 3 1 ∧ (Z' 3 4 = 0 ∨ Z' 3 4 = 3 ∨ Z' 3 3 < Z' 3 2) ∧ (Z' 3 4 = 3 ∨ Z' 3 14 = 0)) ∧ Z 3 3 ≤ Z' 3 3 ∧ Z' 3 7 - Z 3 7 ≤ Z' 3 3 - Z 3 3 ∧ (Z' 3 4 = 3 ∨ Z 3 3 + 1 ≤ Z' 3 3) ∧ (Z 3 4 = 3 → Z' 3 4 = 3))) := by
  obtain ⟨r, hca, Z', h', e, q⟩ := Jmt (B := tB l D b0 ad Hb tau) (M := mt_50) (mi := 50) (as := [.ref 3, xI 6]) (d := d + 10) (ls := [some (.ref 3), some (xI 6), none]) rfl rfl rfl rfl rfl rfl (cw_50_3_i6 (l := l) (D := D) (b0 := b0) (ad := ad) (Hb := Hb) (tau := tau) (d := d) (Post := fun r => ∃ (Z' : xZ) (h' : mx_H), r = (none, h') ∧ XH n s S Z' h' ∧ GI n S Z' ∧ fr' [(3, 2), (3, 3), (3, 4), (3, 5), (3, 7), (3, 14), (3, 15), (5, (-1))] Z Z' ∧ (((Z' 3 3 ≤ Z' 3 2 ∧ Z' 3 2 ≤ Z 3 1 ∧ (Z' 3 4 = 0 ∨ Z' 3 4 = 3 ∨ Z' 3 3 < Z' 3 2) ∧ (Z' 3 4 = 3 ∨ Z' 3 14 = 0)) ∧ Z 3 3 ≤ Z' 3 3 ∧ Z' 3 7 - Z 3 7 ≤ Z' 3 3 - Z 3 3 ∧ (Z' 3 4 = 3 ∨ Z 3 3 + 1 ≤ Z' 3 3) ∧ (Z 3 4 = 3 → Z' 3 4 = 3)))) hx hG k0 k1 (fun Z' h' q1 q2 q3 q4 => ⟨Z', h', rfl, q1, q2, q3, q4⟩))
  subst e; exact ⟨Z', h', hca, q⟩
set_option maxRecDepth 100000 in
theorem cw_49_3_i6 {l : Launch} {D : va_G} {b0 : Nat} {ad : Nat → Nat} {Hb : Heap} {tau : Nat → Int64} {d n s : Nat} {S : Nat → xS} {Z : xZ} {h : mx_H} {Post : mx_R → Prop} (hx : XH n s S Z h) (hG : GI n S Z)   (k0 : Z 3 0 = 2) (k1 : (Z 3 3 ≤ Z 3 2 ∧ Z 3 2 ≤ Z 3 1 ∧ (Z 3 4 = 0 ∨ Z 3 4 = 3 ∨ Z 3 3 < Z 3 2) ∧ (Z 3 4 = 3 ∨ Z 3 14 = 0))) (hP : ∀ (Z' : xZ) (h' : mx_H), XH n s S Z' h' → GI n S Z' → fr' [(3, 2), (3, 3), (3, 4), (3, 5), (3, 7), (3, 14), (3, 15), (5, (-1))] Z Z' → ((Z' 3 3 ≤ Z' 3 2 ∧ Z' 3 2 ≤ Z 3 1 ∧ (Z' 3 4 = 0 ∨ Z' 3 4 = 3 ∨ Z' 3 3 < Z' 3 2) ∧ (Z' 3 4 = 3 ∨ Z' 3 14 = 0)) ∧ Z 3 3 ≤ Z' 3 3 ∧ Z' 3 7 - Z 3 7 ≤ Z' 3 3 - Z 3 3 ∧ (Z' 3 4 = 3 ∨ Z 3 3 + 1 ≤ Z' 3 3) ∧ (Z 3 4 = 3 → Z' 3 4 = 3)) → Post (none, h')) : mx_J (tB l D b0 ad Hb tau) mt_49 (d + 11) 0 [some (.ref 3), some (xI 6)] [] h Post := by
    have a3 : 3 < n := lt83 (GI_n hG) rfl
    have s3 : S 3 = .inl (7, [2, 0, 0, 0, 0, 0, 2, 0, 2, 2, 0, 2, 0, 0, 0, 0]) := GI_s hG 3 rfl
    refine mx_J.step (sn_49 0) (fun _ _ => rfl) ?_
    have b2 : 0 ≤ Z 3 4 ∧ Z 3 4 ≤ 400 := hG.pr 3 4
    refine JgetI (g := 4) (z := Z 3 4) hx (show mx_Sn _ _ 1 (mx_getf 7 4 4) from sn_49 1) a3 s3 rfl rfl rfl ?_
    refine JcI (z := 315) (show mx_Sn _ _ 4 (mx_const (.int 315) 7) from sn_49 4) rfl ?_
    have c73 : ∀  (Z4 : xZ) (h4 : mx_H), (Z4 3 3 ≤ Z4 3 2 ∧ Z4 3 2 ≤ Z 3 1 ∧ (Z4 3 4 = 0 ∨ Z4 3 4 = 3 ∨ Z4 3 3 < Z4 3 2) ∧ (Z4 3 4 = 3 ∨ Z4 3 14 = 0)) → (Z 3 3 ≤ Z4 3 3 ∧ Z4 3 7 - Z 3 7 ≤ Z4 3 3 - Z 3 3 + 0) → ((Z4 3 4 = 3 ∨ Z 3 3 + 1 ≤ Z4 3 3) ∧ (Z 3 4 = 3 → Z4 3 4 = 3)) → XH n s S Z4 h4 → GI n S Z4 → fr' [(3, 2), (3, 3), (3, 4), (3, 5), (3, 7), (3, 14), (3, 15), (5, (-1))] Z Z4 → mx_J (tB l D b0 ad Hb tau) mt_49 (d + 11) 73 [some (.ref 3), some (xI 6)] [] h4 Post := by
      intro Z4 h4 f3_0 f3_1 f3_2 hx4 hG4 hf4
      have eq5 : Z4 3 0 = Z 3 0 := (hf4 3 0 rfl)
      have b6 : 2 ≤ Z 3 0 ∧ Z 3 0 ≤ 4 := hG.pr 3 0
      have b7 : 0 ≤ Z4 3 2 ∧ Z4 3 2 ≤ 900 := hG4.pr 3 2
      have b8 : 0 ≤ Z4 3 3 ∧ Z4 3 3 ≤ 900 := hG4.pr 3 3
      have b9 : 0 ≤ Z4 3 4 ∧ Z4 3 4 ≤ 400 := hG4.pr 3 4
      have b10 : 0 ≤ Z4 3 7 ∧ Z4 3 7 ≤ 900 := hG4.pr 3 7
      have b11 : 0 ≤ Z4 3 14 ∧ Z4 3 14 ≤ 4 := hG4.pr 3 14
      have b12 : 0 ≤ Z4 3 3 ∧ Z4 3 3 ≤ 900 := hG4.pr 3 3
      have b13 : 0 ≤ Z4 3 7 ∧ Z4 3 7 ≤ 900 := hG4.pr 3 7
      have b14 : 0 ≤ Z4 3 3 ∧ Z4 3 3 ≤ 900 := hG4.pr 3 3
      have b15 : 0 ≤ Z4 3 4 ∧ Z4 3 4 ≤ 400 := hG4.pr 3 4
      have b16 : 0 ≤ Z4 3 2 ∧ Z4 3 2 ≤ 900 := hG4.pr 3 2
      have b17 : 0 ≤ Z4 3 3 ∧ Z4 3 3 ≤ 900 := hG4.pr 3 3
      have b18 : 0 ≤ Z4 3 4 ∧ Z4 3 4 ≤ 400 := hG4.pr 3 4
      have b19 : 0 ≤ Z4 3 7 ∧ Z4 3 7 ≤ 900 := hG4.pr 3 7
      have b20 : 0 ≤ Z4 3 14 ∧ Z4 3 14 ≤ 4 := hG4.pr 3 14
      have eq21 : Z4 3 0 = Z 3 0 := (hf4 3 0 rfl)
      have b22 : 2 ≤ Z 3 0 ∧ Z 3 0 ≤ 4 := hG.pr 3 0
      have eq23 : Z4 3 1 = Z 3 1 := (hf4 3 1 rfl)
      have b24 : 0 ≤ Z 3 1 ∧ Z 3 1 ≤ 900 := hG.pr 3 1
      have b25 : 0 ≤ Z4 3 2 ∧ Z4 3 2 ≤ 900 := hG4.pr 3 2
      have b26 : 0 ≤ Z4 3 3 ∧ Z4 3 3 ≤ 900 := hG4.pr 3 3
      have b27 : 0 ≤ Z4 3 4 ∧ Z4 3 4 ≤ 400 := hG4.pr 3 4
      have b28 : 0 ≤ Z4 3 7 ∧ Z4 3 7 ≤ 900 := hG4.pr 3 7
      have b29 : 0 ≤ Z4 3 14 ∧ Z4 3 14 ≤ 4 := hG4.pr 3 14
      exact mx_J.ret (sn_49 73) (fun _ _ => rfl) (hP Z4 h4 hx4 hG4 (fr_tr (M := [(3, 2), (3, 3), (3, 4), (3, 5), (3, 7), (3, 14), (3, 15), (5, (-1))]) fr_rf (hf4) (M1 := []) rfl rfl) (by omega))
    refine Jicmp_ne (show mx_Sn _ _ 7 (mx_icmp_ne 35 10) from sn_49 7) (by omega) (by omega) (fun q30 => ?_) (fun q30 => ?_)
    · skip
      refine mx_J.step (sn_49 35) (fun _ _ => rfl) ?_
      have b32 : 0 ≤ Z 3 4 ∧ Z 3 4 ≤ 400 := hG.pr 3 4
      refine JgetI (g := 4) (z := Z 3 4) hx (show mx_Sn _ _ 36 (mx_getf 7 4 39) from sn_49 36) a3 s3 rfl rfl rfl ?_
      refine JcI (z := 91) (show mx_Sn _ _ 39 (mx_const (.int 91) 41) from sn_49 39) rfl ?_
      refine Jicmp_ne (show mx_Sn _ _ 41 (mx_icmp_ne 68 44) from sn_49 41) (by omega) (by omega) (fun q33 => ?_) (fun q33 => ?_)
      · skip
        refine mx_J.step (sn_49 68) (fun _ _ => rfl) ?_
        refine mx_J.step (sn_49 69) (fun _ _ => rfl) ?_
        have b35 : 2 ≤ Z 3 0 ∧ Z 3 0 ≤ 4 := hG.pr 3 0
        have b36 : 0 ≤ Z 3 1 ∧ Z 3 1 ≤ 900 := hG.pr 3 1
        have b37 : 0 ≤ Z 3 2 ∧ Z 3 2 ≤ 900 := hG.pr 3 2
        have b38 : 0 ≤ Z 3 3 ∧ Z 3 3 ≤ 900 := hG.pr 3 3
        have b39 : 0 ≤ Z 3 4 ∧ Z 3 4 ≤ 400 := hG.pr 3 4
        have b40 : 0 ≤ Z 3 7 ∧ Z 3 7 ≤ 900 := hG.pr 3 7
        have b41 : 0 ≤ Z 3 14 ∧ Z 3 14 ≤ 4 := hG.pr 3 14
        obtain ⟨Z34, h34, hc34, hx34, hG34, hf34, b34⟩ := ct_50_3_i6 (d := d + 0) (l := l) (D := D) (b0 := b0) (ad := ad) (Hb := Hb) (tau := tau) hx hG  (show Z 3 0 = 2 by omega) (show (Z 3 3 ≤ Z 3 2 ∧ Z 3 2 ≤ Z 3 1 ∧ (Z 3 4 = 0 ∨ Z 3 4 = 3 ∨ Z 3 3 < Z 3 2) ∧ (Z 3 4 = 3 ∨ Z 3 14 = 0)) by omega)
        have b42 : 0 ≤ Z34 3 2 ∧ Z34 3 2 ≤ 900 := hG34.pr 3 2
        have b43 : 0 ≤ Z34 3 3 ∧ Z34 3 3 ≤ 900 := hG34.pr 3 3
        have b44 : 0 ≤ Z34 3 4 ∧ Z34 3 4 ≤ 400 := hG34.pr 3 4
        have b45 : 0 ≤ Z34 3 7 ∧ Z34 3 7 ≤ 900 := hG34.pr 3 7
        have b46 : 0 ≤ Z34 3 14 ∧ Z34 3 14 ≤ 4 := hG34.pr 3 14
        refine Jcv0 hx (show mx_Sn _ _ 70 (mx_callv 50 2 7 73) from sn_49 70) a3 s3 hc34 rfl rfl rfl ?_
        have eq47 : Z34 3 0 = Z 3 0 := (hf34 3 0 rfl)
        have b48 : 2 ≤ Z 3 0 ∧ Z 3 0 ≤ 4 := hG.pr 3 0
        have b49 : 0 ≤ Z34 3 2 ∧ Z34 3 2 ≤ 900 := hG34.pr 3 2
        have b50 : 0 ≤ Z34 3 3 ∧ Z34 3 3 ≤ 900 := hG34.pr 3 3
        have b51 : 0 ≤ Z34 3 4 ∧ Z34 3 4 ≤ 400 := hG34.pr 3 4
        have b52 : 0 ≤ Z34 3 7 ∧ Z34 3 7 ≤ 900 := hG34.pr 3 7
        have b53 : 0 ≤ Z34 3 14 ∧ Z34 3 14 ≤ 4 := hG34.pr 3 14
        have b54 : 0 ≤ Z34 3 3 ∧ Z34 3 3 ≤ 900 := hG34.pr 3 3
        have b55 : 0 ≤ Z34 3 7 ∧ Z34 3 7 ≤ 900 := hG34.pr 3 7
        have b56 : 0 ≤ Z34 3 3 ∧ Z34 3 3 ≤ 900 := hG34.pr 3 3
        have b57 : 0 ≤ Z34 3 4 ∧ Z34 3 4 ≤ 400 := hG34.pr 3 4
        exact c73 Z34 h34 (by omega) (by omega) (by omega) hx34 hG34 (fr_tr (M := [(3, 2), (3, 3), (3, 4), (3, 5), (3, 7), (3, 14), (3, 15), (5, (-1))]) fr_rf (hf34) (M1 := []) rfl rfl)
      · skip
        refine mx_J.step (sn_49 44) (fun _ _ => rfl) ?_
        refine mx_J.step (sn_49 45) (fun _ _ => rfl) ?_
        have b59 : 2 ≤ Z 3 0 ∧ Z 3 0 ≤ 4 := hG.pr 3 0
        have b60 : 0 ≤ Z 3 1 ∧ Z 3 1 ≤ 900 := hG.pr 3 1
        have b61 : 0 ≤ Z 3 2 ∧ Z 3 2 ≤ 900 := hG.pr 3 2
        have b62 : 0 ≤ Z 3 3 ∧ Z 3 3 ≤ 900 := hG.pr 3 3
        have b63 : 0 ≤ Z 3 4 ∧ Z 3 4 ≤ 400 := hG.pr 3 4
        have b64 : 0 ≤ Z 3 7 ∧ Z 3 7 ≤ 900 := hG.pr 3 7
        have b65 : 0 ≤ Z 3 14 ∧ Z 3 14 ≤ 4 := hG.pr 3 14
        obtain ⟨z58, Z58, h58, hc58, hx58, hG58, hf58, b58⟩ := ct_51_3_i6 (d := d + 9) (l := l) (D := D) (b0 := b0) (ad := ad) (Hb := Hb) (tau := tau) hx hG  (show Z 3 0 = 2 by omega) (show (Z 3 3 ≤ Z 3 2 ∧ Z 3 2 ≤ Z 3 1 ∧ (Z 3 4 = 0 ∨ Z 3 4 = 3 ∨ Z 3 3 < Z 3 2) ∧ (Z 3 4 = 3 ∨ Z 3 14 = 0)) by omega) (show ¬ Z 3 4 = 0 by omega) (show ¬ Z 3 4 = 3 by omega)
        have eq66 : Z58 3 2 = Z 3 2 := (hf58 3 2 rfl)
        have b67 : 0 ≤ Z 3 2 ∧ Z 3 2 ≤ 900 := hG.pr 3 2
        have eq68 : Z58 3 3 = Z 3 3 := (hf58 3 3 rfl)
        have b69 : 0 ≤ Z 3 3 ∧ Z 3 3 ≤ 900 := hG.pr 3 3
        have b70 : 0 ≤ Z58 3 4 ∧ Z58 3 4 ≤ 400 := hG58.pr 3 4
        have eq71 : Z58 3 7 = Z 3 7 := (hf58 3 7 rfl)
        have b72 : 0 ≤ Z 3 7 ∧ Z 3 7 ≤ 900 := hG.pr 3 7
        have b73 : 0 ≤ Z58 3 14 ∧ Z58 3 14 ≤ 4 := hG58.pr 3 14
        refine Jcv hx (show mx_Sn _ _ 46 (mx_callv 51 2 7 49) from sn_49 46) a3 s3 hc58 rfl rfl rfl ?_
        refine Jif_eq (show mx_Sn _ _ 49 (mx_if_eq 73 52) from sn_49 49) (by omega) (fun q74 => ?_) (fun q74 => ?_)
        · skip
          have eq75 : Z58 3 0 = Z 3 0 := (hf58 3 0 rfl)
          have b76 : 2 ≤ Z 3 0 ∧ Z 3 0 ≤ 4 := hG.pr 3 0
          have eq77 : Z58 3 2 = Z 3 2 := (hf58 3 2 rfl)
          have b78 : 0 ≤ Z 3 2 ∧ Z 3 2 ≤ 900 := hG.pr 3 2
          have eq79 : Z58 3 3 = Z 3 3 := (hf58 3 3 rfl)
          have b80 : 0 ≤ Z 3 3 ∧ Z 3 3 ≤ 900 := hG.pr 3 3
          have b81 : 0 ≤ Z58 3 4 ∧ Z58 3 4 ≤ 400 := hG58.pr 3 4
          have eq82 : Z58 3 7 = Z 3 7 := (hf58 3 7 rfl)
          have b83 : 0 ≤ Z 3 7 ∧ Z 3 7 ≤ 900 := hG.pr 3 7
          have b84 : 0 ≤ Z58 3 14 ∧ Z58 3 14 ≤ 4 := hG58.pr 3 14
          have eq85 : Z58 3 3 = Z 3 3 := (hf58 3 3 rfl)
          have b86 : 0 ≤ Z 3 3 ∧ Z 3 3 ≤ 900 := hG.pr 3 3
          have eq87 : Z58 3 7 = Z 3 7 := (hf58 3 7 rfl)
          have b88 : 0 ≤ Z 3 7 ∧ Z 3 7 ≤ 900 := hG.pr 3 7
          have eq89 : Z58 3 3 = Z 3 3 := (hf58 3 3 rfl)
          have b90 : 0 ≤ Z 3 3 ∧ Z 3 3 ≤ 900 := hG.pr 3 3
          have b91 : 0 ≤ Z58 3 4 ∧ Z58 3 4 ≤ 400 := hG58.pr 3 4
          exact c73 Z58 h58 (by omega) (by omega) (by omega) hx58 hG58 (fr_tr (M := [(3, 2), (3, 3), (3, 4), (3, 5), (3, 7), (3, 14), (3, 15), (5, (-1))]) fr_rf (hf58) (M1 := []) rfl rfl)
        · skip
          exfalso; omega
    · skip
      refine mx_J.step (sn_49 10) (fun _ _ => rfl) ?_
      refine mx_J.step (sn_49 11) (fun _ _ => rfl) ?_
      have b93 : 2 ≤ Z 3 0 ∧ Z 3 0 ≤ 4 := hG.pr 3 0
      have b94 : 0 ≤ Z 3 1 ∧ Z 3 1 ≤ 900 := hG.pr 3 1
      have b95 : 0 ≤ Z 3 2 ∧ Z 3 2 ≤ 900 := hG.pr 3 2
      have b96 : 0 ≤ Z 3 3 ∧ Z 3 3 ≤ 900 := hG.pr 3 3
      have b97 : 0 ≤ Z 3 4 ∧ Z 3 4 ≤ 400 := hG.pr 3 4
      have b98 : 0 ≤ Z 3 7 ∧ Z 3 7 ≤ 900 := hG.pr 3 7
      have b99 : 0 ≤ Z 3 14 ∧ Z 3 14 ≤ 4 := hG.pr 3 14
      obtain ⟨z92, Z92, h92, hc92, hx92, hG92, hf92, b92⟩ := ct_51_3_i6 (d := d + 9) (l := l) (D := D) (b0 := b0) (ad := ad) (Hb := Hb) (tau := tau) hx hG  (show Z 3 0 = 2 by omega) (show (Z 3 3 ≤ Z 3 2 ∧ Z 3 2 ≤ Z 3 1 ∧ (Z 3 4 = 0 ∨ Z 3 4 = 3 ∨ Z 3 3 < Z 3 2) ∧ (Z 3 4 = 3 ∨ Z 3 14 = 0)) by omega) (show ¬ Z 3 4 = 0 by omega) (show ¬ Z 3 4 = 3 by omega)
      have eq100 : Z92 3 2 = Z 3 2 := (hf92 3 2 rfl)
      have b101 : 0 ≤ Z 3 2 ∧ Z 3 2 ≤ 900 := hG.pr 3 2
      have eq102 : Z92 3 3 = Z 3 3 := (hf92 3 3 rfl)
      have b103 : 0 ≤ Z 3 3 ∧ Z 3 3 ≤ 900 := hG.pr 3 3
      have b104 : 0 ≤ Z92 3 4 ∧ Z92 3 4 ≤ 400 := hG92.pr 3 4
      have eq105 : Z92 3 7 = Z 3 7 := (hf92 3 7 rfl)
      have b106 : 0 ≤ Z 3 7 ∧ Z 3 7 ≤ 900 := hG.pr 3 7
      have b107 : 0 ≤ Z92 3 14 ∧ Z92 3 14 ≤ 4 := hG92.pr 3 14
      refine Jcv hx (show mx_Sn _ _ 12 (mx_callv 51 2 7 15) from sn_49 12) a3 s3 hc92 rfl rfl rfl ?_
      refine Jif_eq (show mx_Sn _ _ 15 (mx_if_eq 73 18) from sn_49 15) (by omega) (fun q108 => ?_) (fun q108 => ?_)
      · skip
        have eq109 : Z92 3 0 = Z 3 0 := (hf92 3 0 rfl)
        have b110 : 2 ≤ Z 3 0 ∧ Z 3 0 ≤ 4 := hG.pr 3 0
        have eq111 : Z92 3 2 = Z 3 2 := (hf92 3 2 rfl)
        have b112 : 0 ≤ Z 3 2 ∧ Z 3 2 ≤ 900 := hG.pr 3 2
        have eq113 : Z92 3 3 = Z 3 3 := (hf92 3 3 rfl)
        have b114 : 0 ≤ Z 3 3 ∧ Z 3 3 ≤ 900 := hG.pr 3 3
        have b115 : 0 ≤ Z92 3 4 ∧ Z92 3 4 ≤ 400 := hG92.pr 3 4
        have eq116 : Z92 3 7 = Z 3 7 := (hf92 3 7 rfl)
        have b117 : 0 ≤ Z 3 7 ∧ Z 3 7 ≤ 900 := hG.pr 3 7
        have b118 : 0 ≤ Z92 3 14 ∧ Z92 3 14 ≤ 4 := hG92.pr 3 14
        have eq119 : Z92 3 3 = Z 3 3 := (hf92 3 3 rfl)
        have b120 : 0 ≤ Z 3 3 ∧ Z 3 3 ≤ 900 := hG.pr 3 3
        have eq121 : Z92 3 7 = Z 3 7 := (hf92 3 7 rfl)
        have b122 : 0 ≤ Z 3 7 ∧ Z 3 7 ≤ 900 := hG.pr 3 7
        have eq123 : Z92 3 3 = Z 3 3 := (hf92 3 3 rfl)
        have b124 : 0 ≤ Z 3 3 ∧ Z 3 3 ≤ 900 := hG.pr 3 3
        have b125 : 0 ≤ Z92 3 4 ∧ Z92 3 4 ≤ 400 := hG92.pr 3 4
        exact c73 Z92 h92 (by omega) (by omega) (by omega) hx92 hG92 (fr_tr (M := [(3, 2), (3, 3), (3, 4), (3, 5), (3, 7), (3, 14), (3, 15), (5, (-1))]) fr_rf (hf92) (M1 := []) rfl rfl)
      · skip
        exfalso; omega
theorem ct_49_3_i6 {l : Launch} {D : va_G} {b0 : Nat} {ad : Nat → Nat} {Hb : Heap} {tau : Nat → Int64} {d n s : Nat} {S : Nat → xS} {Z : xZ} {h : mx_H} (hx : XH n s S Z h) (hG : GI n S Z)   (k0 : Z 3 0 = 2) (k1 : (Z 3 3 ≤ Z 3 2 ∧ Z 3 2 ≤ Z 3 1 ∧ (Z 3 4 = 0 ∨ Z 3 4 = 3 ∨ Z 3 3 < Z 3 2) ∧ (Z 3 4 = 3 ∨ Z 3 14 = 0))) : ∃ (Z' : xZ) (h' : mx_H), mx_Ca (tB l D b0 ad Hb tau) (d + 12) 49 [.ref 3, xI 6] h (none, h') ∧ XH n s S Z' h' ∧ GI n S Z' ∧ fr' [(3, 2), (3, 3), (3, 4), (3, 5), (3, 7), (3, 14), (3, 15), (5, (-1))] Z Z' ∧ (((Z' 3 3 ≤ Z' 3 2 ∧ Z' 3 2 ≤ Z 3 1 ∧ (Z' 3 4 = 0 ∨ Z' 3 4 = 3 ∨ Z' 3 3 < Z' 3 2) ∧ (Z' 3 4 = 3 ∨ Z' 3 14 = 0)) ∧ Z 3 3 ≤ Z' 3 3 ∧ Z' 3 7 - Z 3 7 ≤ Z' 3 3 - Z 3 3 ∧ (Z' 3 4 = 3 ∨ Z 3 3 + 1 ≤ Z' 3 3) ∧ (Z 3 4 = 3 → Z' 3 4 = 3))) := by
  obtain ⟨r, hca, Z', h', e, q⟩ := Jmt (B := tB l D b0 ad Hb tau) (M := mt_49) (mi := 49) (as := [.ref 3, xI 6]) (d := d + 11) (ls := [some (.ref 3), some (xI 6)]) rfl rfl rfl rfl rfl rfl (cw_49_3_i6 (l := l) (D := D) (b0 := b0) (ad := ad) (Hb := Hb) (tau := tau) (d := d) (Post := fun r => ∃ (Z' : xZ) (h' : mx_H), r = (none, h') ∧ XH n s S Z' h' ∧ GI n S Z' ∧ fr' [(3, 2), (3, 3), (3, 4), (3, 5), (3, 7), (3, 14), (3, 15), (5, (-1))] Z Z' ∧ (((Z' 3 3 ≤ Z' 3 2 ∧ Z' 3 2 ≤ Z 3 1 ∧ (Z' 3 4 = 0 ∨ Z' 3 4 = 3 ∨ Z' 3 3 < Z' 3 2) ∧ (Z' 3 4 = 3 ∨ Z' 3 14 = 0)) ∧ Z 3 3 ≤ Z' 3 3 ∧ Z' 3 7 - Z 3 7 ≤ Z' 3 3 - Z 3 3 ∧ (Z' 3 4 = 3 ∨ Z 3 3 + 1 ≤ Z' 3 3) ∧ (Z 3 4 = 3 → Z' 3 4 = 3)))) hx hG k0 k1 (fun Z' h' q1 q2 q3 q4 => ⟨Z', h', rfl, q1, q2, q3, q4⟩))
  subst e; exact ⟨Z', h', hca, q⟩
set_option maxRecDepth 100000 in
theorem cw_48_3_i6 {l : Launch} {D : va_G} {b0 : Nat} {ad : Nat → Nat} {Hb : Heap} {tau : Nat → Int64} {d n s : Nat} {S : Nat → xS} {Z : xZ} {h : mx_H} {Post : mx_R → Prop} (hx : XH n s S Z h) (hG : GI n S Z)   (k0 : Z 3 0 = 2) (k1 : (Z 3 3 ≤ Z 3 2 ∧ Z 3 2 ≤ Z 3 1 ∧ (Z 3 4 = 0 ∨ Z 3 4 = 3 ∨ Z 3 3 < Z 3 2) ∧ (Z 3 4 = 3 ∨ Z 3 14 = 0))) (hP : ∀ (Z' : xZ) (h' : mx_H), XH n s S Z' h' → GI n S Z' → fr' [(3, 2), (3, 3), (3, 4), (3, 5), (3, 7), (3, 14), (3, 15), (5, (-1))] Z Z' → ((Z' 3 3 ≤ Z' 3 2 ∧ Z' 3 2 ≤ Z 3 1 ∧ (Z' 3 4 = 0 ∨ Z' 3 4 = 3 ∨ Z' 3 3 < Z' 3 2) ∧ (Z' 3 4 = 3 ∨ Z' 3 14 = 0)) ∧ Z 3 3 ≤ Z' 3 3 ∧ Z' 3 7 - Z 3 7 ≤ Z' 3 3 - Z 3 3 ∧ (Z' 3 4 = 3 ∨ Z 3 3 + 1 ≤ Z' 3 3) ∧ (Z 3 4 = 3 → Z' 3 4 = 3)) → Post (none, h')) : mx_J (tB l D b0 ad Hb tau) mt_48 (d + 12) 0 [some (.ref 3), some (xI 6), none] [] h Post := by
    have a3 : 3 < n := lt83 (GI_n hG) rfl
    have s3 : S 3 = .inl (7, [2, 0, 0, 0, 0, 0, 2, 0, 2, 2, 0, 2, 0, 0, 0, 0]) := GI_s hG 3 rfl
    refine mx_J.step (sn_48 0) (fun _ _ => rfl) ?_
    refine mx_J.step (sn_48 1) (fun _ _ => rfl) ?_
    have b2 : 2 ≤ Z 3 0 ∧ Z 3 0 ≤ 4 := hG.pr 3 0
    have b3 : 0 ≤ Z 3 1 ∧ Z 3 1 ≤ 900 := hG.pr 3 1
    have b4 : 0 ≤ Z 3 2 ∧ Z 3 2 ≤ 900 := hG.pr 3 2
    have b5 : 0 ≤ Z 3 3 ∧ Z 3 3 ≤ 900 := hG.pr 3 3
    have b6 : 0 ≤ Z 3 4 ∧ Z 3 4 ≤ 400 := hG.pr 3 4
    have b7 : 0 ≤ Z 3 7 ∧ Z 3 7 ≤ 900 := hG.pr 3 7
    have b8 : 0 ≤ Z 3 14 ∧ Z 3 14 ≤ 4 := hG.pr 3 14
    obtain ⟨Z1, h1, hc1, hx1, hG1, hf1, b1⟩ := ct_49_3_i6 (d := d + 0) (l := l) (D := D) (b0 := b0) (ad := ad) (Hb := Hb) (tau := tau) hx hG  (show Z 3 0 = 2 by omega) (show (Z 3 3 ≤ Z 3 2 ∧ Z 3 2 ≤ Z 3 1 ∧ (Z 3 4 = 0 ∨ Z 3 4 = 3 ∨ Z 3 3 < Z 3 2) ∧ (Z 3 4 = 3 ∨ Z 3 14 = 0)) by omega)
    have b9 : 0 ≤ Z1 3 2 ∧ Z1 3 2 ≤ 900 := hG1.pr 3 2
    have b10 : 0 ≤ Z1 3 3 ∧ Z1 3 3 ≤ 900 := hG1.pr 3 3
    have b11 : 0 ≤ Z1 3 4 ∧ Z1 3 4 ≤ 400 := hG1.pr 3 4
    have b12 : 0 ≤ Z1 3 7 ∧ Z1 3 7 ≤ 900 := hG1.pr 3 7
    have b13 : 0 ≤ Z1 3 14 ∧ Z1 3 14 ≤ 4 := hG1.pr 3 14
    refine Jcv0 hx (show mx_Sn _ _ 2 (mx_callv 49 2 7 5) from sn_48 2) a3 s3 hc1 rfl rfl rfl ?_
    refine JcI (z := 0) (show mx_Sn _ _ 5 (mx_const (.int 0) 6) from sn_48 5) rfl ?_
    refine mx_J.step (ls2 := [some (.ref 3), some (xI 6), some (xI 0)]) (sn_48 6) (fun _ _ => rfl) ?_
    have c7 : ∀ (m14 : Nat) (w14_2 : Int) (Z15 : xZ) (h15 : mx_H), 900 - w14_2 < (m14 : Int) → 0 ≤ w14_2 ∧ w14_2 ≤ 900 → (Z15 3 3 ≤ Z15 3 2 ∧ Z15 3 2 ≤ Z 3 1 ∧ (Z15 3 4 = 0 ∨ Z15 3 4 = 3 ∨ Z15 3 3 < Z15 3 2) ∧ (Z15 3 4 = 3 ∨ Z15 3 14 = 0)) → (Z 3 3 ≤ Z15 3 3 ∧ Z15 3 7 - Z 3 7 ≤ Z15 3 3 - Z 3 3 + 0) → ((Z15 3 4 = 3 ∨ Z 3 3 + 1 ≤ Z15 3 3) ∧ (Z 3 4 = 3 → Z15 3 4 = 3)) → XH n s S Z15 h15 → GI n S Z15 → fr' [(3, 2), (3, 3), (3, 4), (3, 5), (3, 7), (3, 14), (3, 15), (5, (-1))] Z1 Z15 → mx_J (tB l D b0 ad Hb tau) mt_48 (d + 12) 7 [some (.ref 3), some (xI 6), some (xI w14_2)] [] h15 Post := by
      intro m14
      induction m14 with
      | zero => intro w14_2 Z15 h15 q14 f14_0 f14_1 f14_2 f14_3 hx15 hG15 hf15; exact absurd q14 (by omega)
      | succ m14 ih14 =>
        intro w14_2 Z15 h15 q14 f14_0 f14_1 f14_2 f14_3 hx15 hG15 hf15
        have eq16 : Z15 3 0 = Z 3 0 := ((hf15 3 0 rfl).trans (hf1 3 0 rfl))
        have b17 : 2 ≤ Z 3 0 ∧ Z 3 0 ≤ 4 := hG.pr 3 0
        have b18 : 0 ≤ Z15 3 2 ∧ Z15 3 2 ≤ 900 := hG15.pr 3 2
        have b19 : 0 ≤ Z15 3 3 ∧ Z15 3 3 ≤ 900 := hG15.pr 3 3
        have b20 : 0 ≤ Z15 3 4 ∧ Z15 3 4 ≤ 400 := hG15.pr 3 4
        have b21 : 0 ≤ Z15 3 7 ∧ Z15 3 7 ≤ 900 := hG15.pr 3 7
        have b22 : 0 ≤ Z15 3 14 ∧ Z15 3 14 ≤ 4 := hG15.pr 3 14
        have b23 : 0 ≤ Z15 3 3 ∧ Z15 3 3 ≤ 900 := hG15.pr 3 3
        have b24 : 0 ≤ Z15 3 7 ∧ Z15 3 7 ≤ 900 := hG15.pr 3 7
        have b25 : 0 ≤ Z15 3 3 ∧ Z15 3 3 ≤ 900 := hG15.pr 3 3
        have b26 : 0 ≤ Z15 3 4 ∧ Z15 3 4 ≤ 400 := hG15.pr 3 4
        refine mx_J.step (sn_48 7) (fun _ _ => rfl) ?_
        refine mx_J.step (sn_48 8) (fun _ _ => rfl) ?_
        have b28 : 0 ≤ Z 3 1 ∧ Z 3 1 ≤ 900 := hG.pr 3 1
        refine JgetI (g := 1) (z := Z 3 1) hx15 (show mx_Sn _ _ 9 (mx_getf 7 1 12) from sn_48 9) a3 s3 rfl rfl ((hf15 3 1 rfl).trans (hf1 3 1 rfl)) ?_
        have c47 : mx_J (tB l D b0 ad Hb tau) mt_48 (d + 12) 47 [some (.ref 3), some (xI 6), some (xI w14_2)] [] h15 Post := by
          have b30 : 0 ≤ Z15 3 2 ∧ Z15 3 2 ≤ 900 := hG15.pr 3 2
          have b31 : 0 ≤ Z15 3 3 ∧ Z15 3 3 ≤ 900 := hG15.pr 3 3
          have b32 : 0 ≤ Z15 3 4 ∧ Z15 3 4 ≤ 400 := hG15.pr 3 4
          have b33 : 0 ≤ Z15 3 7 ∧ Z15 3 7 ≤ 900 := hG15.pr 3 7
          have b34 : 0 ≤ Z15 3 14 ∧ Z15 3 14 ≤ 4 := hG15.pr 3 14
          have eq35 : Z15 3 0 = Z 3 0 := ((hf15 3 0 rfl).trans (hf1 3 0 rfl))
          have b36 : 2 ≤ Z 3 0 ∧ Z 3 0 ≤ 4 := hG.pr 3 0
          have eq37 : Z15 3 1 = Z 3 1 := ((hf15 3 1 rfl).trans (hf1 3 1 rfl))
          have b38 : 0 ≤ Z 3 1 ∧ Z 3 1 ≤ 900 := hG.pr 3 1
          have b39 : 0 ≤ Z15 3 2 ∧ Z15 3 2 ≤ 900 := hG15.pr 3 2
          have b40 : 0 ≤ Z15 3 3 ∧ Z15 3 3 ≤ 900 := hG15.pr 3 3
          have b41 : 0 ≤ Z15 3 4 ∧ Z15 3 4 ≤ 400 := hG15.pr 3 4
          have b42 : 0 ≤ Z15 3 7 ∧ Z15 3 7 ≤ 900 := hG15.pr 3 7
          have b43 : 0 ≤ Z15 3 14 ∧ Z15 3 14 ≤ 4 := hG15.pr 3 14
          exact mx_J.ret (sn_48 47) (fun _ _ => rfl) (hP Z15 h15 hx15 hG15 (fr_tr (M := [(3, 2), (3, 3), (3, 4), (3, 5), (3, 7), (3, 14), (3, 15), (5, (-1))]) (fr_tr (M := [(3, 2), (3, 3), (3, 4), (3, 5), (3, 7), (3, 14), (3, 15), (5, (-1))]) fr_rf (hf1) (M1 := []) rfl rfl) (hf15) rfl rfl) (by omega))
        refine Jicmp_ge (show mx_Sn _ _ 12 (mx_icmp_ge 47 15) from sn_48 12) (by omega) (by omega) (fun q44 => ?_) (fun q44 => ?_)
        · skip
          exact c47 
        · skip
          refine mx_J.step (sn_48 15) (fun _ _ => rfl) ?_
          have b46 : 0 ≤ Z15 3 4 ∧ Z15 3 4 ≤ 400 := hG15.pr 3 4
          refine JgetI (g := 4) (z := Z15 3 4) hx15 (show mx_Sn _ _ 16 (mx_getf 7 4 19) from sn_48 16) a3 s3 rfl rfl rfl ?_
          refine JcI (z := 314) (show mx_Sn _ _ 19 (mx_const (.int 314) 22) from sn_48 19) rfl ?_
          refine Jicmp_ne (show mx_Sn _ _ 22 (mx_icmp_ne 47 25) from sn_48 22) (by omega) (by omega) (fun q47 => ?_) (fun q47 => ?_)
          · skip
            exact c47 
          · skip
            refine mx_J.step (sn_48 25) (fun _ _ => rfl) ?_
            have eq49 : Z15 3 0 = Z 3 0 := ((hf15 3 0 rfl).trans (hf1 3 0 rfl))
            have b50 : 2 ≤ Z 3 0 ∧ Z 3 0 ≤ 4 := hG.pr 3 0
            have eq51 : Z15 3 1 = Z 3 1 := ((hf15 3 1 rfl).trans (hf1 3 1 rfl))
            have b52 : 0 ≤ Z 3 1 ∧ Z 3 1 ≤ 900 := hG.pr 3 1
            have b53 : 0 ≤ Z15 3 2 ∧ Z15 3 2 ≤ 900 := hG15.pr 3 2
            have b54 : 0 ≤ Z15 3 3 ∧ Z15 3 3 ≤ 900 := hG15.pr 3 3
            have b55 : 0 ≤ Z15 3 4 ∧ Z15 3 4 ≤ 400 := hG15.pr 3 4
            have b56 : 0 ≤ Z15 3 14 ∧ Z15 3 14 ≤ 4 := hG15.pr 3 14
            obtain ⟨Z48, h48, hc48, hx48, hG48, hf48, b48⟩ := ct_56_3 (d := d + 6) (l := l) (D := D) (b0 := b0) (ad := ad) (Hb := Hb) (tau := tau) hx15 hG15  (show Z15 3 0 = 2 by first | omega | (simp only [eq49, eq51]; omega)) (show Z15 3 2 ≤ Z15 3 1 by first | omega | (simp only [eq49, eq51]; omega))
            try rw [eq49] at b48
            try rw [eq51] at b48
            have b57 : 0 ≤ Z48 3 2 ∧ Z48 3 2 ≤ 900 := hG48.pr 3 2
            have b58 : 0 ≤ Z48 3 3 ∧ Z48 3 3 ≤ 900 := hG48.pr 3 3
            have b59 : 0 ≤ Z48 3 4 ∧ Z48 3 4 ≤ 400 := hG48.pr 3 4
            refine Jcv0 hx15 (show mx_Sn _ _ 26 (mx_callv 56 1 7 29) from sn_48 26) a3 s3 hc48 rfl rfl rfl ?_
            refine mx_J.step (sn_48 29) (fun _ _ => rfl) ?_
            refine mx_J.step (sn_48 30) (fun _ _ => rfl) ?_
            have eq61 : Z48 3 0 = Z 3 0 := ((hf48 3 0 rfl).trans ((hf15 3 0 rfl).trans (hf1 3 0 rfl)))
            have b62 : 2 ≤ Z 3 0 ∧ Z 3 0 ≤ 4 := hG.pr 3 0
            have eq63 : Z48 3 1 = Z 3 1 := ((hf48 3 1 rfl).trans ((hf15 3 1 rfl).trans (hf1 3 1 rfl)))
            have b64 : 0 ≤ Z 3 1 ∧ Z 3 1 ≤ 900 := hG.pr 3 1
            have b65 : 0 ≤ Z48 3 2 ∧ Z48 3 2 ≤ 900 := hG48.pr 3 2
            have b66 : 0 ≤ Z48 3 3 ∧ Z48 3 3 ≤ 900 := hG48.pr 3 3
            have b67 : 0 ≤ Z48 3 4 ∧ Z48 3 4 ≤ 400 := hG48.pr 3 4
            have eq68 : Z48 3 7 = Z15 3 7 := (hf48 3 7 rfl)
            have b69 : 0 ≤ Z15 3 7 ∧ Z15 3 7 ≤ 900 := hG15.pr 3 7
            have eq70 : Z48 3 14 = Z15 3 14 := (hf48 3 14 rfl)
            have b71 : 0 ≤ Z15 3 14 ∧ Z15 3 14 ≤ 4 := hG15.pr 3 14
            obtain ⟨Z60, h60, hc60, hx60, hG60, hf60, b60⟩ := ct_49_3_i6 (d := d + 0) (l := l) (D := D) (b0 := b0) (ad := ad) (Hb := Hb) (tau := tau) hx48 hG48  (show Z48 3 0 = 2 by first | omega | (simp only [eq61, eq63, eq68, eq70]; omega)) (show (Z48 3 3 ≤ Z48 3 2 ∧ Z48 3 2 ≤ Z48 3 1 ∧ (Z48 3 4 = 0 ∨ Z48 3 4 = 3 ∨ Z48 3 3 < Z48 3 2) ∧ (Z48 3 4 = 3 ∨ Z48 3 14 = 0)) by first | omega | (simp only [eq61, eq63, eq68, eq70]; omega))
            try rw [eq61] at b60
            try rw [eq63] at b60
            try rw [eq68] at b60
            try rw [eq70] at b60
            have b72 : 0 ≤ Z60 3 2 ∧ Z60 3 2 ≤ 900 := hG60.pr 3 2
            have b73 : 0 ≤ Z60 3 3 ∧ Z60 3 3 ≤ 900 := hG60.pr 3 3
            have b74 : 0 ≤ Z60 3 4 ∧ Z60 3 4 ≤ 400 := hG60.pr 3 4
            have b75 : 0 ≤ Z60 3 7 ∧ Z60 3 7 ≤ 900 := hG60.pr 3 7
            have b76 : 0 ≤ Z60 3 14 ∧ Z60 3 14 ≤ 4 := hG60.pr 3 14
            refine Jcv0 hx48 (show mx_Sn _ _ 31 (mx_callv 49 2 7 34) from sn_48 31) a3 s3 hc60 rfl rfl rfl ?_
            refine mx_J.step (sn_48 34) (fun _ _ => rfl) ?_
            refine JcI (z := 1016) (show mx_Sn _ _ 35 (mx_const (.int 1016) 38) from sn_48 35) rfl ?_
            have b78 : 0 ≤ Z60 3 7 ∧ Z60 3 7 ≤ 900 := hG60.pr 3 7
            obtain ⟨Z77, h77, hc77, hx77, hG77, hf77, b77⟩ := ct_52_3_1010 (d := d + 11) (l := l) (D := D) (b0 := b0) (ad := ad) (Hb := Hb) (tau := tau) hx60 hG60 (show 1010 ≤ 1016 ∧ 1016 ≤ 1019 by omega)
            have b79 : 0 ≤ Z77 3 7 ∧ Z77 3 7 ≤ 900 := hG77.pr 3 7
            refine Jcv0 hx60 (show mx_Sn _ _ 38 (mx_callv 52 2 7 41) from sn_48 38) a3 s3 hc77 rfl rfl rfl ?_
            refine Jiinc (z := w14_2) (cz := 1) (ls2 := [some (.ref 3), some (xI 6), some (xI (w14_2 + 1))]) (show mx_Sn _ _ 41 (mx_iinc 2 1 44) from sn_48 41) rfl rfl rfl rfl ?_
            refine mx_J.step (sn_48 44) (fun _ _ => rfl) ?_
            have eq80 : Z77 3 0 = Z 3 0 := ((hf77 3 0 rfl).trans ((hf60 3 0 rfl).trans ((hf48 3 0 rfl).trans ((hf15 3 0 rfl).trans (hf1 3 0 rfl)))))
            have b81 : 2 ≤ Z 3 0 ∧ Z 3 0 ≤ 4 := hG.pr 3 0
            have eq82 : Z77 3 2 = Z60 3 2 := (hf77 3 2 rfl)
            have b83 : 0 ≤ Z60 3 2 ∧ Z60 3 2 ≤ 900 := hG60.pr 3 2
            have eq84 : Z77 3 3 = Z60 3 3 := (hf77 3 3 rfl)
            have b85 : 0 ≤ Z60 3 3 ∧ Z60 3 3 ≤ 900 := hG60.pr 3 3
            have eq86 : Z77 3 4 = Z60 3 4 := (hf77 3 4 rfl)
            have b87 : 0 ≤ Z60 3 4 ∧ Z60 3 4 ≤ 400 := hG60.pr 3 4
            have b88 : 0 ≤ Z77 3 7 ∧ Z77 3 7 ≤ 900 := hG77.pr 3 7
            have eq89 : Z77 3 14 = Z60 3 14 := (hf77 3 14 rfl)
            have b90 : 0 ≤ Z60 3 14 ∧ Z60 3 14 ≤ 4 := hG60.pr 3 14
            have eq91 : Z77 3 3 = Z60 3 3 := (hf77 3 3 rfl)
            have b92 : 0 ≤ Z60 3 3 ∧ Z60 3 3 ≤ 900 := hG60.pr 3 3
            have b93 : 0 ≤ Z77 3 7 ∧ Z77 3 7 ≤ 900 := hG77.pr 3 7
            have eq94 : Z77 3 3 = Z60 3 3 := (hf77 3 3 rfl)
            have b95 : 0 ≤ Z60 3 3 ∧ Z60 3 3 ≤ 900 := hG60.pr 3 3
            have eq96 : Z77 3 4 = Z60 3 4 := (hf77 3 4 rfl)
            have b97 : 0 ≤ Z60 3 4 ∧ Z60 3 4 ≤ 400 := hG60.pr 3 4
            exact ih14 (w14_2 + 1) Z77 h77 (by omega) (by omega) (by omega) (by omega) (by omega) hx77 hG77 (fr_tr (M := [(3, 2), (3, 3), (3, 4), (3, 5), (3, 7), (3, 14), (3, 15), (5, (-1))]) (fr_tr (M := [(3, 2), (3, 3), (3, 4), (3, 5), (3, 7), (3, 14), (3, 15), (5, (-1))]) (fr_tr (M := [(3, 2), (3, 3), (3, 4), (3, 5), (3, 7), (3, 14), (3, 15), (5, (-1))]) (fr_tr (M := [(3, 2), (3, 3), (3, 4), (3, 5), (3, 7), (3, 14), (3, 15), (5, (-1))]) fr_rf (hf15) (M1 := []) rfl rfl) (hf48) rfl rfl) (hf60) rfl rfl) (hf77) rfl rfl)
    have eq98 : Z1 3 0 = Z 3 0 := (hf1 3 0 rfl)
    have b99 : 2 ≤ Z 3 0 ∧ Z 3 0 ≤ 4 := hG.pr 3 0
    have b100 : 0 ≤ Z1 3 2 ∧ Z1 3 2 ≤ 900 := hG1.pr 3 2
    have b101 : 0 ≤ Z1 3 3 ∧ Z1 3 3 ≤ 900 := hG1.pr 3 3
    have b102 : 0 ≤ Z1 3 4 ∧ Z1 3 4 ≤ 400 := hG1.pr 3 4
    have b103 : 0 ≤ Z1 3 7 ∧ Z1 3 7 ≤ 900 := hG1.pr 3 7
    have b104 : 0 ≤ Z1 3 14 ∧ Z1 3 14 ≤ 4 := hG1.pr 3 14
    have b105 : 0 ≤ Z1 3 3 ∧ Z1 3 3 ≤ 900 := hG1.pr 3 3
    have b106 : 0 ≤ Z1 3 7 ∧ Z1 3 7 ≤ 900 := hG1.pr 3 7
    have b107 : 0 ≤ Z1 3 3 ∧ Z1 3 3 ≤ 900 := hG1.pr 3 3
    have b108 : 0 ≤ Z1 3 4 ∧ Z1 3 4 ≤ 400 := hG1.pr 3 4
    exact c7 (Int.toNat (900 - 0) + 1) 0 Z1 h1 (by omega) (by omega) (by omega) (by omega) (by omega) hx1 hG1 fr_rf
theorem ct_48_3_i6 {l : Launch} {D : va_G} {b0 : Nat} {ad : Nat → Nat} {Hb : Heap} {tau : Nat → Int64} {d n s : Nat} {S : Nat → xS} {Z : xZ} {h : mx_H} (hx : XH n s S Z h) (hG : GI n S Z)   (k0 : Z 3 0 = 2) (k1 : (Z 3 3 ≤ Z 3 2 ∧ Z 3 2 ≤ Z 3 1 ∧ (Z 3 4 = 0 ∨ Z 3 4 = 3 ∨ Z 3 3 < Z 3 2) ∧ (Z 3 4 = 3 ∨ Z 3 14 = 0))) : ∃ (Z' : xZ) (h' : mx_H), mx_Ca (tB l D b0 ad Hb tau) (d + 13) 48 [.ref 3, xI 6] h (none, h') ∧ XH n s S Z' h' ∧ GI n S Z' ∧ fr' [(3, 2), (3, 3), (3, 4), (3, 5), (3, 7), (3, 14), (3, 15), (5, (-1))] Z Z' ∧ (((Z' 3 3 ≤ Z' 3 2 ∧ Z' 3 2 ≤ Z 3 1 ∧ (Z' 3 4 = 0 ∨ Z' 3 4 = 3 ∨ Z' 3 3 < Z' 3 2) ∧ (Z' 3 4 = 3 ∨ Z' 3 14 = 0)) ∧ Z 3 3 ≤ Z' 3 3 ∧ Z' 3 7 - Z 3 7 ≤ Z' 3 3 - Z 3 3 ∧ (Z' 3 4 = 3 ∨ Z 3 3 + 1 ≤ Z' 3 3) ∧ (Z 3 4 = 3 → Z' 3 4 = 3))) := by
  obtain ⟨r, hca, Z', h', e, q⟩ := Jmt (B := tB l D b0 ad Hb tau) (M := mt_48) (mi := 48) (as := [.ref 3, xI 6]) (d := d + 12) (ls := [some (.ref 3), some (xI 6), none]) rfl rfl rfl rfl rfl rfl (cw_48_3_i6 (l := l) (D := D) (b0 := b0) (ad := ad) (Hb := Hb) (tau := tau) (d := d) (Post := fun r => ∃ (Z' : xZ) (h' : mx_H), r = (none, h') ∧ XH n s S Z' h' ∧ GI n S Z' ∧ fr' [(3, 2), (3, 3), (3, 4), (3, 5), (3, 7), (3, 14), (3, 15), (5, (-1))] Z Z' ∧ (((Z' 3 3 ≤ Z' 3 2 ∧ Z' 3 2 ≤ Z 3 1 ∧ (Z' 3 4 = 0 ∨ Z' 3 4 = 3 ∨ Z' 3 3 < Z' 3 2) ∧ (Z' 3 4 = 3 ∨ Z' 3 14 = 0)) ∧ Z 3 3 ≤ Z' 3 3 ∧ Z' 3 7 - Z 3 7 ≤ Z' 3 3 - Z 3 3 ∧ (Z' 3 4 = 3 ∨ Z 3 3 + 1 ≤ Z' 3 3) ∧ (Z 3 4 = 3 → Z' 3 4 = 3)))) hx hG k0 k1 (fun Z' h' q1 q2 q3 q4 => ⟨Z', h', rfl, q1, q2, q3, q4⟩))
  subst e; exact ⟨Z', h', hca, q⟩
set_option maxRecDepth 100000 in
theorem cw_47_3_i6 {l : Launch} {D : va_G} {b0 : Nat} {ad : Nat → Nat} {Hb : Heap} {tau : Nat → Int64} {d n s : Nat} {S : Nat → xS} {Z : xZ} {h : mx_H} {Post : mx_R → Prop} (hx : XH n s S Z h) (hG : GI n S Z)   (k0 : Z 3 0 = 2) (k1 : (Z 3 3 ≤ Z 3 2 ∧ Z 3 2 ≤ Z 3 1 ∧ (Z 3 4 = 0 ∨ Z 3 4 = 3 ∨ Z 3 3 < Z 3 2) ∧ (Z 3 4 = 3 ∨ Z 3 14 = 0))) (hP : ∀ (Z' : xZ) (h' : mx_H), XH n s S Z' h' → GI n S Z' → fr' [(3, 2), (3, 3), (3, 4), (3, 5), (3, 7), (3, 14), (3, 15), (5, (-1))] Z Z' → ((Z' 3 3 ≤ Z' 3 2 ∧ Z' 3 2 ≤ Z 3 1 ∧ (Z' 3 4 = 0 ∨ Z' 3 4 = 3 ∨ Z' 3 3 < Z' 3 2) ∧ (Z' 3 4 = 3 ∨ Z' 3 14 = 0)) ∧ Z 3 3 ≤ Z' 3 3 ∧ Z' 3 7 - Z 3 7 ≤ Z' 3 3 - Z 3 3 ∧ (Z' 3 4 = 3 ∨ Z 3 3 + 1 ≤ Z' 3 3) ∧ (Z 3 4 = 3 → Z' 3 4 = 3)) → Post (none, h')) : mx_J (tB l D b0 ad Hb tau) mt_47 (d + 13) 0 [some (.ref 3), some (xI 6), none] [] h Post := by
    have a3 : 3 < n := lt83 (GI_n hG) rfl
    have s3 : S 3 = .inl (7, [2, 0, 0, 0, 0, 0, 2, 0, 2, 2, 0, 2, 0, 0, 0, 0]) := GI_s hG 3 rfl
    refine mx_J.step (sn_47 0) (fun _ _ => rfl) ?_
    refine mx_J.step (sn_47 1) (fun _ _ => rfl) ?_
    have b2 : 2 ≤ Z 3 0 ∧ Z 3 0 ≤ 4 := hG.pr 3 0
    have b3 : 0 ≤ Z 3 1 ∧ Z 3 1 ≤ 900 := hG.pr 3 1
    have b4 : 0 ≤ Z 3 2 ∧ Z 3 2 ≤ 900 := hG.pr 3 2
    have b5 : 0 ≤ Z 3 3 ∧ Z 3 3 ≤ 900 := hG.pr 3 3
    have b6 : 0 ≤ Z 3 4 ∧ Z 3 4 ≤ 400 := hG.pr 3 4
    have b7 : 0 ≤ Z 3 7 ∧ Z 3 7 ≤ 900 := hG.pr 3 7
    have b8 : 0 ≤ Z 3 14 ∧ Z 3 14 ≤ 4 := hG.pr 3 14
    obtain ⟨Z1, h1, hc1, hx1, hG1, hf1, b1⟩ := ct_48_3_i6 (d := d + 0) (l := l) (D := D) (b0 := b0) (ad := ad) (Hb := Hb) (tau := tau) hx hG  (show Z 3 0 = 2 by omega) (show (Z 3 3 ≤ Z 3 2 ∧ Z 3 2 ≤ Z 3 1 ∧ (Z 3 4 = 0 ∨ Z 3 4 = 3 ∨ Z 3 3 < Z 3 2) ∧ (Z 3 4 = 3 ∨ Z 3 14 = 0)) by omega)
    have b9 : 0 ≤ Z1 3 2 ∧ Z1 3 2 ≤ 900 := hG1.pr 3 2
    have b10 : 0 ≤ Z1 3 3 ∧ Z1 3 3 ≤ 900 := hG1.pr 3 3
    have b11 : 0 ≤ Z1 3 4 ∧ Z1 3 4 ≤ 400 := hG1.pr 3 4
    have b12 : 0 ≤ Z1 3 7 ∧ Z1 3 7 ≤ 900 := hG1.pr 3 7
    have b13 : 0 ≤ Z1 3 14 ∧ Z1 3 14 ≤ 4 := hG1.pr 3 14
    refine Jcv0 hx (show mx_Sn _ _ 2 (mx_callv 48 2 7 5) from sn_47 2) a3 s3 hc1 rfl rfl rfl ?_
    refine JcI (z := 0) (show mx_Sn _ _ 5 (mx_const (.int 0) 6) from sn_47 5) rfl ?_
    refine mx_J.step (ls2 := [some (.ref 3), some (xI 6), some (xI 0)]) (sn_47 6) (fun _ _ => rfl) ?_
    have c7 : ∀ (m14 : Nat) (w14_2 : Int) (Z15 : xZ) (h15 : mx_H), 900 - w14_2 < (m14 : Int) → 0 ≤ w14_2 ∧ w14_2 ≤ 900 → (Z15 3 3 ≤ Z15 3 2 ∧ Z15 3 2 ≤ Z 3 1 ∧ (Z15 3 4 = 0 ∨ Z15 3 4 = 3 ∨ Z15 3 3 < Z15 3 2) ∧ (Z15 3 4 = 3 ∨ Z15 3 14 = 0)) → (Z 3 3 ≤ Z15 3 3 ∧ Z15 3 7 - Z 3 7 ≤ Z15 3 3 - Z 3 3 + 0) → ((Z15 3 4 = 3 ∨ Z 3 3 + 1 ≤ Z15 3 3) ∧ (Z 3 4 = 3 → Z15 3 4 = 3)) → XH n s S Z15 h15 → GI n S Z15 → fr' [(3, 2), (3, 3), (3, 4), (3, 5), (3, 7), (3, 14), (3, 15), (5, (-1))] Z1 Z15 → mx_J (tB l D b0 ad Hb tau) mt_47 (d + 13) 7 [some (.ref 3), some (xI 6), some (xI w14_2)] [] h15 Post := by
      intro m14
      induction m14 with
      | zero => intro w14_2 Z15 h15 q14 f14_0 f14_1 f14_2 f14_3 hx15 hG15 hf15; exact absurd q14 (by omega)
      | succ m14 ih14 =>
        intro w14_2 Z15 h15 q14 f14_0 f14_1 f14_2 f14_3 hx15 hG15 hf15
        have eq16 : Z15 3 0 = Z 3 0 := ((hf15 3 0 rfl).trans (hf1 3 0 rfl))
        have b17 : 2 ≤ Z 3 0 ∧ Z 3 0 ≤ 4 := hG.pr 3 0
        have b18 : 0 ≤ Z15 3 2 ∧ Z15 3 2 ≤ 900 := hG15.pr 3 2
        have b19 : 0 ≤ Z15 3 3 ∧ Z15 3 3 ≤ 900 := hG15.pr 3 3
        have b20 : 0 ≤ Z15 3 4 ∧ Z15 3 4 ≤ 400 := hG15.pr 3 4
        have b21 : 0 ≤ Z15 3 7 ∧ Z15 3 7 ≤ 900 := hG15.pr 3 7
        have b22 : 0 ≤ Z15 3 14 ∧ Z15 3 14 ≤ 4 := hG15.pr 3 14
        have b23 : 0 ≤ Z15 3 3 ∧ Z15 3 3 ≤ 900 := hG15.pr 3 3
        have b24 : 0 ≤ Z15 3 7 ∧ Z15 3 7 ≤ 900 := hG15.pr 3 7
        have b25 : 0 ≤ Z15 3 3 ∧ Z15 3 3 ≤ 900 := hG15.pr 3 3
        have b26 : 0 ≤ Z15 3 4 ∧ Z15 3 4 ≤ 400 := hG15.pr 3 4
        refine mx_J.step (sn_47 7) (fun _ _ => rfl) ?_
        refine mx_J.step (sn_47 8) (fun _ _ => rfl) ?_
        have b28 : 0 ≤ Z 3 1 ∧ Z 3 1 ≤ 900 := hG.pr 3 1
        refine JgetI (g := 1) (z := Z 3 1) hx15 (show mx_Sn _ _ 9 (mx_getf 7 1 12) from sn_47 9) a3 s3 rfl rfl ((hf15 3 1 rfl).trans (hf1 3 1 rfl)) ?_
        have c47 : mx_J (tB l D b0 ad Hb tau) mt_47 (d + 13) 47 [some (.ref 3), some (xI 6), some (xI w14_2)] [] h15 Post := by
          have b30 : 0 ≤ Z15 3 2 ∧ Z15 3 2 ≤ 900 := hG15.pr 3 2
          have b31 : 0 ≤ Z15 3 3 ∧ Z15 3 3 ≤ 900 := hG15.pr 3 3
          have b32 : 0 ≤ Z15 3 4 ∧ Z15 3 4 ≤ 400 := hG15.pr 3 4
          have b33 : 0 ≤ Z15 3 7 ∧ Z15 3 7 ≤ 900 := hG15.pr 3 7
          have b34 : 0 ≤ Z15 3 14 ∧ Z15 3 14 ≤ 4 := hG15.pr 3 14
          have eq35 : Z15 3 0 = Z 3 0 := ((hf15 3 0 rfl).trans (hf1 3 0 rfl))
          have b36 : 2 ≤ Z 3 0 ∧ Z 3 0 ≤ 4 := hG.pr 3 0
          have eq37 : Z15 3 1 = Z 3 1 := ((hf15 3 1 rfl).trans (hf1 3 1 rfl))
          have b38 : 0 ≤ Z 3 1 ∧ Z 3 1 ≤ 900 := hG.pr 3 1
          have b39 : 0 ≤ Z15 3 2 ∧ Z15 3 2 ≤ 900 := hG15.pr 3 2
          have b40 : 0 ≤ Z15 3 3 ∧ Z15 3 3 ≤ 900 := hG15.pr 3 3
          have b41 : 0 ≤ Z15 3 4 ∧ Z15 3 4 ≤ 400 := hG15.pr 3 4
          have b42 : 0 ≤ Z15 3 7 ∧ Z15 3 7 ≤ 900 := hG15.pr 3 7
          have b43 : 0 ≤ Z15 3 14 ∧ Z15 3 14 ≤ 4 := hG15.pr 3 14
          exact mx_J.ret (sn_47 47) (fun _ _ => rfl) (hP Z15 h15 hx15 hG15 (fr_tr (M := [(3, 2), (3, 3), (3, 4), (3, 5), (3, 7), (3, 14), (3, 15), (5, (-1))]) (fr_tr (M := [(3, 2), (3, 3), (3, 4), (3, 5), (3, 7), (3, 14), (3, 15), (5, (-1))]) fr_rf (hf1) (M1 := []) rfl rfl) (hf15) rfl rfl) (by omega))
        refine Jicmp_ge (show mx_Sn _ _ 12 (mx_icmp_ge 47 15) from sn_47 12) (by omega) (by omega) (fun q44 => ?_) (fun q44 => ?_)
        · skip
          exact c47 
        · skip
          refine mx_J.step (sn_47 15) (fun _ _ => rfl) ?_
          have b46 : 0 ≤ Z15 3 4 ∧ Z15 3 4 ≤ 400 := hG15.pr 3 4
          refine JgetI (g := 4) (z := Z15 3 4) hx15 (show mx_Sn _ _ 16 (mx_getf 7 4 19) from sn_47 16) a3 s3 rfl rfl rfl ?_
          refine JcI (z := 313) (show mx_Sn _ _ 19 (mx_const (.int 313) 22) from sn_47 19) rfl ?_
          refine Jicmp_ne (show mx_Sn _ _ 22 (mx_icmp_ne 47 25) from sn_47 22) (by omega) (by omega) (fun q47 => ?_) (fun q47 => ?_)
          · skip
            exact c47 
          · skip
            refine mx_J.step (sn_47 25) (fun _ _ => rfl) ?_
            have eq49 : Z15 3 0 = Z 3 0 := ((hf15 3 0 rfl).trans (hf1 3 0 rfl))
            have b50 : 2 ≤ Z 3 0 ∧ Z 3 0 ≤ 4 := hG.pr 3 0
            have eq51 : Z15 3 1 = Z 3 1 := ((hf15 3 1 rfl).trans (hf1 3 1 rfl))
            have b52 : 0 ≤ Z 3 1 ∧ Z 3 1 ≤ 900 := hG.pr 3 1
            have b53 : 0 ≤ Z15 3 2 ∧ Z15 3 2 ≤ 900 := hG15.pr 3 2
            have b54 : 0 ≤ Z15 3 3 ∧ Z15 3 3 ≤ 900 := hG15.pr 3 3
            have b55 : 0 ≤ Z15 3 4 ∧ Z15 3 4 ≤ 400 := hG15.pr 3 4
            have b56 : 0 ≤ Z15 3 14 ∧ Z15 3 14 ≤ 4 := hG15.pr 3 14
            obtain ⟨Z48, h48, hc48, hx48, hG48, hf48, b48⟩ := ct_56_3 (d := d + 7) (l := l) (D := D) (b0 := b0) (ad := ad) (Hb := Hb) (tau := tau) hx15 hG15  (show Z15 3 0 = 2 by first | omega | (simp only [eq49, eq51]; omega)) (show Z15 3 2 ≤ Z15 3 1 by first | omega | (simp only [eq49, eq51]; omega))
            try rw [eq49] at b48
            try rw [eq51] at b48
            have b57 : 0 ≤ Z48 3 2 ∧ Z48 3 2 ≤ 900 := hG48.pr 3 2
            have b58 : 0 ≤ Z48 3 3 ∧ Z48 3 3 ≤ 900 := hG48.pr 3 3
            have b59 : 0 ≤ Z48 3 4 ∧ Z48 3 4 ≤ 400 := hG48.pr 3 4
            refine Jcv0 hx15 (show mx_Sn _ _ 26 (mx_callv 56 1 7 29) from sn_47 26) a3 s3 hc48 rfl rfl rfl ?_
            refine mx_J.step (sn_47 29) (fun _ _ => rfl) ?_
            refine mx_J.step (sn_47 30) (fun _ _ => rfl) ?_
            have eq61 : Z48 3 0 = Z 3 0 := ((hf48 3 0 rfl).trans ((hf15 3 0 rfl).trans (hf1 3 0 rfl)))
            have b62 : 2 ≤ Z 3 0 ∧ Z 3 0 ≤ 4 := hG.pr 3 0
            have eq63 : Z48 3 1 = Z 3 1 := ((hf48 3 1 rfl).trans ((hf15 3 1 rfl).trans (hf1 3 1 rfl)))
            have b64 : 0 ≤ Z 3 1 ∧ Z 3 1 ≤ 900 := hG.pr 3 1
            have b65 : 0 ≤ Z48 3 2 ∧ Z48 3 2 ≤ 900 := hG48.pr 3 2
            have b66 : 0 ≤ Z48 3 3 ∧ Z48 3 3 ≤ 900 := hG48.pr 3 3
            have b67 : 0 ≤ Z48 3 4 ∧ Z48 3 4 ≤ 400 := hG48.pr 3 4
            have eq68 : Z48 3 7 = Z15 3 7 := (hf48 3 7 rfl)
            have b69 : 0 ≤ Z15 3 7 ∧ Z15 3 7 ≤ 900 := hG15.pr 3 7
            have eq70 : Z48 3 14 = Z15 3 14 := (hf48 3 14 rfl)
            have b71 : 0 ≤ Z15 3 14 ∧ Z15 3 14 ≤ 4 := hG15.pr 3 14
            obtain ⟨Z60, h60, hc60, hx60, hG60, hf60, b60⟩ := ct_48_3_i6 (d := d + 0) (l := l) (D := D) (b0 := b0) (ad := ad) (Hb := Hb) (tau := tau) hx48 hG48  (show Z48 3 0 = 2 by first | omega | (simp only [eq61, eq63, eq68, eq70]; omega)) (show (Z48 3 3 ≤ Z48 3 2 ∧ Z48 3 2 ≤ Z48 3 1 ∧ (Z48 3 4 = 0 ∨ Z48 3 4 = 3 ∨ Z48 3 3 < Z48 3 2) ∧ (Z48 3 4 = 3 ∨ Z48 3 14 = 0)) by first | omega | (simp only [eq61, eq63, eq68, eq70]; omega))
            try rw [eq61] at b60
            try rw [eq63] at b60
            try rw [eq68] at b60
            try rw [eq70] at b60
            have b72 : 0 ≤ Z60 3 2 ∧ Z60 3 2 ≤ 900 := hG60.pr 3 2
            have b73 : 0 ≤ Z60 3 3 ∧ Z60 3 3 ≤ 900 := hG60.pr 3 3
            have b74 : 0 ≤ Z60 3 4 ∧ Z60 3 4 ≤ 400 := hG60.pr 3 4
            have b75 : 0 ≤ Z60 3 7 ∧ Z60 3 7 ≤ 900 := hG60.pr 3 7
            have b76 : 0 ≤ Z60 3 14 ∧ Z60 3 14 ≤ 4 := hG60.pr 3 14
            refine Jcv0 hx48 (show mx_Sn _ _ 31 (mx_callv 48 2 7 34) from sn_47 31) a3 s3 hc60 rfl rfl rfl ?_
            refine mx_J.step (sn_47 34) (fun _ _ => rfl) ?_
            refine JcI (z := 1017) (show mx_Sn _ _ 35 (mx_const (.int 1017) 38) from sn_47 35) rfl ?_
            have b78 : 0 ≤ Z60 3 7 ∧ Z60 3 7 ≤ 900 := hG60.pr 3 7
            obtain ⟨Z77, h77, hc77, hx77, hG77, hf77, b77⟩ := ct_52_3_1010 (d := d + 12) (l := l) (D := D) (b0 := b0) (ad := ad) (Hb := Hb) (tau := tau) hx60 hG60 (show 1010 ≤ 1017 ∧ 1017 ≤ 1019 by omega)
            have b79 : 0 ≤ Z77 3 7 ∧ Z77 3 7 ≤ 900 := hG77.pr 3 7
            refine Jcv0 hx60 (show mx_Sn _ _ 38 (mx_callv 52 2 7 41) from sn_47 38) a3 s3 hc77 rfl rfl rfl ?_
            refine Jiinc (z := w14_2) (cz := 1) (ls2 := [some (.ref 3), some (xI 6), some (xI (w14_2 + 1))]) (show mx_Sn _ _ 41 (mx_iinc 2 1 44) from sn_47 41) rfl rfl rfl rfl ?_
            refine mx_J.step (sn_47 44) (fun _ _ => rfl) ?_
            have eq80 : Z77 3 0 = Z 3 0 := ((hf77 3 0 rfl).trans ((hf60 3 0 rfl).trans ((hf48 3 0 rfl).trans ((hf15 3 0 rfl).trans (hf1 3 0 rfl)))))
            have b81 : 2 ≤ Z 3 0 ∧ Z 3 0 ≤ 4 := hG.pr 3 0
            have eq82 : Z77 3 2 = Z60 3 2 := (hf77 3 2 rfl)
            have b83 : 0 ≤ Z60 3 2 ∧ Z60 3 2 ≤ 900 := hG60.pr 3 2
            have eq84 : Z77 3 3 = Z60 3 3 := (hf77 3 3 rfl)
            have b85 : 0 ≤ Z60 3 3 ∧ Z60 3 3 ≤ 900 := hG60.pr 3 3
            have eq86 : Z77 3 4 = Z60 3 4 := (hf77 3 4 rfl)
            have b87 : 0 ≤ Z60 3 4 ∧ Z60 3 4 ≤ 400 := hG60.pr 3 4
            have b88 : 0 ≤ Z77 3 7 ∧ Z77 3 7 ≤ 900 := hG77.pr 3 7
            have eq89 : Z77 3 14 = Z60 3 14 := (hf77 3 14 rfl)
            have b90 : 0 ≤ Z60 3 14 ∧ Z60 3 14 ≤ 4 := hG60.pr 3 14
            have eq91 : Z77 3 3 = Z60 3 3 := (hf77 3 3 rfl)
            have b92 : 0 ≤ Z60 3 3 ∧ Z60 3 3 ≤ 900 := hG60.pr 3 3
            have b93 : 0 ≤ Z77 3 7 ∧ Z77 3 7 ≤ 900 := hG77.pr 3 7
            have eq94 : Z77 3 3 = Z60 3 3 := (hf77 3 3 rfl)
            have b95 : 0 ≤ Z60 3 3 ∧ Z60 3 3 ≤ 900 := hG60.pr 3 3
            have eq96 : Z77 3 4 = Z60 3 4 := (hf77 3 4 rfl)
            have b97 : 0 ≤ Z60 3 4 ∧ Z60 3 4 ≤ 400 := hG60.pr 3 4
            exact ih14 (w14_2 + 1) Z77 h77 (by omega) (by omega) (by omega) (by omega) (by omega) hx77 hG77 (fr_tr (M := [(3, 2), (3, 3), (3, 4), (3, 5), (3, 7), (3, 14), (3, 15), (5, (-1))]) (fr_tr (M := [(3, 2), (3, 3), (3, 4), (3, 5), (3, 7), (3, 14), (3, 15), (5, (-1))]) (fr_tr (M := [(3, 2), (3, 3), (3, 4), (3, 5), (3, 7), (3, 14), (3, 15), (5, (-1))]) (fr_tr (M := [(3, 2), (3, 3), (3, 4), (3, 5), (3, 7), (3, 14), (3, 15), (5, (-1))]) fr_rf (hf15) (M1 := []) rfl rfl) (hf48) rfl rfl) (hf60) rfl rfl) (hf77) rfl rfl)
    have eq98 : Z1 3 0 = Z 3 0 := (hf1 3 0 rfl)
    have b99 : 2 ≤ Z 3 0 ∧ Z 3 0 ≤ 4 := hG.pr 3 0
    have b100 : 0 ≤ Z1 3 2 ∧ Z1 3 2 ≤ 900 := hG1.pr 3 2
    have b101 : 0 ≤ Z1 3 3 ∧ Z1 3 3 ≤ 900 := hG1.pr 3 3
    have b102 : 0 ≤ Z1 3 4 ∧ Z1 3 4 ≤ 400 := hG1.pr 3 4
    have b103 : 0 ≤ Z1 3 7 ∧ Z1 3 7 ≤ 900 := hG1.pr 3 7
    have b104 : 0 ≤ Z1 3 14 ∧ Z1 3 14 ≤ 4 := hG1.pr 3 14
    have b105 : 0 ≤ Z1 3 3 ∧ Z1 3 3 ≤ 900 := hG1.pr 3 3
    have b106 : 0 ≤ Z1 3 7 ∧ Z1 3 7 ≤ 900 := hG1.pr 3 7
    have b107 : 0 ≤ Z1 3 3 ∧ Z1 3 3 ≤ 900 := hG1.pr 3 3
    have b108 : 0 ≤ Z1 3 4 ∧ Z1 3 4 ≤ 400 := hG1.pr 3 4
    exact c7 (Int.toNat (900 - 0) + 1) 0 Z1 h1 (by omega) (by omega) (by omega) (by omega) (by omega) hx1 hG1 fr_rf
theorem ct_47_3_i6 {l : Launch} {D : va_G} {b0 : Nat} {ad : Nat → Nat} {Hb : Heap} {tau : Nat → Int64} {d n s : Nat} {S : Nat → xS} {Z : xZ} {h : mx_H} (hx : XH n s S Z h) (hG : GI n S Z)   (k0 : Z 3 0 = 2) (k1 : (Z 3 3 ≤ Z 3 2 ∧ Z 3 2 ≤ Z 3 1 ∧ (Z 3 4 = 0 ∨ Z 3 4 = 3 ∨ Z 3 3 < Z 3 2) ∧ (Z 3 4 = 3 ∨ Z 3 14 = 0))) : ∃ (Z' : xZ) (h' : mx_H), mx_Ca (tB l D b0 ad Hb tau) (d + 14) 47 [.ref 3, xI 6] h (none, h') ∧ XH n s S Z' h' ∧ GI n S Z' ∧ fr' [(3, 2), (3, 3), (3, 4), (3, 5), (3, 7), (3, 14), (3, 15), (5, (-1))] Z Z' ∧ (((Z' 3 3 ≤ Z' 3 2 ∧ Z' 3 2 ≤ Z 3 1 ∧ (Z' 3 4 = 0 ∨ Z' 3 4 = 3 ∨ Z' 3 3 < Z' 3 2) ∧ (Z' 3 4 = 3 ∨ Z' 3 14 = 0)) ∧ Z 3 3 ≤ Z' 3 3 ∧ Z' 3 7 - Z 3 7 ≤ Z' 3 3 - Z 3 3 ∧ (Z' 3 4 = 3 ∨ Z 3 3 + 1 ≤ Z' 3 3) ∧ (Z 3 4 = 3 → Z' 3 4 = 3))) := by
  obtain ⟨r, hca, Z', h', e, q⟩ := Jmt (B := tB l D b0 ad Hb tau) (M := mt_47) (mi := 47) (as := [.ref 3, xI 6]) (d := d + 13) (ls := [some (.ref 3), some (xI 6), none]) rfl rfl rfl rfl rfl rfl (cw_47_3_i6 (l := l) (D := D) (b0 := b0) (ad := ad) (Hb := Hb) (tau := tau) (d := d) (Post := fun r => ∃ (Z' : xZ) (h' : mx_H), r = (none, h') ∧ XH n s S Z' h' ∧ GI n S Z' ∧ fr' [(3, 2), (3, 3), (3, 4), (3, 5), (3, 7), (3, 14), (3, 15), (5, (-1))] Z Z' ∧ (((Z' 3 3 ≤ Z' 3 2 ∧ Z' 3 2 ≤ Z 3 1 ∧ (Z' 3 4 = 0 ∨ Z' 3 4 = 3 ∨ Z' 3 3 < Z' 3 2) ∧ (Z' 3 4 = 3 ∨ Z' 3 14 = 0)) ∧ Z 3 3 ≤ Z' 3 3 ∧ Z' 3 7 - Z 3 7 ≤ Z' 3 3 - Z 3 3 ∧ (Z' 3 4 = 3 ∨ Z 3 3 + 1 ≤ Z' 3 3) ∧ (Z 3 4 = 3 → Z' 3 4 = 3)))) hx hG k0 k1 (fun Z' h' q1 q2 q3 q4 => ⟨Z', h', rfl, q1, q2, q3, q4⟩))
  subst e; exact ⟨Z', h', hca, q⟩
set_option maxRecDepth 100000 in
theorem cw_46_3_i6 {l : Launch} {D : va_G} {b0 : Nat} {ad : Nat → Nat} {Hb : Heap} {tau : Nat → Int64} {d n s : Nat} {S : Nat → xS} {Z : xZ} {h : mx_H} {Post : mx_R → Prop} (hx : XH n s S Z h) (hG : GI n S Z)   (k0 : Z 3 0 = 2) (k1 : (Z 3 3 ≤ Z 3 2 ∧ Z 3 2 ≤ Z 3 1 ∧ (Z 3 4 = 0 ∨ Z 3 4 = 3 ∨ Z 3 3 < Z 3 2) ∧ (Z 3 4 = 3 ∨ Z 3 14 = 0))) (hP : ∀ (Z' : xZ) (h' : mx_H), XH n s S Z' h' → GI n S Z' → fr' [(3, 2), (3, 3), (3, 4), (3, 5), (3, 7), (3, 14), (3, 15), (5, (-1))] Z Z' → ((Z' 3 3 ≤ Z' 3 2 ∧ Z' 3 2 ≤ Z 3 1 ∧ (Z' 3 4 = 0 ∨ Z' 3 4 = 3 ∨ Z' 3 3 < Z' 3 2) ∧ (Z' 3 4 = 3 ∨ Z' 3 14 = 0)) ∧ Z 3 3 ≤ Z' 3 3 ∧ Z' 3 7 - Z 3 7 ≤ Z' 3 3 - Z 3 3 + 1 ∧ (Z 3 4 = 3 → Z' 3 4 = 3)) → Post (none, h')) : mx_J (tB l D b0 ad Hb tau) mt_46 (d + 14) 0 [some (.ref 3), some (xI 6)] [] h Post := by
    have a3 : 3 < n := lt83 (GI_n hG) rfl
    have s3 : S 3 = .inl (7, [2, 0, 0, 0, 0, 0, 2, 0, 2, 2, 0, 2, 0, 0, 0, 0]) := GI_s hG 3 rfl
    refine mx_J.step (sn_46 0) (fun _ _ => rfl) ?_
    refine mx_J.step (sn_46 1) (fun _ _ => rfl) ?_
    have b2 : 2 ≤ Z 3 0 ∧ Z 3 0 ≤ 4 := hG.pr 3 0
    have b3 : 0 ≤ Z 3 1 ∧ Z 3 1 ≤ 900 := hG.pr 3 1
    have b4 : 0 ≤ Z 3 2 ∧ Z 3 2 ≤ 900 := hG.pr 3 2
    have b5 : 0 ≤ Z 3 3 ∧ Z 3 3 ≤ 900 := hG.pr 3 3
    have b6 : 0 ≤ Z 3 4 ∧ Z 3 4 ≤ 400 := hG.pr 3 4
    have b7 : 0 ≤ Z 3 7 ∧ Z 3 7 ≤ 900 := hG.pr 3 7
    have b8 : 0 ≤ Z 3 14 ∧ Z 3 14 ≤ 4 := hG.pr 3 14
    obtain ⟨Z1, h1, hc1, hx1, hG1, hf1, b1⟩ := ct_47_3_i6 (d := d + 0) (l := l) (D := D) (b0 := b0) (ad := ad) (Hb := Hb) (tau := tau) hx hG  (show Z 3 0 = 2 by omega) (show (Z 3 3 ≤ Z 3 2 ∧ Z 3 2 ≤ Z 3 1 ∧ (Z 3 4 = 0 ∨ Z 3 4 = 3 ∨ Z 3 3 < Z 3 2) ∧ (Z 3 4 = 3 ∨ Z 3 14 = 0)) by omega)
    have b9 : 0 ≤ Z1 3 2 ∧ Z1 3 2 ≤ 900 := hG1.pr 3 2
    have b10 : 0 ≤ Z1 3 3 ∧ Z1 3 3 ≤ 900 := hG1.pr 3 3
    have b11 : 0 ≤ Z1 3 4 ∧ Z1 3 4 ≤ 400 := hG1.pr 3 4
    have b12 : 0 ≤ Z1 3 7 ∧ Z1 3 7 ≤ 900 := hG1.pr 3 7
    have b13 : 0 ≤ Z1 3 14 ∧ Z1 3 14 ≤ 4 := hG1.pr 3 14
    refine Jcv0 hx (show mx_Sn _ _ 2 (mx_callv 47 2 7 5) from sn_46 2) a3 s3 hc1 rfl rfl rfl ?_
    refine mx_J.step (sn_46 5) (fun _ _ => rfl) ?_
    refine JcI (z := 306) (show mx_Sn _ _ 6 (mx_const (.int 306) 9) from sn_46 6) rfl ?_
    have eq15 : Z1 3 0 = Z 3 0 := (hf1 3 0 rfl)
    have b16 : 2 ≤ Z 3 0 ∧ Z 3 0 ≤ 4 := hG.pr 3 0
    have eq17 : Z1 3 1 = Z 3 1 := (hf1 3 1 rfl)
    have b18 : 0 ≤ Z 3 1 ∧ Z 3 1 ≤ 900 := hG.pr 3 1
    have b19 : 0 ≤ Z1 3 2 ∧ Z1 3 2 ≤ 900 := hG1.pr 3 2
    have b20 : 0 ≤ Z1 3 3 ∧ Z1 3 3 ≤ 900 := hG1.pr 3 3
    have b21 : 0 ≤ Z1 3 4 ∧ Z1 3 4 ≤ 400 := hG1.pr 3 4
    have b22 : 0 ≤ Z1 3 7 ∧ Z1 3 7 ≤ 900 := hG1.pr 3 7
    have b23 : 0 ≤ Z1 3 14 ∧ Z1 3 14 ≤ 4 := hG1.pr 3 14
    obtain ⟨Z14, h14, hc14, hx14, hG14, hf14, b14⟩ := ct_53_3 (d := d + 7) (l := l) (D := D) (b0 := b0) (ad := ad) (Hb := Hb) (tau := tau) hx1 hG1 (show 40 ≤ 306 ∧ 306 ≤ 320 by omega) (show Z1 3 0 = 2 by first | omega | (simp only [eq15, eq17]; omega)) (show (Z1 3 3 ≤ Z1 3 2 ∧ Z1 3 2 ≤ Z1 3 1 ∧ (Z1 3 4 = 0 ∨ Z1 3 4 = 3 ∨ Z1 3 3 < Z1 3 2) ∧ (Z1 3 4 = 3 ∨ Z1 3 14 = 0)) by first | omega | (simp only [eq15, eq17]; omega))
    try rw [eq15] at b14
    try rw [eq17] at b14
    have b24 : 0 ≤ Z14 3 2 ∧ Z14 3 2 ≤ 900 := hG14.pr 3 2
    have b25 : 0 ≤ Z14 3 3 ∧ Z14 3 3 ≤ 900 := hG14.pr 3 3
    have b26 : 0 ≤ Z14 3 4 ∧ Z14 3 4 ≤ 400 := hG14.pr 3 4
    have eq27 : Z14 3 7 = Z1 3 7 := (hf14 3 7 rfl)
    have b28 : 0 ≤ Z1 3 7 ∧ Z1 3 7 ≤ 900 := hG1.pr 3 7
    have b29 : 0 ≤ Z14 3 14 ∧ Z14 3 14 ≤ 4 := hG14.pr 3 14
    refine Jcv0 hx1 (show mx_Sn _ _ 9 (mx_callv 53 2 7 12) from sn_46 9) a3 s3 hc14 rfl rfl rfl ?_
    refine mx_J.step (sn_46 12) (fun _ _ => rfl) ?_
    refine mx_J.step (sn_46 13) (fun _ _ => rfl) ?_
    have eq31 : Z14 3 0 = Z 3 0 := ((hf14 3 0 rfl).trans (hf1 3 0 rfl))
    have b32 : 2 ≤ Z 3 0 ∧ Z 3 0 ≤ 4 := hG.pr 3 0
    have eq33 : Z14 3 1 = Z 3 1 := ((hf14 3 1 rfl).trans (hf1 3 1 rfl))
    have b34 : 0 ≤ Z 3 1 ∧ Z 3 1 ≤ 900 := hG.pr 3 1
    have b35 : 0 ≤ Z14 3 2 ∧ Z14 3 2 ≤ 900 := hG14.pr 3 2
    have b36 : 0 ≤ Z14 3 3 ∧ Z14 3 3 ≤ 900 := hG14.pr 3 3
    have b37 : 0 ≤ Z14 3 4 ∧ Z14 3 4 ≤ 400 := hG14.pr 3 4
    have eq38 : Z14 3 7 = Z1 3 7 := (hf14 3 7 rfl)
    have b39 : 0 ≤ Z1 3 7 ∧ Z1 3 7 ≤ 900 := hG1.pr 3 7
    have b40 : 0 ≤ Z14 3 14 ∧ Z14 3 14 ≤ 4 := hG14.pr 3 14
    obtain ⟨Z30, h30, hc30, hx30, hG30, hf30, b30⟩ := ct_42_3_i6 (d := d + 4) (l := l) (D := D) (b0 := b0) (ad := ad) (Hb := Hb) (tau := tau) hx14 hG14  (show Z14 3 0 = 2 by first | omega | (simp only [eq31, eq33, eq38]; omega)) (show (Z14 3 3 ≤ Z14 3 2 ∧ Z14 3 2 ≤ Z14 3 1 ∧ (Z14 3 4 = 0 ∨ Z14 3 4 = 3 ∨ Z14 3 3 < Z14 3 2) ∧ (Z14 3 4 = 3 ∨ Z14 3 14 = 0)) by first | omega | (simp only [eq31, eq33, eq38]; omega))
    try rw [eq31] at b30
    try rw [eq33] at b30
    try rw [eq38] at b30
    have b41 : 0 ≤ Z30 3 2 ∧ Z30 3 2 ≤ 900 := hG30.pr 3 2
    have b42 : 0 ≤ Z30 3 3 ∧ Z30 3 3 ≤ 900 := hG30.pr 3 3
    have b43 : 0 ≤ Z30 3 4 ∧ Z30 3 4 ≤ 400 := hG30.pr 3 4
    have b44 : 0 ≤ Z30 3 7 ∧ Z30 3 7 ≤ 900 := hG30.pr 3 7
    have b45 : 0 ≤ Z30 3 14 ∧ Z30 3 14 ≤ 4 := hG30.pr 3 14
    refine Jcv0 hx14 (show mx_Sn _ _ 14 (mx_callv 42 2 7 17) from sn_46 14) a3 s3 hc30 rfl rfl rfl ?_
    refine mx_J.step (sn_46 17) (fun _ _ => rfl) ?_
    refine JcI (z := 307) (show mx_Sn _ _ 18 (mx_const (.int 307) 21) from sn_46 18) rfl ?_
    have eq47 : Z30 3 0 = Z 3 0 := ((hf30 3 0 rfl).trans ((hf14 3 0 rfl).trans (hf1 3 0 rfl)))
    have b48 : 2 ≤ Z 3 0 ∧ Z 3 0 ≤ 4 := hG.pr 3 0
    have eq49 : Z30 3 1 = Z 3 1 := ((hf30 3 1 rfl).trans ((hf14 3 1 rfl).trans (hf1 3 1 rfl)))
    have b50 : 0 ≤ Z 3 1 ∧ Z 3 1 ≤ 900 := hG.pr 3 1
    have b51 : 0 ≤ Z30 3 2 ∧ Z30 3 2 ≤ 900 := hG30.pr 3 2
    have b52 : 0 ≤ Z30 3 3 ∧ Z30 3 3 ≤ 900 := hG30.pr 3 3
    have b53 : 0 ≤ Z30 3 4 ∧ Z30 3 4 ≤ 400 := hG30.pr 3 4
    have b54 : 0 ≤ Z30 3 7 ∧ Z30 3 7 ≤ 900 := hG30.pr 3 7
    have b55 : 0 ≤ Z30 3 14 ∧ Z30 3 14 ≤ 4 := hG30.pr 3 14
    obtain ⟨Z46, h46, hc46, hx46, hG46, hf46, b46⟩ := ct_53_3 (d := d + 7) (l := l) (D := D) (b0 := b0) (ad := ad) (Hb := Hb) (tau := tau) hx30 hG30 (show 40 ≤ 307 ∧ 307 ≤ 320 by omega) (show Z30 3 0 = 2 by first | omega | (simp only [eq47, eq49]; omega)) (show (Z30 3 3 ≤ Z30 3 2 ∧ Z30 3 2 ≤ Z30 3 1 ∧ (Z30 3 4 = 0 ∨ Z30 3 4 = 3 ∨ Z30 3 3 < Z30 3 2) ∧ (Z30 3 4 = 3 ∨ Z30 3 14 = 0)) by first | omega | (simp only [eq47, eq49]; omega))
    try rw [eq47] at b46
    try rw [eq49] at b46
    have b56 : 0 ≤ Z46 3 2 ∧ Z46 3 2 ≤ 900 := hG46.pr 3 2
    have b57 : 0 ≤ Z46 3 3 ∧ Z46 3 3 ≤ 900 := hG46.pr 3 3
    have b58 : 0 ≤ Z46 3 4 ∧ Z46 3 4 ≤ 400 := hG46.pr 3 4
    have eq59 : Z46 3 7 = Z30 3 7 := (hf46 3 7 rfl)
    have b60 : 0 ≤ Z30 3 7 ∧ Z30 3 7 ≤ 900 := hG30.pr 3 7
    have b61 : 0 ≤ Z46 3 14 ∧ Z46 3 14 ≤ 4 := hG46.pr 3 14
    refine Jcv0 hx30 (show mx_Sn _ _ 21 (mx_callv 53 2 7 24) from sn_46 21) a3 s3 hc46 rfl rfl rfl ?_
    refine mx_J.step (sn_46 24) (fun _ _ => rfl) ?_
    refine mx_J.step (sn_46 25) (fun _ _ => rfl) ?_
    have eq63 : Z46 3 0 = Z 3 0 := ((hf46 3 0 rfl).trans ((hf30 3 0 rfl).trans ((hf14 3 0 rfl).trans (hf1 3 0 rfl))))
    have b64 : 2 ≤ Z 3 0 ∧ Z 3 0 ≤ 4 := hG.pr 3 0
    have eq65 : Z46 3 1 = Z 3 1 := ((hf46 3 1 rfl).trans ((hf30 3 1 rfl).trans ((hf14 3 1 rfl).trans (hf1 3 1 rfl))))
    have b66 : 0 ≤ Z 3 1 ∧ Z 3 1 ≤ 900 := hG.pr 3 1
    have b67 : 0 ≤ Z46 3 2 ∧ Z46 3 2 ≤ 900 := hG46.pr 3 2
    have b68 : 0 ≤ Z46 3 3 ∧ Z46 3 3 ≤ 900 := hG46.pr 3 3
    have b69 : 0 ≤ Z46 3 4 ∧ Z46 3 4 ≤ 400 := hG46.pr 3 4
    have eq70 : Z46 3 7 = Z30 3 7 := (hf46 3 7 rfl)
    have b71 : 0 ≤ Z30 3 7 ∧ Z30 3 7 ≤ 900 := hG30.pr 3 7
    have b72 : 0 ≤ Z46 3 14 ∧ Z46 3 14 ≤ 4 := hG46.pr 3 14
    obtain ⟨Z62, h62, hc62, hx62, hG62, hf62, b62⟩ := ct_42_3_i6 (d := d + 4) (l := l) (D := D) (b0 := b0) (ad := ad) (Hb := Hb) (tau := tau) hx46 hG46  (show Z46 3 0 = 2 by first | omega | (simp only [eq63, eq65, eq70]; omega)) (show (Z46 3 3 ≤ Z46 3 2 ∧ Z46 3 2 ≤ Z46 3 1 ∧ (Z46 3 4 = 0 ∨ Z46 3 4 = 3 ∨ Z46 3 3 < Z46 3 2) ∧ (Z46 3 4 = 3 ∨ Z46 3 14 = 0)) by first | omega | (simp only [eq63, eq65, eq70]; omega))
    try rw [eq63] at b62
    try rw [eq65] at b62
    try rw [eq70] at b62
    have b73 : 0 ≤ Z62 3 2 ∧ Z62 3 2 ≤ 900 := hG62.pr 3 2
    have b74 : 0 ≤ Z62 3 3 ∧ Z62 3 3 ≤ 900 := hG62.pr 3 3
    have b75 : 0 ≤ Z62 3 4 ∧ Z62 3 4 ≤ 400 := hG62.pr 3 4
    have b76 : 0 ≤ Z62 3 7 ∧ Z62 3 7 ≤ 900 := hG62.pr 3 7
    have b77 : 0 ≤ Z62 3 14 ∧ Z62 3 14 ≤ 4 := hG62.pr 3 14
    refine Jcv0 hx46 (show mx_Sn _ _ 26 (mx_callv 42 2 7 29) from sn_46 26) a3 s3 hc62 rfl rfl rfl ?_
    refine mx_J.step (sn_46 29) (fun _ _ => rfl) ?_
    refine JcI (z := 308) (show mx_Sn _ _ 30 (mx_const (.int 308) 33) from sn_46 30) rfl ?_
    have eq79 : Z62 3 0 = Z 3 0 := ((hf62 3 0 rfl).trans ((hf46 3 0 rfl).trans ((hf30 3 0 rfl).trans ((hf14 3 0 rfl).trans (hf1 3 0 rfl)))))
    have b80 : 2 ≤ Z 3 0 ∧ Z 3 0 ≤ 4 := hG.pr 3 0
    have eq81 : Z62 3 1 = Z 3 1 := ((hf62 3 1 rfl).trans ((hf46 3 1 rfl).trans ((hf30 3 1 rfl).trans ((hf14 3 1 rfl).trans (hf1 3 1 rfl)))))
    have b82 : 0 ≤ Z 3 1 ∧ Z 3 1 ≤ 900 := hG.pr 3 1
    have b83 : 0 ≤ Z62 3 2 ∧ Z62 3 2 ≤ 900 := hG62.pr 3 2
    have b84 : 0 ≤ Z62 3 3 ∧ Z62 3 3 ≤ 900 := hG62.pr 3 3
    have b85 : 0 ≤ Z62 3 4 ∧ Z62 3 4 ≤ 400 := hG62.pr 3 4
    have b86 : 0 ≤ Z62 3 7 ∧ Z62 3 7 ≤ 900 := hG62.pr 3 7
    have b87 : 0 ≤ Z62 3 14 ∧ Z62 3 14 ≤ 4 := hG62.pr 3 14
    obtain ⟨Z78, h78, hc78, hx78, hG78, hf78, b78⟩ := ct_53_3 (d := d + 7) (l := l) (D := D) (b0 := b0) (ad := ad) (Hb := Hb) (tau := tau) hx62 hG62 (show 40 ≤ 308 ∧ 308 ≤ 320 by omega) (show Z62 3 0 = 2 by first | omega | (simp only [eq79, eq81]; omega)) (show (Z62 3 3 ≤ Z62 3 2 ∧ Z62 3 2 ≤ Z62 3 1 ∧ (Z62 3 4 = 0 ∨ Z62 3 4 = 3 ∨ Z62 3 3 < Z62 3 2) ∧ (Z62 3 4 = 3 ∨ Z62 3 14 = 0)) by first | omega | (simp only [eq79, eq81]; omega))
    try rw [eq79] at b78
    try rw [eq81] at b78
    have b88 : 0 ≤ Z78 3 2 ∧ Z78 3 2 ≤ 900 := hG78.pr 3 2
    have b89 : 0 ≤ Z78 3 3 ∧ Z78 3 3 ≤ 900 := hG78.pr 3 3
    have b90 : 0 ≤ Z78 3 4 ∧ Z78 3 4 ≤ 400 := hG78.pr 3 4
    have eq91 : Z78 3 7 = Z62 3 7 := (hf78 3 7 rfl)
    have b92 : 0 ≤ Z62 3 7 ∧ Z62 3 7 ≤ 900 := hG62.pr 3 7
    have b93 : 0 ≤ Z78 3 14 ∧ Z78 3 14 ≤ 4 := hG78.pr 3 14
    refine Jcv0 hx62 (show mx_Sn _ _ 33 (mx_callv 53 2 7 36) from sn_46 33) a3 s3 hc78 rfl rfl rfl ?_
    refine mx_J.step (sn_46 36) (fun _ _ => rfl) ?_
    refine JcI (z := 1019) (show mx_Sn _ _ 37 (mx_const (.int 1019) 40) from sn_46 37) rfl ?_
    have eq95 : Z78 3 7 = Z62 3 7 := (hf78 3 7 rfl)
    have b96 : 0 ≤ Z62 3 7 ∧ Z62 3 7 ≤ 900 := hG62.pr 3 7
    obtain ⟨Z94, h94, hc94, hx94, hG94, hf94, b94⟩ := ct_52_3_1010 (d := d + 13) (l := l) (D := D) (b0 := b0) (ad := ad) (Hb := Hb) (tau := tau) hx78 hG78 (show 1010 ≤ 1019 ∧ 1019 ≤ 1019 by omega)
    try rw [eq95] at b94
    have b97 : 0 ≤ Z94 3 7 ∧ Z94 3 7 ≤ 900 := hG94.pr 3 7
    refine Jcv0 hx78 (show mx_Sn _ _ 40 (mx_callv 52 2 7 43) from sn_46 40) a3 s3 hc94 rfl rfl rfl ?_
    have eq98 : Z94 3 2 = Z78 3 2 := (hf94 3 2 rfl)
    have b99 : 0 ≤ Z78 3 2 ∧ Z78 3 2 ≤ 900 := hG78.pr 3 2
    have eq100 : Z94 3 3 = Z78 3 3 := (hf94 3 3 rfl)
    have b101 : 0 ≤ Z78 3 3 ∧ Z78 3 3 ≤ 900 := hG78.pr 3 3
    have eq102 : Z94 3 4 = Z78 3 4 := (hf94 3 4 rfl)
    have b103 : 0 ≤ Z78 3 4 ∧ Z78 3 4 ≤ 400 := hG78.pr 3 4
    have b104 : 0 ≤ Z94 3 7 ∧ Z94 3 7 ≤ 900 := hG94.pr 3 7
    have eq105 : Z94 3 14 = Z78 3 14 := (hf94 3 14 rfl)
    have b106 : 0 ≤ Z78 3 14 ∧ Z78 3 14 ≤ 4 := hG78.pr 3 14
    have eq107 : Z94 3 0 = Z 3 0 := ((hf94 3 0 rfl).trans ((hf78 3 0 rfl).trans ((hf62 3 0 rfl).trans ((hf46 3 0 rfl).trans ((hf30 3 0 rfl).trans ((hf14 3 0 rfl).trans (hf1 3 0 rfl)))))))
    have b108 : 2 ≤ Z 3 0 ∧ Z 3 0 ≤ 4 := hG.pr 3 0
    have eq109 : Z94 3 1 = Z 3 1 := ((hf94 3 1 rfl).trans ((hf78 3 1 rfl).trans ((hf62 3 1 rfl).trans ((hf46 3 1 rfl).trans ((hf30 3 1 rfl).trans ((hf14 3 1 rfl).trans (hf1 3 1 rfl)))))))
    have b110 : 0 ≤ Z 3 1 ∧ Z 3 1 ≤ 900 := hG.pr 3 1
    have eq111 : Z94 3 2 = Z78 3 2 := (hf94 3 2 rfl)
    have b112 : 0 ≤ Z78 3 2 ∧ Z78 3 2 ≤ 900 := hG78.pr 3 2
    have eq113 : Z94 3 3 = Z78 3 3 := (hf94 3 3 rfl)
    have b114 : 0 ≤ Z78 3 3 ∧ Z78 3 3 ≤ 900 := hG78.pr 3 3
    have eq115 : Z94 3 4 = Z78 3 4 := (hf94 3 4 rfl)
    have b116 : 0 ≤ Z78 3 4 ∧ Z78 3 4 ≤ 400 := hG78.pr 3 4
    have b117 : 0 ≤ Z94 3 7 ∧ Z94 3 7 ≤ 900 := hG94.pr 3 7
    have eq118 : Z94 3 14 = Z78 3 14 := (hf94 3 14 rfl)
    have b119 : 0 ≤ Z78 3 14 ∧ Z78 3 14 ≤ 4 := hG78.pr 3 14
    exact mx_J.ret (sn_46 43) (fun _ _ => rfl) (hP Z94 h94 hx94 hG94 (fr_tr (M := [(3, 2), (3, 3), (3, 4), (3, 5), (3, 7), (3, 14), (3, 15), (5, (-1))]) (fr_tr (M := [(3, 2), (3, 3), (3, 4), (3, 5), (3, 7), (3, 14), (3, 15), (5, (-1))]) (fr_tr (M := [(3, 2), (3, 3), (3, 4), (3, 5), (3, 7), (3, 14), (3, 15), (5, (-1))]) (fr_tr (M := [(3, 2), (3, 3), (3, 4), (3, 5), (3, 7), (3, 14), (3, 15), (5, (-1))]) (fr_tr (M := [(3, 2), (3, 3), (3, 4), (3, 5), (3, 7), (3, 14), (3, 15), (5, (-1))]) (fr_tr (M := [(3, 2), (3, 3), (3, 4), (3, 5), (3, 7), (3, 14), (3, 15), (5, (-1))]) (fr_tr (M := [(3, 2), (3, 3), (3, 4), (3, 5), (3, 7), (3, 14), (3, 15), (5, (-1))]) fr_rf (hf1) (M1 := []) rfl rfl) (hf14) rfl rfl) (hf30) rfl rfl) (hf46) rfl rfl) (hf62) rfl rfl) (hf78) rfl rfl) (hf94) rfl rfl) (by omega))
theorem ct_46_3_i6 {l : Launch} {D : va_G} {b0 : Nat} {ad : Nat → Nat} {Hb : Heap} {tau : Nat → Int64} {d n s : Nat} {S : Nat → xS} {Z : xZ} {h : mx_H} (hx : XH n s S Z h) (hG : GI n S Z)   (k0 : Z 3 0 = 2) (k1 : (Z 3 3 ≤ Z 3 2 ∧ Z 3 2 ≤ Z 3 1 ∧ (Z 3 4 = 0 ∨ Z 3 4 = 3 ∨ Z 3 3 < Z 3 2) ∧ (Z 3 4 = 3 ∨ Z 3 14 = 0))) : ∃ (Z' : xZ) (h' : mx_H), mx_Ca (tB l D b0 ad Hb tau) (d + 15) 46 [.ref 3, xI 6] h (none, h') ∧ XH n s S Z' h' ∧ GI n S Z' ∧ fr' [(3, 2), (3, 3), (3, 4), (3, 5), (3, 7), (3, 14), (3, 15), (5, (-1))] Z Z' ∧ (((Z' 3 3 ≤ Z' 3 2 ∧ Z' 3 2 ≤ Z 3 1 ∧ (Z' 3 4 = 0 ∨ Z' 3 4 = 3 ∨ Z' 3 3 < Z' 3 2) ∧ (Z' 3 4 = 3 ∨ Z' 3 14 = 0)) ∧ Z 3 3 ≤ Z' 3 3 ∧ Z' 3 7 - Z 3 7 ≤ Z' 3 3 - Z 3 3 + 1 ∧ (Z 3 4 = 3 → Z' 3 4 = 3))) := by
  obtain ⟨r, hca, Z', h', e, q⟩ := Jmt (B := tB l D b0 ad Hb tau) (M := mt_46) (mi := 46) (as := [.ref 3, xI 6]) (d := d + 14) (ls := [some (.ref 3), some (xI 6)]) rfl rfl rfl rfl rfl rfl (cw_46_3_i6 (l := l) (D := D) (b0 := b0) (ad := ad) (Hb := Hb) (tau := tau) (d := d) (Post := fun r => ∃ (Z' : xZ) (h' : mx_H), r = (none, h') ∧ XH n s S Z' h' ∧ GI n S Z' ∧ fr' [(3, 2), (3, 3), (3, 4), (3, 5), (3, 7), (3, 14), (3, 15), (5, (-1))] Z Z' ∧ (((Z' 3 3 ≤ Z' 3 2 ∧ Z' 3 2 ≤ Z 3 1 ∧ (Z' 3 4 = 0 ∨ Z' 3 4 = 3 ∨ Z' 3 3 < Z' 3 2) ∧ (Z' 3 4 = 3 ∨ Z' 3 14 = 0)) ∧ Z 3 3 ≤ Z' 3 3 ∧ Z' 3 7 - Z 3 7 ≤ Z' 3 3 - Z 3 3 + 1 ∧ (Z 3 4 = 3 → Z' 3 4 = 3)))) hx hG k0 k1 (fun Z' h' q1 q2 q3 q4 => ⟨Z', h', rfl, q1, q2, q3, q4⟩))
  subst e; exact ⟨Z', h', hca, q⟩
