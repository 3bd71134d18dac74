set_option maxRecDepth 100000 in
theorem cw_178_56 {l : Launch} {D : va_G} {b0 : Nat} {ad : Nat → Nat} {Hb : Heap} {tau : Nat → Int64} {d n s : Nat} {S : Nat → xS} {Z : xZ} {h : mx_H} {Post : mx_R → Prop} {T : Int → Int} {N : Int} {sg : SS} (hx : XH n s S Z h) (hG : GI n S Z)   (k0 : (Z 56 6 ≤ Z 56 7 ∧ Z 56 7 ≤ Z 56 8 ∧ (Z 56 9 = 24 ∨ Z 56 6 < Z 56 7))) (k1 : Z 60 61 ≤ Z 56 6) (k2 : (Z 60 2 ≤ Z 60 1 ∧ Z 60 1 ≤ 18 * Z 60 2)) (k3 : ¬ Z 56 9 = 24) (k4 : Z 56 11 = 0) (hr : RMx T N Z sg) (hP : ∀ (Z' : xZ) (h' : mx_H), XH n s S Z' h' → GI n S Z' → fr' [(56, 6), (56, 7), (56, 9), (56, 10), (56, 11), (56, 12), (60, (-1))] Z Z' → RMx T N Z' (lhS T N sg (Z 60 1)) ∧ LYM T N sg (Z 60 1) (Z' 60 1) ∧ ((Z' 56 6 ≤ Z' 56 7 ∧ Z' 56 7 ≤ Z 56 8 ∧ (Z' 56 9 = 24 ∨ Z' 56 6 < Z' 56 7)) ∧ Z' 60 0 = Z 60 0 ∧ Z 56 6 ≤ Z' 56 6 ∧ Z' 60 61 ≤ Z' 56 6 ∧ Z' 60 2 ≤ Z' 60 1 ∧ Z' 60 1 ≤ 18 * Z' 60 2 ∧ (Z' 56 11 = 0 → Z 56 11 = 0 ∧ Z 56 6 + 1 ≤ Z' 56 6 ∧ (WFF Z = 1 → WFF Z' = 1))) → Post (none, h')) : mx_J (tB l D b0 ad Hb tau) mt_178 (d + 7) 0 [some (.ref 56), none] [] h Post := by
    have a56 : 56 < n := lt83 (GI_n hG) rfl
    have s56 : S 56 = .inl (12, [0, 2, 2, 2, 2, 0, 0, 0, 0, 0, 0, 0, 0, 0, 0, 2, 2, 2, 0, 2, 2, 2, 0, 0, 2, 2, 2, 2, 2, 2, 0, 0, 2, 2, 2, 2, 2, 2, 2, 2, 2, 2]) := GI_s hG 56 rfl
    have a60 : 60 < n := lt83 (GI_n hG) rfl
    have s60 : S 60 = .inr (.int, 962, 0) := GI_s hG 60 rfl
    refine mx_J.step (sn_178 0) (fun _ _ => rfl) ?_
    have b2 : 0 ≤ Z 56 7 ∧ Z 56 7 ≤ 900 := hG.pr 56 7
    have b3 : 0 ≤ Z 56 8 ∧ Z 56 8 ≤ 900 := hG.pr 56 8
    have b4 : 0 ≤ Z 56 11 ∧ Z 56 11 ≤ 4 := hG.pr 56 11
    obtain ⟨Z1, h1, hc1, hx1, hG1, hf1, b1⟩ := ct_162_56rx (T := T) (N := N) (sg := sg) (d := d + 1) (l := l) (D := D) (b0 := b0) (ad := ad) (Hb := Hb) (tau := tau) hx hG  (show Z 56 7 ≤ Z 56 8 by omega) (show Z 56 11 = 0 by omega) hr
    obtain ⟨br1, b1⟩ := b1
    have b5 : 0 ≤ Z1 56 6 ∧ Z1 56 6 ≤ 900 := hG1.pr 56 6
    have b6 : 0 ≤ Z1 56 7 ∧ Z1 56 7 ≤ 900 := hG1.pr 56 7
    have b7 : 0 ≤ Z1 56 9 ∧ Z1 56 9 ≤ 100 := hG1.pr 56 9
    refine Jcv0 hx (show mx_Sn _ _ 1 (mx_callv 162 1 12 4) from sn_178 1) a56 s56 hc1 rfl rfl rfl ?_
    refine mx_J.step (sn_178 4) (fun _ _ => rfl) ?_
    refine JcI (z := 1) (show mx_Sn _ _ 5 (mx_const (.int 1) 6) from sn_178 5) rfl ?_
    refine JcI (z := 18) (show mx_Sn _ _ 6 (mx_const (.int 18) 8) from sn_178 6) rfl ?_
    refine mx_J.step (sn_178 8) (fun _ _ => rfl) ?_
    refine JgetR (g := 4) (b := 60) hx1 (show mx_Sn _ _ 9 (mx_getf 12 4 12) from sn_178 9) a56 s56 rfl rfl (hG1.prr 56 4 rfl) ?_
    refine JcI (z := 1) (show mx_Sn _ _ 12 (mx_const (.int 1) 13) from sn_178 12) rfl ?_
    have b9 : 0 ≤ Z 60 1 ∧ Z 60 1 ≤ 18 := by have hq := GI_ex hG 60 1; replace hq : f60 (1 % 962) (Z 60 1) := hq; unfold f60 at hq; omega
    have b10 : (-2147483648) ≤ Z 60 1 ∧ Z 60 1 ≤ 2147483647 := hG.pr 60 1
    refine JialdI (z := Z 60 1) hx1 (show mx_Sn _ _ 13 (mx_iald 14) from sn_178 13) a60 s60 (by omega) (hf1 60 1 rfl) ?_
    refine Jisub (show mx_Sn _ _ 14 (mx_isub 15) from sn_178 14) ?_
    have eq12 : Z1 56 8 = Z 56 8 := (hf1 56 8 rfl)
    have eq13 : Z1 56 11 = Z 56 11 := (hf1 56 11 rfl)
    have b14 : 0 ≤ Z1 56 10 ∧ Z1 56 10 ≤ 999 := hG1.pr 56 10
    obtain ⟨z11, Z11, h11, hc11, hx11, hG11, hf11, b11⟩ := ct_166_56x (T := T) (N := N) (sg := gAd T N sg) (d := d + 0) (l := l) (D := D) (b0 := b0) (ad := ad) (Hb := Hb) (tau := tau) hx1 hG1 (show 0 ≤ 1 ∧ 1 ≤ 1 by omega) (show 0 ≤ 18 - (Z 60 1) ∧ 18 - (Z 60 1) ≤ 18 by omega) (show (Z1 56 6 ≤ Z1 56 7 ∧ Z1 56 7 ≤ Z1 56 8 ∧ (Z1 56 9 = 24 ∨ Z1 56 6 < Z1 56 7)) by first | omega | (simp only [eq12, eq13]; omega)) br1
    try rw [eq12] at b11
    try rw [eq13] at b11
    obtain ⟨br11, b11⟩ := b11
    obtain ⟨bs11_0, b11⟩ := b11
    have b15 : 0 ≤ Z11 56 6 ∧ Z11 56 6 ≤ 900 := hG11.pr 56 6
    have b16 : 0 ≤ Z11 56 7 ∧ Z11 56 7 ≤ 900 := hG11.pr 56 7
    have b17 : 0 ≤ Z11 56 9 ∧ Z11 56 9 ≤ 100 := hG11.pr 56 9
    have b18 : 0 ≤ Z11 56 11 ∧ Z11 56 11 ≤ 4 := hG11.pr 56 11
    refine Jcv hx1 (show mx_Sn _ _ 15 (mx_callv 166 3 12 18) from sn_178 15) a56 s56 hc11 rfl rfl rfl ?_
    refine mx_J.step (ls2 := [some (.ref 56), some (xI z11)]) (sn_178 18) (fun _ _ => rfl) ?_
    refine mx_J.step (sn_178 19) (fun _ _ => rfl) ?_
    refine JgetI (g := 11) (z := Z11 56 11) hx11 (show mx_Sn _ _ 20 (mx_getf 12 11 23) from sn_178 20) a56 s56 rfl rfl rfl ?_
    have jp := RMx_p br11
    refine Jif_eq (show mx_Sn _ _ 23 (mx_if_eq 27 26) from sn_178 23) (by omega) (fun q20 => ?_) (fun q20 => ?_)
    · skip
      refine mx_J.step (sn_178 27) (fun _ _ => rfl) ?_
      refine JgetR (g := 4) (b := 60) hx11 (show mx_Sn _ _ 28 (mx_getf 12 4 31) from sn_178 28) a56 s56 rfl rfl (hG11.prr 56 4 rfl) ?_
      refine JcI (z := 3) (show mx_Sn _ _ 31 (mx_const (.int 3) 32) from sn_178 31) rfl ?_
      refine mx_J.step (sn_178 32) (fun _ _ => rfl) ?_
      refine JgetR (g := 4) (b := 60) hx11 (show mx_Sn _ _ 33 (mx_getf 12 4 36) from sn_178 33) a56 s56 rfl rfl (hG11.prr 56 4 rfl) ?_
      refine JcI (z := 2) (show mx_Sn _ _ 36 (mx_const (.int 2) 37) from sn_178 36) rfl ?_
      have b23 : 0 ≤ Z 60 2 ∧ Z 60 2 ≤ 18 := by have hq := GI_ex hG 60 2; replace hq : f60 (2 % 962) (Z 60 2) := hq; unfold f60 at hq; omega
      have b24 : (-2147483648) ≤ Z 60 2 ∧ Z 60 2 ≤ 2147483647 := hG.pr 60 2
      refine JialdI (z := Z 60 2) hx11 (show mx_Sn _ _ 37 (mx_iald 38) from sn_178 37) a60 s60 (by omega) ((hf11 60 2 rfl).trans (hf1 60 2 rfl)) ?_
      refine Jiadd (show mx_Sn _ _ 38 (mx_iadd 39) from sn_178 38) ?_
      refine mx_J.step (sn_178 39) (fun _ _ => rfl) ?_
      have eq25 : WFF Z11  = WFF Z := ((WFF_c (fun i => hf11 60 i rfl)).trans (WFF_c (fun i => hf1 60 i rfl)))
      refine JiastI hx11 (show mx_Sn _ _ 40 (mx_iast 1 41) from sn_178 40) a60 s60 rfl (by omega) (fun Z26 h26 hx26 hE26 => ?_)
      have hG26 := GI_up hG11 hE26 (show (-2147483648) ≤ z11 ∧ z11 ≤ 2147483647 by omega) (show f60 ((3 + (Z 60 2)) % 962) (z11) by first | (rw [Int.emod_eq_of_lt (by omega) (by omega)]; unfold f60; omega) | assumption | (unfold f60; omega) | (unfold f60 at *; omega)) rfl
      have wo1 := wf_o hE26 (by omega)
      refine mx_J.step (sn_178 41) (fun _ _ => rfl) ?_
      refine JgetR (g := 4) (b := 60) hx26 (show mx_Sn _ _ 42 (mx_getf 12 4 45) from sn_178 42) a56 s56 rfl rfl (hG26.prr 56 4 rfl) ?_
      refine JcI (z := 2) (show mx_Sn _ _ 45 (mx_const (.int 2) 46) from sn_178 45) rfl ?_
      refine mx_J.step (sn_178 46) (fun _ _ => rfl) ?_
      refine JialdI (z := Z 60 2) hx26 (show mx_Sn _ _ 47 (mx_iald 48) from sn_178 47) a60 s60 (by omega) ((up_ni hE26 (by omega)).trans ((hf11 60 2 rfl).trans (hf1 60 2 rfl))) ?_
      refine JcI (z := 1) (show mx_Sn _ _ 48 (mx_const (.int 1) 49) from sn_178 48) rfl ?_
      refine Jiadd (show mx_Sn _ _ 49 (mx_iadd 50) from sn_178 49) ?_
      refine JiastI hx26 (show mx_Sn _ _ 50 (mx_iast 1 51) from sn_178 50) a60 s60 rfl (by omega) (fun Z28 h28 hx28 hE28 => ?_)
      have hG28 := GI_up hG26 hE28 (show (-2147483648) ≤ (Z 60 2) + 1 ∧ (Z 60 2) + 1 ≤ 2147483647 by omega) (show f60 ((2) % 962) ((Z 60 2) + 1) by first | assumption | (unfold f60; omega) | (unfold f60 at *; omega)) rfl
      have wo2 := wf_o hE28 (by omega)
      refine mx_J.step (sn_178 51) (fun _ _ => rfl) ?_
      refine JgetR (g := 4) (b := 60) hx28 (show mx_Sn _ _ 52 (mx_getf 12 4 55) from sn_178 52) a56 s56 rfl rfl (hG28.prr 56 4 rfl) ?_
      refine JcI (z := 1) (show mx_Sn _ _ 55 (mx_const (.int 1) 56) from sn_178 55) rfl ?_
      refine mx_J.step (sn_178 56) (fun _ _ => rfl) ?_
      refine JialdI (z := Z 60 1) hx28 (show mx_Sn _ _ 57 (mx_iald 58) from sn_178 57) a60 s60 (by omega) ((up_ni hE28 (by decide)).trans ((up_ni hE26 (by omega)).trans ((hf11 60 1 rfl).trans (hf1 60 1 rfl)))) ?_
      refine mx_J.step (sn_178 58) (fun _ _ => rfl) ?_
      refine Jiadd (show mx_Sn _ _ 59 (mx_iadd 60) from sn_178 59) ?_
      refine JiastI hx28 (show mx_Sn _ _ 60 (mx_iast 1 61) from sn_178 60) a60 s60 rfl (by omega) (fun Z30 h30 hx30 hE30 => ?_)
      have hG30 := GI_up hG28 hE30 (show (-2147483648) ≤ (Z 60 1) + z11 ∧ (Z 60 1) + z11 ≤ 2147483647 by omega) (show f60 ((1) % 962) ((Z 60 1) + z11) by first | assumption | (unfold f60; omega) | (unfold f60 at *; omega)) rfl
      have wo3 := wf_o hE30 (by omega)
      have eq31 : Z30 56 6 = Z11 56 6 := ((up_nk hE30 rfl).trans ((up_nk hE28 rfl).trans (up_nk hE26 rfl)))
      have eq32 : Z30 56 7 = Z11 56 7 := ((up_nk hE30 rfl).trans ((up_nk hE28 rfl).trans (up_nk hE26 rfl)))
      have eq33 : Z30 56 9 = Z11 56 9 := ((up_nk hE30 rfl).trans ((up_nk hE28 rfl).trans (up_nk hE26 rfl)))
      have eq34 : Z30 56 11 = Z11 56 11 := ((up_nk hE30 rfl).trans ((up_nk hE28 rfl).trans (up_nk hE26 rfl)))
      have eq35 : Z30 60 61 = Z 60 61 := ((up_ni hE30 (by decide)).trans ((up_ni hE28 (by decide)).trans ((up_ni hE26 (by omega)).trans ((hf11 60 61 rfl).trans (hf1 60 61 rfl)))))
      have b36 : 0 ≤ Z 60 61 ∧ Z 60 61 ≤ 900 := by have hq := GI_ex hG 60 61; replace hq : f60 (61 % 962) (Z 60 61) := hq; unfold f60 at hq; omega
      have b37 : (-2147483648) ≤ Z 60 61 ∧ Z 60 61 ≤ 2147483647 := hG.pr 60 61
      have eq38 : Z30 60 0 = Z 60 0 := ((up_ni hE30 (by decide)).trans ((up_ni hE28 (by decide)).trans ((up_ni hE26 (by omega)).trans ((hf11 60 0 rfl).trans (hf1 60 0 rfl)))))
      have b39 : (-2147483648) ≤ Z 60 0 ∧ Z 60 0 ≤ 2147483647 := hG.pr 60 0
      have eq40 : Z30 60 1 = (Z 60 1) + z11 := (up_at hE30)
      have eq41 : Z30 60 2 = (Z 60 2) + 1 := ((up_ni hE30 (by decide)).trans (up_at hE28))
      have eq42 : Z30 56 6 = Z11 56 6 := ((up_nk hE30 rfl).trans ((up_nk hE28 rfl).trans (up_nk hE26 rfl)))
      have eq43 : Z30 56 7 = Z11 56 7 := ((up_nk hE30 rfl).trans ((up_nk hE28 rfl).trans (up_nk hE26 rfl)))
      have eq44 : Z30 56 8 = Z 56 8 := ((up_nk hE30 rfl).trans ((up_nk hE28 rfl).trans ((up_nk hE26 rfl).trans ((hf11 56 8 rfl).trans (hf1 56 8 rfl)))))
      have eq45 : Z30 56 9 = Z11 56 9 := ((up_nk hE30 rfl).trans ((up_nk hE28 rfl).trans (up_nk hE26 rfl)))
      have eq46 : Z30 56 11 = Z11 56 11 := ((up_nk hE30 rfl).trans ((up_nk hE28 rfl).trans (up_nk hE26 rfl)))
      have eq47 : Z30 60 61 = Z 60 61 := ((up_ni hE30 (by decide)).trans ((up_ni hE28 (by decide)).trans ((up_ni hE26 (by omega)).trans ((hf11 60 61 rfl).trans (hf1 60 61 rfl)))))
      have eq48 : Z30 60 0 = Z 60 0 := ((up_ni hE30 (by decide)).trans ((up_ni hE28 (by decide)).trans ((up_ni hE26 (by omega)).trans ((hf11 60 0 rfl).trans (hf1 60 0 rfl)))))
      have eq49 : Z30 60 1 = (Z 60 1) + z11 := (up_at hE30)
      have eq50 : Z30 60 2 = (Z 60 2) + 1 := ((up_ni hE30 (by decide)).trans (up_at hE28))
      have rc51 : RMx T N Z26 (gTk T N 1 (18 - (Z 60 1)) (gAd T N sg)) := RMx_c br11 ⟨(up_nk hE26 rfl), (up_nk hE26 rfl), (up_nk hE26 rfl), (up_nk hE26 rfl), (up_nk hE26 rfl), (up_nk hE26 rfl), (up_nk hE26 rfl), fun i => (up_nk hE26 rfl)⟩ (up_ni hE26 (by omega)) (fun i h62 => (up_ni hE26 (by omega))) trivial
      have rc52 : RMx T N Z28 (gTk T N 1 (18 - (Z 60 1)) (gAd T N sg)) := RMx_c rc51 ⟨(up_nk hE28 rfl), (up_nk hE28 rfl), (up_nk hE28 rfl), (up_nk hE28 rfl), (up_nk hE28 rfl), (up_nk hE28 rfl), (up_nk hE28 rfl), fun i => (up_nk hE28 rfl)⟩ (up_ni hE28 (by decide)) (fun i h62 => (up_ni hE28 (by omega))) trivial
      have rc53 : RMx T N Z30 (gTk T N 1 (18 - (Z 60 1)) (gAd T N sg)) := RMx_c rc52 ⟨(up_nk hE30 rfl), (up_nk hE30 rfl), (up_nk hE30 rfl), (up_nk hE30 rfl), (up_nk hE30 rfl), (up_nk hE30 rfl), (up_nk hE30 rfl), fun i => (up_nk hE30 rfl)⟩ (up_ni hE30 (by decide)) (fun i h62 => (up_ni hE30 (by omega))) trivial
      exact mx_J.ret (sn_178 61) (fun _ _ => rfl) (hP Z30 h30 hx30 hG30 (fr_tr (M := [(56, 6), (56, 7), (56, 9), (56, 10), (56, 11), (56, 12), (60, (-1))]) (fr_tr (M := [(56, 6), (56, 7), (56, 9), (56, 10), (56, 11), (56, 12), (60, (-1))]) (fr_tr (M := [(56, 6), (56, 7), (56, 9), (56, 10), (56, 11), (56, 12), (60, (-1))]) (fr_tr (M := [(56, 6), (56, 7), (56, 9), (56, 10), (56, 11), (56, 12), (60, (-1))]) (fr_tr (M := [(56, 6), (56, 7), (56, 9), (56, 10), (56, 11), (56, 12), (60, (-1))]) fr_rf (hf1) (M1 := []) rfl rfl) (hf11) rfl rfl) (fr_ua hE26) rfl rfl) (fr_ua hE28) rfl rfl) (fr_ua hE30) rfl rfl) ⟨(RMx_e rc53 (rfl)), (LYM_h (by assumption) (up_at hE30)), by omega⟩)
    · skip
      have eq54 : Z11 60 61 = Z 60 61 := ((hf11 60 61 rfl).trans (hf1 60 61 rfl))
      have b55 : 0 ≤ Z 60 61 ∧ Z 60 61 ≤ 900 := by have hq := GI_ex hG 60 61; replace hq : f60 (61 % 962) (Z 60 61) := hq; unfold f60 at hq; omega
      have b56 : (-2147483648) ≤ Z 60 61 ∧ Z 60 61 ≤ 2147483647 := hG.pr 60 61
      have eq57 : Z11 60 0 = Z 60 0 := ((hf11 60 0 rfl).trans (hf1 60 0 rfl))
      have b58 : (-2147483648) ≤ Z 60 0 ∧ Z 60 0 ≤ 2147483647 := hG.pr 60 0
      have eq59 : Z11 60 1 = Z 60 1 := ((hf11 60 1 rfl).trans (hf1 60 1 rfl))
      have eq60 : Z11 60 2 = Z 60 2 := ((hf11 60 2 rfl).trans (hf1 60 2 rfl))
      have b61 : 0 ≤ Z 60 2 ∧ Z 60 2 ≤ 18 := by have hq := GI_ex hG 60 2; replace hq : f60 (2 % 962) (Z 60 2) := hq; unfold f60 at hq; omega
      have b62 : (-2147483648) ≤ Z 60 2 ∧ Z 60 2 ≤ 2147483647 := hG.pr 60 2
      have eq63 : WFF Z11  = WFF Z := ((WFF_c (fun i => hf11 60 i rfl)).trans (WFF_c (fun i => hf1 60 i rfl)))
      have eq64 : Z11 56 8 = Z 56 8 := ((hf11 56 8 rfl).trans (hf1 56 8 rfl))
      have eq65 : Z11 60 61 = Z 60 61 := ((hf11 60 61 rfl).trans (hf1 60 61 rfl))
      have eq66 : Z11 60 0 = Z 60 0 := ((hf11 60 0 rfl).trans (hf1 60 0 rfl))
      have eq67 : Z11 60 1 = Z 60 1 := ((hf11 60 1 rfl).trans (hf1 60 1 rfl))
      have eq68 : Z11 60 2 = Z 60 2 := ((hf11 60 2 rfl).trans (hf1 60 2 rfl))
      have eq69 : WFF Z11  = WFF Z := ((WFF_c (fun i => hf11 60 i rfl)).trans (WFF_c (fun i => hf1 60 i rfl)))
      exact mx_J.ret (sn_178 26) (fun _ _ => rfl) (hP Z11 h11 hx11 hG11 (fr_tr (M := [(56, 6), (56, 7), (56, 9), (56, 10), (56, 11), (56, 12), (60, (-1))]) (fr_tr (M := [(56, 6), (56, 7), (56, 9), (56, 10), (56, 11), (56, 12), (60, (-1))]) fr_rf (hf1) (M1 := []) rfl rfl) (hf11) rfl rfl) ⟨(RMx_e br11 (rfl)), (LYM_d (fun q => by have := jp.1.mpr q; omega)), by omega⟩)
theorem ct_178_56 {l : Launch} {D : va_G} {b0 : Nat} {ad : Nat → Nat} {Hb : Heap} {tau : Nat → Int64} {d n s : Nat} {S : Nat → xS} {Z : xZ} {h : mx_H} {T : Int → Int} {N : Int} {sg : SS} (hx : XH n s S Z h) (hG : GI n S Z)   (k0 : (Z 56 6 ≤ Z 56 7 ∧ Z 56 7 ≤ Z 56 8 ∧ (Z 56 9 = 24 ∨ Z 56 6 < Z 56 7))) (k1 : Z 60 61 ≤ Z 56 6) (k2 : (Z 60 2 ≤ Z 60 1 ∧ Z 60 1 ≤ 18 * Z 60 2)) (k3 : ¬ Z 56 9 = 24) (k4 : Z 56 11 = 0) (hr : RMx T N Z sg) : ∃ (Z' : xZ) (h' : mx_H), mx_Ca (tB l D b0 ad Hb tau) (d + 8) 178 [.ref 56] h (none, h') ∧ XH n s S Z' h' ∧ GI n S Z' ∧ fr' [(56, 6), (56, 7), (56, 9), (56, 10), (56, 11), (56, 12), (60, (-1))] Z Z' ∧ (RMx T N Z' (lhS T N sg (Z 60 1)) ∧ LYM T N sg (Z 60 1) (Z' 60 1) ∧ ((Z' 56 6 ≤ Z' 56 7 ∧ Z' 56 7 ≤ Z 56 8 ∧ (Z' 56 9 = 24 ∨ Z' 56 6 < Z' 56 7)) ∧ Z' 60 0 = Z 60 0 ∧ Z 56 6 ≤ Z' 56 6 ∧ Z' 60 61 ≤ Z' 56 6 ∧ Z' 60 2 ≤ Z' 60 1 ∧ Z' 60 1 ≤ 18 * Z' 60 2 ∧ (Z' 56 11 = 0 → Z 56 11 = 0 ∧ Z 56 6 + 1 ≤ Z' 56 6 ∧ (WFF Z = 1 → WFF Z' = 1)))) := by
  obtain ⟨r, hca, Z', h', e, q⟩ := Jmt (B := tB l D b0 ad Hb tau) (M := mt_178) (mi := 178) (as := [.ref 56]) (d := d + 7) (ls := [some (.ref 56), none]) rfl rfl rfl rfl rfl rfl (cw_178_56 (l := l) (D := D) (b0 := b0) (ad := ad) (Hb := Hb) (tau := tau) (d := d) (Post := fun r => ∃ (Z' : xZ) (h' : mx_H), r = (none, h') ∧ XH n s S Z' h' ∧ GI n S Z' ∧ fr' [(56, 6), (56, 7), (56, 9), (56, 10), (56, 11), (56, 12), (60, (-1))] Z Z' ∧ (RMx T N Z' (lhS T N sg (Z 60 1)) ∧ LYM T N sg (Z 60 1) (Z' 60 1) ∧ ((Z' 56 6 ≤ Z' 56 7 ∧ Z' 56 7 ≤ Z 56 8 ∧ (Z' 56 9 = 24 ∨ Z' 56 6 < Z' 56 7)) ∧ Z' 60 0 = Z 60 0 ∧ Z 56 6 ≤ Z' 56 6 ∧ Z' 60 61 ≤ Z' 56 6 ∧ Z' 60 2 ≤ Z' 60 1 ∧ Z' 60 1 ≤ 18 * Z' 60 2 ∧ (Z' 56 11 = 0 → Z 56 11 = 0 ∧ Z 56 6 + 1 ≤ Z' 56 6 ∧ (WFF Z = 1 → WFF Z' = 1))))) hx hG k0 k1 k2 k3 k4 hr (fun Z' h' q1 q2 q3 q4 => ⟨Z', h', rfl, q1, q2, q3, q4⟩))
  subst e; exact ⟨Z', h', hca, q⟩
set_option maxRecDepth 100000 in
theorem cw_179_56 {l : Launch} {D : va_G} {b0 : Nat} {ad : Nat → Nat} {Hb : Heap} {tau : Nat → Int64} {d n s : Nat} {S : Nat → xS} {Z : xZ} {h : mx_H} {Post : mx_R → Prop} {T : Int → Int} {N : Int} {sg : SS} (hx : XH n s S Z h) (hG : GI n S Z)  {x0 : Int} (p0 : 0 ≤ x0 ∧ x0 ≤ 1) (k0 : (Z 56 6 ≤ Z 56 7 ∧ Z 56 7 ≤ Z 56 8 ∧ (Z 56 9 = 24 ∨ Z 56 6 < Z 56 7))) (k1 : Z 60 61 ≤ Z 56 6) (k2 : (Z 60 2 ≤ Z 60 1 ∧ Z 60 1 ≤ 18 * Z 60 2)) (k3 : ¬ Z 56 9 = 24) (k4 : Z 56 11 = 0) (hr : RMx T N Z sg) (hP : ∀ (Z' : xZ) (h' : mx_H), XH n s S Z' h' → GI n S Z' → fr' [(56, 6), (56, 7), (56, 9), (56, 10), (56, 11), (56, 12), (60, (-1))] Z Z' → RMx T N Z' (lwS T N x0 sg) ∧ ((Z' 56 6 ≤ Z' 56 7 ∧ Z' 56 7 ≤ Z 56 8 ∧ (Z' 56 9 = 24 ∨ Z' 56 6 < Z' 56 7)) ∧ Z' 60 0 = Z 60 0 ∧ Z 56 6 ≤ Z' 56 6 ∧ Z' 60 61 ≤ Z' 56 6 ∧ Z' 60 2 ≤ Z' 60 1 ∧ Z' 60 1 ≤ 18 * Z' 60 2 ∧ (Z' 56 11 = 0 → Z 56 11 = 0 ∧ Z 56 6 + 1 ≤ Z' 56 6 ∧ (WFF Z = 1 → WFF Z' = 1)) ∧ Z' 60 1 = Z 60 1) → Post (none, h')) : mx_J (tB l D b0 ad Hb tau) mt_179 (d + 98) 0 [some (.ref 56), some (xI x0), none] [] h Post := by
    have a56 : 56 < n := lt83 (GI_n hG) rfl
    have s56 : S 56 = .inl (12, [0, 2, 2, 2, 2, 0, 0, 0, 0, 0, 0, 0, 0, 0, 0, 2, 2, 2, 0, 2, 2, 2, 0, 0, 2, 2, 2, 2, 2, 2, 0, 0, 2, 2, 2, 2, 2, 2, 2, 2, 2, 2]) := GI_s hG 56 rfl
    have a60 : 60 < n := lt83 (GI_n hG) rfl
    have s60 : S 60 = .inr (.int, 962, 0) := GI_s hG 60 rfl
    refine mx_J.step (sn_179 0) (fun _ _ => rfl) ?_
    have b2 : 0 ≤ Z 56 7 ∧ Z 56 7 ≤ 900 := hG.pr 56 7
    have b3 : 0 ≤ Z 56 8 ∧ Z 56 8 ≤ 900 := hG.pr 56 8
    have b4 : 0 ≤ Z 56 11 ∧ Z 56 11 ≤ 4 := hG.pr 56 11
    obtain ⟨Z1, h1, hc1, hx1, hG1, hf1, b1⟩ := ct_162_56rx (T := T) (N := N) (sg := sg) (d := d + 92) (l := l) (D := D) (b0 := b0) (ad := ad) (Hb := Hb) (tau := tau) hx hG  (show Z 56 7 ≤ Z 56 8 by omega) (show Z 56 11 = 0 by omega) hr
    obtain ⟨br1, b1⟩ := b1
    have b5 : 0 ≤ Z1 56 6 ∧ Z1 56 6 ≤ 900 := hG1.pr 56 6
    have b6 : 0 ≤ Z1 56 7 ∧ Z1 56 7 ≤ 900 := hG1.pr 56 7
    have b7 : 0 ≤ Z1 56 9 ∧ Z1 56 9 ≤ 100 := hG1.pr 56 9
    refine Jcv0 hx (show mx_Sn _ _ 1 (mx_callv 162 1 12 4) from sn_179 1) a56 s56 hc1 rfl rfl rfl ?_
    have gt := RMx_is (k := 31) br1
    refine mx_J.step (sn_179 4) (fun _ _ => rfl) ?_
    refine JcI (z := 31) (show mx_Sn _ _ 5 (mx_const (.int 31) 7) from sn_179 5) rfl ?_
    have eq9 : Z1 56 8 = Z 56 8 := (hf1 56 8 rfl)
    have eq10 : Z1 56 11 = Z 56 11 := (hf1 56 11 rfl)
    obtain ⟨z8, Z8, h8, hc8, hx8, hG8, hf8, b8⟩ := ct_165_56x (T := T) (N := N) (sg := gAd T N sg) (d := d + 91) (l := l) (D := D) (b0 := b0) (ad := ad) (Hb := Hb) (tau := tau) hx1 hG1 (show 0 ≤ 31 ∧ 31 ≤ 100 by omega) (show (Z1 56 6 ≤ Z1 56 7 ∧ Z1 56 7 ≤ Z1 56 8 ∧ (Z1 56 9 = 24 ∨ Z1 56 6 < Z1 56 7)) by first | omega | (simp only [eq9, eq10]; omega)) (show ¬ 31 = 24 by first | omega | (simp only [eq9, eq10]; omega)) br1
    try rw [eq9] at b8
    try rw [eq10] at b8
    obtain ⟨br8, b8⟩ := b8
    have b11 : 0 ≤ Z8 56 6 ∧ Z8 56 6 ≤ 900 := hG8.pr 56 6
    have b12 : 0 ≤ Z8 56 7 ∧ Z8 56 7 ≤ 900 := hG8.pr 56 7
    have b13 : 0 ≤ Z8 56 9 ∧ Z8 56 9 ≤ 100 := hG8.pr 56 9
    refine Jcv hx1 (show mx_Sn _ _ 7 (mx_callv 165 2 12 10) from sn_179 7) a56 s56 hc8 rfl rfl rfl ?_
    have c18 : ∀  (Z15 : xZ) (h15 : mx_H), (Z15 56 6 ≤ Z15 56 7 ∧ Z15 56 7 ≤ Z 56 8 ∧ (Z15 56 9 = 24 ∨ Z15 56 6 < Z15 56 7) ∧ Z 56 6 + 1 ≤ Z15 56 6 ∧ (Z15 56 11 = 0 → Z 56 11 = 0)) → RMx T N Z15 (gEx T N 31 (gAd T N sg)) → XH n s S Z15 h15 → GI n S Z15 → fr' [(56, 11), (56, 12)] Z8 Z15 → mx_J (tB l D b0 ad Hb tau) mt_179 (d + 98) 18 [some (.ref 56), some (xI x0), none] [] h15 Post := by
      intro Z15 h15 f14_0 f14_1 hx15 hG15 hf15
      have eq16 : Z15 56 6 = Z8 56 6 := (hf15 56 6 rfl)
      have eq17 : Z15 56 7 = Z8 56 7 := (hf15 56 7 rfl)
      have eq18 : Z15 56 9 = Z8 56 9 := (hf15 56 9 rfl)
      have b19 : 0 ≤ Z15 56 11 ∧ Z15 56 11 ≤ 4 := hG15.pr 56 11
      refine mx_J.step (sn_179 18) (fun _ _ => rfl) ?_
      refine JgetR (g := 4) (b := 60) hx15 (show mx_Sn _ _ 19 (mx_getf 12 4 22) from sn_179 19) a56 s56 rfl rfl (hG15.prr 56 4 rfl) ?_
      refine JcI (z := 61) (show mx_Sn _ _ 22 (mx_const (.int 61) 24) from sn_179 22) rfl ?_
      have b21 : 0 ≤ Z 60 61 ∧ Z 60 61 ≤ 900 := by have hq := GI_ex hG 60 61; replace hq : f60 (61 % 962) (Z 60 61) := hq; unfold f60 at hq; omega
      have b22 : (-2147483648) ≤ Z 60 61 ∧ Z 60 61 ≤ 2147483647 := hG.pr 60 61
      refine JialdI (z := Z 60 61) hx15 (show mx_Sn _ _ 24 (mx_iald 25) from sn_179 24) a60 s60 (by omega) ((hf15 60 61 rfl).trans ((hf8 60 61 rfl).trans (hf1 60 61 rfl))) ?_
      refine mx_J.step (ls2 := [some (.ref 56), some (xI x0), some (xI (Z 60 61))]) (sn_179 25) (fun _ _ => rfl) ?_
      have eq23 : Z15 60 61 = Z 60 61 := ((hf15 60 61 rfl).trans ((hf8 60 61 rfl).trans (hf1 60 61 rfl)))
      have m0 := MW_0 (Z := Z15) (a := Z 60 61) (by omega) (by omega)
      have eq24 : Z15 60 61 = Z 60 61 := ((hf15 60 61 rfl).trans ((hf8 60 61 rfl).trans (hf1 60 61 rfl)))
      have eq25 : MW Z15 (Z 60 61) = MW Z (Z 60 61) := ((MW_c (fun i => hf15 60 i rfl)).trans ((MW_c (fun i => hf8 60 i rfl)).trans (MW_c (fun i => hf1 60 i rfl))))
      have eq26 : DP Z15 (Z 60 61) = DP Z (Z 60 61) := ((DP_c (fun i => hf15 60 i rfl)).trans ((DP_c (fun i => hf8 60 i rfl)).trans (DP_c (fun i => hf1 60 i rfl))))
      have eq27 : WFF Z15  = WFF Z := ((WFF_c (fun i => hf15 60 i rfl)).trans ((WFF_c (fun i => hf8 60 i rfl)).trans (WFF_c (fun i => hf1 60 i rfl))))
      refine mx_J.step (sn_179 26) (fun _ _ => rfl) ?_
      have c43 : ∀  (Z29 : xZ) (h29 : mx_H), (Z29 56 6 ≤ Z29 56 7 ∧ Z29 56 7 ≤ Z 56 8 ∧ (Z29 56 9 = 24 ∨ Z29 56 6 < Z29 56 7) ∧ Z 56 6 + 1 ≤ Z29 56 6 ∧ Z 60 61 ≤ Z29 60 61 ∧ Z29 60 61 ≤ Z29 56 6 ∧ Z29 60 0 = Z 60 0 ∧ Z29 60 2 = Z 60 2 ∧ Z29 60 1 = Z 60 1 ∧ (Z29 56 11 = 0 → Z 56 11 = 0 ∧ MW Z29 (Z 60 61) = 1 ∧ (WFF Z = 1 → WFF Z29 = 1))) → RMx T N Z29 (lwS T N x0 sg) → XH n s S Z29 h29 → GI n S Z29 → fr' [(56, 6), (56, 7), (56, 9), (56, 10), (56, 11), (56, 12), (60, (-1))] Z15 Z29 → mx_J (tB l D b0 ad Hb tau) mt_179 (d + 98) 43 [some (.ref 56), some (xI x0), some (xI (Z 60 61))] [] h29 Post := by
        intro Z29 h29 f28_0 f28_1 hx29 hG29 hf29
        have b30 : 0 ≤ Z29 56 6 ∧ Z29 56 6 ≤ 900 := hG29.pr 56 6
        have b31 : 0 ≤ Z29 56 7 ∧ Z29 56 7 ≤ 900 := hG29.pr 56 7
        have b32 : 0 ≤ Z29 56 9 ∧ Z29 56 9 ≤ 100 := hG29.pr 56 9
        have b33 : 0 ≤ Z29 56 11 ∧ Z29 56 11 ≤ 4 := hG29.pr 56 11
        have b34 : 0 ≤ Z29 60 61 ∧ Z29 60 61 ≤ 900 := by have hq := GI_ex hG29 60 61; replace hq : f60 (61 % 962) (Z29 60 61) := hq; unfold f60 at hq; omega
        have b35 : (-2147483648) ≤ Z29 60 61 ∧ Z29 60 61 ≤ 2147483647 := hG29.pr 60 61
        have b36 : (-2147483648) ≤ Z29 60 0 ∧ Z29 60 0 ≤ 2147483647 := hG29.pr 60 0
        have b37 : 0 ≤ Z29 60 1 ∧ Z29 60 1 ≤ 18 := by have hq := GI_ex hG29 60 1; replace hq : f60 (1 % 962) (Z29 60 1) := hq; unfold f60 at hq; omega
        have b38 : (-2147483648) ≤ Z29 60 1 ∧ Z29 60 1 ≤ 2147483647 := hG29.pr 60 1
        have b39 : 0 ≤ Z29 60 2 ∧ Z29 60 2 ≤ 18 := by have hq := GI_ex hG29 60 2; replace hq : f60 (2 % 962) (Z29 60 2) := hq; unfold f60 at hq; omega
        have b40 : (-2147483648) ≤ Z29 60 2 ∧ Z29 60 2 ≤ 2147483647 := hG29.pr 60 2
        refine mx_J.step (sn_179 43) (fun _ _ => rfl) ?_
        refine JgetI (g := 11) (z := Z29 56 11) hx29 (show mx_Sn _ _ 44 (mx_getf 12 11 47) from sn_179 44) a56 s56 rfl rfl rfl ?_
        refine Jif_eq (show mx_Sn _ _ 47 (mx_if_eq 51 50) from sn_179 47) (by omega) (fun q42 => ?_) (fun q42 => ?_)
        · skip
          refine mx_J.step (sn_179 51) (fun _ _ => rfl) ?_
          refine JgetR (g := 4) (b := 60) hx29 (show mx_Sn _ _ 52 (mx_getf 12 4 55) from sn_179 52) a56 s56 rfl rfl (hG29.prr 56 4 rfl) ?_
          refine JcI (z := 21) (show mx_Sn _ _ 55 (mx_const (.int 21) 57) from sn_179 55) rfl ?_
          refine mx_J.step (sn_179 57) (fun _ _ => rfl) ?_
          refine Jiadd (show mx_Sn _ _ 58 (mx_iadd 59) from sn_179 58) ?_
          refine JcI (z := 1) (show mx_Sn _ _ 59 (mx_const (.int 1) 60) from sn_179 59) rfl ?_
          refine JiastI hx29 (show mx_Sn _ _ 60 (mx_iast 1 61) from sn_179 60) a60 s60 rfl (by omega) (fun Z44 h44 hx44 hE44 => ?_)
          have hG44 := GI_up hG29 hE44 (show (-2147483648) ≤ 1 ∧ 1 ≤ 2147483647 by omega) (show f60 ((21 + x0) % 962) (1) by first | (rw [Int.emod_eq_of_lt (by omega) (by omega)]; unfold f60; omega) | assumption | (unfold f60; omega) | (unfold f60 at *; omega)) rfl
          refine mx_J.step (sn_179 61) (fun _ _ => rfl) ?_
          refine JgetR (g := 4) (b := 60) hx44 (show mx_Sn _ _ 62 (mx_getf 12 4 65) from sn_179 62) a56 s56 rfl rfl (hG44.prr 56 4 rfl) ?_
          refine JcI (z := 23) (show mx_Sn _ _ 65 (mx_const (.int 23) 67) from sn_179 65) rfl ?_
          refine mx_J.step (sn_179 67) (fun _ _ => rfl) ?_
          refine Jiadd (show mx_Sn _ _ 68 (mx_iadd 69) from sn_179 68) ?_
          refine mx_J.step (sn_179 69) (fun _ _ => rfl) ?_
          refine JiastI hx44 (show mx_Sn _ _ 70 (mx_iast 1 71) from sn_179 70) a60 s60 rfl (by omega) (fun Z46 h46 hx46 hE46 => ?_)
          have hG46 := GI_up hG44 hE46 (show (-2147483648) ≤ Z 60 61 ∧ Z 60 61 ≤ 2147483647 by omega) (show f60 ((23 + x0) % 962) (Z 60 61) by first | (have hq := GI_ex hG 60 61; replace hq : f60 (61 % 962) (Z 60 61) := hq; replace hq : f60 61 (Z 60 61) := hq; rw [Int.emod_eq_of_lt (a := 23 + x0) (by omega) (by omega)]; unfold f60 at hq; unfold f60; omega) | (rw [Int.emod_eq_of_lt (by omega) (by omega)]; unfold f60; omega) | assumption | (unfold f60; omega) | (unfold f60 at *; omega)) rfl
          refine mx_J.step (sn_179 71) (fun _ _ => rfl) ?_
          refine JgetR (g := 4) (b := 60) hx46 (show mx_Sn _ _ 72 (mx_getf 12 4 75) from sn_179 72) a56 s56 rfl rfl (hG46.prr 56 4 rfl) ?_
          refine JcI (z := 25) (show mx_Sn _ _ 75 (mx_const (.int 25) 77) from sn_179 75) rfl ?_
          refine mx_J.step (sn_179 77) (fun _ _ => rfl) ?_
          refine Jiadd (show mx_Sn _ _ 78 (mx_iadd 79) from sn_179 78) ?_
          refine mx_J.step (sn_179 79) (fun _ _ => rfl) ?_
          refine JgetR (g := 4) (b := 60) hx46 (show mx_Sn _ _ 80 (mx_getf 12 4 83) from sn_179 80) a56 s56 rfl rfl (hG46.prr 56 4 rfl) ?_
          refine JcI (z := 61) (show mx_Sn _ _ 83 (mx_const (.int 61) 85) from sn_179 83) rfl ?_
          refine JialdI (z := Z29 60 61) hx46 (show mx_Sn _ _ 85 (mx_iald 86) from sn_179 85) a60 s60 (by omega) ((up_ni hE46 (by omega)).trans (up_ni hE44 (by omega))) ?_
          refine mx_J.step (sn_179 86) (fun _ _ => rfl) ?_
          refine Jisub (show mx_Sn _ _ 87 (mx_isub 88) from sn_179 87) ?_
          refine JiastI hx46 (show mx_Sn _ _ 88 (mx_iast 1 89) from sn_179 88) a60 s60 rfl (by omega) (fun Z49 h49 hx49 hE49 => ?_)
          have hG49 := GI_up hG46 hE49 (show (-2147483648) ≤ (Z29 60 61) - (Z 60 61) ∧ (Z29 60 61) - (Z 60 61) ≤ 2147483647 by omega) (show f60 ((25 + x0) % 962) ((Z29 60 61) - (Z 60 61)) by first | (rw [Int.emod_eq_of_lt (by omega) (by omega)]; unfold f60; omega) | assumption | (unfold f60; omega) | (unfold f60 at *; omega)) rfl
          have lw : WFF Z29 = 1 → WFF Z49 = 1 := lw_wf hE44 hE46 hE49 (by omega) (by omega) (by omega)
          have eq50 : Z49 56 6 = Z29 56 6 := ((up_nk hE49 rfl).trans ((up_nk hE46 rfl).trans (up_nk hE44 rfl)))
          have eq51 : Z49 56 7 = Z29 56 7 := ((up_nk hE49 rfl).trans ((up_nk hE46 rfl).trans (up_nk hE44 rfl)))
          have eq52 : Z49 56 9 = Z29 56 9 := ((up_nk hE49 rfl).trans ((up_nk hE46 rfl).trans (up_nk hE44 rfl)))
          have eq53 : Z49 56 11 = Z29 56 11 := ((up_nk hE49 rfl).trans ((up_nk hE46 rfl).trans (up_nk hE44 rfl)))
          have eq54 : Z49 60 61 = Z29 60 61 := ((up_ni hE49 (by omega)).trans ((up_ni hE46 (by omega)).trans (up_ni hE44 (by omega))))
          have eq55 : Z49 60 0 = Z29 60 0 := ((up_ni hE49 (by omega)).trans ((up_ni hE46 (by omega)).trans (up_ni hE44 (by omega))))
          have eq56 : Z49 60 1 = Z29 60 1 := ((up_ni hE49 (by omega)).trans ((up_ni hE46 (by omega)).trans (up_ni hE44 (by omega))))
          have eq57 : Z49 60 2 = Z29 60 2 := ((up_ni hE49 (by omega)).trans ((up_ni hE46 (by omega)).trans (up_ni hE44 (by omega))))
          have eq58 : Z49 56 6 = Z29 56 6 := ((up_nk hE49 rfl).trans ((up_nk hE46 rfl).trans (up_nk hE44 rfl)))
          have eq59 : Z49 56 7 = Z29 56 7 := ((up_nk hE49 rfl).trans ((up_nk hE46 rfl).trans (up_nk hE44 rfl)))
          have eq60 : Z49 56 8 = Z 56 8 := ((up_nk hE49 rfl).trans ((up_nk hE46 rfl).trans ((up_nk hE44 rfl).trans ((hf29 56 8 rfl).trans ((hf15 56 8 rfl).trans ((hf8 56 8 rfl).trans (hf1 56 8 rfl)))))))
          have eq61 : Z49 56 9 = Z29 56 9 := ((up_nk hE49 rfl).trans ((up_nk hE46 rfl).trans (up_nk hE44 rfl)))
          have eq62 : Z49 56 11 = Z29 56 11 := ((up_nk hE49 rfl).trans ((up_nk hE46 rfl).trans (up_nk hE44 rfl)))
          have eq63 : Z49 60 61 = Z29 60 61 := ((up_ni hE49 (by omega)).trans ((up_ni hE46 (by omega)).trans (up_ni hE44 (by omega))))
          have eq64 : Z49 60 0 = Z29 60 0 := ((up_ni hE49 (by omega)).trans ((up_ni hE46 (by omega)).trans (up_ni hE44 (by omega))))
          have eq65 : Z49 60 1 = Z29 60 1 := ((up_ni hE49 (by omega)).trans ((up_ni hE46 (by omega)).trans (up_ni hE44 (by omega))))
          have eq66 : Z49 60 2 = Z29 60 2 := ((up_ni hE49 (by omega)).trans ((up_ni hE46 (by omega)).trans (up_ni hE44 (by omega))))
          have rc67 : RMx T N Z44 (lwS T N x0 sg) := RMx_c f28_1 ⟨(up_nk hE44 rfl), (up_nk hE44 rfl), (up_nk hE44 rfl), (up_nk hE44 rfl), (up_nk hE44 rfl), (up_nk hE44 rfl), (up_nk hE44 rfl), fun i => (up_nk hE44 rfl)⟩ (up_ni hE44 (by omega)) (fun i h62 => (up_ni hE44 (by omega))) trivial
          have rc68 : RMx T N Z46 (lwS T N x0 sg) := RMx_c rc67 ⟨(up_nk hE46 rfl), (up_nk hE46 rfl), (up_nk hE46 rfl), (up_nk hE46 rfl), (up_nk hE46 rfl), (up_nk hE46 rfl), (up_nk hE46 rfl), fun i => (up_nk hE46 rfl)⟩ (up_ni hE46 (by omega)) (fun i h62 => (up_ni hE46 (by omega))) trivial
          have rc69 : RMx T N Z49 (lwS T N x0 sg) := RMx_c rc68 ⟨(up_nk hE49 rfl), (up_nk hE49 rfl), (up_nk hE49 rfl), (up_nk hE49 rfl), (up_nk hE49 rfl), (up_nk hE49 rfl), (up_nk hE49 rfl), fun i => (up_nk hE49 rfl)⟩ (up_ni hE49 (by omega)) (fun i h62 => (up_ni hE49 (by omega))) trivial
          exact mx_J.ret (sn_179 89) (fun _ _ => rfl) (hP Z49 h49 hx49 hG49 (fr_tr (M := [(56, 6), (56, 7), (56, 9), (56, 10), (56, 11), (56, 12), (60, (-1))]) (fr_tr (M := [(56, 6), (56, 7), (56, 9), (56, 10), (56, 11), (56, 12), (60, (-1))]) (fr_tr (M := [(56, 6), (56, 7), (56, 9), (56, 10), (56, 11), (56, 12), (60, (-1))]) (fr_tr (M := [(56, 6), (56, 7), (56, 9), (56, 10), (56, 11), (56, 12), (60, (-1))]) (fr_tr (M := [(56, 6), (56, 7), (56, 9), (56, 10), (56, 11), (56, 12), (60, (-1))]) (fr_tr (M := [(56, 6), (56, 7), (56, 9), (56, 10), (56, 11), (56, 12), (60, (-1))]) (fr_tr (M := [(56, 6), (56, 7), (56, 9), (56, 10), (56, 11), (56, 12), (60, (-1))]) fr_rf (hf1) (M1 := []) rfl rfl) (hf8) rfl rfl) (hf15) rfl rfl) (hf29) rfl rfl) (fr_ua hE44) rfl rfl) (fr_ua hE46) rfl rfl) (fr_ua hE49) rfl rfl) ⟨rc69, by omega⟩)
        · skip
          have eq70 : Z29 56 8 = Z 56 8 := ((hf29 56 8 rfl).trans ((hf15 56 8 rfl).trans ((hf8 56 8 rfl).trans (hf1 56 8 rfl))))
          exact mx_J.ret (sn_179 50) (fun _ _ => rfl) (hP Z29 h29 hx29 hG29 (fr_tr (M := [(56, 6), (56, 7), (56, 9), (56, 10), (56, 11), (56, 12), (60, (-1))]) (fr_tr (M := [(56, 6), (56, 7), (56, 9), (56, 10), (56, 11), (56, 12), (60, (-1))]) (fr_tr (M := [(56, 6), (56, 7), (56, 9), (56, 10), (56, 11), (56, 12), (60, (-1))]) (fr_tr (M := [(56, 6), (56, 7), (56, 9), (56, 10), (56, 11), (56, 12), (60, (-1))]) fr_rf (hf1) (M1 := []) rfl rfl) (hf8) rfl rfl) (hf15) rfl rfl) (hf29) rfl rfl) ⟨f28_1, by omega⟩)
      refine Jif_ne (show mx_Sn _ _ 27 (mx_if_ne 38 30) from sn_179 27) (by omega) (fun q71 => ?_) (fun q71 => ?_)
      · skip
        refine mx_J.step (sn_179 38) (fun _ _ => rfl) ?_
        refine JcI (z := 0) (show mx_Sn _ _ 39 (mx_const (.int 0) 40) from sn_179 39) rfl ?_
        have eq73 : Z15 56 6 = Z8 56 6 := (hf15 56 6 rfl)
        have eq74 : Z15 56 7 = Z8 56 7 := (hf15 56 7 rfl)
        have eq75 : Z15 56 8 = Z 56 8 := ((hf15 56 8 rfl).trans ((hf8 56 8 rfl).trans (hf1 56 8 rfl)))
        have eq76 : Z15 56 9 = Z8 56 9 := (hf15 56 9 rfl)
        have eq77 : Z15 60 61 = Z 60 61 := ((hf15 60 61 rfl).trans ((hf8 60 61 rfl).trans (hf1 60 61 rfl)))
        have eq78 : Z15 60 0 = Z 60 0 := ((hf15 60 0 rfl).trans ((hf8 60 0 rfl).trans (hf1 60 0 rfl)))
        have b79 : (-2147483648) ≤ Z 60 0 ∧ Z 60 0 ≤ 2147483647 := hG.pr 60 0
        have eq80 : Z15 60 1 = Z 60 1 := ((hf15 60 1 rfl).trans ((hf8 60 1 rfl).trans (hf1 60 1 rfl)))
        have b81 : 0 ≤ Z 60 1 ∧ Z 60 1 ≤ 18 := by have hq := GI_ex hG 60 1; replace hq : f60 (1 % 962) (Z 60 1) := hq; unfold f60 at hq; omega
        have b82 : (-2147483648) ≤ Z 60 1 ∧ Z 60 1 ≤ 2147483647 := hG.pr 60 1
        have eq83 : Z15 60 2 = Z 60 2 := ((hf15 60 2 rfl).trans ((hf8 60 2 rfl).trans (hf1 60 2 rfl)))
        have b84 : 0 ≤ Z 60 2 ∧ Z 60 2 ≤ 18 := by have hq := GI_ex hG 60 2; replace hq : f60 (2 % 962) (Z 60 2) := hq; unfold f60 at hq; omega
        have b85 : (-2147483648) ≤ Z 60 2 ∧ Z 60 2 ≤ 2147483647 := hG.pr 60 2
        obtain ⟨Z72, h72, hc72, hx72, hG72, hf72, b72⟩ := ct_177_56_i0x (a0 := Z 60 61) (T := T) (N := N) (sg := gEx T N 31 (gAd T N sg)) (d := d + 0) (l := l) (D := D) (b0 := b0) (ad := ad) (Hb := Hb) (tau := tau) hx15 hG15  (show (Z15 56 6 ≤ Z15 56 7 ∧ Z15 56 7 ≤ Z15 56 8 ∧ (Z15 56 9 = 24 ∨ Z15 56 6 < Z15 56 7)) by first | omega | (simp only [eq73, eq74, eq75, eq76, eq77, eq78, eq80, eq83]; omega)) (show Z15 60 61 ≤ Z15 56 6 by first | omega | (simp only [eq73, eq74, eq75, eq76, eq77, eq78, eq80, eq83]; omega)) (show (Z 60 61) ≤ Z15 60 61 by first | omega | (simp only [eq73, eq74, eq75, eq76, eq77, eq78, eq80, eq83]; omega)) (show 0 ≤ (Z 60 61) by first | omega | (simp only [eq73, eq74, eq75, eq76, eq77, eq78, eq80, eq83]; omega)) f14_1
        try rw [eq73] at b72
        try rw [eq74] at b72
        try rw [eq75] at b72
        try rw [eq76] at b72
        try rw [eq77] at b72
        try rw [eq78] at b72
        try rw [eq80] at b72
        try rw [eq83] at b72
        obtain ⟨br72, b72⟩ := b72
        obtain ⟨bq72, b72⟩ := b72
        have b86 : 0 ≤ Z72 56 6 ∧ Z72 56 6 ≤ 900 := hG72.pr 56 6
        have b87 : 0 ≤ Z72 56 7 ∧ Z72 56 7 ≤ 900 := hG72.pr 56 7
        have b88 : 0 ≤ Z72 56 9 ∧ Z72 56 9 ≤ 100 := hG72.pr 56 9
        have b89 : 0 ≤ Z72 56 11 ∧ Z72 56 11 ≤ 4 := hG72.pr 56 11
        have b90 : 0 ≤ Z72 60 61 ∧ Z72 60 61 ≤ 900 := by have hq := GI_ex hG72 60 61; replace hq : f60 (61 % 962) (Z72 60 61) := hq; unfold f60 at hq; omega
        have b91 : (-2147483648) ≤ Z72 60 61 ∧ Z72 60 61 ≤ 2147483647 := hG72.pr 60 61
        have b92 : (-2147483648) ≤ Z72 60 0 ∧ Z72 60 0 ≤ 2147483647 := hG72.pr 60 0
        have b93 : 0 ≤ Z72 60 1 ∧ Z72 60 1 ≤ 18 := by have hq := GI_ex hG72 60 1; replace hq : f60 (1 % 962) (Z72 60 1) := hq; unfold f60 at hq; omega
        have b94 : (-2147483648) ≤ Z72 60 1 ∧ Z72 60 1 ≤ 2147483647 := hG72.pr 60 1
        have b95 : 0 ≤ Z72 60 2 ∧ Z72 60 2 ≤ 18 := by have hq := GI_ex hG72 60 2; replace hq : f60 (2 % 962) (Z72 60 2) := hq; unfold f60 at hq; omega
        have b96 : (-2147483648) ≤ Z72 60 2 ∧ Z72 60 2 ≤ 2147483647 := hG72.pr 60 2
        refine Jcv0 hx15 (show mx_Sn _ _ 40 (mx_callv 177 2 12 43) from sn_179 40) a56 s56 hc72 rfl rfl rfl ?_
        have lm72 := QR_m bq72 (by omega) (by omega)
        exact c43 Z72 h72 (by omega) (RMx_e br72 (lw_1 (by omega))) hx72 hG72 (fr_tr (M := [(56, 6), (56, 7), (56, 9), (56, 10), (56, 11), (56, 12), (60, (-1))]) fr_rf (hf72) (M1 := []) rfl rfl)
      · skip
        refine mx_J.step (sn_179 30) (fun _ _ => rfl) ?_
        refine JcI (z := 0) (show mx_Sn _ _ 31 (mx_const (.int 0) 32) from sn_179 31) rfl ?_
        have eq98 : Z15 56 6 = Z8 56 6 := (hf15 56 6 rfl)
        have eq99 : Z15 56 7 = Z8 56 7 := (hf15 56 7 rfl)
        have eq100 : Z15 56 8 = Z 56 8 := ((hf15 56 8 rfl).trans ((hf8 56 8 rfl).trans (hf1 56 8 rfl)))
        have eq101 : Z15 56 9 = Z8 56 9 := (hf15 56 9 rfl)
        have eq102 : Z15 60 61 = Z 60 61 := ((hf15 60 61 rfl).trans ((hf8 60 61 rfl).trans (hf1 60 61 rfl)))
        have eq103 : Z15 60 0 = Z 60 0 := ((hf15 60 0 rfl).trans ((hf8 60 0 rfl).trans (hf1 60 0 rfl)))
        have b104 : (-2147483648) ≤ Z 60 0 ∧ Z 60 0 ≤ 2147483647 := hG.pr 60 0
        have eq105 : Z15 60 1 = Z 60 1 := ((hf15 60 1 rfl).trans ((hf8 60 1 rfl).trans (hf1 60 1 rfl)))
        have b106 : 0 ≤ Z 60 1 ∧ Z 60 1 ≤ 18 := by have hq := GI_ex hG 60 1; replace hq : f60 (1 % 962) (Z 60 1) := hq; unfold f60 at hq; omega
        have b107 : (-2147483648) ≤ Z 60 1 ∧ Z 60 1 ≤ 2147483647 := hG.pr 60 1
        have eq108 : Z15 60 2 = Z 60 2 := ((hf15 60 2 rfl).trans ((hf8 60 2 rfl).trans (hf1 60 2 rfl)))
        have b109 : 0 ≤ Z 60 2 ∧ Z 60 2 ≤ 18 := by have hq := GI_ex hG 60 2; replace hq : f60 (2 % 962) (Z 60 2) := hq; unfold f60 at hq; omega
        have b110 : (-2147483648) ≤ Z 60 2 ∧ Z 60 2 ≤ 2147483647 := hG.pr 60 2
        obtain ⟨Z97, h97, hc97, hx97, hG97, hf97, b97⟩ := ct_174_56_i0x (a0 := Z 60 61) (T := T) (N := N) (sg := gEx T N 31 (gAd T N sg)) (d := d + 0) (l := l) (D := D) (b0 := b0) (ad := ad) (Hb := Hb) (tau := tau) hx15 hG15  (show (Z15 56 6 ≤ Z15 56 7 ∧ Z15 56 7 ≤ Z15 56 8 ∧ (Z15 56 9 = 24 ∨ Z15 56 6 < Z15 56 7)) by first | omega | (simp only [eq98, eq99, eq100, eq101, eq102, eq103, eq105, eq108]; omega)) (show Z15 60 61 ≤ Z15 56 6 by first | omega | (simp only [eq98, eq99, eq100, eq101, eq102, eq103, eq105, eq108]; omega)) (show (Z 60 61) ≤ Z15 60 61 by first | omega | (simp only [eq98, eq99, eq100, eq101, eq102, eq103, eq105, eq108]; omega)) (show 0 ≤ (Z 60 61) by first | omega | (simp only [eq98, eq99, eq100, eq101, eq102, eq103, eq105, eq108]; omega)) f14_1
        try rw [eq98] at b97
        try rw [eq99] at b97
        try rw [eq100] at b97
        try rw [eq101] at b97
        try rw [eq102] at b97
        try rw [eq103] at b97
        try rw [eq105] at b97
        try rw [eq108] at b97
        obtain ⟨br97, b97⟩ := b97
        obtain ⟨bq97, b97⟩ := b97
        have b111 : 0 ≤ Z97 56 6 ∧ Z97 56 6 ≤ 900 := hG97.pr 56 6
        have b112 : 0 ≤ Z97 56 7 ∧ Z97 56 7 ≤ 900 := hG97.pr 56 7
        have b113 : 0 ≤ Z97 56 9 ∧ Z97 56 9 ≤ 100 := hG97.pr 56 9
        have b114 : 0 ≤ Z97 56 11 ∧ Z97 56 11 ≤ 4 := hG97.pr 56 11
        have b115 : 0 ≤ Z97 60 61 ∧ Z97 60 61 ≤ 900 := by have hq := GI_ex hG97 60 61; replace hq : f60 (61 % 962) (Z97 60 61) := hq; unfold f60 at hq; omega
        have b116 : (-2147483648) ≤ Z97 60 61 ∧ Z97 60 61 ≤ 2147483647 := hG97.pr 60 61
        have b117 : (-2147483648) ≤ Z97 60 0 ∧ Z97 60 0 ≤ 2147483647 := hG97.pr 60 0
        have b118 : 0 ≤ Z97 60 1 ∧ Z97 60 1 ≤ 18 := by have hq := GI_ex hG97 60 1; replace hq : f60 (1 % 962) (Z97 60 1) := hq; unfold f60 at hq; omega
        have b119 : (-2147483648) ≤ Z97 60 1 ∧ Z97 60 1 ≤ 2147483647 := hG97.pr 60 1
        have b120 : 0 ≤ Z97 60 2 ∧ Z97 60 2 ≤ 18 := by have hq := GI_ex hG97 60 2; replace hq : f60 (2 % 962) (Z97 60 2) := hq; unfold f60 at hq; omega
        have b121 : (-2147483648) ≤ Z97 60 2 ∧ Z97 60 2 ≤ 2147483647 := hG97.pr 60 2
        refine Jcv0 hx15 (show mx_Sn _ _ 32 (mx_callv 174 2 12 35) from sn_179 32) a56 s56 hc97 rfl rfl rfl ?_
        have lm97 := QR_m bq97 (by omega) (by omega)
        refine mx_J.step (sn_179 35) (fun _ _ => rfl) ?_
        exact c43 Z97 h97 (by omega) (RMx_e br97 (lw_0 (by omega))) hx97 hG97 (fr_tr (M := [(56, 6), (56, 7), (56, 9), (56, 10), (56, 11), (56, 12), (60, (-1))]) fr_rf (hf97) (M1 := []) rfl rfl)
    refine Jif_ne (show mx_Sn _ _ 10 (mx_if_ne 18 13) from sn_179 10) (by omega) (fun q122 => ?_) (fun q122 => ?_)
    · skip
      have eq123 : Z8 56 11 = Z 56 11 := ((hf8 56 11 rfl).trans (hf1 56 11 rfl))
      exact c18 Z8 h8 (by omega) (RMx_e br8 (ee_y (gt.mp (by omega)))) hx8 hG8 fr_rf
    · skip
      refine mx_J.step (sn_179 13) (fun _ _ => rfl) ?_
      refine JcI (z := 2) (show mx_Sn _ _ 14 (mx_const (.int 2) 15) from sn_179 14) rfl ?_
      have eq125 : Z8 56 11 = Z 56 11 := ((hf8 56 11 rfl).trans (hf1 56 11 rfl))
      obtain ⟨Z124, h124, hc124, hx124, hG124, hf124, b124⟩ := ct_163_56x (T := T) (N := N) (sg := gEt T N 31 (gAd T N sg)) (d := d + 97) (l := l) (D := D) (b0 := b0) (ad := ad) (Hb := Hb) (tau := tau) hx8 hG8 (show 2 ≤ 2 ∧ 2 ≤ 4 by omega) br8
      try rw [eq125] at b124
      obtain ⟨br124, b124⟩ := b124
      have b126 : 0 ≤ Z124 56 11 ∧ Z124 56 11 ≤ 4 := hG124.pr 56 11
      refine Jcv0 hx8 (show mx_Sn _ _ 15 (mx_callv 163 2 12 18) from sn_179 15) a56 s56 hc124 rfl rfl rfl ?_
      have eq127 : Z124 56 6 = Z8 56 6 := (hf124 56 6 rfl)
      have eq128 : Z124 56 7 = Z8 56 7 := (hf124 56 7 rfl)
      have eq129 : Z124 56 9 = Z8 56 9 := (hf124 56 9 rfl)
      exact c18 Z124 h124 (by omega) (RMx_e br124 (ee_n (fun q => by have := gt.mpr q; omega))) hx124 hG124 (fr_tr (M := [(56, 11), (56, 12)]) fr_rf (hf124) (M1 := []) rfl rfl)
theorem ct_179_56 {l : Launch} {D : va_G} {b0 : Nat} {ad : Nat → Nat} {Hb : Heap} {tau : Nat → Int64} {d n s : Nat} {S : Nat → xS} {Z : xZ} {h : mx_H} {T : Int → Int} {N : Int} {sg : SS} (hx : XH n s S Z h) (hG : GI n S Z)  {x0 : Int} (p0 : 0 ≤ x0 ∧ x0 ≤ 1) (k0 : (Z 56 6 ≤ Z 56 7 ∧ Z 56 7 ≤ Z 56 8 ∧ (Z 56 9 = 24 ∨ Z 56 6 < Z 56 7))) (k1 : Z 60 61 ≤ Z 56 6) (k2 : (Z 60 2 ≤ Z 60 1 ∧ Z 60 1 ≤ 18 * Z 60 2)) (k3 : ¬ Z 56 9 = 24) (k4 : Z 56 11 = 0) (hr : RMx T N Z sg) : ∃ (Z' : xZ) (h' : mx_H), mx_Ca (tB l D b0 ad Hb tau) (d + 99) 179 [.ref 56, xI x0] h (none, h') ∧ XH n s S Z' h' ∧ GI n S Z' ∧ fr' [(56, 6), (56, 7), (56, 9), (56, 10), (56, 11), (56, 12), (60, (-1))] Z Z' ∧ (RMx T N Z' (lwS T N x0 sg) ∧ ((Z' 56 6 ≤ Z' 56 7 ∧ Z' 56 7 ≤ Z 56 8 ∧ (Z' 56 9 = 24 ∨ Z' 56 6 < Z' 56 7)) ∧ Z' 60 0 = Z 60 0 ∧ Z 56 6 ≤ Z' 56 6 ∧ Z' 60 61 ≤ Z' 56 6 ∧ Z' 60 2 ≤ Z' 60 1 ∧ Z' 60 1 ≤ 18 * Z' 60 2 ∧ (Z' 56 11 = 0 → Z 56 11 = 0 ∧ Z 56 6 + 1 ≤ Z' 56 6 ∧ (WFF Z = 1 → WFF Z' = 1)) ∧ Z' 60 1 = Z 60 1)) := by
  obtain ⟨r, hca, Z', h', e, q⟩ := Jmt (B := tB l D b0 ad Hb tau) (M := mt_179) (mi := 179) (as := [.ref 56, xI x0]) (d := d + 98) (ls := [some (.ref 56), some (xI x0), none]) rfl rfl rfl rfl rfl rfl (cw_179_56 (l := l) (D := D) (b0 := b0) (ad := ad) (Hb := Hb) (tau := tau) (d := d) (Post := fun r => ∃ (Z' : xZ) (h' : mx_H), r = (none, h') ∧ XH n s S Z' h' ∧ GI n S Z' ∧ fr' [(56, 6), (56, 7), (56, 9), (56, 10), (56, 11), (56, 12), (60, (-1))] Z Z' ∧ (RMx T N Z' (lwS T N x0 sg) ∧ ((Z' 56 6 ≤ Z' 56 7 ∧ Z' 56 7 ≤ Z 56 8 ∧ (Z' 56 9 = 24 ∨ Z' 56 6 < Z' 56 7)) ∧ Z' 60 0 = Z 60 0 ∧ Z 56 6 ≤ Z' 56 6 ∧ Z' 60 61 ≤ Z' 56 6 ∧ Z' 60 2 ≤ Z' 60 1 ∧ Z' 60 1 ≤ 18 * Z' 60 2 ∧ (Z' 56 11 = 0 → Z 56 11 = 0 ∧ Z 56 6 + 1 ≤ Z' 56 6 ∧ (WFF Z = 1 → WFF Z' = 1)) ∧ Z' 60 1 = Z 60 1))) hx hG p0 k0 k1 k2 k3 k4 hr (fun Z' h' q1 q2 q3 q4 => ⟨Z', h', rfl, q1, q2, q3, q4⟩))
  subst e; exact ⟨Z', h', hca, q⟩
set_option maxRecDepth 100000 in
theorem cw_180_56 {l : Launch} {D : va_G} {b0 : Nat} {ad : Nat → Nat} {Hb : Heap} {tau : Nat → Int64} {d n s : Nat} {S : Nat → xS} {Z : xZ} {h : mx_H} {Post : mx_R → Prop} {T : Int → Int} {N : Int} {sg : SS} (hx : XH n s S Z h) (hG : GI n S Z)   (k0 : (Z 56 6 ≤ Z 56 7 ∧ Z 56 7 ≤ Z 56 8 ∧ (Z 56 9 = 24 ∨ Z 56 6 < Z 56 7))) (k1 : Z 60 61 ≤ Z 56 6) (k2 : (Z 60 2 ≤ Z 60 1 ∧ Z 60 1 ≤ 18 * Z 60 2)) (k3 : Z 56 11 = 0) (k4 : ¬ Z 56 9 = 24) (hr : RMx T N Z sg) (hP : ∀ (Z' : xZ) (h' : mx_H), XH n s S Z' h' → GI n S Z' → fr' [(56, 6), (56, 7), (56, 9), (56, 10), (56, 11), (56, 12), (60, (-1))] Z Z' → RMx T N Z' (lnS T N sg (Z 60 1)) ∧ LY T N sg (Z 60 1) (Z' 60 1) ∧ ((Z' 56 6 ≤ Z' 56 7 ∧ Z' 56 7 ≤ Z 56 8 ∧ (Z' 56 9 = 24 ∨ Z' 56 6 < Z' 56 7)) ∧ Z' 60 0 = Z 60 0 ∧ Z 56 6 ≤ Z' 56 6 ∧ Z' 60 61 ≤ Z' 56 6 ∧ Z' 60 2 ≤ Z' 60 1 ∧ Z' 60 1 ≤ 18 * Z' 60 2 ∧ (Z' 56 11 = 0 → Z 56 11 = 0 ∧ Z 56 6 + 1 ≤ Z' 56 6 ∧ (WFF Z = 1 → WFF Z' = 1))) → Post (none, h')) : mx_J (tB l D b0 ad Hb tau) mt_180 (d + 99) 0 [some (.ref 56)] [] h Post := by
    have a56 : 56 < n := lt83 (GI_n hG) rfl
    have s56 : S 56 = .inl (12, [0, 2, 2, 2, 2, 0, 0, 0, 0, 0, 0, 0, 0, 0, 0, 2, 2, 2, 0, 2, 2, 2, 0, 0, 2, 2, 2, 2, 2, 2, 0, 0, 2, 2, 2, 2, 2, 2, 2, 2, 2, 2]) := GI_s hG 56 rfl
    refine mx_J.step (sn_180 0) (fun _ _ => rfl) ?_
    have b2 : 0 ≤ Z 56 11 ∧ Z 56 11 ≤ 4 := hG.pr 56 11
    refine JgetI (g := 11) (z := Z 56 11) hx (show mx_Sn _ _ 1 (mx_getf 12 11 4) from sn_180 1) a56 s56 rfl rfl rfl ?_
    refine Jif_eq (show mx_Sn _ _ 4 (mx_if_eq 8 7) from sn_180 4) (by omega) (fun q3 => ?_) (fun q3 => ?_)
    · skip
      refine mx_J.step (sn_180 8) (fun _ _ => rfl) ?_
      refine JcI (z := 2) (show mx_Sn _ _ 9 (mx_const (.int 2) 10) from sn_180 9) rfl ?_
      have b5 : 0 ≤ Z 56 9 ∧ Z 56 9 ≤ 100 := hG.pr 56 9
      obtain ⟨z4, hc4, b4⟩ := ct_164_56 (d := d + 98) (l := l) (D := D) (b0 := b0) (ad := ad) (Hb := Hb) (tau := tau) hx hG (show 0 ≤ 2 ∧ 2 ≤ 100 by omega)
      refine Jcv hx (show mx_Sn _ _ 10 (mx_callv 164 2 12 13) from sn_180 10) a56 s56 hc4 rfl rfl rfl ?_
      have c57 : ∀  (Z7 : xZ) (h7 : mx_H), (Z7 56 6 ≤ Z7 56 7 ∧ Z7 56 7 ≤ Z 56 8 ∧ (Z7 56 9 = 24 ∨ Z7 56 6 < Z7 56 7) ∧ Z7 60 0 = Z 60 0 ∧ Z 56 6 ≤ Z7 56 6 ∧ Z7 60 61 ≤ Z7 56 6 ∧ Z7 60 2 ≤ Z7 60 1 ∧ Z7 60 1 ≤ 18 * Z7 60 2 ∧ (Z7 56 11 = 0 → Z 56 11 = 0 ∧ Z 56 6 + 1 ≤ Z7 56 6 ∧ (WFF Z = 1 → WFF Z7 = 1))) → RMx T N Z7 (lnS T N sg (Z 60 1)) → LY T N sg (Z 60 1) (Z7 60 1) → XH n s S Z7 h7 → GI n S Z7 → fr' [(56, 6), (56, 7), (56, 9), (56, 10), (56, 11), (56, 12), (60, (-1))] Z Z7 → mx_J (tB l D b0 ad Hb tau) mt_180 (d + 99) 57 [some (.ref 56)] [] h7 Post := by
        intro Z7 h7 f6_0 f6_1 f6_2 hx7 hG7 hf7
        have b8 : 0 ≤ Z7 56 6 ∧ Z7 56 6 ≤ 900 := hG7.pr 56 6
        have b9 : 0 ≤ Z7 56 7 ∧ Z7 56 7 ≤ 900 := hG7.pr 56 7
        have b10 : 0 ≤ Z7 56 9 ∧ Z7 56 9 ≤ 100 := hG7.pr 56 9
        have b11 : 0 ≤ Z7 56 11 ∧ Z7 56 11 ≤ 4 := hG7.pr 56 11
        have b12 : 0 ≤ Z7 60 61 ∧ Z7 60 61 ≤ 900 := by have hq := GI_ex hG7 60 61; replace hq : f60 (61 % 962) (Z7 60 61) := hq; unfold f60 at hq; omega
        have b13 : (-2147483648) ≤ Z7 60 61 ∧ Z7 60 61 ≤ 2147483647 := hG7.pr 60 61
        have b14 : (-2147483648) ≤ Z7 60 0 ∧ Z7 60 0 ≤ 2147483647 := hG7.pr 60 0
        have b15 : 0 ≤ Z7 60 1 ∧ Z7 60 1 ≤ 18 := by have hq := GI_ex hG7 60 1; replace hq : f60 (1 % 962) (Z7 60 1) := hq; unfold f60 at hq; omega
        have b16 : (-2147483648) ≤ Z7 60 1 ∧ Z7 60 1 ≤ 2147483647 := hG7.pr 60 1
        have b17 : 0 ≤ Z7 60 2 ∧ Z7 60 2 ≤ 18 := by have hq := GI_ex hG7 60 2; replace hq : f60 (2 % 962) (Z7 60 2) := hq; unfold f60 at hq; omega
        have b18 : (-2147483648) ≤ Z7 60 2 ∧ Z7 60 2 ≤ 2147483647 := hG7.pr 60 2
        have eq19 : Z7 56 8 = Z 56 8 := (hf7 56 8 rfl)
        have b20 : 0 ≤ Z 56 8 ∧ Z 56 8 ≤ 900 := hG.pr 56 8
        exact mx_J.ret (sn_180 57) (fun _ _ => rfl) (hP Z7 h7 hx7 hG7 (fr_tr (M := [(56, 6), (56, 7), (56, 9), (56, 10), (56, 11), (56, 12), (60, (-1))]) fr_rf (hf7) (M1 := []) rfl rfl) ⟨f6_1, (by assumption), by omega⟩)
      refine Jif_eq (show mx_Sn _ _ 13 (mx_if_eq 23 16) from sn_180 13) (by omega) (fun q21 => ?_) (fun q21 => ?_)
      · skip
        refine mx_J.step (sn_180 23) (fun _ _ => rfl) ?_
        refine JcI (z := 3) (show mx_Sn _ _ 24 (mx_const (.int 3) 25) from sn_180 24) rfl ?_
        obtain ⟨z22, hc22, b22⟩ := ct_164_56 (d := d + 98) (l := l) (D := D) (b0 := b0) (ad := ad) (Hb := Hb) (tau := tau) hx hG (show 0 ≤ 3 ∧ 3 ≤ 100 by omega)
        refine Jcv hx (show mx_Sn _ _ 25 (mx_callv 164 2 12 28) from sn_180 25) a56 s56 hc22 rfl rfl rfl ?_
        have c39 : (Z 56 9 = 3 ∨ Z 56 9 = 4) → mx_J (tB l D b0 ad Hb tau) mt_180 (d + 99) 39 [some (.ref 56)] [] h Post := by
          intro f23_0
          refine mx_J.step (sn_180 39) (fun _ _ => rfl) ?_
          refine mx_J.step (sn_180 40) (fun _ _ => rfl) ?_
          refine JgetI (g := 9) (z := Z 56 9) hx (show mx_Sn _ _ 41 (mx_getf 12 9 44) from sn_180 41) a56 s56 rfl rfl rfl ?_
          refine JcI (z := 3) (show mx_Sn _ _ 44 (mx_const (.int 3) 45) from sn_180 44) rfl ?_
          refine Jisub (show mx_Sn _ _ 45 (mx_isub 46) from sn_180 45) ?_
          have b26 : 0 ≤ Z 56 6 ∧ Z 56 6 ≤ 900 := hG.pr 56 6
          have b27 : 0 ≤ Z 56 7 ∧ Z 56 7 ≤ 900 := hG.pr 56 7
          have b28 : 0 ≤ Z 56 8 ∧ Z 56 8 ≤ 900 := hG.pr 56 8
          have b29 : 0 ≤ Z 60 61 ∧ Z 60 61 ≤ 900 := by have hq := GI_ex hG 60 61; replace hq : f60 (61 % 962) (Z 60 61) := hq; unfold f60 at hq; omega
          have b30 : (-2147483648) ≤ Z 60 61 ∧ Z 60 61 ≤ 2147483647 := hG.pr 60 61
          have b31 : (-2147483648) ≤ Z 60 0 ∧ Z 60 0 ≤ 2147483647 := hG.pr 60 0
          have b32 : 0 ≤ Z 60 1 ∧ Z 60 1 ≤ 18 := by have hq := GI_ex hG 60 1; replace hq : f60 (1 % 962) (Z 60 1) := hq; unfold f60 at hq; omega
          have b33 : (-2147483648) ≤ Z 60 1 ∧ Z 60 1 ≤ 2147483647 := hG.pr 60 1
          have b34 : 0 ≤ Z 60 2 ∧ Z 60 2 ≤ 18 := by have hq := GI_ex hG 60 2; replace hq : f60 (2 % 962) (Z 60 2) := hq; unfold f60 at hq; omega
          have b35 : (-2147483648) ≤ Z 60 2 ∧ Z 60 2 ≤ 2147483647 := hG.pr 60 2
          obtain ⟨Z25, h25, hc25, hx25, hG25, hf25, b25⟩ := ct_179_56 (T := T) (N := N) (sg := sg) (d := d + 0) (l := l) (D := D) (b0 := b0) (ad := ad) (Hb := Hb) (tau := tau) hx hG (show 0 ≤ (Z 56 9) - 3 ∧ (Z 56 9) - 3 ≤ 1 by omega) (show (Z 56 6 ≤ Z 56 7 ∧ Z 56 7 ≤ Z 56 8 ∧ (Z 56 9 = 24 ∨ Z 56 6 < Z 56 7)) by omega) (show Z 60 61 ≤ Z 56 6 by omega) (show (Z 60 2 ≤ Z 60 1 ∧ Z 60 1 ≤ 18 * Z 60 2) by omega) (show ¬ Z 56 9 = 24 by omega) (show Z 56 11 = 0 by omega) hr
          obtain ⟨br25, b25⟩ := b25
          have b36 : 0 ≤ Z25 56 6 ∧ Z25 56 6 ≤ 900 := hG25.pr 56 6
          have b37 : 0 ≤ Z25 56 7 ∧ Z25 56 7 ≤ 900 := hG25.pr 56 7
          have b38 : 0 ≤ Z25 56 9 ∧ Z25 56 9 ≤ 100 := hG25.pr 56 9
          have b39 : 0 ≤ Z25 56 11 ∧ Z25 56 11 ≤ 4 := hG25.pr 56 11
          have b40 : 0 ≤ Z25 60 61 ∧ Z25 60 61 ≤ 900 := by have hq := GI_ex hG25 60 61; replace hq : f60 (61 % 962) (Z25 60 61) := hq; unfold f60 at hq; omega
          have b41 : (-2147483648) ≤ Z25 60 61 ∧ Z25 60 61 ≤ 2147483647 := hG25.pr 60 61
          have b42 : (-2147483648) ≤ Z25 60 0 ∧ Z25 60 0 ≤ 2147483647 := hG25.pr 60 0
          have b43 : 0 ≤ Z25 60 1 ∧ Z25 60 1 ≤ 18 := by have hq := GI_ex hG25 60 1; replace hq : f60 (1 % 962) (Z25 60 1) := hq; unfold f60 at hq; omega
          have b44 : (-2147483648) ≤ Z25 60 1 ∧ Z25 60 1 ≤ 2147483647 := hG25.pr 60 1
          have b45 : 0 ≤ Z25 60 2 ∧ Z25 60 2 ≤ 18 := by have hq := GI_ex hG25 60 2; replace hq : f60 (2 % 962) (Z25 60 2) := hq; unfold f60 at hq; omega
          have b46 : (-2147483648) ≤ Z25 60 2 ∧ Z25 60 2 ≤ 2147483647 := hG25.pr 60 2
          refine Jcv0 hx (show mx_Sn _ _ 46 (mx_callv 179 2 12 49) from sn_180 46) a56 s56 hc25 rfl rfl rfl ?_
          refine mx_J.step (sn_180 49) (fun _ _ => rfl) ?_
          exact c57 Z25 h25 (by omega) (RMx_e br25 (ln_w ((Decidable.em (Z 56 9 = 3)).elim (fun q => Or.inl ⟨by omega, ((RMx_is (k := 3) hr).mp (by omega))⟩) (fun q => Or.inr ⟨by omega, ((RMx_is (k := 4) hr).mp (by omega))⟩)))) (LY_n (fun q => by have := (RMx_is (k := 2) hr).mpr q; omega) (by omega)) hx25 hG25 (fr_tr (M := [(56, 6), (56, 7), (56, 9), (56, 10), (56, 11), (56, 12), (60, (-1))]) fr_rf (hf25) (M1 := []) rfl rfl)
        refine Jif_ne (show mx_Sn _ _ 28 (mx_if_ne 39 31) from sn_180 28) (by omega) (fun q47 => ?_) (fun q47 => ?_)
        · skip
          exact c39 (by omega)
        · skip
          refine mx_J.step (sn_180 31) (fun _ _ => rfl) ?_
          refine JcI (z := 4) (show mx_Sn _ _ 32 (mx_const (.int 4) 33) from sn_180 32) rfl ?_
          obtain ⟨z48, hc48, b48⟩ := ct_164_56 (d := d + 98) (l := l) (D := D) (b0 := b0) (ad := ad) (Hb := Hb) (tau := tau) hx hG (show 0 ≤ 4 ∧ 4 ≤ 100 by omega)
          refine Jcv hx (show mx_Sn _ _ 33 (mx_callv 164 2 12 36) from sn_180 33) a56 s56 hc48 rfl rfl rfl ?_
          refine Jif_eq (show mx_Sn _ _ 36 (mx_if_eq 52 39) from sn_180 36) (by omega) (fun q49 => ?_) (fun q49 => ?_)
          · skip
            refine mx_J.step (sn_180 52) (fun _ _ => rfl) ?_
            refine JcI (z := 2) (show mx_Sn _ _ 53 (mx_const (.int 2) 54) from sn_180 53) rfl ?_
            obtain ⟨Z50, h50, hc50, hx50, hG50, hf50, b50⟩ := ct_163_56x (T := T) (N := N) (sg := sg) (d := d + 98) (l := l) (D := D) (b0 := b0) (ad := ad) (Hb := Hb) (tau := tau) hx hG (show 2 ≤ 2 ∧ 2 ≤ 4 by omega) hr
            obtain ⟨br50, b50⟩ := b50
            have b51 : 0 ≤ Z50 56 11 ∧ Z50 56 11 ≤ 4 := hG50.pr 56 11
            refine Jcv0 hx (show mx_Sn _ _ 54 (mx_callv 163 2 12 57) from sn_180 54) a56 s56 hc50 rfl rfl rfl ?_
            have eq52 : Z50 56 6 = Z 56 6 := (hf50 56 6 rfl)
            have b53 : 0 ≤ Z 56 6 ∧ Z 56 6 ≤ 900 := hG.pr 56 6
            have eq54 : Z50 56 7 = Z 56 7 := (hf50 56 7 rfl)
            have b55 : 0 ≤ Z 56 7 ∧ Z 56 7 ≤ 900 := hG.pr 56 7
            have eq56 : Z50 56 9 = Z 56 9 := (hf50 56 9 rfl)
            have eq57 : Z50 60 61 = Z 60 61 := (hf50 60 61 rfl)
            have b58 : 0 ≤ Z 60 61 ∧ Z 60 61 ≤ 900 := by have hq := GI_ex hG 60 61; replace hq : f60 (61 % 962) (Z 60 61) := hq; unfold f60 at hq; omega
            have b59 : (-2147483648) ≤ Z 60 61 ∧ Z 60 61 ≤ 2147483647 := hG.pr 60 61
            have eq60 : Z50 60 0 = Z 60 0 := (hf50 60 0 rfl)
            have b61 : (-2147483648) ≤ Z 60 0 ∧ Z 60 0 ≤ 2147483647 := hG.pr 60 0
            have eq62 : Z50 60 1 = Z 60 1 := (hf50 60 1 rfl)
            have b63 : 0 ≤ Z 60 1 ∧ Z 60 1 ≤ 18 := by have hq := GI_ex hG 60 1; replace hq : f60 (1 % 962) (Z 60 1) := hq; unfold f60 at hq; omega
            have b64 : (-2147483648) ≤ Z 60 1 ∧ Z 60 1 ≤ 2147483647 := hG.pr 60 1
            have eq65 : Z50 60 2 = Z 60 2 := (hf50 60 2 rfl)
            have b66 : 0 ≤ Z 60 2 ∧ Z 60 2 ≤ 18 := by have hq := GI_ex hG 60 2; replace hq : f60 (2 % 962) (Z 60 2) := hq; unfold f60 at hq; omega
            have b67 : (-2147483648) ≤ Z 60 2 ∧ Z 60 2 ≤ 2147483647 := hG.pr 60 2
            have eq68 : WFF Z50  = WFF Z := (WFF_c (fun i => hf50 60 i rfl))
            exact c57 Z50 h50 (by omega) (RMx_e br50 (ln_n (fun q => by have := (RMx_is (k := 2) hr).mpr q; omega) (fun q => by have := (RMx_is (k := 3) hr).mpr q; omega) (fun q => by have := (RMx_is (k := 4) hr).mpr q; omega))) (LY_n (fun q => by have := (RMx_is (k := 2) hr).mpr q; omega) (hf50 60 1 rfl)) hx50 hG50 (fr_tr (M := [(56, 6), (56, 7), (56, 9), (56, 10), (56, 11), (56, 12), (60, (-1))]) fr_rf (hf50) (M1 := []) rfl rfl)
          · skip
            exact c39 (by omega)
      · skip
        refine mx_J.step (sn_180 16) (fun _ _ => rfl) ?_
        have b70 : 0 ≤ Z 56 6 ∧ Z 56 6 ≤ 900 := hG.pr 56 6
        have b71 : 0 ≤ Z 56 7 ∧ Z 56 7 ≤ 900 := hG.pr 56 7
        have b72 : 0 ≤ Z 56 8 ∧ Z 56 8 ≤ 900 := hG.pr 56 8
        have b73 : 0 ≤ Z 60 61 ∧ Z 60 61 ≤ 900 := by have hq := GI_ex hG 60 61; replace hq : f60 (61 % 962) (Z 60 61) := hq; unfold f60 at hq; omega
        have b74 : (-2147483648) ≤ Z 60 61 ∧ Z 60 61 ≤ 2147483647 := hG.pr 60 61
        have b75 : (-2147483648) ≤ Z 60 0 ∧ Z 60 0 ≤ 2147483647 := hG.pr 60 0
        have b76 : 0 ≤ Z 60 1 ∧ Z 60 1 ≤ 18 := by have hq := GI_ex hG 60 1; replace hq : f60 (1 % 962) (Z 60 1) := hq; unfold f60 at hq; omega
        have b77 : (-2147483648) ≤ Z 60 1 ∧ Z 60 1 ≤ 2147483647 := hG.pr 60 1
        have b78 : 0 ≤ Z 60 2 ∧ Z 60 2 ≤ 18 := by have hq := GI_ex hG 60 2; replace hq : f60 (2 % 962) (Z 60 2) := hq; unfold f60 at hq; omega
        have b79 : (-2147483648) ≤ Z 60 2 ∧ Z 60 2 ≤ 2147483647 := hG.pr 60 2
        obtain ⟨Z69, h69, hc69, hx69, hG69, hf69, b69⟩ := ct_178_56 (T := T) (N := N) (sg := sg) (d := d + 91) (l := l) (D := D) (b0 := b0) (ad := ad) (Hb := Hb) (tau := tau) hx hG  (show (Z 56 6 ≤ Z 56 7 ∧ Z 56 7 ≤ Z 56 8 ∧ (Z 56 9 = 24 ∨ Z 56 6 < Z 56 7)) by omega) (show Z 60 61 ≤ Z 56 6 by omega) (show (Z 60 2 ≤ Z 60 1 ∧ Z 60 1 ≤ 18 * Z 60 2) by omega) (show ¬ Z 56 9 = 24 by omega) (show Z 56 11 = 0 by omega) hr
        obtain ⟨br69, b69⟩ := b69
        obtain ⟨bs69_0, b69⟩ := b69
        have b80 : 0 ≤ Z69 56 6 ∧ Z69 56 6 ≤ 900 := hG69.pr 56 6
        have b81 : 0 ≤ Z69 56 7 ∧ Z69 56 7 ≤ 900 := hG69.pr 56 7
        have b82 : 0 ≤ Z69 56 9 ∧ Z69 56 9 ≤ 100 := hG69.pr 56 9
        have b83 : 0 ≤ Z69 56 11 ∧ Z69 56 11 ≤ 4 := hG69.pr 56 11
        have b84 : 0 ≤ Z69 60 61 ∧ Z69 60 61 ≤ 900 := by have hq := GI_ex hG69 60 61; replace hq : f60 (61 % 962) (Z69 60 61) := hq; unfold f60 at hq; omega
        have b85 : (-2147483648) ≤ Z69 60 61 ∧ Z69 60 61 ≤ 2147483647 := hG69.pr 60 61
        have b86 : (-2147483648) ≤ Z69 60 0 ∧ Z69 60 0 ≤ 2147483647 := hG69.pr 60 0
        have b87 : 0 ≤ Z69 60 1 ∧ Z69 60 1 ≤ 18 := by have hq := GI_ex hG69 60 1; replace hq : f60 (1 % 962) (Z69 60 1) := hq; unfold f60 at hq; omega
        have b88 : (-2147483648) ≤ Z69 60 1 ∧ Z69 60 1 ≤ 2147483647 := hG69.pr 60 1
        have b89 : 0 ≤ Z69 60 2 ∧ Z69 60 2 ≤ 18 := by have hq := GI_ex hG69 60 2; replace hq : f60 (2 % 962) (Z69 60 2) := hq; unfold f60 at hq; omega
        have b90 : (-2147483648) ≤ Z69 60 2 ∧ Z69 60 2 ≤ 2147483647 := hG69.pr 60 2
        refine Jcv0 hx (show mx_Sn _ _ 17 (mx_callv 178 1 12 20) from sn_180 17) a56 s56 hc69 rfl rfl rfl ?_
        refine mx_J.step (sn_180 20) (fun _ _ => rfl) ?_
        exact c57 Z69 h69 (by omega) (RMx_e br69 (ln_h ((RMx_is (k := 2) hr).mp (by omega)))) (LY_m ((RMx_is (k := 2) hr).mp (by omega)) (by assumption)) hx69 hG69 (fr_tr (M := [(56, 6), (56, 7), (56, 9), (56, 10), (56, 11), (56, 12), (60, (-1))]) fr_rf (hf69) (M1 := []) rfl rfl)
    · skip
      have b91 : 0 ≤ Z 56 6 ∧ Z 56 6 ≤ 900 := hG.pr 56 6
      have b92 : 0 ≤ Z 56 7 ∧ Z 56 7 ≤ 900 := hG.pr 56 7
      have b93 : 0 ≤ Z 56 9 ∧ Z 56 9 ≤ 100 := hG.pr 56 9
      have b94 : 0 ≤ Z 60 61 ∧ Z 60 61 ≤ 900 := by have hq := GI_ex hG 60 61; replace hq : f60 (61 % 962) (Z 60 61) := hq; unfold f60 at hq; omega
      have b95 : (-2147483648) ≤ Z 60 61 ∧ Z 60 61 ≤ 2147483647 := hG.pr 60 61
      have b96 : (-2147483648) ≤ Z 60 0 ∧ Z 60 0 ≤ 2147483647 := hG.pr 60 0
      have b97 : 0 ≤ Z 60 1 ∧ Z 60 1 ≤ 18 := by have hq := GI_ex hG 60 1; replace hq : f60 (1 % 962) (Z 60 1) := hq; unfold f60 at hq; omega
      have b98 : (-2147483648) ≤ Z 60 1 ∧ Z 60 1 ≤ 2147483647 := hG.pr 60 1
      have b99 : 0 ≤ Z 60 2 ∧ Z 60 2 ≤ 18 := by have hq := GI_ex hG 60 2; replace hq : f60 (2 % 962) (Z 60 2) := hq; unfold f60 at hq; omega
      have b100 : (-2147483648) ≤ Z 60 2 ∧ Z 60 2 ≤ 2147483647 := hG.pr 60 2
      have b101 : 0 ≤ Z 56 8 ∧ Z 56 8 ≤ 900 := hG.pr 56 8
      exact mx_J.ret (sn_180 7) (fun _ _ => rfl) (hP Z h hx hG fr_rf ⟨(RMx_e hr (absurd (show Z 56 11 = 0 by omega) (by omega))), (absurd (show Z 56 11 = 0 by omega) (by omega)), by omega⟩)
theorem ct_180_56 {l : Launch} {D : va_G} {b0 : Nat} {ad : Nat → Nat} {Hb : Heap} {tau : Nat → Int64} {d n s : Nat} {S : Nat → xS} {Z : xZ} {h : mx_H} {T : Int → Int} {N : Int} {sg : SS} (hx : XH n s S Z h) (hG : GI n S Z)   (k0 : (Z 56 6 ≤ Z 56 7 ∧ Z 56 7 ≤ Z 56 8 ∧ (Z 56 9 = 24 ∨ Z 56 6 < Z 56 7))) (k1 : Z 60 61 ≤ Z 56 6) (k2 : (Z 60 2 ≤ Z 60 1 ∧ Z 60 1 ≤ 18 * Z 60 2)) (k3 : Z 56 11 = 0) (k4 : ¬ Z 56 9 = 24) (hr : RMx T N Z sg) : ∃ (Z' : xZ) (h' : mx_H), mx_Ca (tB l D b0 ad Hb tau) (d + 100) 180 [.ref 56] h (none, h') ∧ XH n s S Z' h' ∧ GI n S Z' ∧ fr' [(56, 6), (56, 7), (56, 9), (56, 10), (56, 11), (56, 12), (60, (-1))] Z Z' ∧ (RMx T N Z' (lnS T N sg (Z 60 1)) ∧ LY T N sg (Z 60 1) (Z' 60 1) ∧ ((Z' 56 6 ≤ Z' 56 7 ∧ Z' 56 7 ≤ Z 56 8 ∧ (Z' 56 9 = 24 ∨ Z' 56 6 < Z' 56 7)) ∧ Z' 60 0 = Z 60 0 ∧ Z 56 6 ≤ Z' 56 6 ∧ Z' 60 61 ≤ Z' 56 6 ∧ Z' 60 2 ≤ Z' 60 1 ∧ Z' 60 1 ≤ 18 * Z' 60 2 ∧ (Z' 56 11 = 0 → Z 56 11 = 0 ∧ Z 56 6 + 1 ≤ Z' 56 6 ∧ (WFF Z = 1 → WFF Z' = 1)))) := by
  obtain ⟨r, hca, Z', h', e, q⟩ := Jmt (B := tB l D b0 ad Hb tau) (M := mt_180) (mi := 180) (as := [.ref 56]) (d := d + 99) (ls := [some (.ref 56)]) rfl rfl rfl rfl rfl rfl (cw_180_56 (l := l) (D := D) (b0 := b0) (ad := ad) (Hb := Hb) (tau := tau) (d := d) (Post := fun r => ∃ (Z' : xZ) (h' : mx_H), r = (none, h') ∧ XH n s S Z' h' ∧ GI n S Z' ∧ fr' [(56, 6), (56, 7), (56, 9), (56, 10), (56, 11), (56, 12), (60, (-1))] Z Z' ∧ (RMx T N Z' (lnS T N sg (Z 60 1)) ∧ LY T N sg (Z 60 1) (Z' 60 1) ∧ ((Z' 56 6 ≤ Z' 56 7 ∧ Z' 56 7 ≤ Z 56 8 ∧ (Z' 56 9 = 24 ∨ Z' 56 6 < Z' 56 7)) ∧ Z' 60 0 = Z 60 0 ∧ Z 56 6 ≤ Z' 56 6 ∧ Z' 60 61 ≤ Z' 56 6 ∧ Z' 60 2 ≤ Z' 60 1 ∧ Z' 60 1 ≤ 18 * Z' 60 2 ∧ (Z' 56 11 = 0 → Z 56 11 = 0 ∧ Z 56 6 + 1 ≤ Z' 56 6 ∧ (WFF Z = 1 → WFF Z' = 1))))) hx hG k0 k1 k2 k3 k4 hr (fun Z' h' q1 q2 q3 q4 => ⟨Z', h', rfl, q1, q2, q3, q4⟩))
  subst e; exact ⟨Z', h', hca, q⟩
set_option maxRecDepth 100000 in
theorem cw_181_56 {l : Launch} {D : va_G} {b0 : Nat} {ad : Nat → Nat} {Hb : Heap} {tau : Nat → Int64} {d n s : Nat} {S : Nat → xS} {Z : xZ} {h : mx_H} {Post : mx_R → Prop} {T : Int → Int} {N : Int} {sg : SS} (hx : XH n s S Z h) (hG : GI n S Z)   (k0 : (Z 56 6 ≤ Z 56 7 ∧ Z 56 7 ≤ Z 56 8 ∧ (Z 56 9 = 24 ∨ Z 56 6 < Z 56 7))) (k1 : (0 ≤ Z 60 0 ∧ Z 60 0 ≤ 901)) (hr : RMx T N Z sg) (hP : ∀ (Z' : xZ) (h' : mx_H), XH n s S Z' h' → GI n S Z' → fr' [(56, 6), (56, 7), (56, 9), (56, 10), (56, 11), (56, 12), (60, (-1))] Z Z' → RMx T N Z' (gEx T N 30 sg) ∧ ((Z' 56 6 ≤ Z' 56 7 ∧ Z' 56 7 ≤ Z 56 8 ∧ (Z' 56 9 = 24 ∨ Z' 56 6 < Z' 56 7)) ∧ Z 56 6 ≤ Z' 56 6 ∧ Z' 60 61 = Z 60 61 ∧ Z' 60 0 = Z 60 0 + 1 ∧ Z' 60 1 = Z 60 1 ∧ Z' 60 2 = Z 60 2 ∧ WFF Z' = WFF Z ∧ (Z' 56 11 = 0 → Z 56 11 = 0)) → Post (none, h')) : mx_J (tB l D b0 ad Hb tau) mt_181 (d + 7) 0 [some (.ref 56)] [] h Post := by
    have a56 : 56 < n := lt83 (GI_n hG) rfl
    have s56 : S 56 = .inl (12, [0, 2, 2, 2, 2, 0, 0, 0, 0, 0, 0, 0, 0, 0, 0, 2, 2, 2, 0, 2, 2, 2, 0, 0, 2, 2, 2, 2, 2, 2, 0, 0, 2, 2, 2, 2, 2, 2, 2, 2, 2, 2]) := GI_s hG 56 rfl
    have a60 : 60 < n := lt83 (GI_n hG) rfl
    have s60 : S 60 = .inr (.int, 962, 0) := GI_s hG 60 rfl
    have gt := RMx_is (k := 30) hr
    refine mx_J.step (sn_181 0) (fun _ _ => rfl) ?_
    refine JcI (z := 30) (show mx_Sn _ _ 1 (mx_const (.int 30) 3) from sn_181 1) rfl ?_
    have b2 : 0 ≤ Z 56 6 ∧ Z 56 6 ≤ 900 := hG.pr 56 6
    have b3 : 0 ≤ Z 56 7 ∧ Z 56 7 ≤ 900 := hG.pr 56 7
    have b4 : 0 ≤ Z 56 8 ∧ Z 56 8 ≤ 900 := hG.pr 56 8
    have b5 : 0 ≤ Z 56 9 ∧ Z 56 9 ≤ 100 := hG.pr 56 9
    have b6 : 0 ≤ Z 56 11 ∧ Z 56 11 ≤ 4 := hG.pr 56 11
    obtain ⟨z1, Z1, h1, hc1, hx1, hG1, hf1, b1⟩ := ct_165_56x (T := T) (N := N) (sg := sg) (d := d + 0) (l := l) (D := D) (b0 := b0) (ad := ad) (Hb := Hb) (tau := tau) hx hG (show 0 ≤ 30 ∧ 30 ≤ 100 by omega) (show (Z 56 6 ≤ Z 56 7 ∧ Z 56 7 ≤ Z 56 8 ∧ (Z 56 9 = 24 ∨ Z 56 6 < Z 56 7)) by omega) (show ¬ 30 = 24 by omega) hr
    obtain ⟨br1, b1⟩ := b1
    have b7 : 0 ≤ Z1 56 6 ∧ Z1 56 6 ≤ 900 := hG1.pr 56 6
    have b8 : 0 ≤ Z1 56 7 ∧ Z1 56 7 ≤ 900 := hG1.pr 56 7
    have b9 : 0 ≤ Z1 56 9 ∧ Z1 56 9 ≤ 100 := hG1.pr 56 9
    refine Jcv hx (show mx_Sn _ _ 3 (mx_callv 165 2 12 6) from sn_181 3) a56 s56 hc1 rfl rfl rfl ?_
    have c14 : ∀  (Z11 : xZ) (h11 : mx_H), (Z11 56 6 ≤ Z11 56 7 ∧ Z11 56 7 ≤ Z 56 8 ∧ (Z11 56 9 = 24 ∨ Z11 56 6 < Z11 56 7) ∧ Z 56 6 ≤ Z11 56 6 ∧ (Z11 56 11 = 0 → Z 56 11 = 0)) → RMx T N Z11 (gEx T N 30 sg) → XH n s S Z11 h11 → GI n S Z11 → fr' [(56, 11), (56, 12)] Z1 Z11 → mx_J (tB l D b0 ad Hb tau) mt_181 (d + 7) 14 [some (.ref 56)] [] h11 Post := by
      intro Z11 h11 f10_0 f10_1 hx11 hG11 hf11
      have eq12 : Z11 56 6 = Z1 56 6 := (hf11 56 6 rfl)
      have eq13 : Z11 56 7 = Z1 56 7 := (hf11 56 7 rfl)
      have eq14 : Z11 56 9 = Z1 56 9 := (hf11 56 9 rfl)
      have b15 : 0 ≤ Z11 56 11 ∧ Z11 56 11 ≤ 4 := hG11.pr 56 11
      refine mx_J.step (sn_181 14) (fun _ _ => rfl) ?_
      refine JgetR (g := 4) (b := 60) hx11 (show mx_Sn _ _ 15 (mx_getf 12 4 18) from sn_181 15) a56 s56 rfl rfl (hG11.prr 56 4 rfl) ?_
      refine JcI (z := 0) (show mx_Sn _ _ 18 (mx_const (.int 0) 19) from sn_181 18) rfl ?_
      refine mx_J.step (sn_181 19) (fun _ _ => rfl) ?_
      have b17 : (-2147483648) ≤ Z 60 0 ∧ Z 60 0 ≤ 2147483647 := hG.pr 60 0
      refine JialdI (z := Z 60 0) hx11 (show mx_Sn _ _ 20 (mx_iald 21) from sn_181 20) a60 s60 (by omega) ((hf11 60 0 rfl).trans (hf1 60 0 rfl)) ?_
      refine JcI (z := 1) (show mx_Sn _ _ 21 (mx_const (.int 1) 22) from sn_181 21) rfl ?_
      refine Jiadd (show mx_Sn _ _ 22 (mx_iadd 23) from sn_181 22) ?_
      have eq18 : WFF Z11  = WFF Z := ((WFF_c (fun i => hf11 60 i rfl)).trans (WFF_c (fun i => hf1 60 i rfl)))
      refine JiastI hx11 (show mx_Sn _ _ 23 (mx_iast 1 24) from sn_181 23) a60 s60 rfl (by omega) (fun Z19 h19 hx19 hE19 => ?_)
      have hG19 := GI_up hG11 hE19 (show (-2147483648) ≤ (Z 60 0) + 1 ∧ (Z 60 0) + 1 ≤ 2147483647 by omega) (show f60 ((0) % 962) ((Z 60 0) + 1) by first | assumption | (unfold f60; omega) | (unfold f60 at *; omega)) rfl
      have wo := wf_o hE19 (by omega)
      have eq20 : Z19 56 6 = Z1 56 6 := ((up_nk hE19 rfl).trans (hf11 56 6 rfl))
      have eq21 : Z19 56 7 = Z1 56 7 := ((up_nk hE19 rfl).trans (hf11 56 7 rfl))
      have eq22 : Z19 56 9 = Z1 56 9 := ((up_nk hE19 rfl).trans (hf11 56 9 rfl))
      have eq23 : Z19 56 11 = Z11 56 11 := (up_nk hE19 rfl)
      have eq24 : Z19 60 61 = Z 60 61 := ((up_ni hE19 (by decide)).trans ((hf11 60 61 rfl).trans (hf1 60 61 rfl)))
      have b25 : 0 ≤ Z 60 61 ∧ Z 60 61 ≤ 900 := by have hq := GI_ex hG 60 61; replace hq : f60 (61 % 962) (Z 60 61) := hq; unfold f60 at hq; omega
      have b26 : (-2147483648) ≤ Z 60 61 ∧ Z 60 61 ≤ 2147483647 := hG.pr 60 61
      have eq27 : Z19 60 0 = (Z 60 0) + 1 := (up_at hE19)
      have eq28 : Z19 60 1 = Z 60 1 := ((up_ni hE19 (by decide)).trans ((hf11 60 1 rfl).trans (hf1 60 1 rfl)))
      have b29 : 0 ≤ Z 60 1 ∧ Z 60 1 ≤ 18 := by have hq := GI_ex hG 60 1; replace hq : f60 (1 % 962) (Z 60 1) := hq; unfold f60 at hq; omega
      have b30 : (-2147483648) ≤ Z 60 1 ∧ Z 60 1 ≤ 2147483647 := hG.pr 60 1
      have eq31 : Z19 60 2 = Z 60 2 := ((up_ni hE19 (by decide)).trans ((hf11 60 2 rfl).trans (hf1 60 2 rfl)))
      have b32 : 0 ≤ Z 60 2 ∧ Z 60 2 ≤ 18 := by have hq := GI_ex hG 60 2; replace hq : f60 (2 % 962) (Z 60 2) := hq; unfold f60 at hq; omega
      have b33 : (-2147483648) ≤ Z 60 2 ∧ Z 60 2 ≤ 2147483647 := hG.pr 60 2
      have eq34 : Z19 56 6 = Z1 56 6 := ((up_nk hE19 rfl).trans (hf11 56 6 rfl))
      have eq35 : Z19 56 7 = Z1 56 7 := ((up_nk hE19 rfl).trans (hf11 56 7 rfl))
      have eq36 : Z19 56 8 = Z 56 8 := ((up_nk hE19 rfl).trans ((hf11 56 8 rfl).trans (hf1 56 8 rfl)))
      have eq37 : Z19 56 9 = Z1 56 9 := ((up_nk hE19 rfl).trans (hf11 56 9 rfl))
      have eq38 : Z19 56 11 = Z11 56 11 := (up_nk hE19 rfl)
      have eq39 : Z19 60 61 = Z 60 61 := ((up_ni hE19 (by decide)).trans ((hf11 60 61 rfl).trans (hf1 60 61 rfl)))
      have eq40 : Z19 60 0 = (Z 60 0) + 1 := (up_at hE19)
      have eq41 : Z19 60 1 = Z 60 1 := ((up_ni hE19 (by decide)).trans ((hf11 60 1 rfl).trans (hf1 60 1 rfl)))
      have eq42 : Z19 60 2 = Z 60 2 := ((up_ni hE19 (by decide)).trans ((hf11 60 2 rfl).trans (hf1 60 2 rfl)))
      have rc43 : RMx T N Z19 (gEx T N 30 sg) := RMx_c f10_1 ⟨(up_nk hE19 rfl), (up_nk hE19 rfl), (up_nk hE19 rfl), (up_nk hE19 rfl), (up_nk hE19 rfl), (up_nk hE19 rfl), (up_nk hE19 rfl), fun i => (up_nk hE19 rfl)⟩ (up_ni hE19 (by decide)) (fun i h62 => (up_ni hE19 (by omega))) trivial
      exact mx_J.ret (sn_181 24) (fun _ _ => rfl) (hP Z19 h19 hx19 hG19 (fr_tr (M := [(56, 6), (56, 7), (56, 9), (56, 10), (56, 11), (56, 12), (60, (-1))]) (fr_tr (M := [(56, 6), (56, 7), (56, 9), (56, 10), (56, 11), (56, 12), (60, (-1))]) (fr_tr (M := [(56, 6), (56, 7), (56, 9), (56, 10), (56, 11), (56, 12), (60, (-1))]) fr_rf (hf1) (M1 := []) rfl rfl) (hf11) rfl rfl) (fr_ua hE19) rfl rfl) ⟨rc43, by omega⟩)
    refine Jif_ne (show mx_Sn _ _ 6 (mx_if_ne 14 9) from sn_181 6) (by omega) (fun q44 => ?_) (fun q44 => ?_)
    · skip
      have eq45 : Z1 56 11 = Z 56 11 := (hf1 56 11 rfl)
      exact c14 Z1 h1 (by omega) (RMx_e br1 (ee_y (gt.mp (by omega)))) hx1 hG1 fr_rf
    · skip
      refine mx_J.step (sn_181 9) (fun _ _ => rfl) ?_
      refine JcI (z := 2) (show mx_Sn _ _ 10 (mx_const (.int 2) 11) from sn_181 10) rfl ?_
      have eq47 : Z1 56 11 = Z 56 11 := (hf1 56 11 rfl)
      obtain ⟨Z46, h46, hc46, hx46, hG46, hf46, b46⟩ := ct_163_56x (T := T) (N := N) (sg := gEt T N 30 sg) (d := d + 6) (l := l) (D := D) (b0 := b0) (ad := ad) (Hb := Hb) (tau := tau) hx1 hG1 (show 2 ≤ 2 ∧ 2 ≤ 4 by omega) br1
      try rw [eq47] at b46
      obtain ⟨br46, b46⟩ := b46
      have b48 : 0 ≤ Z46 56 11 ∧ Z46 56 11 ≤ 4 := hG46.pr 56 11
      refine Jcv0 hx1 (show mx_Sn _ _ 11 (mx_callv 163 2 12 14) from sn_181 11) a56 s56 hc46 rfl rfl rfl ?_
      have eq49 : Z46 56 6 = Z1 56 6 := (hf46 56 6 rfl)
      have eq50 : Z46 56 7 = Z1 56 7 := (hf46 56 7 rfl)
      have eq51 : Z46 56 9 = Z1 56 9 := (hf46 56 9 rfl)
      exact c14 Z46 h46 (by omega) (RMx_e br46 (ee_n (fun q => by have := gt.mpr q; omega))) hx46 hG46 (fr_tr (M := [(56, 11), (56, 12)]) fr_rf (hf46) (M1 := []) rfl rfl)
theorem ct_181_56 {l : Launch} {D : va_G} {b0 : Nat} {ad : Nat → Nat} {Hb : Heap} {tau : Nat → Int64} {d n s : Nat} {S : Nat → xS} {Z : xZ} {h : mx_H} {T : Int → Int} {N : Int} {sg : SS} (hx : XH n s S Z h) (hG : GI n S Z)   (k0 : (Z 56 6 ≤ Z 56 7 ∧ Z 56 7 ≤ Z 56 8 ∧ (Z 56 9 = 24 ∨ Z 56 6 < Z 56 7))) (k1 : (0 ≤ Z 60 0 ∧ Z 60 0 ≤ 901)) (hr : RMx T N Z sg) : ∃ (Z' : xZ) (h' : mx_H), mx_Ca (tB l D b0 ad Hb tau) (d + 8) 181 [.ref 56] h (none, h') ∧ XH n s S Z' h' ∧ GI n S Z' ∧ fr' [(56, 6), (56, 7), (56, 9), (56, 10), (56, 11), (56, 12), (60, (-1))] Z Z' ∧ (RMx T N Z' (gEx T N 30 sg) ∧ ((Z' 56 6 ≤ Z' 56 7 ∧ Z' 56 7 ≤ Z 56 8 ∧ (Z' 56 9 = 24 ∨ Z' 56 6 < Z' 56 7)) ∧ Z 56 6 ≤ Z' 56 6 ∧ Z' 60 61 = Z 60 61 ∧ Z' 60 0 = Z 60 0 + 1 ∧ Z' 60 1 = Z 60 1 ∧ Z' 60 2 = Z 60 2 ∧ WFF Z' = WFF Z ∧ (Z' 56 11 = 0 → Z 56 11 = 0))) := by
  obtain ⟨r, hca, Z', h', e, q⟩ := Jmt (B := tB l D b0 ad Hb tau) (M := mt_181) (mi := 181) (as := [.ref 56]) (d := d + 7) (ls := [some (.ref 56)]) rfl rfl rfl rfl rfl rfl (cw_181_56 (l := l) (D := D) (b0 := b0) (ad := ad) (Hb := Hb) (tau := tau) (d := d) (Post := fun r => ∃ (Z' : xZ) (h' : mx_H), r = (none, h') ∧ XH n s S Z' h' ∧ GI n S Z' ∧ fr' [(56, 6), (56, 7), (56, 9), (56, 10), (56, 11), (56, 12), (60, (-1))] Z Z' ∧ (RMx T N Z' (gEx T N 30 sg) ∧ ((Z' 56 6 ≤ Z' 56 7 ∧ Z' 56 7 ≤ Z 56 8 ∧ (Z' 56 9 = 24 ∨ Z' 56 6 < Z' 56 7)) ∧ Z 56 6 ≤ Z' 56 6 ∧ Z' 60 61 = Z 60 61 ∧ Z' 60 0 = Z 60 0 + 1 ∧ Z' 60 1 = Z 60 1 ∧ Z' 60 2 = Z 60 2 ∧ WFF Z' = WFF Z ∧ (Z' 56 11 = 0 → Z 56 11 = 0)))) hx hG k0 k1 hr (fun Z' h' q1 q2 q3 q4 => ⟨Z', h', rfl, q1, q2, q3, q4⟩))
  subst e; exact ⟨Z', h', hca, q⟩
set_option maxRecDepth 100000 in
theorem cw_186_56_gb {l : Launch} {D : va_G} {b0 : Nat} {ad : Nat → Nat} {Hb : Heap} {tau : Nat → Int64} {d n s : Nat} {S : Nat → xS} {Z : xZ} {h : mx_H} {Post : mx_R → Prop} (hx : XH n s S Z h) (hG : GB n S Z)   (hP : ∀ (Z' : xZ) (h' : mx_H), XH n s S Z' h' → GB n S Z' → fr' [(62, (-1))] Z Z' → Post (none, h')) : mx_J (tB l D b0 ad Hb tau) mt_186 (d + 0) 0 [some (.ref 56), none] [] h Post := by
    have a56 : 56 < n := lt83 (GB_n hG) rfl
    have s56 : S 56 = .inl (12, [0, 2, 2, 2, 2, 0, 0, 0, 0, 0, 0, 0, 0, 0, 0, 2, 2, 2, 0, 2, 2, 2, 0, 0, 2, 2, 2, 2, 2, 2, 0, 0, 2, 2, 2, 2, 2, 2, 2, 2, 2, 2]) := GB_s hG 56 rfl
    have a62 : 62 < n := lt83 (GB_n hG) rfl
    have s62 : S 62 = .inr (.int, 20, 0) := GB_s hG 62 rfl
    refine JcI (z := 0) (show mx_Sn _ _ 0 (mx_const (.int 0) 1) from sn_186 0) rfl ?_
    refine mx_J.step (ls2 := [some (.ref 56), some (xI 0)]) (sn_186 1) (fun _ _ => rfl) ?_
    have c2 : ∀ (m1 : Nat) (w1_1 : Int) (Z2 : xZ) (h2 : mx_H), 20 - w1_1 < (m1 : Int) → 0 ≤ w1_1 ∧ w1_1 ≤ 20 → FLL Z2 62 w1_1 0 → XH n s S Z2 h2 → GB n S Z2 → fr' [(62, (-1))] Z Z2 → mx_J (tB l D b0 ad Hb tau) mt_186 (d + 0) 2 [some (.ref 56), some (xI w1_1)] [] h2 Post := by
      intro m1
      induction m1 with
      | zero => intro w1_1 Z2 h2 q1 f1_0 f1_1 hx2 hG2 hf2; exact absurd q1 (by omega)
      | succ m1 ih1 =>
        intro w1_1 Z2 h2 q1 f1_0 f1_1 hx2 hG2 hf2
        refine mx_J.step (sn_186 2) (fun _ _ => rfl) ?_
        refine JcI (z := 20) (show mx_Sn _ _ 3 (mx_const (.int 20) 5) from sn_186 3) rfl ?_
        refine Jicmp_ge (show mx_Sn _ _ 5 (mx_icmp_ge 21 8) from sn_186 5) (by omega) (by omega) (fun q3 => ?_) (fun q3 => ?_)
        · skip
          exact mx_J.ret (sn_186 21) (fun _ _ => rfl) (hP Z2 h2 hx2 hG2 (fr_tr (M := [(62, (-1))]) fr_rf (hf2) (M1 := []) rfl rfl))
        · skip
          refine mx_J.step (sn_186 8) (fun _ _ => rfl) ?_
          refine JgetR (g := 16) (b := 62) hx2 (show mx_Sn _ _ 9 (mx_getf 12 16 12) from sn_186 9) a56 s56 rfl rfl (hG2.prr 56 16 rfl) ?_
          refine mx_J.step (sn_186 12) (fun _ _ => rfl) ?_
          refine JcI (z := 0) (show mx_Sn _ _ 13 (mx_const (.int 0) 14) from sn_186 13) rfl ?_
          refine JiastI hx2 (show mx_Sn _ _ 14 (mx_iast 1 15) from sn_186 14) a62 s62 rfl (by omega) (fun Z5 h5 hx5 hE5 => ?_)
          have hG5 := GB_up hG2 hE5 (show (-2147483648) ≤ 0 ∧ 0 ≤ 2147483647 by omega) trivial rfl
          have fl1 : FLL Z5 62 (w1_1 + 1) 0 := fll_s (Z := Z2) (by assumption) hE5
          refine Jiinc (z := w1_1) (cz := 1) (ls2 := [some (.ref 56), some (xI (w1_1 + 1))]) (show mx_Sn _ _ 15 (mx_iinc 1 1 18) from sn_186 15) rfl rfl rfl rfl ?_
          refine mx_J.step (sn_186 18) (fun _ _ => rfl) ?_
          exact ih1 (w1_1 + 1) Z5 h5 (by omega) (by omega) (by first | exact fll_0 | assumption) hx5 hG5 (fr_tr (M := [(62, (-1))]) (fr_tr (M := [(62, (-1))]) fr_rf (hf2) (M1 := []) rfl rfl) (fr_ua hE5) rfl rfl)
    exact c2 (Int.toNat (20 - 0) + 1) 0 Z h (by omega) (by omega) (by first | exact fll_0 | assumption) hx hG fr_rf
theorem ct_186_56_gb {l : Launch} {D : va_G} {b0 : Nat} {ad : Nat → Nat} {Hb : Heap} {tau : Nat → Int64} {d n s : Nat} {S : Nat → xS} {Z : xZ} {h : mx_H} (hx : XH n s S Z h) (hG : GB n S Z)   : ∃ (Z' : xZ) (h' : mx_H), mx_Ca (tB l D b0 ad Hb tau) (d + 1) 186 [.ref 56] h (none, h') ∧ XH n s S Z' h' ∧ GB n S Z' ∧ fr' [(62, (-1))] Z Z' := by
  obtain ⟨r, hca, Z', h', e, q⟩ := Jmt (B := tB l D b0 ad Hb tau) (M := mt_186) (mi := 186) (as := [.ref 56]) (d := d + 0) (ls := [some (.ref 56), none]) rfl rfl rfl rfl rfl rfl (cw_186_56_gb (l := l) (D := D) (b0 := b0) (ad := ad) (Hb := Hb) (tau := tau) (d := d) (Post := fun r => ∃ (Z' : xZ) (h' : mx_H), r = (none, h') ∧ XH n s S Z' h' ∧ GB n S Z' ∧ fr' [(62, (-1))] Z Z') hx hG  (fun Z' h' q1 q2 q3 => ⟨Z', h', rfl, q1, q2, q3⟩))
  subst e; exact ⟨Z', h', hca, q⟩
