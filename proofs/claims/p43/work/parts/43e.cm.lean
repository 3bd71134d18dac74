set_option maxRecDepth 100000 in
theorem cw_204_56 {l : Launch} {D : va_G} {b0 : Nat} {ad : Nat → Nat} {Hb : Heap} {tau : Nat → Int64} {d n s : Nat} {S : Nat → xS} {Z : xZ} {h : mx_H} {Post : mx_R → Prop} (hx : XH n s S Z h) (hG : GI n S Z)   (k0 : Z 66 0 < Z 56 18) (hP : ∀ (Z' : xZ) (h' : mx_H), XH n s S Z' h' → GI n S Z' → fr' [(57, (-1))] Z Z' → (Z' 57 1 = Z 57 1 ∧ Z' 57 963 = Z 57 963 ∧ Z' 57 1925 = Z 57 1925) → Post (none, h')) : mx_J (tB l D b0 ad Hb tau) mt_204 (d + 0) 0 [some (.ref 56), none] [] h Post := by
    have a56 : 56 < n := lt83 (GI_n hG) rfl
    have s56 : S 56 = .inl (12, [0, 2, 2, 2, 2, 0, 0, 0, 0, 0, 0, 0, 0, 0, 0, 2, 2, 2, 0, 2, 2, 2, 0, 0, 2, 2, 2, 2, 2, 2, 0, 0, 2, 2, 2, 2, 2, 2, 2, 2, 2, 2]) := GI_s hG 56 rfl
    have a57 : 57 < n := lt83 (GI_n hG) rfl
    have s57 : S 57 = .inr (.int, 2886, 0) := GI_s hG 57 rfl
    have a66 : 66 < n := lt83 (GI_n hG) rfl
    have s66 : S 66 = .inr (.int, 3, 0) := GI_s hG 66 rfl
    refine mx_J.step (sn_204 0) (fun _ _ => rfl) ?_
    refine JgetR (g := 1) (b := 57) hx (show mx_Sn _ _ 1 (mx_getf 12 1 4) from sn_204 1) a56 s56 rfl rfl (hG.prr 56 1 rfl) ?_
    refine JcI (z := 30) (show mx_Sn _ _ 4 (mx_const (.int 30) 6) from sn_204 4) rfl ?_
    have b2 : 0 ≤ Z 57 30 ∧ Z 57 30 ≤ 10 := by have hq := GI_ex hG 57 30; replace hq : f57 (30 % 962) (Z 57 30) := hq; unfold f57 at hq; omega
    have b3 : (-2147483648) ≤ Z 57 30 ∧ Z 57 30 ≤ 2147483647 := hG.pr 57 30
    refine JialdI (z := Z 57 30) hx (show mx_Sn _ _ 6 (mx_iald 7) from sn_204 6) a57 s57 (by omega) rfl ?_
    refine JcI (z := 10) (show mx_Sn _ _ 7 (mx_const (.int 10) 9) from sn_204 7) rfl ?_
    have c55 : ∀ (u4_1 : Option Value) (Z5 : xZ) (h5 : mx_H), (Z5 57 30 ≤ 9) → (Z5 57 1 = Z 57 1 ∧ Z5 57 963 = Z 57 963 ∧ Z5 57 1925 = Z 57 1925) → XH n s S Z5 h5 → GI n S Z5 → fr' [(57, (-1))] Z Z5 → mx_J (tB l D b0 ad Hb tau) mt_204 (d + 0) 55 [some (.ref 56), u4_1] [] h5 Post := by
      intro u4_1 Z5 h5 f4_0 f4_1 hx5 hG5 hf5
      have b6 : 0 ≤ Z5 57 30 ∧ Z5 57 30 ≤ 10 := by have hq := GI_ex hG5 57 30; replace hq : f57 (30 % 962) (Z5 57 30) := hq; unfold f57 at hq; omega
      have b7 : (-2147483648) ≤ Z5 57 30 ∧ Z5 57 30 ≤ 2147483647 := hG5.pr 57 30
      have b8 : 0 ≤ Z5 57 1 ∧ Z5 57 1 ≤ 18 := by have hq := GI_ex hG5 57 1; replace hq : f57 (1 % 962) (Z5 57 1) := hq; unfold f57 at hq; omega
      have b9 : (-2147483648) ≤ Z5 57 1 ∧ Z5 57 1 ≤ 2147483647 := hG5.pr 57 1
      have b10 : 0 ≤ Z5 57 963 ∧ Z5 57 963 ≤ 18 := by have hq := GI_ex hG5 57 963; replace hq : f57 (963 % 962) (Z5 57 963) := hq; unfold f57 at hq; omega
      have b11 : (-2147483648) ≤ Z5 57 963 ∧ Z5 57 963 ≤ 2147483647 := hG5.pr 57 963
      have b12 : 0 ≤ Z5 57 1925 ∧ Z5 57 1925 ≤ 18 := by have hq := GI_ex hG5 57 1925; replace hq : f57 (1925 % 962) (Z5 57 1925) := hq; unfold f57 at hq; omega
      have b13 : (-2147483648) ≤ Z5 57 1925 ∧ Z5 57 1925 ≤ 2147483647 := hG5.pr 57 1925
      refine JcI (z := 0) (show mx_Sn _ _ 55 (mx_const (.int 0) 56) from sn_204 55) rfl ?_
      refine mx_J.step (ls2 := [some (.ref 56), some (xI 0)]) (sn_204 56) (fun _ _ => rfl) ?_
      refine mx_J.step (sn_204 57) (fun _ _ => rfl) ?_
      refine JcI (z := 3) (show mx_Sn _ _ 58 (mx_const (.int 3) 59) from sn_204 58) rfl ?_
      refine Jicmp_ge (show mx_Sn _ _ 59 (mx_icmp_ge 93 62) from sn_204 59) (by omega) (by omega) (fun q14 => absurd q14 (by omega)) (fun q14 => ?_)
      refine mx_J.step (sn_204 62) (fun _ _ => rfl) ?_
      refine JgetR (g := 1) (b := 57) hx5 (show mx_Sn _ _ 63 (mx_getf 12 1 66) from sn_204 63) a56 s56 rfl rfl (hG5.prr 56 1 rfl) ?_
      refine JcI (z := 31) (show mx_Sn _ _ 66 (mx_const (.int 31) 68) from sn_204 66) rfl ?_
      refine JcI (z := 3) (show mx_Sn _ _ 68 (mx_const (.int 3) 69) from sn_204 68) rfl ?_
      refine mx_J.step (sn_204 69) (fun _ _ => rfl) ?_
      refine JgetR (g := 1) (b := 57) hx5 (show mx_Sn _ _ 70 (mx_getf 12 1 73) from sn_204 70) a56 s56 rfl rfl (hG5.prr 56 1 rfl) ?_
      refine JcI (z := 30) (show mx_Sn _ _ 73 (mx_const (.int 30) 75) from sn_204 73) rfl ?_
      refine JialdI (z := Z5 57 30) hx5 (show mx_Sn _ _ 75 (mx_iald 76) from sn_204 75) a57 s57 (by omega) rfl ?_
      refine Jimul (show mx_Sn _ _ 76 (mx_imul 77) from sn_204 76) ?_
      refine Jiadd (show mx_Sn _ _ 77 (mx_iadd 78) from sn_204 77) ?_
      refine mx_J.step (sn_204 78) (fun _ _ => rfl) ?_
      refine Jiadd (show mx_Sn _ _ 79 (mx_iadd 80) from sn_204 79) ?_
      refine mx_J.step (sn_204 80) (fun _ _ => rfl) ?_
      refine JgetR (g := 21) (b := 66) hx5 (show mx_Sn _ _ 81 (mx_getf 12 21 84) from sn_204 81) a56 s56 rfl rfl (hG5.prr 56 21 rfl) ?_
      refine mx_J.step (sn_204 84) (fun _ _ => rfl) ?_
      have b18 : (-2147483648) ≤ Z 66 0 ∧ Z 66 0 ≤ 2147483647 := hG.pr 66 0
      have b19 : (((0 : Int) = 0 → 0 ≤ (Z 66 0) ∧ (Z 66 0) ≤ 384) ∧ ((0 : Int) = 1 → 0 ≤ (Z 66 0) ∧ (Z 66 0) ≤ 9)) := GI_ex hG 66 0
      refine JialdI (z := Z 66 0) hx5 (show mx_Sn _ _ 85 (mx_iald 86) from sn_204 85) a66 s66 (by omega) (hf5 66 0 rfl) ?_
      refine JiastI hx5 (show mx_Sn _ _ 86 (mx_iast 1 87) from sn_204 86) a57 s57 rfl (by omega) (fun Z20 h20 hx20 hE20 => ?_)
      have eq21 : Z5 56 18 = Z 56 18 := (hf5 56 18 rfl)
      have b22 : 0 ≤ Z 56 18 ∧ Z 56 18 ≤ 385 := hG.pr 56 18
      have hG20 := GI_up57 hG5 hE20 (show (-2147483648) ≤ Z 66 0 ∧ Z 66 0 ≤ 2147483647 by omega) (show f57 (((31 + (3 * (Z5 57 30))) + 0) % 962) (Z 66 0) by first | (rw [Int.emod_eq_of_lt (by omega) (by omega)]; unfold f57; omega) | assumption | (unfold f57; omega) | (unfold f57 at *; omega)) (by omega) (by omega)
      refine Jiinc (z := 0) (cz := 1) (ls2 := [some (.ref 56), some (xI 1)]) (show mx_Sn _ _ 87 (mx_iinc 1 1 90) from sn_204 87) rfl rfl rfl rfl ?_
      refine mx_J.step (sn_204 90) (fun _ _ => rfl) ?_
      refine mx_J.step (sn_204 57) (fun _ _ => rfl) ?_
      refine JcI (z := 3) (show mx_Sn _ _ 58 (mx_const (.int 3) 59) from sn_204 58) rfl ?_
      refine Jicmp_ge (show mx_Sn _ _ 59 (mx_icmp_ge 93 62) from sn_204 59) (by omega) (by omega) (fun q23 => absurd q23 (by omega)) (fun q23 => ?_)
      refine mx_J.step (sn_204 62) (fun _ _ => rfl) ?_
      refine JgetR (g := 1) (b := 57) hx20 (show mx_Sn _ _ 63 (mx_getf 12 1 66) from sn_204 63) a56 s56 rfl rfl (hG20.prr 56 1 rfl) ?_
      refine JcI (z := 31) (show mx_Sn _ _ 66 (mx_const (.int 31) 68) from sn_204 66) rfl ?_
      refine JcI (z := 3) (show mx_Sn _ _ 68 (mx_const (.int 3) 69) from sn_204 68) rfl ?_
      refine mx_J.step (sn_204 69) (fun _ _ => rfl) ?_
      refine JgetR (g := 1) (b := 57) hx20 (show mx_Sn _ _ 70 (mx_getf 12 1 73) from sn_204 70) a56 s56 rfl rfl (hG20.prr 56 1 rfl) ?_
      refine JcI (z := 30) (show mx_Sn _ _ 73 (mx_const (.int 30) 75) from sn_204 73) rfl ?_
      refine JialdI (z := Z5 57 30) hx20 (show mx_Sn _ _ 75 (mx_iald 76) from sn_204 75) a57 s57 (by omega) (up_ni hE20 (by omega)) ?_
      refine Jimul (show mx_Sn _ _ 76 (mx_imul 77) from sn_204 76) ?_
      refine Jiadd (show mx_Sn _ _ 77 (mx_iadd 78) from sn_204 77) ?_
      refine mx_J.step (sn_204 78) (fun _ _ => rfl) ?_
      refine Jiadd (show mx_Sn _ _ 79 (mx_iadd 80) from sn_204 79) ?_
      refine mx_J.step (sn_204 80) (fun _ _ => rfl) ?_
      refine JgetR (g := 21) (b := 66) hx20 (show mx_Sn _ _ 81 (mx_getf 12 21 84) from sn_204 81) a56 s56 rfl rfl (hG20.prr 56 21 rfl) ?_
      refine mx_J.step (sn_204 84) (fun _ _ => rfl) ?_
      have b27 : (-2147483648) ≤ Z 66 1 ∧ Z 66 1 ≤ 2147483647 := hG.pr 66 1
      have b28 : (((1 : Int) = 0 → 0 ≤ (Z 66 1) ∧ (Z 66 1) ≤ 384) ∧ ((1 : Int) = 1 → 0 ≤ (Z 66 1) ∧ (Z 66 1) ≤ 9)) := GI_ex hG 66 1
      refine JialdI (z := Z 66 1) hx20 (show mx_Sn _ _ 85 (mx_iald 86) from sn_204 85) a66 s66 (by omega) ((up_nk hE20 rfl).trans (hf5 66 1 rfl)) ?_
      refine JiastI hx20 (show mx_Sn _ _ 86 (mx_iast 1 87) from sn_204 86) a57 s57 rfl (by omega) (fun Z29 h29 hx29 hE29 => ?_)
      have eq30 : Z20 56 18 = Z 56 18 := ((up_nk hE20 rfl).trans (hf5 56 18 rfl))
      have hG29 := GI_up57 hG20 hE29 (show (-2147483648) ≤ Z 66 1 ∧ Z 66 1 ≤ 2147483647 by omega) (show f57 (((31 + (3 * (Z5 57 30))) + 1) % 962) (Z 66 1) by first | (rw [Int.emod_eq_of_lt (by omega) (by omega)]; unfold f57; omega) | assumption | (unfold f57; omega) | (unfold f57 at *; omega)) (by omega) (by omega)
      refine Jiinc (z := 1) (cz := 1) (ls2 := [some (.ref 56), some (xI 2)]) (show mx_Sn _ _ 87 (mx_iinc 1 1 90) from sn_204 87) rfl rfl rfl rfl ?_
      refine mx_J.step (sn_204 90) (fun _ _ => rfl) ?_
      refine mx_J.step (sn_204 57) (fun _ _ => rfl) ?_
      refine JcI (z := 3) (show mx_Sn _ _ 58 (mx_const (.int 3) 59) from sn_204 58) rfl ?_
      refine Jicmp_ge (show mx_Sn _ _ 59 (mx_icmp_ge 93 62) from sn_204 59) (by omega) (by omega) (fun q31 => absurd q31 (by omega)) (fun q31 => ?_)
      refine mx_J.step (sn_204 62) (fun _ _ => rfl) ?_
      refine JgetR (g := 1) (b := 57) hx29 (show mx_Sn _ _ 63 (mx_getf 12 1 66) from sn_204 63) a56 s56 rfl rfl (hG29.prr 56 1 rfl) ?_
      refine JcI (z := 31) (show mx_Sn _ _ 66 (mx_const (.int 31) 68) from sn_204 66) rfl ?_
      refine JcI (z := 3) (show mx_Sn _ _ 68 (mx_const (.int 3) 69) from sn_204 68) rfl ?_
      refine mx_J.step (sn_204 69) (fun _ _ => rfl) ?_
      refine JgetR (g := 1) (b := 57) hx29 (show mx_Sn _ _ 70 (mx_getf 12 1 73) from sn_204 70) a56 s56 rfl rfl (hG29.prr 56 1 rfl) ?_
      refine JcI (z := 30) (show mx_Sn _ _ 73 (mx_const (.int 30) 75) from sn_204 73) rfl ?_
      refine JialdI (z := Z5 57 30) hx29 (show mx_Sn _ _ 75 (mx_iald 76) from sn_204 75) a57 s57 (by omega) ((up_ni hE29 (by omega)).trans (up_ni hE20 (by omega))) ?_
      refine Jimul (show mx_Sn _ _ 76 (mx_imul 77) from sn_204 76) ?_
      refine Jiadd (show mx_Sn _ _ 77 (mx_iadd 78) from sn_204 77) ?_
      refine mx_J.step (sn_204 78) (fun _ _ => rfl) ?_
      refine Jiadd (show mx_Sn _ _ 79 (mx_iadd 80) from sn_204 79) ?_
      refine mx_J.step (sn_204 80) (fun _ _ => rfl) ?_
      refine JgetR (g := 21) (b := 66) hx29 (show mx_Sn _ _ 81 (mx_getf 12 21 84) from sn_204 81) a56 s56 rfl rfl (hG29.prr 56 21 rfl) ?_
      refine mx_J.step (sn_204 84) (fun _ _ => rfl) ?_
      have b35 : (-2147483648) ≤ Z 66 2 ∧ Z 66 2 ≤ 2147483647 := hG.pr 66 2
      have b36 : (((2 : Int) = 0 → 0 ≤ (Z 66 2) ∧ (Z 66 2) ≤ 384) ∧ ((2 : Int) = 1 → 0 ≤ (Z 66 2) ∧ (Z 66 2) ≤ 9)) := GI_ex hG 66 2
      refine JialdI (z := Z 66 2) hx29 (show mx_Sn _ _ 85 (mx_iald 86) from sn_204 85) a66 s66 (by omega) ((up_nk hE29 rfl).trans ((up_nk hE20 rfl).trans (hf5 66 2 rfl))) ?_
      refine JiastI hx29 (show mx_Sn _ _ 86 (mx_iast 1 87) from sn_204 86) a57 s57 rfl (by omega) (fun Z37 h37 hx37 hE37 => ?_)
      have eq38 : Z29 56 18 = Z 56 18 := ((up_nk hE29 rfl).trans ((up_nk hE20 rfl).trans (hf5 56 18 rfl)))
      have hG37 := GI_up57 hG29 hE37 (show (-2147483648) ≤ Z 66 2 ∧ Z 66 2 ≤ 2147483647 by omega) (show f57 (((31 + (3 * (Z5 57 30))) + 2) % 962) (Z 66 2) by first | (rw [Int.emod_eq_of_lt (by omega) (by omega)]; unfold f57; omega) | assumption | (unfold f57; omega) | (unfold f57 at *; omega)) (by omega) (by omega)
      refine Jiinc (z := 2) (cz := 1) (ls2 := [some (.ref 56), some (xI 3)]) (show mx_Sn _ _ 87 (mx_iinc 1 1 90) from sn_204 87) rfl rfl rfl rfl ?_
      refine mx_J.step (sn_204 90) (fun _ _ => rfl) ?_
      refine mx_J.step (sn_204 57) (fun _ _ => rfl) ?_
      refine JcI (z := 3) (show mx_Sn _ _ 58 (mx_const (.int 3) 59) from sn_204 58) rfl ?_
      refine Jicmp_ge (show mx_Sn _ _ 59 (mx_icmp_ge 93 62) from sn_204 59) (by omega) (by omega) (fun q39 => ?_) (fun q39 => absurd q39 (by omega))
      refine mx_J.step (sn_204 93) (fun _ _ => rfl) ?_
      refine JgetR (g := 1) (b := 57) hx37 (show mx_Sn _ _ 94 (mx_getf 12 1 97) from sn_204 94) a56 s56 rfl rfl (hG37.prr 56 1 rfl) ?_
      refine JcI (z := 30) (show mx_Sn _ _ 97 (mx_const (.int 30) 99) from sn_204 97) rfl ?_
      refine mx_J.step (sn_204 99) (fun _ _ => rfl) ?_
      refine JialdI (z := Z5 57 30) hx37 (show mx_Sn _ _ 100 (mx_iald 101) from sn_204 100) a57 s57 (by omega) ((up_ni hE37 (by omega)).trans ((up_ni hE29 (by omega)).trans (up_ni hE20 (by omega)))) ?_
      refine JcI (z := 1) (show mx_Sn _ _ 101 (mx_const (.int 1) 102) from sn_204 101) rfl ?_
      refine Jiadd (show mx_Sn _ _ 102 (mx_iadd 103) from sn_204 102) ?_
      refine JiastI hx37 (show mx_Sn _ _ 103 (mx_iast 1 104) from sn_204 103) a57 s57 rfl (by omega) (fun Z41 h41 hx41 hE41 => ?_)
      have eq42 : Z37 56 18 = Z 56 18 := ((up_nk hE37 rfl).trans ((up_nk hE29 rfl).trans ((up_nk hE20 rfl).trans (hf5 56 18 rfl))))
      have hG41 := GI_up57 hG37 hE41 (show (-2147483648) ≤ (Z5 57 30) + 1 ∧ (Z5 57 30) + 1 ≤ 2147483647 by omega) (show f57 ((30) % 962) ((Z5 57 30) + 1) by first | assumption | (unfold f57; omega) | (unfold f57 at *; omega)) (by omega) (by omega)
      have eq43 : Z41 57 1 = Z5 57 1 := ((up_ni hE41 (by decide)).trans ((up_ni hE37 (by omega)).trans ((up_ni hE29 (by omega)).trans (up_ni hE20 (by omega)))))
      have eq44 : Z41 57 963 = Z5 57 963 := ((up_ni hE41 (by decide)).trans ((up_ni hE37 (by omega)).trans ((up_ni hE29 (by omega)).trans (up_ni hE20 (by omega)))))
      have eq45 : Z41 57 1925 = Z5 57 1925 := ((up_ni hE41 (by decide)).trans ((up_ni hE37 (by omega)).trans ((up_ni hE29 (by omega)).trans (up_ni hE20 (by omega)))))
      have eq46 : Z41 66 0 = Z 66 0 := ((up_nk hE41 rfl).trans ((up_nk hE37 rfl).trans ((up_nk hE29 rfl).trans ((up_nk hE20 rfl).trans (hf5 66 0 rfl)))))
      have eq47 : Z41 56 18 = Z 56 18 := ((up_nk hE41 rfl).trans ((up_nk hE37 rfl).trans ((up_nk hE29 rfl).trans ((up_nk hE20 rfl).trans (hf5 56 18 rfl)))))
      have eq48 : Z41 57 1 = Z5 57 1 := ((up_ni hE41 (by decide)).trans ((up_ni hE37 (by omega)).trans ((up_ni hE29 (by omega)).trans (up_ni hE20 (by omega)))))
      have eq49 : Z41 57 963 = Z5 57 963 := ((up_ni hE41 (by decide)).trans ((up_ni hE37 (by omega)).trans ((up_ni hE29 (by omega)).trans (up_ni hE20 (by omega)))))
      have eq50 : Z41 57 1925 = Z5 57 1925 := ((up_ni hE41 (by decide)).trans ((up_ni hE37 (by omega)).trans ((up_ni hE29 (by omega)).trans (up_ni hE20 (by omega)))))
      exact mx_J.ret (sn_204 104) (fun _ _ => rfl) (hP Z41 h41 hx41 hG41 (fr_tr (M := [(57, (-1))]) (fr_tr (M := [(57, (-1))]) (fr_tr (M := [(57, (-1))]) (fr_tr (M := [(57, (-1))]) (fr_tr (M := [(57, (-1))]) fr_rf (hf5) (M1 := []) rfl rfl) (fr_ua hE20) rfl rfl) (fr_ua hE29) rfl rfl) (fr_ua hE37) rfl rfl) (fr_ua hE41) rfl rfl) (by omega))
    refine Jicmp_ne (show mx_Sn _ _ 9 (mx_icmp_ne 55 12) from sn_204 9) (by omega) (by omega) (fun q51 => ?_) (fun q51 => ?_)
    · skip
      have b52 : 0 ≤ Z 57 1 ∧ Z 57 1 ≤ 18 := by have hq := GI_ex hG 57 1; replace hq : f57 (1 % 962) (Z 57 1) := hq; unfold f57 at hq; omega
      have b53 : (-2147483648) ≤ Z 57 1 ∧ Z 57 1 ≤ 2147483647 := hG.pr 57 1
      have b54 : 0 ≤ Z 57 963 ∧ Z 57 963 ≤ 18 := by have hq := GI_ex hG 57 963; replace hq : f57 (963 % 962) (Z 57 963) := hq; unfold f57 at hq; omega
      have b55 : (-2147483648) ≤ Z 57 963 ∧ Z 57 963 ≤ 2147483647 := hG.pr 57 963
      have b56 : 0 ≤ Z 57 1925 ∧ Z 57 1925 ≤ 18 := by have hq := GI_ex hG 57 1925; replace hq : f57 (1925 % 962) (Z 57 1925) := hq; unfold f57 at hq; omega
      have b57 : (-2147483648) ≤ Z 57 1925 ∧ Z 57 1925 ≤ 2147483647 := hG.pr 57 1925
      exact c55 none Z h (by omega) (by omega) hx hG fr_rf
    · skip
      refine JcI (z := 0) (show mx_Sn _ _ 12 (mx_const (.int 0) 13) from sn_204 12) rfl ?_
      refine mx_J.step (ls2 := [some (.ref 56), some (xI 0)]) (sn_204 13) (fun _ _ => rfl) ?_
      have c14 : ∀ (m58 : Nat) (w58_1 : Int) (Z59 : xZ) (h59 : mx_H), 27 - w58_1 < (m58 : Int) → 0 ≤ w58_1 ∧ w58_1 ≤ 27 → (Z59 57 30 = 10) → (Z59 57 1 = Z 57 1 ∧ Z59 57 963 = Z 57 963 ∧ Z59 57 1925 = Z 57 1925) → XH n s S Z59 h59 → GI n S Z59 → fr' [(57, (-1))] Z Z59 → mx_J (tB l D b0 ad Hb tau) mt_204 (d + 0) 14 [some (.ref 56), some (xI w58_1)] [] h59 Post := by
        intro m58
        induction m58 with
        | zero => intro w58_1 Z59 h59 q58 f58_0 f58_1 f58_2 hx59 hG59 hf59; exact absurd q58 (by omega)
        | succ m58 ih58 =>
          intro w58_1 Z59 h59 q58 f58_0 f58_1 f58_2 hx59 hG59 hf59
          have b60 : 0 ≤ Z59 57 30 ∧ Z59 57 30 ≤ 10 := by have hq := GI_ex hG59 57 30; replace hq : f57 (30 % 962) (Z59 57 30) := hq; unfold f57 at hq; omega
          have b61 : (-2147483648) ≤ Z59 57 30 ∧ Z59 57 30 ≤ 2147483647 := hG59.pr 57 30
          have b62 : 0 ≤ Z59 57 1 ∧ Z59 57 1 ≤ 18 := by have hq := GI_ex hG59 57 1; replace hq : f57 (1 % 962) (Z59 57 1) := hq; unfold f57 at hq; omega
          have b63 : (-2147483648) ≤ Z59 57 1 ∧ Z59 57 1 ≤ 2147483647 := hG59.pr 57 1
          have b64 : 0 ≤ Z59 57 963 ∧ Z59 57 963 ≤ 18 := by have hq := GI_ex hG59 57 963; replace hq : f57 (963 % 962) (Z59 57 963) := hq; unfold f57 at hq; omega
          have b65 : (-2147483648) ≤ Z59 57 963 ∧ Z59 57 963 ≤ 2147483647 := hG59.pr 57 963
          have b66 : 0 ≤ Z59 57 1925 ∧ Z59 57 1925 ≤ 18 := by have hq := GI_ex hG59 57 1925; replace hq : f57 (1925 % 962) (Z59 57 1925) := hq; unfold f57 at hq; omega
          have b67 : (-2147483648) ≤ Z59 57 1925 ∧ Z59 57 1925 ≤ 2147483647 := hG59.pr 57 1925
          refine mx_J.step (sn_204 14) (fun _ _ => rfl) ?_
          refine JcI (z := 27) (show mx_Sn _ _ 15 (mx_const (.int 27) 17) from sn_204 15) rfl ?_
          refine Jicmp_ge (show mx_Sn _ _ 17 (mx_icmp_ge 44 20) from sn_204 17) (by omega) (by omega) (fun q68 => ?_) (fun q68 => ?_)
          · skip
            refine mx_J.step (sn_204 44) (fun _ _ => rfl) ?_
            refine JgetR (g := 1) (b := 57) hx59 (show mx_Sn _ _ 45 (mx_getf 12 1 48) from sn_204 45) a56 s56 rfl rfl (hG59.prr 56 1 rfl) ?_
            refine JcI (z := 30) (show mx_Sn _ _ 48 (mx_const (.int 30) 50) from sn_204 48) rfl ?_
            refine mx_J.step (sn_204 50) (fun _ _ => rfl) ?_
            refine JialdI (z := Z59 57 30) hx59 (show mx_Sn _ _ 51 (mx_iald 52) from sn_204 51) a57 s57 (by omega) rfl ?_
            refine JcI (z := 1) (show mx_Sn _ _ 52 (mx_const (.int 1) 53) from sn_204 52) rfl ?_
            refine Jisub (show mx_Sn _ _ 53 (mx_isub 54) from sn_204 53) ?_
            refine JiastI hx59 (show mx_Sn _ _ 54 (mx_iast 1 55) from sn_204 54) a57 s57 rfl (by omega) (fun Z70 h70 hx70 hE70 => ?_)
            have eq71 : Z59 56 18 = Z 56 18 := (hf59 56 18 rfl)
            have b72 : 0 ≤ Z 56 18 ∧ Z 56 18 ≤ 385 := hG.pr 56 18
            have hG70 := GI_up57 hG59 hE70 (show (-2147483648) ≤ (Z59 57 30) - 1 ∧ (Z59 57 30) - 1 ≤ 2147483647 by omega) (show f57 ((30) % 962) ((Z59 57 30) - 1) by first | assumption | (unfold f57; omega) | (unfold f57 at *; omega)) (by omega) (by omega)
            have eq73 : Z70 57 30 = (Z59 57 30) - 1 := (up_at hE70)
            have eq74 : Z70 57 1 = Z59 57 1 := (up_ni hE70 (by decide))
            have eq75 : Z70 57 963 = Z59 57 963 := (up_ni hE70 (by decide))
            have eq76 : Z70 57 1925 = Z59 57 1925 := (up_ni hE70 (by decide))
            exact c55 (some (xI w58_1)) Z70 h70 (by omega) (by omega) hx70 hG70 (fr_tr (M := [(57, (-1))]) (fr_tr (M := [(57, (-1))]) fr_rf (hf59) (M1 := []) rfl rfl) (fr_ua hE70) rfl rfl)
          · skip
            refine mx_J.step (sn_204 20) (fun _ _ => rfl) ?_
            refine JgetR (g := 1) (b := 57) hx59 (show mx_Sn _ _ 21 (mx_getf 12 1 24) from sn_204 21) a56 s56 rfl rfl (hG59.prr 56 1 rfl) ?_
            refine JcI (z := 31) (show mx_Sn _ _ 24 (mx_const (.int 31) 26) from sn_204 24) rfl ?_
            refine mx_J.step (sn_204 26) (fun _ _ => rfl) ?_
            refine Jiadd (show mx_Sn _ _ 27 (mx_iadd 28) from sn_204 27) ?_
            refine mx_J.step (sn_204 28) (fun _ _ => rfl) ?_
            refine JgetR (g := 1) (b := 57) hx59 (show mx_Sn _ _ 29 (mx_getf 12 1 32) from sn_204 29) a56 s56 rfl rfl (hG59.prr 56 1 rfl) ?_
            refine JcI (z := 34) (show mx_Sn _ _ 32 (mx_const (.int 34) 34) from sn_204 32) rfl ?_
            refine mx_J.step (sn_204 34) (fun _ _ => rfl) ?_
            refine Jiadd (show mx_Sn _ _ 35 (mx_iadd 36) from sn_204 35) ?_
            have b79 := GI_st hG59 (34 + w58_1)
            have eq80 : Z59 56 18 = Z 56 18 := (hf59 56 18 rfl)
            have b81 : 0 ≤ Z 56 18 ∧ Z 56 18 ≤ 385 := hG.pr 56 18
            have b82 : f57 ((34 + w58_1) % 962) (Z59 57 (34 + w58_1)) := GI_ex hG59 57 (34 + w58_1)
            have b83 : (-2147483648) ≤ Z59 57 (34 + w58_1) ∧ Z59 57 (34 + w58_1) ≤ 2147483647 := hG59.pr 57 (34 + w58_1)
            refine JialdI (z := Z59 57 (34 + w58_1)) hx59 (show mx_Sn _ _ 36 (mx_iald 37) from sn_204 36) a57 s57 (by omega) rfl ?_
            refine JiastI hx59 (show mx_Sn _ _ 37 (mx_iast 1 38) from sn_204 37) a57 s57 rfl (by omega) (fun Z84 h84 hx84 hE84 => ?_)
            have eq85 : Z59 56 18 = Z 56 18 := (hf59 56 18 rfl)
            have hG84 := GI_up57 hG59 hE84 (show (-2147483648) ≤ Z59 57 (34 + w58_1) ∧ Z59 57 (34 + w58_1) ≤ 2147483647 by omega) (show f57 ((31 + w58_1) % 962) (Z59 57 (34 + w58_1)) by first | (have hq := GI_ex hG59 57 (34 + w58_1); replace hq : f57 ((34 + w58_1) % 962) (Z59 57 (34 + w58_1)) := hq; rw [Int.emod_eq_of_lt (a := (34 + w58_1)) (by omega) (by omega)] at hq; rw [Int.emod_eq_of_lt (a := 31 + w58_1) (by omega) (by omega)]; unfold f57 at hq; unfold f57; omega) | (rw [Int.emod_eq_of_lt (by omega) (by omega)]; unfold f57; omega) | assumption | (unfold f57; omega) | (unfold f57 at *; omega)) (by omega) (by omega)
            refine Jiinc (z := w58_1) (cz := 1) (ls2 := [some (.ref 56), some (xI (w58_1 + 1))]) (show mx_Sn _ _ 38 (mx_iinc 1 1 41) from sn_204 38) rfl rfl rfl rfl ?_
            refine mx_J.step (sn_204 41) (fun _ _ => rfl) ?_
            have eq86 : Z84 57 30 = Z59 57 30 := (up_ni hE84 (by omega))
            have eq87 : Z84 57 1 = Z59 57 1 := (up_ni hE84 (by omega))
            have eq88 : Z84 57 963 = Z59 57 963 := (up_ni hE84 (by omega))
            have eq89 : Z84 57 1925 = Z59 57 1925 := (up_ni hE84 (by omega))
            exact ih58 (w58_1 + 1) Z84 h84 (by omega) (by omega) (by omega) (by omega) hx84 hG84 (fr_tr (M := [(57, (-1))]) (fr_tr (M := [(57, (-1))]) fr_rf (hf59) (M1 := []) rfl rfl) (fr_ua hE84) rfl rfl)
      have b90 : 0 ≤ Z 57 1 ∧ Z 57 1 ≤ 18 := by have hq := GI_ex hG 57 1; replace hq : f57 (1 % 962) (Z 57 1) := hq; unfold f57 at hq; omega
      have b91 : (-2147483648) ≤ Z 57 1 ∧ Z 57 1 ≤ 2147483647 := hG.pr 57 1
      have b92 : 0 ≤ Z 57 963 ∧ Z 57 963 ≤ 18 := by have hq := GI_ex hG 57 963; replace hq : f57 (963 % 962) (Z 57 963) := hq; unfold f57 at hq; omega
      have b93 : (-2147483648) ≤ Z 57 963 ∧ Z 57 963 ≤ 2147483647 := hG.pr 57 963
      have b94 : 0 ≤ Z 57 1925 ∧ Z 57 1925 ≤ 18 := by have hq := GI_ex hG 57 1925; replace hq : f57 (1925 % 962) (Z 57 1925) := hq; unfold f57 at hq; omega
      have b95 : (-2147483648) ≤ Z 57 1925 ∧ Z 57 1925 ≤ 2147483647 := hG.pr 57 1925
      exact c14 (Int.toNat (27 - 0) + 1) 0 Z h (by omega) (by omega) (by omega) (by omega) hx hG fr_rf
theorem ct_204_56 {l : Launch} {D : va_G} {b0 : Nat} {ad : Nat → Nat} {Hb : Heap} {tau : Nat → Int64} {d n s : Nat} {S : Nat → xS} {Z : xZ} {h : mx_H} (hx : XH n s S Z h) (hG : GI n S Z)   (k0 : Z 66 0 < Z 56 18) : ∃ (Z' : xZ) (h' : mx_H), mx_Ca (tB l D b0 ad Hb tau) (d + 1) 204 [.ref 56] h (none, h') ∧ XH n s S Z' h' ∧ GI n S Z' ∧ fr' [(57, (-1))] Z Z' ∧ ((Z' 57 1 = Z 57 1 ∧ Z' 57 963 = Z 57 963 ∧ Z' 57 1925 = Z 57 1925)) := by
  obtain ⟨r, hca, Z', h', e, q⟩ := Jmt (B := tB l D b0 ad Hb tau) (M := mt_204) (mi := 204) (as := [.ref 56]) (d := d + 0) (ls := [some (.ref 56), none]) rfl rfl rfl rfl rfl rfl (cw_204_56 (l := l) (D := D) (b0 := b0) (ad := ad) (Hb := Hb) (tau := tau) (d := d) (Post := fun r => ∃ (Z' : xZ) (h' : mx_H), r = (none, h') ∧ XH n s S Z' h' ∧ GI n S Z' ∧ fr' [(57, (-1))] Z Z' ∧ ((Z' 57 1 = Z 57 1 ∧ Z' 57 963 = Z 57 963 ∧ Z' 57 1925 = Z 57 1925))) hx hG k0 (fun Z' h' q1 q2 q3 q4 => ⟨Z', h', rfl, q1, q2, q3, q4⟩))
  subst e; exact ⟨Z', h', hca, q⟩
set_option maxRecDepth 100000 in
theorem cw_205_56 {l : Launch} {D : va_G} {b0 : Nat} {ad : Nat → Nat} {Hb : Heap} {tau : Nat → Int64} {d n s : Nat} {S : Nat → xS} {Z : xZ} {h : mx_H} {Post : mx_R → Prop} (hx : XH n s S Z h) (hG : GI n S Z)  {x0 : Int} (p0 : (-2147483648) ≤ x0 ∧ x0 ≤ 2147483647) (hP : ∀ (Z' : xZ) (h' : mx_H), XH n s S Z' h' → GI n S Z' → fr' [(57, (-1)), (62, (-1)), (64, (-1)), (65, (-1))] Z Z' → (Z' 57 1 = Z 57 1 ∧ Z' 57 963 = Z 57 963 ∧ Z' 57 1925 = Z 57 1925) → Post (none, h')) : mx_J (tB l D b0 ad Hb tau) mt_205 (d + 5) 0 [some (.ref 56), some (xI x0)] [] h Post := by
    have a56 : 56 < n := lt83 (GI_n hG) rfl
    have s56 : S 56 = .inl (12, [0, 2, 2, 2, 2, 0, 0, 0, 0, 0, 0, 0, 0, 0, 0, 2, 2, 2, 0, 2, 2, 2, 0, 0, 2, 2, 2, 2, 2, 2, 0, 0, 2, 2, 2, 2, 2, 2, 2, 2, 2, 2]) := GI_s hG 56 rfl
    have a57 : 57 < n := lt83 (GI_n hG) rfl
    have s57 : S 57 = .inr (.int, 2886, 0) := GI_s hG 57 rfl
    refine mx_J.step (sn_205 0) (fun _ _ => rfl) ?_
    refine JgetR (g := 1) (b := 57) hx (show mx_Sn _ _ 1 (mx_getf 12 1 4) from sn_205 1) a56 s56 rfl rfl (hG.prr 56 1 rfl) ?_
    refine JcI (z := 27) (show mx_Sn _ _ 4 (mx_const (.int 27) 6) from sn_205 4) rfl ?_
    refine mx_J.step (sn_205 6) (fun _ _ => rfl) ?_
    refine mx_J.step (sn_205 7) (fun _ _ => rfl) ?_
    refine JgetR (g := 1) (b := 57) hx (show mx_Sn _ _ 8 (mx_getf 12 1 11) from sn_205 8) a56 s56 rfl rfl (hG.prr 56 1 rfl) ?_
    refine JcI (z := 27) (show mx_Sn _ _ 11 (mx_const (.int 27) 13) from sn_205 11) rfl ?_
    have b3 := GI_st hG 27
    have b4 : 0 ≤ Z 56 18 ∧ Z 56 18 ≤ 385 := hG.pr 56 18
    have b5 : 0 ≤ Z 57 27 ∧ Z 57 27 ≤ 384 := by have hq := GI_ex hG 57 27; replace hq : f57 (27 % 962) (Z 57 27) := hq; unfold f57 at hq; omega
    have b6 : (-2147483648) ≤ Z 57 27 ∧ Z 57 27 ≤ 2147483647 := hG.pr 57 27
    refine JialdI (z := Z 57 27) hx (show mx_Sn _ _ 13 (mx_iald 14) from sn_205 13) a57 s57 (by omega) rfl ?_
    refine mx_J.step (sn_205 14) (fun _ _ => rfl) ?_
    refine mx_J.step (sn_205 15) (fun _ _ => rfl) ?_
    refine JgetR (g := 1) (b := 57) hx (show mx_Sn _ _ 16 (mx_getf 12 1 19) from sn_205 16) a56 s56 rfl rfl (hG.prr 56 1 rfl) ?_
    refine JcI (z := 28) (show mx_Sn _ _ 19 (mx_const (.int 28) 21) from sn_205 19) rfl ?_
    have b8 : 0 ≤ Z 57 28 ∧ Z 57 28 ≤ 9 := by have hq := GI_ex hG 57 28; replace hq : f57 (28 % 962) (Z 57 28) := hq; unfold f57 at hq; omega
    have b9 : (-2147483648) ≤ Z 57 28 ∧ Z 57 28 ≤ 2147483647 := hG.pr 57 28
    refine JialdI (z := Z 57 28) hx (show mx_Sn _ _ 21 (mx_iald 22) from sn_205 21) a57 s57 (by omega) rfl ?_
    obtain ⟨z10, Z10, h10, hc10, hx10, hG10, hf10, b10⟩ := ct_198_56 (d := d + 0) (l := l) (D := D) (b0 := b0) (ad := ad) (Hb := Hb) (tau := tau) hx hG (show 0 ≤ Z 57 27 ∧ Z 57 27 ≤ 384 by omega) (show (-2147483648) ≤ x0 ∧ x0 ≤ 2147483647 by omega) (show 0 ≤ Z 57 28 ∧ Z 57 28 ≤ 9 by omega)
    refine Jcv hx (show mx_Sn _ _ 22 (mx_callv 198 4 12 25) from sn_205 22) a56 s56 hc10 rfl rfl rfl ?_
    refine JiastI hx10 (show mx_Sn _ _ 25 (mx_iast 1 26) from sn_205 25) a57 s57 rfl (by omega) (fun Z11 h11 hx11 hE11 => ?_)
    have eq12 : Z10 56 18 = Z 56 18 := (hf10 56 18 rfl)
    have hG11 := GI_up57 hG10 hE11 (show (-2147483648) ≤ z10 ∧ z10 ≤ 2147483647 by omega) (show f57 ((27) % 962) (z10) by first | assumption | (unfold f57; omega) | (unfold f57 at *; omega)) (by omega) (by omega)
    refine mx_J.step (sn_205 26) (fun _ _ => rfl) ?_
    refine JgetR (g := 1) (b := 57) hx11 (show mx_Sn _ _ 27 (mx_getf 12 1 30) from sn_205 27) a56 s56 rfl rfl (hG11.prr 56 1 rfl) ?_
    refine JcI (z := 29) (show mx_Sn _ _ 30 (mx_const (.int 29) 32) from sn_205 30) rfl ?_
    refine mx_J.step (sn_205 32) (fun _ _ => rfl) ?_
    have b14 : (-2147483648) ≤ Z 57 29 ∧ Z 57 29 ≤ 2147483647 := hG.pr 57 29
    refine JialdI (z := Z 57 29) hx11 (show mx_Sn _ _ 33 (mx_iald 34) from sn_205 33) a57 s57 (by omega) ((up_ni hE11 (by decide)).trans (hf10 57 29 rfl)) ?_
    refine JcI (z := 1) (show mx_Sn _ _ 34 (mx_const (.int 1) 35) from sn_205 34) rfl ?_
    refine JiaddN (show mx_Sn _ _ 35 (mx_iadd 36) from sn_205 35) (fun y15 hy15 hq15 => ?_)
    refine JiastI hx11 (show mx_Sn _ _ 36 (mx_iast 1 37) from sn_205 36) a57 s57 rfl (by omega) (fun Z16 h16 hx16 hE16 => ?_)
    have eq17 : Z11 56 18 = Z 56 18 := ((up_nk hE11 rfl).trans (hf10 56 18 rfl))
    have hG16 := GI_up57 hG11 hE16 (show (-2147483648) ≤ y15 ∧ y15 ≤ 2147483647 by omega) (show f57 ((29) % 962) (y15) by first | assumption | (unfold f57; omega) | (unfold f57 at *; omega)) (by omega) (by omega)
    have eq18 : Z16 57 1 = Z 57 1 := ((up_ni hE16 (by decide)).trans ((up_ni hE11 (by decide)).trans (hf10 57 1 rfl)))
    have b19 : 0 ≤ Z 57 1 ∧ Z 57 1 ≤ 18 := by have hq := GI_ex hG 57 1; replace hq : f57 (1 % 962) (Z 57 1) := hq; unfold f57 at hq; omega
    have b20 : (-2147483648) ≤ Z 57 1 ∧ Z 57 1 ≤ 2147483647 := hG.pr 57 1
    have eq21 : Z16 57 963 = Z 57 963 := ((up_ni hE16 (by decide)).trans ((up_ni hE11 (by decide)).trans (hf10 57 963 rfl)))
    have b22 : 0 ≤ Z 57 963 ∧ Z 57 963 ≤ 18 := by have hq := GI_ex hG 57 963; replace hq : f57 (963 % 962) (Z 57 963) := hq; unfold f57 at hq; omega
    have b23 : (-2147483648) ≤ Z 57 963 ∧ Z 57 963 ≤ 2147483647 := hG.pr 57 963
    have eq24 : Z16 57 1925 = Z 57 1925 := ((up_ni hE16 (by decide)).trans ((up_ni hE11 (by decide)).trans (hf10 57 1925 rfl)))
    have b25 : 0 ≤ Z 57 1925 ∧ Z 57 1925 ≤ 18 := by have hq := GI_ex hG 57 1925; replace hq : f57 (1925 % 962) (Z 57 1925) := hq; unfold f57 at hq; omega
    have b26 : (-2147483648) ≤ Z 57 1925 ∧ Z 57 1925 ≤ 2147483647 := hG.pr 57 1925
    have eq27 : Z16 57 1 = Z 57 1 := ((up_ni hE16 (by decide)).trans ((up_ni hE11 (by decide)).trans (hf10 57 1 rfl)))
    have eq28 : Z16 57 963 = Z 57 963 := ((up_ni hE16 (by decide)).trans ((up_ni hE11 (by decide)).trans (hf10 57 963 rfl)))
    have eq29 : Z16 57 1925 = Z 57 1925 := ((up_ni hE16 (by decide)).trans ((up_ni hE11 (by decide)).trans (hf10 57 1925 rfl)))
    exact mx_J.ret (sn_205 37) (fun _ _ => rfl) (hP Z16 h16 hx16 hG16 (fr_tr (M := [(57, (-1)), (62, (-1)), (64, (-1)), (65, (-1))]) (fr_tr (M := [(57, (-1)), (62, (-1)), (64, (-1)), (65, (-1))]) (fr_tr (M := [(57, (-1)), (62, (-1)), (64, (-1)), (65, (-1))]) fr_rf (hf10) (M1 := []) rfl rfl) (fr_ua hE11) rfl rfl) (fr_ua hE16) rfl rfl) (by omega))
theorem ct_205_56 {l : Launch} {D : va_G} {b0 : Nat} {ad : Nat → Nat} {Hb : Heap} {tau : Nat → Int64} {d n s : Nat} {S : Nat → xS} {Z : xZ} {h : mx_H} (hx : XH n s S Z h) (hG : GI n S Z)  {x0 : Int} (p0 : (-2147483648) ≤ x0 ∧ x0 ≤ 2147483647) : ∃ (Z' : xZ) (h' : mx_H), mx_Ca (tB l D b0 ad Hb tau) (d + 6) 205 [.ref 56, xI x0] h (none, h') ∧ XH n s S Z' h' ∧ GI n S Z' ∧ fr' [(57, (-1)), (62, (-1)), (64, (-1)), (65, (-1))] Z Z' ∧ ((Z' 57 1 = Z 57 1 ∧ Z' 57 963 = Z 57 963 ∧ Z' 57 1925 = Z 57 1925)) := by
  obtain ⟨r, hca, Z', h', e, q⟩ := Jmt (B := tB l D b0 ad Hb tau) (M := mt_205) (mi := 205) (as := [.ref 56, xI x0]) (d := d + 5) (ls := [some (.ref 56), some (xI x0)]) rfl rfl rfl rfl rfl rfl (cw_205_56 (l := l) (D := D) (b0 := b0) (ad := ad) (Hb := Hb) (tau := tau) (d := d) (Post := fun r => ∃ (Z' : xZ) (h' : mx_H), r = (none, h') ∧ XH n s S Z' h' ∧ GI n S Z' ∧ fr' [(57, (-1)), (62, (-1)), (64, (-1)), (65, (-1))] Z Z' ∧ ((Z' 57 1 = Z 57 1 ∧ Z' 57 963 = Z 57 963 ∧ Z' 57 1925 = Z 57 1925))) hx hG p0 (fun Z' h' q1 q2 q3 q4 => ⟨Z', h', rfl, q1, q2, q3, q4⟩))
  subst e; exact ⟨Z', h', hca, q⟩
set_option maxRecDepth 100000 in
theorem cw_206_56 {l : Launch} {D : va_G} {b0 : Nat} {ad : Nat → Nat} {Hb : Heap} {tau : Nat → Int64} {d n s : Nat} {S : Nat → xS} {Z : xZ} {h : mx_H} {Post : mx_R → Prop} (hx : XH n s S Z h) (hG : GI n S Z)  {x0 : Int} (p0 : (-2147483648) ≤ x0 ∧ x0 ≤ 2147483647) (hP : ∀ (z : Int) (Z' : xZ) (h' : mx_H), XH n s S Z' h' → GI n S Z' → fr' [(56, 0), (57, (-1)), (62, (-1)), (64, (-1)), (65, (-1)), (66, (-1))] Z Z' → (-12) ≤ z ∧ z ≤ 18 ∧ (Z' 57 1 = Z 57 1 ∧ Z' 57 963 = Z 57 963 ∧ Z' 57 1925 = Z 57 1925) → Post (some (xI z), h')) : mx_J (tB l D b0 ad Hb tau) mt_206 (d + 6) 0 [some (.ref 56), some (xI x0)] [] h Post := by
    have a56 : 56 < n := lt83 (GI_n hG) rfl
    have s56 : S 56 = .inl (12, [0, 2, 2, 2, 2, 0, 0, 0, 0, 0, 0, 0, 0, 0, 0, 2, 2, 2, 0, 2, 2, 2, 0, 0, 2, 2, 2, 2, 2, 2, 0, 0, 2, 2, 2, 2, 2, 2, 2, 2, 2, 2]) := GI_s hG 56 rfl
    have a57 : 57 < n := lt83 (GI_n hG) rfl
    have s57 : S 57 = .inr (.int, 2886, 0) := GI_s hG 57 rfl
    refine mx_J.step (sn_206 0) (fun _ _ => rfl) ?_
    refine JcI (z := 0) (show mx_Sn _ _ 1 (mx_const (.int 0) 2) from sn_206 1) rfl ?_
    refine JputI (g := 0) hx (show mx_Sn _ _ 2 (mx_putf 1 12 0 (.int) 5) from sn_206 2) a56 s56 rfl rfl rfl rfl (fun Z1 h1 hx1 hE1 => ?_)
    have hG1 := GI_up hG hE1 (show (-2147483648) ≤ 0 ∧ 0 ≤ 2147483647 by omega) trivial rfl
    refine mx_J.step (sn_206 5) (fun _ _ => rfl) ?_
    refine Ji2l (show mx_Sn _ _ 6 (mx_i2l 7) from sn_206 6) (by omega) ?_
    refine JcL (z := 0) (show mx_Sn _ _ 7 (mx_const (.long 0) 8) from sn_206 7) rfl ?_
    refine JcL (z := 18) (show mx_Sn _ _ 8 (mx_const (.long 18) 11) from sn_206 8) rfl ?_
    obtain ⟨z2, hc2, b2⟩ := ct_154_ (d := d + 5) (l := l) (D := D) (b0 := b0) (ad := ad) (Hb := Hb) (tau := tau) hx1 hG1 (show (-9223372036854775808) ≤ x0 ∧ x0 ≤ 9223372036854775807 by omega) (show (-9223372036854775808) ≤ 0 ∧ 0 ≤ 9223372036854775807 by omega) (show (-9223372036854775808) ≤ 18 ∧ 18 ≤ 9223372036854775807 by omega)
    refine Jcs (show mx_Sn _ _ 11 (mx_calls 154 3 14) from sn_206 11) hc2 rfl rfl rfl ?_
    refine Jif_ne (show mx_Sn _ _ 14 (mx_if_ne 20 17) from sn_206 14) (by omega) (fun q3 => ?_) (fun q3 => ?_)
    · skip
      refine mx_J.step (sn_206 20) (fun _ _ => rfl) ?_
      refine mx_J.step (sn_206 21) (fun _ _ => rfl) ?_
      refine JgetR (g := 1) (b := 57) hx1 (show mx_Sn _ _ 22 (mx_getf 12 1 25) from sn_206 22) a56 s56 rfl rfl (hG1.prr 56 1 rfl) ?_
      refine JcI (z := 27) (show mx_Sn _ _ 25 (mx_const (.int 27) 27) from sn_206 25) rfl ?_
      have b5 := GI_st hG 27
      have b6 : 0 ≤ Z 56 18 ∧ Z 56 18 ≤ 385 := hG.pr 56 18
      have b7 : 0 ≤ Z 57 27 ∧ Z 57 27 ≤ 384 := by have hq := GI_ex hG 57 27; replace hq : f57 (27 % 962) (Z 57 27) := hq; unfold f57 at hq; omega
      have b8 : (-2147483648) ≤ Z 57 27 ∧ Z 57 27 ≤ 2147483647 := hG.pr 57 27
      refine JialdI (z := Z 57 27) hx1 (show mx_Sn _ _ 27 (mx_iald 28) from sn_206 27) a57 s57 (by omega) (up_nk hE1 rfl) ?_
      refine mx_J.step (sn_206 28) (fun _ _ => rfl) ?_
      have eq10 : hv Z1 (Z 57 27) x0 = hv Z (Z 57 27) x0 := (hv_c (fun i => up_nk hE1 rfl))
      obtain ⟨z9, hc9, b9⟩ := ct_197_56 (d := d + 3) (l := l) (D := D) (b0 := b0) (ad := ad) (Hb := Hb) (tau := tau) hx1 hG1 (show 0 ≤ Z 57 27 ∧ Z 57 27 ≤ 384 by omega) (show (-2147483648) ≤ x0 ∧ x0 ≤ 2147483647 by omega)
      refine Jcv hx1 (show mx_Sn _ _ 29 (mx_callv 197 3 12 32) from sn_206 29) a56 s56 hc9 rfl rfl rfl ?_
      refine Jif_ne (show mx_Sn _ _ 32 (mx_if_ne 38 35) from sn_206 32) (by omega) (fun q11 => ?_) (fun q11 => ?_)
      · skip
        refine mx_J.step (sn_206 38) (fun _ _ => rfl) ?_
        have eq13 : Z1 57 27 = Z 57 27 := (up_nk hE1 rfl)
        obtain ⟨Z12, h12, hc12, hx12, hG12, hf12, b12⟩ := ct_202_56 (d := d + 5) (l := l) (D := D) (b0 := b0) (ad := ad) (Hb := Hb) (tau := tau) hx1 hG1 
        try rw [eq13] at b12
        have b14 : (-2147483648) ≤ Z12 66 0 ∧ Z12 66 0 ≤ 2147483647 := hG12.pr 66 0
        have b15 : (((0 : Int) = 0 → 0 ≤ (Z12 66 0) ∧ (Z12 66 0) ≤ 384) ∧ ((0 : Int) = 1 → 0 ≤ (Z12 66 0) ∧ (Z12 66 0) ≤ 9)) := GI_ex hG12 66 0
        refine Jcv0 hx1 (show mx_Sn _ _ 39 (mx_callv 202 1 12 42) from sn_206 39) a56 s56 hc12 rfl rfl rfl ?_
        refine mx_J.step (sn_206 42) (fun _ _ => rfl) ?_
        refine mx_J.step (sn_206 43) (fun _ _ => rfl) ?_
        have eq17 : Z12 57 1 = Z 57 1 := ((hf12 57 1 rfl).trans (up_nk hE1 rfl))
        have b18 : 0 ≤ Z 57 1 ∧ Z 57 1 ≤ 18 := by have hq := GI_ex hG 57 1; replace hq : f57 (1 % 962) (Z 57 1) := hq; unfold f57 at hq; omega
        have b19 : (-2147483648) ≤ Z 57 1 ∧ Z 57 1 ≤ 2147483647 := hG.pr 57 1
        have eq20 : Z12 57 963 = Z 57 963 := ((hf12 57 963 rfl).trans (up_nk hE1 rfl))
        have b21 : 0 ≤ Z 57 963 ∧ Z 57 963 ≤ 18 := by have hq := GI_ex hG 57 963; replace hq : f57 (963 % 962) (Z 57 963) := hq; unfold f57 at hq; omega
        have b22 : (-2147483648) ≤ Z 57 963 ∧ Z 57 963 ≤ 2147483647 := hG.pr 57 963
        have eq23 : Z12 57 1925 = Z 57 1925 := ((hf12 57 1925 rfl).trans (up_nk hE1 rfl))
        have b24 : 0 ≤ Z 57 1925 ∧ Z 57 1925 ≤ 18 := by have hq := GI_ex hG 57 1925; replace hq : f57 (1925 % 962) (Z 57 1925) := hq; unfold f57 at hq; omega
        have b25 : (-2147483648) ≤ Z 57 1925 ∧ Z 57 1925 ≤ 2147483647 := hG.pr 57 1925
        obtain ⟨Z16, h16, hc16, hx16, hG16, hf16, b16⟩ := ct_205_56 (d := d + 0) (l := l) (D := D) (b0 := b0) (ad := ad) (Hb := Hb) (tau := tau) hx12 hG12 (show (-2147483648) ≤ x0 ∧ x0 ≤ 2147483647 by omega)
        try rw [eq17] at b16
        try rw [eq20] at b16
        try rw [eq23] at b16
        have b26 : 0 ≤ Z16 57 1 ∧ Z16 57 1 ≤ 18 := by have hq := GI_ex hG16 57 1; replace hq : f57 (1 % 962) (Z16 57 1) := hq; unfold f57 at hq; omega
        have b27 : (-2147483648) ≤ Z16 57 1 ∧ Z16 57 1 ≤ 2147483647 := hG16.pr 57 1
        have b28 : 0 ≤ Z16 57 963 ∧ Z16 57 963 ≤ 18 := by have hq := GI_ex hG16 57 963; replace hq : f57 (963 % 962) (Z16 57 963) := hq; unfold f57 at hq; omega
        have b29 : (-2147483648) ≤ Z16 57 963 ∧ Z16 57 963 ≤ 2147483647 := hG16.pr 57 963
        have b30 : 0 ≤ Z16 57 1925 ∧ Z16 57 1925 ≤ 18 := by have hq := GI_ex hG16 57 1925; replace hq : f57 (1925 % 962) (Z16 57 1925) := hq; unfold f57 at hq; omega
        have b31 : (-2147483648) ≤ Z16 57 1925 ∧ Z16 57 1925 ≤ 2147483647 := hG16.pr 57 1925
        refine Jcv0 hx12 (show mx_Sn _ _ 44 (mx_callv 205 2 12 47) from sn_206 44) a56 s56 hc16 rfl rfl rfl ?_
        refine mx_J.step (sn_206 47) (fun _ _ => rfl) ?_
        have eq33 : Z16 66 0 = Z12 66 0 := (hf16 66 0 rfl)
        have eq34 : Z16 56 18 = Z 56 18 := ((hf16 56 18 rfl).trans ((hf12 56 18 rfl).trans (up_ni hE1 (by decide))))
        obtain ⟨Z32, h32, hc32, hx32, hG32, hf32, b32⟩ := ct_204_56 (d := d + 5) (l := l) (D := D) (b0 := b0) (ad := ad) (Hb := Hb) (tau := tau) hx16 hG16  (show Z16 66 0 < Z16 56 18 by first | omega | (simp only [eq33, eq34]; omega))
        try rw [eq33] at b32
        try rw [eq34] at b32
        have b35 : 0 ≤ Z32 57 1 ∧ Z32 57 1 ≤ 18 := by have hq := GI_ex hG32 57 1; replace hq : f57 (1 % 962) (Z32 57 1) := hq; unfold f57 at hq; omega
        have b36 : (-2147483648) ≤ Z32 57 1 ∧ Z32 57 1 ≤ 2147483647 := hG32.pr 57 1
        have b37 : 0 ≤ Z32 57 963 ∧ Z32 57 963 ≤ 18 := by have hq := GI_ex hG32 57 963; replace hq : f57 (963 % 962) (Z32 57 963) := hq; unfold f57 at hq; omega
        have b38 : (-2147483648) ≤ Z32 57 963 ∧ Z32 57 963 ≤ 2147483647 := hG32.pr 57 963
        have b39 : 0 ≤ Z32 57 1925 ∧ Z32 57 1925 ≤ 18 := by have hq := GI_ex hG32 57 1925; replace hq : f57 (1925 % 962) (Z32 57 1925) := hq; unfold f57 at hq; omega
        have b40 : (-2147483648) ≤ Z32 57 1925 ∧ Z32 57 1925 ≤ 2147483647 := hG32.pr 57 1925
        refine Jcv0 hx16 (show mx_Sn _ _ 48 (mx_callv 204 1 12 51) from sn_206 48) a56 s56 hc32 rfl rfl rfl ?_
        refine mx_J.step (sn_206 51) (fun _ _ => rfl) ?_
        refine mx_J.step (sn_206 52) (fun _ _ => rfl) ?_
        refine JgetR (g := 1) (b := 57) hx32 (show mx_Sn _ _ 53 (mx_getf 12 1 56) from sn_206 53) a56 s56 rfl rfl (hG32.prr 56 1 rfl) ?_
        refine JcI (z := 27) (show mx_Sn _ _ 56 (mx_const (.int 27) 58) from sn_206 56) rfl ?_
        have b42 := GI_st hG32 27
        have eq43 : Z32 56 18 = Z 56 18 := ((hf32 56 18 rfl).trans ((hf16 56 18 rfl).trans ((hf12 56 18 rfl).trans (up_ni hE1 (by decide)))))
        have b44 : 0 ≤ Z32 57 27 ∧ Z32 57 27 ≤ 384 := by have hq := GI_ex hG32 57 27; replace hq : f57 (27 % 962) (Z32 57 27) := hq; unfold f57 at hq; omega
        have b45 : (-2147483648) ≤ Z32 57 27 ∧ Z32 57 27 ≤ 2147483647 := hG32.pr 57 27
        refine JialdI (z := Z32 57 27) hx32 (show mx_Sn _ _ 58 (mx_iald 59) from sn_206 58) a57 s57 (by omega) rfl ?_
        have eq47 : mn Z32 (Z32 57 27) = mn Z (Z32 57 27) := ((mn_c (fun i => hf32 61 i rfl)).trans ((mn_c (fun i => hf16 61 i rfl)).trans ((mn_c (fun i => hf12 61 i rfl)).trans (mn_c (fun i => up_nk hE1 rfl)))))
        obtain ⟨z46, hc46, b46⟩ := ct_191_56 (d := d + 4) (l := l) (D := D) (b0 := b0) (ad := ad) (Hb := Hb) (tau := tau) hx32 hG32 (show 0 ≤ Z32 57 27 ∧ Z32 57 27 ≤ 384 by omega)
        refine Jcv hx32 (show mx_Sn _ _ 59 (mx_callv 191 2 12 62) from sn_206 59) a56 s56 hc46 rfl rfl rfl ?_
        exact mx_J.ret (sn_206 62) (fun _ _ => rfl) (hP z46 Z32 h32 hx32 hG32 (fr_tr (M := [(56, 0), (57, (-1)), (62, (-1)), (64, (-1)), (65, (-1)), (66, (-1))]) (fr_tr (M := [(56, 0), (57, (-1)), (62, (-1)), (64, (-1)), (65, (-1)), (66, (-1))]) (fr_tr (M := [(56, 0), (57, (-1)), (62, (-1)), (64, (-1)), (65, (-1)), (66, (-1))]) (fr_tr (M := [(56, 0), (57, (-1)), (62, (-1)), (64, (-1)), (65, (-1)), (66, (-1))]) fr_rf (fr_up hE1) (M1 := []) rfl rfl) (hf12) rfl rfl) (hf16) rfl rfl) (hf32) rfl rfl) (by omega))
      · skip
        refine JcI (z := (-12)) (show mx_Sn _ _ 35 (mx_const (.int (-12)) 37) from sn_206 35) rfl ?_
        have eq48 : Z1 57 1 = Z 57 1 := (up_nk hE1 rfl)
        have b49 : 0 ≤ Z 57 1 ∧ Z 57 1 ≤ 18 := by have hq := GI_ex hG 57 1; replace hq : f57 (1 % 962) (Z 57 1) := hq; unfold f57 at hq; omega
        have b50 : (-2147483648) ≤ Z 57 1 ∧ Z 57 1 ≤ 2147483647 := hG.pr 57 1
        have eq51 : Z1 57 963 = Z 57 963 := (up_nk hE1 rfl)
        have b52 : 0 ≤ Z 57 963 ∧ Z 57 963 ≤ 18 := by have hq := GI_ex hG 57 963; replace hq : f57 (963 % 962) (Z 57 963) := hq; unfold f57 at hq; omega
        have b53 : (-2147483648) ≤ Z 57 963 ∧ Z 57 963 ≤ 2147483647 := hG.pr 57 963
        have eq54 : Z1 57 1925 = Z 57 1925 := (up_nk hE1 rfl)
        have b55 : 0 ≤ Z 57 1925 ∧ Z 57 1925 ≤ 18 := by have hq := GI_ex hG 57 1925; replace hq : f57 (1925 % 962) (Z 57 1925) := hq; unfold f57 at hq; omega
        have b56 : (-2147483648) ≤ Z 57 1925 ∧ Z 57 1925 ≤ 2147483647 := hG.pr 57 1925
        have eq57 : Z1 57 1 = Z 57 1 := (up_nk hE1 rfl)
        have eq58 : Z1 57 963 = Z 57 963 := (up_nk hE1 rfl)
        have eq59 : Z1 57 1925 = Z 57 1925 := (up_nk hE1 rfl)
        exact mx_J.ret (sn_206 37) (fun _ _ => rfl) (hP (-12) Z1 h1 hx1 hG1 (fr_tr (M := [(56, 0), (57, (-1)), (62, (-1)), (64, (-1)), (65, (-1)), (66, (-1))]) fr_rf (fr_up hE1) (M1 := []) rfl rfl) (by omega))
    · skip
      refine JcI (z := (-11)) (show mx_Sn _ _ 17 (mx_const (.int (-11)) 19) from sn_206 17) rfl ?_
      have eq60 : Z1 57 1 = Z 57 1 := (up_nk hE1 rfl)
      have b61 : 0 ≤ Z 57 1 ∧ Z 57 1 ≤ 18 := by have hq := GI_ex hG 57 1; replace hq : f57 (1 % 962) (Z 57 1) := hq; unfold f57 at hq; omega
      have b62 : (-2147483648) ≤ Z 57 1 ∧ Z 57 1 ≤ 2147483647 := hG.pr 57 1
      have eq63 : Z1 57 963 = Z 57 963 := (up_nk hE1 rfl)
      have b64 : 0 ≤ Z 57 963 ∧ Z 57 963 ≤ 18 := by have hq := GI_ex hG 57 963; replace hq : f57 (963 % 962) (Z 57 963) := hq; unfold f57 at hq; omega
      have b65 : (-2147483648) ≤ Z 57 963 ∧ Z 57 963 ≤ 2147483647 := hG.pr 57 963
      have eq66 : Z1 57 1925 = Z 57 1925 := (up_nk hE1 rfl)
      have b67 : 0 ≤ Z 57 1925 ∧ Z 57 1925 ≤ 18 := by have hq := GI_ex hG 57 1925; replace hq : f57 (1925 % 962) (Z 57 1925) := hq; unfold f57 at hq; omega
      have b68 : (-2147483648) ≤ Z 57 1925 ∧ Z 57 1925 ≤ 2147483647 := hG.pr 57 1925
      have eq69 : Z1 57 1 = Z 57 1 := (up_nk hE1 rfl)
      have eq70 : Z1 57 963 = Z 57 963 := (up_nk hE1 rfl)
      have eq71 : Z1 57 1925 = Z 57 1925 := (up_nk hE1 rfl)
      exact mx_J.ret (sn_206 19) (fun _ _ => rfl) (hP (-11) Z1 h1 hx1 hG1 (fr_tr (M := [(56, 0), (57, (-1)), (62, (-1)), (64, (-1)), (65, (-1)), (66, (-1))]) fr_rf (fr_up hE1) (M1 := []) rfl rfl) (by omega))
theorem ct_206_56 {l : Launch} {D : va_G} {b0 : Nat} {ad : Nat → Nat} {Hb : Heap} {tau : Nat → Int64} {d n s : Nat} {S : Nat → xS} {Z : xZ} {h : mx_H} (hx : XH n s S Z h) (hG : GI n S Z)  {x0 : Int} (p0 : (-2147483648) ≤ x0 ∧ x0 ≤ 2147483647) : ∃ (z : Int) (Z' : xZ) (h' : mx_H), mx_Ca (tB l D b0 ad Hb tau) (d + 7) 206 [.ref 56, xI x0] h (some (xI z), h') ∧ XH n s S Z' h' ∧ GI n S Z' ∧ fr' [(56, 0), (57, (-1)), (62, (-1)), (64, (-1)), (65, (-1)), (66, (-1))] Z Z' ∧ ((-12) ≤ z ∧ z ≤ 18 ∧ (Z' 57 1 = Z 57 1 ∧ Z' 57 963 = Z 57 963 ∧ Z' 57 1925 = Z 57 1925)) := by
  obtain ⟨r, hca, z, Z', h', e, q⟩ := Jmt (B := tB l D b0 ad Hb tau) (M := mt_206) (mi := 206) (as := [.ref 56, xI x0]) (d := d + 6) (ls := [some (.ref 56), some (xI x0)]) rfl rfl rfl rfl rfl rfl (cw_206_56 (l := l) (D := D) (b0 := b0) (ad := ad) (Hb := Hb) (tau := tau) (d := d) (Post := fun r => ∃ (z : Int) (Z' : xZ) (h' : mx_H), r = (some (xI z), h') ∧ XH n s S Z' h' ∧ GI n S Z' ∧ fr' [(56, 0), (57, (-1)), (62, (-1)), (64, (-1)), (65, (-1)), (66, (-1))] Z Z' ∧ ((-12) ≤ z ∧ z ≤ 18 ∧ (Z' 57 1 = Z 57 1 ∧ Z' 57 963 = Z 57 963 ∧ Z' 57 1925 = Z 57 1925))) hx hG p0 (fun z Z' h' q1 q2 q3 q4 => ⟨z, Z', h', rfl, q1, q2, q3, q4⟩))
  subst e; exact ⟨z, Z', h', hca, q⟩
set_option maxRecDepth 100000 in
theorem cw_207_56 {l : Launch} {D : va_G} {b0 : Nat} {ad : Nat → Nat} {Hb : Heap} {tau : Nat → Int64} {d n s : Nat} {S : Nat → xS} {Z : xZ} {h : mx_H} {Post : mx_R → Prop} (hx : XH n s S Z h) (hG : GI n S Z)  {x0 : Int} (p0 : (-2147483648) ≤ x0 ∧ x0 ≤ 2147483647) (hP : ∀ (z : Int) (Z' : xZ) (h' : mx_H), XH n s S Z' h' → GI n S Z' → fr' [(56, 0), (57, (-1)), (62, (-1)), (64, (-1)), (65, (-1)), (66, (-1))] Z Z' → (-3) ≤ z ∧ z ≤ 18 ∧ (Z' 57 1 = Z 57 1 ∧ Z' 57 963 = Z 57 963 ∧ Z' 57 1925 = Z 57 1925) → Post (some (xI z), h')) : mx_J (tB l D b0 ad Hb tau) mt_207 (d + 6) 0 [some (.ref 56), some (xI x0), none] [] h Post := by
    have a56 : 56 < n := lt83 (GI_n hG) rfl
    have s56 : S 56 = .inl (12, [0, 2, 2, 2, 2, 0, 0, 0, 0, 0, 0, 0, 0, 0, 0, 2, 2, 2, 0, 2, 2, 2, 0, 0, 2, 2, 2, 2, 2, 2, 0, 0, 2, 2, 2, 2, 2, 2, 2, 2, 2, 2]) := GI_s hG 56 rfl
    have a57 : 57 < n := lt83 (GI_n hG) rfl
    have s57 : S 57 = .inr (.int, 2886, 0) := GI_s hG 57 rfl
    refine mx_J.step (sn_207 0) (fun _ _ => rfl) ?_
    refine JcI (z := 0) (show mx_Sn _ _ 1 (mx_const (.int 0) 2) from sn_207 1) rfl ?_
    refine JputI (g := 0) hx (show mx_Sn _ _ 2 (mx_putf 1 12 0 (.int) 5) from sn_207 2) a56 s56 rfl rfl rfl rfl (fun Z1 h1 hx1 hE1 => ?_)
    have hG1 := GI_up hG hE1 (show (-2147483648) ≤ 0 ∧ 0 ≤ 2147483647 by omega) trivial rfl
    refine mx_J.step (sn_207 5) (fun _ _ => rfl) ?_
    refine Ji2l (show mx_Sn _ _ 6 (mx_i2l 7) from sn_207 6) (by omega) ?_
    refine JcL (z := 1) (show mx_Sn _ _ 7 (mx_const (.long 1) 8) from sn_207 7) rfl ?_
    refine JcL (z := 99) (show mx_Sn _ _ 8 (mx_const (.long 99) 11) from sn_207 8) rfl ?_
    obtain ⟨z2, hc2, b2⟩ := ct_154_ (d := d + 5) (l := l) (D := D) (b0 := b0) (ad := ad) (Hb := Hb) (tau := tau) hx1 hG1 (show (-9223372036854775808) ≤ x0 ∧ x0 ≤ 9223372036854775807 by omega) (show (-9223372036854775808) ≤ 1 ∧ 1 ≤ 9223372036854775807 by omega) (show (-9223372036854775808) ≤ 99 ∧ 99 ≤ 9223372036854775807 by omega)
    refine Jcs (show mx_Sn _ _ 11 (mx_calls 154 3 14) from sn_207 11) hc2 rfl rfl rfl ?_
    refine Jif_ne (show mx_Sn _ _ 14 (mx_if_ne 20 17) from sn_207 14) (by omega) (fun q3 => ?_) (fun q3 => ?_)
    · skip
      refine mx_J.step (sn_207 20) (fun _ _ => rfl) ?_
      have eq5 : Z1 57 27 = Z 57 27 := (up_nk hE1 rfl)
      have b6 := GI_st hG 27
      have b7 : 0 ≤ Z 56 18 ∧ Z 56 18 ≤ 385 := hG.pr 56 18
      have b8 : 0 ≤ Z 57 27 ∧ Z 57 27 ≤ 384 := by have hq := GI_ex hG 57 27; replace hq : f57 (27 % 962) (Z 57 27) := hq; unfold f57 at hq; omega
      have b9 : (-2147483648) ≤ Z 57 27 ∧ Z 57 27 ≤ 2147483647 := hG.pr 57 27
      obtain ⟨Z4, h4, hc4, hx4, hG4, hf4, b4⟩ := ct_202_56 (d := d + 5) (l := l) (D := D) (b0 := b0) (ad := ad) (Hb := Hb) (tau := tau) hx1 hG1 
      try rw [eq5] at b4
      have b10 : (-2147483648) ≤ Z4 66 0 ∧ Z4 66 0 ≤ 2147483647 := hG4.pr 66 0
      have b11 : (((0 : Int) = 0 → 0 ≤ (Z4 66 0) ∧ (Z4 66 0) ≤ 384) ∧ ((0 : Int) = 1 → 0 ≤ (Z4 66 0) ∧ (Z4 66 0) ≤ 9)) := GI_ex hG4 66 0
      refine Jcv0 hx1 (show mx_Sn _ _ 21 (mx_callv 202 1 12 24) from sn_207 21) a56 s56 hc4 rfl rfl rfl ?_
      refine JcI (z := 0) (show mx_Sn _ _ 24 (mx_const (.int 0) 25) from sn_207 24) rfl ?_
      refine mx_J.step (ls2 := [some (.ref 56), some (xI x0), some (xI 0)]) (sn_207 25) (fun _ _ => rfl) ?_
      have c26 : ∀ (m12 : Nat) (w12_2 : Int) (Z13 : xZ) (h13 : mx_H), 99 - w12_2 < (m12 : Int) → 0 ≤ w12_2 ∧ w12_2 ≤ 99 → (Z13 57 1 = Z 57 1 ∧ Z13 57 963 = Z 57 963 ∧ Z13 57 1925 = Z 57 1925) → XH n s S Z13 h13 → GI n S Z13 → fr' [(57, (-1)), (62, (-1)), (64, (-1)), (65, (-1))] Z4 Z13 → mx_J (tB l D b0 ad Hb tau) mt_207 (d + 6) 26 [some (.ref 56), some (xI x0), some (xI w12_2)] [] h13 Post := by
        intro m12
        induction m12 with
        | zero => intro w12_2 Z13 h13 q12 f12_0 f12_1 hx13 hG13 hf13; exact absurd q12 (by omega)
        | succ m12 ih12 =>
          intro w12_2 Z13 h13 q12 f12_0 f12_1 hx13 hG13 hf13
          have b14 : 0 ≤ Z13 57 1 ∧ Z13 57 1 ≤ 18 := by have hq := GI_ex hG13 57 1; replace hq : f57 (1 % 962) (Z13 57 1) := hq; unfold f57 at hq; omega
          have b15 : (-2147483648) ≤ Z13 57 1 ∧ Z13 57 1 ≤ 2147483647 := hG13.pr 57 1
          have b16 : 0 ≤ Z13 57 963 ∧ Z13 57 963 ≤ 18 := by have hq := GI_ex hG13 57 963; replace hq : f57 (963 % 962) (Z13 57 963) := hq; unfold f57 at hq; omega
          have b17 : (-2147483648) ≤ Z13 57 963 ∧ Z13 57 963 ≤ 2147483647 := hG13.pr 57 963
          have b18 : 0 ≤ Z13 57 1925 ∧ Z13 57 1925 ≤ 18 := by have hq := GI_ex hG13 57 1925; replace hq : f57 (1925 % 962) (Z13 57 1925) := hq; unfold f57 at hq; omega
          have b19 : (-2147483648) ≤ Z13 57 1925 ∧ Z13 57 1925 ≤ 2147483647 := hG13.pr 57 1925
          refine mx_J.step (sn_207 26) (fun _ _ => rfl) ?_
          refine mx_J.step (sn_207 27) (fun _ _ => rfl) ?_
          refine Jicmp_ge (show mx_Sn _ _ 28 (mx_icmp_ge 42 31) from sn_207 28) (by omega) (by omega) (fun q20 => ?_) (fun q20 => ?_)
          · skip
            refine mx_J.step (sn_207 42) (fun _ _ => rfl) ?_
            have eq22 : Z13 66 0 = Z4 66 0 := (hf13 66 0 rfl)
            have eq23 : Z13 56 18 = Z 56 18 := ((hf13 56 18 rfl).trans ((hf4 56 18 rfl).trans (up_ni hE1 (by decide))))
            obtain ⟨Z21, h21, hc21, hx21, hG21, hf21, b21⟩ := ct_204_56 (d := d + 5) (l := l) (D := D) (b0 := b0) (ad := ad) (Hb := Hb) (tau := tau) hx13 hG13  (show Z13 66 0 < Z13 56 18 by first | omega | (simp only [eq22, eq23]; omega))
            try rw [eq22] at b21
            try rw [eq23] at b21
            have b24 : 0 ≤ Z21 57 1 ∧ Z21 57 1 ≤ 18 := by have hq := GI_ex hG21 57 1; replace hq : f57 (1 % 962) (Z21 57 1) := hq; unfold f57 at hq; omega
            have b25 : (-2147483648) ≤ Z21 57 1 ∧ Z21 57 1 ≤ 2147483647 := hG21.pr 57 1
            have b26 : 0 ≤ Z21 57 963 ∧ Z21 57 963 ≤ 18 := by have hq := GI_ex hG21 57 963; replace hq : f57 (963 % 962) (Z21 57 963) := hq; unfold f57 at hq; omega
            have b27 : (-2147483648) ≤ Z21 57 963 ∧ Z21 57 963 ≤ 2147483647 := hG21.pr 57 963
            have b28 : 0 ≤ Z21 57 1925 ∧ Z21 57 1925 ≤ 18 := by have hq := GI_ex hG21 57 1925; replace hq : f57 (1925 % 962) (Z21 57 1925) := hq; unfold f57 at hq; omega
            have b29 : (-2147483648) ≤ Z21 57 1925 ∧ Z21 57 1925 ≤ 2147483647 := hG21.pr 57 1925
            refine Jcv0 hx13 (show mx_Sn _ _ 43 (mx_callv 204 1 12 46) from sn_207 43) a56 s56 hc21 rfl rfl rfl ?_
            refine mx_J.step (sn_207 46) (fun _ _ => rfl) ?_
            refine mx_J.step (sn_207 47) (fun _ _ => rfl) ?_
            refine JgetR (g := 1) (b := 57) hx21 (show mx_Sn _ _ 48 (mx_getf 12 1 51) from sn_207 48) a56 s56 rfl rfl (hG21.prr 56 1 rfl) ?_
            refine JcI (z := 27) (show mx_Sn _ _ 51 (mx_const (.int 27) 53) from sn_207 51) rfl ?_
            have b31 := GI_st hG21 27
            have eq32 : Z21 56 18 = Z 56 18 := ((hf21 56 18 rfl).trans ((hf13 56 18 rfl).trans ((hf4 56 18 rfl).trans (up_ni hE1 (by decide)))))
            have b33 : 0 ≤ Z21 57 27 ∧ Z21 57 27 ≤ 384 := by have hq := GI_ex hG21 57 27; replace hq : f57 (27 % 962) (Z21 57 27) := hq; unfold f57 at hq; omega
            have b34 : (-2147483648) ≤ Z21 57 27 ∧ Z21 57 27 ≤ 2147483647 := hG21.pr 57 27
            refine JialdI (z := Z21 57 27) hx21 (show mx_Sn _ _ 53 (mx_iald 54) from sn_207 53) a57 s57 (by omega) rfl ?_
            have eq36 : mn Z21 (Z21 57 27) = mn Z (Z21 57 27) := ((mn_c (fun i => hf21 61 i rfl)).trans ((mn_c (fun i => hf13 61 i rfl)).trans ((mn_c (fun i => hf4 61 i rfl)).trans (mn_c (fun i => up_nk hE1 rfl)))))
            obtain ⟨z35, hc35, b35⟩ := ct_191_56 (d := d + 4) (l := l) (D := D) (b0 := b0) (ad := ad) (Hb := Hb) (tau := tau) hx21 hG21 (show 0 ≤ Z21 57 27 ∧ Z21 57 27 ≤ 384 by omega)
            refine Jcv hx21 (show mx_Sn _ _ 54 (mx_callv 191 2 12 57) from sn_207 54) a56 s56 hc35 rfl rfl rfl ?_
            exact mx_J.ret (sn_207 57) (fun _ _ => rfl) (hP z35 Z21 h21 hx21 hG21 (fr_tr (M := [(56, 0), (57, (-1)), (62, (-1)), (64, (-1)), (65, (-1)), (66, (-1))]) (fr_tr (M := [(56, 0), (57, (-1)), (62, (-1)), (64, (-1)), (65, (-1)), (66, (-1))]) (fr_tr (M := [(56, 0), (57, (-1)), (62, (-1)), (64, (-1)), (65, (-1)), (66, (-1))]) (fr_tr (M := [(56, 0), (57, (-1)), (62, (-1)), (64, (-1)), (65, (-1)), (66, (-1))]) fr_rf (fr_up hE1) (M1 := []) rfl rfl) (hf4) rfl rfl) (hf13) rfl rfl) (hf21) rfl rfl) (by omega))
          · skip
            refine mx_J.step (sn_207 31) (fun _ _ => rfl) ?_
            refine JcI (z := 0) (show mx_Sn _ _ 32 (mx_const (.int 0) 33) from sn_207 32) rfl ?_
            obtain ⟨Z37, h37, hc37, hx37, hG37, hf37, b37⟩ := ct_205_56 (d := d + 0) (l := l) (D := D) (b0 := b0) (ad := ad) (Hb := Hb) (tau := tau) hx13 hG13 (show (-2147483648) ≤ 0 ∧ 0 ≤ 2147483647 by omega)
            have b38 : 0 ≤ Z37 57 1 ∧ Z37 57 1 ≤ 18 := by have hq := GI_ex hG37 57 1; replace hq : f57 (1 % 962) (Z37 57 1) := hq; unfold f57 at hq; omega
            have b39 : (-2147483648) ≤ Z37 57 1 ∧ Z37 57 1 ≤ 2147483647 := hG37.pr 57 1
            have b40 : 0 ≤ Z37 57 963 ∧ Z37 57 963 ≤ 18 := by have hq := GI_ex hG37 57 963; replace hq : f57 (963 % 962) (Z37 57 963) := hq; unfold f57 at hq; omega
            have b41 : (-2147483648) ≤ Z37 57 963 ∧ Z37 57 963 ≤ 2147483647 := hG37.pr 57 963
            have b42 : 0 ≤ Z37 57 1925 ∧ Z37 57 1925 ≤ 18 := by have hq := GI_ex hG37 57 1925; replace hq : f57 (1925 % 962) (Z37 57 1925) := hq; unfold f57 at hq; omega
            have b43 : (-2147483648) ≤ Z37 57 1925 ∧ Z37 57 1925 ≤ 2147483647 := hG37.pr 57 1925
            refine Jcv0 hx13 (show mx_Sn _ _ 33 (mx_callv 205 2 12 36) from sn_207 33) a56 s56 hc37 rfl rfl rfl ?_
            refine Jiinc (z := w12_2) (cz := 1) (ls2 := [some (.ref 56), some (xI x0), some (xI (w12_2 + 1))]) (show mx_Sn _ _ 36 (mx_iinc 2 1 39) from sn_207 36) rfl rfl rfl rfl ?_
            refine mx_J.step (sn_207 39) (fun _ _ => rfl) ?_
            exact ih12 (w12_2 + 1) Z37 h37 (by omega) (by omega) (by omega) hx37 hG37 (fr_tr (M := [(57, (-1)), (62, (-1)), (64, (-1)), (65, (-1))]) (fr_tr (M := [(57, (-1)), (62, (-1)), (64, (-1)), (65, (-1))]) fr_rf (hf13) (M1 := []) rfl rfl) (hf37) rfl rfl)
      have eq44 : Z4 57 1 = Z 57 1 := ((hf4 57 1 rfl).trans (up_nk hE1 rfl))
      have b45 : 0 ≤ Z 57 1 ∧ Z 57 1 ≤ 18 := by have hq := GI_ex hG 57 1; replace hq : f57 (1 % 962) (Z 57 1) := hq; unfold f57 at hq; omega
      have b46 : (-2147483648) ≤ Z 57 1 ∧ Z 57 1 ≤ 2147483647 := hG.pr 57 1
      have eq47 : Z4 57 963 = Z 57 963 := ((hf4 57 963 rfl).trans (up_nk hE1 rfl))
      have b48 : 0 ≤ Z 57 963 ∧ Z 57 963 ≤ 18 := by have hq := GI_ex hG 57 963; replace hq : f57 (963 % 962) (Z 57 963) := hq; unfold f57 at hq; omega
      have b49 : (-2147483648) ≤ Z 57 963 ∧ Z 57 963 ≤ 2147483647 := hG.pr 57 963
      have eq50 : Z4 57 1925 = Z 57 1925 := ((hf4 57 1925 rfl).trans (up_nk hE1 rfl))
      have b51 : 0 ≤ Z 57 1925 ∧ Z 57 1925 ≤ 18 := by have hq := GI_ex hG 57 1925; replace hq : f57 (1925 % 962) (Z 57 1925) := hq; unfold f57 at hq; omega
      have b52 : (-2147483648) ≤ Z 57 1925 ∧ Z 57 1925 ≤ 2147483647 := hG.pr 57 1925
      exact c26 (Int.toNat (99 - 0) + 1) 0 Z4 h4 (by omega) (by omega) (by omega) hx4 hG4 fr_rf
    · skip
      refine JcI (z := (-3)) (show mx_Sn _ _ 17 (mx_const (.int (-3)) 19) from sn_207 17) rfl ?_
      have eq53 : Z1 57 1 = Z 57 1 := (up_nk hE1 rfl)
      have b54 : 0 ≤ Z 57 1 ∧ Z 57 1 ≤ 18 := by have hq := GI_ex hG 57 1; replace hq : f57 (1 % 962) (Z 57 1) := hq; unfold f57 at hq; omega
      have b55 : (-2147483648) ≤ Z 57 1 ∧ Z 57 1 ≤ 2147483647 := hG.pr 57 1
      have eq56 : Z1 57 963 = Z 57 963 := (up_nk hE1 rfl)
      have b57 : 0 ≤ Z 57 963 ∧ Z 57 963 ≤ 18 := by have hq := GI_ex hG 57 963; replace hq : f57 (963 % 962) (Z 57 963) := hq; unfold f57 at hq; omega
      have b58 : (-2147483648) ≤ Z 57 963 ∧ Z 57 963 ≤ 2147483647 := hG.pr 57 963
      have eq59 : Z1 57 1925 = Z 57 1925 := (up_nk hE1 rfl)
      have b60 : 0 ≤ Z 57 1925 ∧ Z 57 1925 ≤ 18 := by have hq := GI_ex hG 57 1925; replace hq : f57 (1925 % 962) (Z 57 1925) := hq; unfold f57 at hq; omega
      have b61 : (-2147483648) ≤ Z 57 1925 ∧ Z 57 1925 ≤ 2147483647 := hG.pr 57 1925
      have eq62 : Z1 57 1 = Z 57 1 := (up_nk hE1 rfl)
      have eq63 : Z1 57 963 = Z 57 963 := (up_nk hE1 rfl)
      have eq64 : Z1 57 1925 = Z 57 1925 := (up_nk hE1 rfl)
      exact mx_J.ret (sn_207 19) (fun _ _ => rfl) (hP (-3) Z1 h1 hx1 hG1 (fr_tr (M := [(56, 0), (57, (-1)), (62, (-1)), (64, (-1)), (65, (-1)), (66, (-1))]) fr_rf (fr_up hE1) (M1 := []) rfl rfl) (by omega))
theorem ct_207_56 {l : Launch} {D : va_G} {b0 : Nat} {ad : Nat → Nat} {Hb : Heap} {tau : Nat → Int64} {d n s : Nat} {S : Nat → xS} {Z : xZ} {h : mx_H} (hx : XH n s S Z h) (hG : GI n S Z)  {x0 : Int} (p0 : (-2147483648) ≤ x0 ∧ x0 ≤ 2147483647) : ∃ (z : Int) (Z' : xZ) (h' : mx_H), mx_Ca (tB l D b0 ad Hb tau) (d + 7) 207 [.ref 56, xI x0] h (some (xI z), h') ∧ XH n s S Z' h' ∧ GI n S Z' ∧ fr' [(56, 0), (57, (-1)), (62, (-1)), (64, (-1)), (65, (-1)), (66, (-1))] Z Z' ∧ ((-3) ≤ z ∧ z ≤ 18 ∧ (Z' 57 1 = Z 57 1 ∧ Z' 57 963 = Z 57 963 ∧ Z' 57 1925 = Z 57 1925)) := by
  obtain ⟨r, hca, z, Z', h', e, q⟩ := Jmt (B := tB l D b0 ad Hb tau) (M := mt_207) (mi := 207) (as := [.ref 56, xI x0]) (d := d + 6) (ls := [some (.ref 56), some (xI x0), none]) rfl rfl rfl rfl rfl rfl (cw_207_56 (l := l) (D := D) (b0 := b0) (ad := ad) (Hb := Hb) (tau := tau) (d := d) (Post := fun r => ∃ (z : Int) (Z' : xZ) (h' : mx_H), r = (some (xI z), h') ∧ XH n s S Z' h' ∧ GI n S Z' ∧ fr' [(56, 0), (57, (-1)), (62, (-1)), (64, (-1)), (65, (-1)), (66, (-1))] Z Z' ∧ ((-3) ≤ z ∧ z ≤ 18 ∧ (Z' 57 1 = Z 57 1 ∧ Z' 57 963 = Z 57 963 ∧ Z' 57 1925 = Z 57 1925))) hx hG p0 (fun z Z' h' q1 q2 q3 q4 => ⟨z, Z', h', rfl, q1, q2, q3, q4⟩))
  subst e; exact ⟨z, Z', h', hca, q⟩
set_option maxRecDepth 100000 in
theorem cw_209_56 {l : Launch} {D : va_G} {b0 : Nat} {ad : Nat → Nat} {Hb : Heap} {tau : Nat → Int64} {d n s : Nat} {S : Nat → xS} {Z : xZ} {h : mx_H} {Post : mx_R → Prop} (hx : XH n s S Z h) (hG : GI n S Z)  {x0 x1 : Int} (p0 : (-2147483648) ≤ x0 ∧ x0 ≤ 2147483647) (p1 : (-2147483648) ≤ x1 ∧ x1 ≤ 2147483647) (hP : ∀ z : Int, 0 ≤ z ∧ z ≤ 2 ∧ (z = 0 → (1 ≤ x0 ∧ x0 ≤ 18 ∧ 1 ≤ x1 ∧ x1 ≤ x0 - 1 ∧ hv Z (Z 57 27) x0 = 1)) → Post (some (xI z), h)) : mx_J (tB l D b0 ad Hb tau) mt_209 (d + 2) 0 [some (.ref 56), some (xI x0), some (xI x1)] [] h Post := by
    have a56 : 56 < n := lt83 (GI_n hG) rfl
    have s56 : S 56 = .inl (12, [0, 2, 2, 2, 2, 0, 0, 0, 0, 0, 0, 0, 0, 0, 0, 2, 2, 2, 0, 2, 2, 2, 0, 0, 2, 2, 2, 2, 2, 2, 0, 0, 2, 2, 2, 2, 2, 2, 2, 2, 2, 2]) := GI_s hG 56 rfl
    have a57 : 57 < n := lt83 (GI_n hG) rfl
    have s57 : S 57 = .inr (.int, 2886, 0) := GI_s hG 57 rfl
    refine mx_J.step (sn_209 0) (fun _ _ => rfl) ?_
    refine Ji2l (show mx_Sn _ _ 1 (mx_i2l 2) from sn_209 1) (by omega) ?_
    obtain ⟨z1, hc1, b1⟩ := ct_208_ (d := d + 0) (l := l) (D := D) (b0 := b0) (ad := ad) (Hb := Hb) (tau := tau) hx hG (show (-9223372036854775808) ≤ x0 ∧ x0 ≤ 9223372036854775807 by omega)
    refine Jcs (show mx_Sn _ _ 2 (mx_calls 208 1 5) from sn_209 2) hc1 rfl rfl rfl ?_
    have c21 : mx_J (tB l D b0 ad Hb tau) mt_209 (d + 2) 21 [some (.ref 56), some (xI x0), some (xI x1)] [] h Post := by
      refine JcI (z := 1) (show mx_Sn _ _ 21 (mx_const (.int 1) 22) from sn_209 21) rfl ?_
      have b3 := GI_st hG 27
      have b4 : 0 ≤ Z 56 18 ∧ Z 56 18 ≤ 385 := hG.pr 56 18
      have b5 : 0 ≤ Z 57 27 ∧ Z 57 27 ≤ 384 := by have hq := GI_ex hG 57 27; replace hq : f57 (27 % 962) (Z 57 27) := hq; unfold f57 at hq; omega
      have b6 : (-2147483648) ≤ Z 57 27 ∧ Z 57 27 ≤ 2147483647 := hG.pr 57 27
      exact mx_J.ret (sn_209 22) (fun _ _ => rfl) (hP 1 (by omega))
    refine Jif_eq (show mx_Sn _ _ 5 (mx_if_eq 21 8) from sn_209 5) (by omega) (fun q7 => ?_) (fun q7 => ?_)
    · skip
      exact c21 
    · skip
      refine mx_J.step (sn_209 8) (fun _ _ => rfl) ?_
      refine Ji2l (show mx_Sn _ _ 9 (mx_i2l 10) from sn_209 9) (by omega) ?_
      refine JcL (z := 1) (show mx_Sn _ _ 10 (mx_const (.long 1) 11) from sn_209 10) rfl ?_
      refine mx_J.step (sn_209 11) (fun _ _ => rfl) ?_
      refine Ji2l (show mx_Sn _ _ 12 (mx_i2l 13) from sn_209 12) (by omega) ?_
      refine JcL (z := 1) (show mx_Sn _ _ 13 (mx_const (.long 1) 14) from sn_209 13) rfl ?_
      refine Jlsub (show mx_Sn _ _ 14 (mx_lsub 15) from sn_209 14) ?_
      obtain ⟨z8, hc8, b8⟩ := ct_154_ (d := d + 1) (l := l) (D := D) (b0 := b0) (ad := ad) (Hb := Hb) (tau := tau) hx hG (show (-9223372036854775808) ≤ x1 ∧ x1 ≤ 9223372036854775807 by omega) (show (-9223372036854775808) ≤ 1 ∧ 1 ≤ 9223372036854775807 by omega) (show (-9223372036854775808) ≤ x0 - 1 ∧ x0 - 1 ≤ 9223372036854775807 by omega)
      refine Jcs (show mx_Sn _ _ 15 (mx_calls 154 3 18) from sn_209 15) hc8 rfl rfl rfl ?_
      refine Jif_ne (show mx_Sn _ _ 18 (mx_if_ne 23 21) from sn_209 18) (by omega) (fun q9 => ?_) (fun q9 => ?_)
      · skip
        refine mx_J.step (sn_209 23) (fun _ _ => rfl) ?_
        refine mx_J.step (sn_209 24) (fun _ _ => rfl) ?_
        refine JgetR (g := 1) (b := 57) hx (show mx_Sn _ _ 25 (mx_getf 12 1 28) from sn_209 25) a56 s56 rfl rfl (hG.prr 56 1 rfl) ?_
        refine JcI (z := 27) (show mx_Sn _ _ 28 (mx_const (.int 27) 30) from sn_209 28) rfl ?_
        have b11 := GI_st hG 27
        have b12 : 0 ≤ Z 56 18 ∧ Z 56 18 ≤ 385 := hG.pr 56 18
        have b13 : 0 ≤ Z 57 27 ∧ Z 57 27 ≤ 384 := by have hq := GI_ex hG 57 27; replace hq : f57 (27 % 962) (Z 57 27) := hq; unfold f57 at hq; omega
        have b14 : (-2147483648) ≤ Z 57 27 ∧ Z 57 27 ≤ 2147483647 := hG.pr 57 27
        refine JialdI (z := Z 57 27) hx (show mx_Sn _ _ 30 (mx_iald 31) from sn_209 30) a57 s57 (by omega) rfl ?_
        refine mx_J.step (sn_209 31) (fun _ _ => rfl) ?_
        obtain ⟨z15, hc15, b15⟩ := ct_192_56 (d := d + 0) (l := l) (D := D) (b0 := b0) (ad := ad) (Hb := Hb) (tau := tau) hx hG (show 0 ≤ Z 57 27 ∧ Z 57 27 ≤ 384 by omega) (show (-2147483648) ≤ x0 ∧ x0 ≤ 2147483647 by omega)
        refine Jcv hx (show mx_Sn _ _ 32 (mx_callv 192 3 12 35) from sn_209 32) a56 s56 hc15 rfl rfl rfl ?_
        refine JcI (z := (-1)) (show mx_Sn _ _ 35 (mx_const (.int (-1)) 36) from sn_209 35) rfl ?_
        have c44 : ∀ (k16_0 : Int), 0 ≤ k16_0 ∧ k16_0 ≤ 2 → (k16_0 = 0 → hv Z (Z 57 27) x0 = 1) → mx_J (tB l D b0 ad Hb tau) mt_209 (d + 2) 44 [some (.ref 56), some (xI x0), some (xI x1)] [xI k16_0] h Post := by
          intro k16_0 f16_0 f16_1
          exact mx_J.ret (sn_209 44) (fun _ _ => rfl) (hP k16_0 (by omega))
        refine Jicmp_ne (show mx_Sn _ _ 36 (mx_icmp_ne 43 39) from sn_209 36) (by omega) (by omega) (fun q17 => ?_) (fun q17 => ?_)
        · skip
          refine JcI (z := 0) (show mx_Sn _ _ 43 (mx_const (.int 0) 44) from sn_209 43) rfl ?_
          exact c44 0 (by omega) (by omega)
        · skip
          refine JcI (z := 2) (show mx_Sn _ _ 39 (mx_const (.int 2) 40) from sn_209 39) rfl ?_
          refine mx_J.step (sn_209 40) (fun _ _ => rfl) ?_
          exact c44 2 (by omega) (by omega)
      · skip
        exact c21 
theorem ct_209_56 {l : Launch} {D : va_G} {b0 : Nat} {ad : Nat → Nat} {Hb : Heap} {tau : Nat → Int64} {d n s : Nat} {S : Nat → xS} {Z : xZ} {h : mx_H} (hx : XH n s S Z h) (hG : GI n S Z)  {x0 x1 : Int} (p0 : (-2147483648) ≤ x0 ∧ x0 ≤ 2147483647) (p1 : (-2147483648) ≤ x1 ∧ x1 ≤ 2147483647) : ∃ z : Int, mx_Ca (tB l D b0 ad Hb tau) (d + 3) 209 [.ref 56, xI x0, xI x1] h (some (xI z), h) ∧ (0 ≤ z ∧ z ≤ 2 ∧ (z = 0 → (1 ≤ x0 ∧ x0 ≤ 18 ∧ 1 ≤ x1 ∧ x1 ≤ x0 - 1 ∧ hv Z (Z 57 27) x0 = 1))) := by
  obtain ⟨r, hca, z, e, hp⟩ := Jmt (B := tB l D b0 ad Hb tau) (M := mt_209) (mi := 209) (as := [.ref 56, xI x0, xI x1]) (d := d + 2) (ls := [some (.ref 56), some (xI x0), some (xI x1)]) rfl rfl rfl rfl rfl rfl (cw_209_56 (l := l) (D := D) (b0 := b0) (ad := ad) (Hb := Hb) (tau := tau) (d := d) (Post := fun r => ∃ z : Int, r = (some (xI z), h) ∧ (0 ≤ z ∧ z ≤ 2 ∧ (z = 0 → (1 ≤ x0 ∧ x0 ≤ 18 ∧ 1 ≤ x1 ∧ x1 ≤ x0 - 1 ∧ hv Z (Z 57 27) x0 = 1)))) hx hG p0 p1 (fun z hz => ⟨z, rfl, hz⟩))
  subst e; exact ⟨z, hca, hp⟩
set_option maxRecDepth 100000 in
theorem cw_210_56 {l : Launch} {D : va_G} {b0 : Nat} {ad : Nat → Nat} {Hb : Heap} {tau : Nat → Int64} {d n s : Nat} {S : Nat → xS} {Z : xZ} {h : mx_H} {Post : mx_R → Prop} (hx : XH n s S Z h) (hG : GI n S Z)  {x0 x1 : Int} (p0 : 1 ≤ x0 ∧ x0 ≤ 18) (p1 : 1 ≤ x1 ∧ x1 ≤ 17) (k0 : hv Z (Z 57 27) x0 = 1) (hP : ∀ (Z' : xZ) (h' : mx_H), XH n s S Z' h' → GI n S Z' → fr' [(57, (-1)), (62, (-1))] Z Z' → (Z' 57 1 = Z 57 1 ∧ Z' 57 963 = Z 57 963 ∧ Z' 57 1925 = Z 57 1925) → Post (none, h')) : mx_J (tB l D b0 ad Hb tau) mt_210 (d + 2) 0 [some (.ref 56), some (xI x0), some (xI x1)] [] h Post := by
    have a56 : 56 < n := lt83 (GI_n hG) rfl
    have s56 : S 56 = .inl (12, [0, 2, 2, 2, 2, 0, 0, 0, 0, 0, 0, 0, 0, 0, 0, 2, 2, 2, 0, 2, 2, 2, 0, 0, 2, 2, 2, 2, 2, 2, 0, 0, 2, 2, 2, 2, 2, 2, 2, 2, 2, 2]) := GI_s hG 56 rfl
    have a57 : 57 < n := lt83 (GI_n hG) rfl
    have s57 : S 57 = .inr (.int, 2886, 0) := GI_s hG 57 rfl
    have a62 : 62 < n := lt83 (GI_n hG) rfl
    have s62 : S 62 = .inr (.int, 20, 0) := GI_s hG 62 rfl
    refine mx_J.step (sn_210 0) (fun _ _ => rfl) ?_
    refine mx_J.step (sn_210 1) (fun _ _ => rfl) ?_
    refine JgetR (g := 1) (b := 57) hx (show mx_Sn _ _ 2 (mx_getf 12 1 5) from sn_210 2) a56 s56 rfl rfl (hG.prr 56 1 rfl) ?_
    refine JcI (z := 27) (show mx_Sn _ _ 5 (mx_const (.int 27) 7) from sn_210 5) rfl ?_
    have b2 := GI_st hG 27
    have b3 : 0 ≤ Z 56 18 ∧ Z 56 18 ≤ 385 := hG.pr 56 18
    have b4 : 0 ≤ Z 57 27 ∧ Z 57 27 ≤ 384 := by have hq := GI_ex hG 57 27; replace hq : f57 (27 % 962) (Z 57 27) := hq; unfold f57 at hq; omega
    have b5 : (-2147483648) ≤ Z 57 27 ∧ Z 57 27 ≤ 2147483647 := hG.pr 57 27
    refine JialdI (z := Z 57 27) hx (show mx_Sn _ _ 7 (mx_iald 8) from sn_210 7) a57 s57 (by omega) rfl ?_
    obtain ⟨Z6, h6, hc6, hx6, hG6, hf6⟩ := ct_187_56 (d := d + 0) (l := l) (D := D) (b0 := b0) (ad := ad) (Hb := Hb) (tau := tau) hx hG (show 0 ≤ Z 57 27 ∧ Z 57 27 ≤ 384 by omega)
    refine Jcv0 hx (show mx_Sn _ _ 8 (mx_callv 187 2 12 11) from sn_210 8) a56 s56 hc6 rfl rfl rfl ?_
    refine mx_J.step (sn_210 11) (fun _ _ => rfl) ?_
    refine JgetR (g := 16) (b := 62) hx6 (show mx_Sn _ _ 12 (mx_getf 12 16 15) from sn_210 12) a56 s56 rfl rfl (hG6.prr 56 16 rfl) ?_
    refine mx_J.step (sn_210 15) (fun _ _ => rfl) ?_
    refine mx_J.step (sn_210 16) (fun _ _ => rfl) ?_
    refine JgetR (g := 1) (b := 57) hx6 (show mx_Sn _ _ 17 (mx_getf 12 1 20) from sn_210 17) a56 s56 rfl rfl (hG6.prr 56 1 rfl) ?_
    refine JcI (z := 27) (show mx_Sn _ _ 20 (mx_const (.int 27) 22) from sn_210 20) rfl ?_
    refine JialdI (z := Z 57 27) hx6 (show mx_Sn _ _ 22 (mx_iald 23) from sn_210 22) a57 s57 (by omega) (hf6 57 27 rfl) ?_
    refine mx_J.step (sn_210 23) (fun _ _ => rfl) ?_
    have eq10 : hv Z6 (Z 57 27) x0 = hv Z (Z 57 27) x0 := (hv_c (fun i => hf6 61 i rfl))
    obtain ⟨z9, hc9, b9⟩ := ct_192_56 (d := d + 0) (l := l) (D := D) (b0 := b0) (ad := ad) (Hb := Hb) (tau := tau) hx6 hG6 (show 0 ≤ Z 57 27 ∧ Z 57 27 ≤ 384 by omega) (show (-2147483648) ≤ x0 ∧ x0 ≤ 2147483647 by omega)
    refine Jcv hx6 (show mx_Sn _ _ 24 (mx_callv 192 3 12 27) from sn_210 24) a56 s56 hc9 rfl rfl rfl ?_
    refine mx_J.step (sn_210 27) (fun _ _ => rfl) ?_
    refine mx_J.step (sn_210 28) (fun _ _ => rfl) ?_
    refine Jisub (show mx_Sn _ _ 29 (mx_isub 30) from sn_210 29) ?_
    refine JiastI hx6 (show mx_Sn _ _ 30 (mx_iast 1 31) from sn_210 30) a62 s62 rfl (by omega) (fun Z11 h11 hx11 hE11 => ?_)
    have hG11 := GI_up hG6 hE11 (show (-2147483648) ≤ x0 - x1 ∧ x0 - x1 ≤ 2147483647 by omega) trivial rfl
    refine mx_J.step (sn_210 31) (fun _ _ => rfl) ?_
    refine JgetR (g := 16) (b := 62) hx11 (show mx_Sn _ _ 32 (mx_getf 12 16 35) from sn_210 32) a56 s56 rfl rfl (hG11.prr 56 16 rfl) ?_
    refine JcI (z := 18) (show mx_Sn _ _ 35 (mx_const (.int 18) 37) from sn_210 35) rfl ?_
    refine mx_J.step (sn_210 37) (fun _ _ => rfl) ?_
    refine JiastI hx11 (show mx_Sn _ _ 38 (mx_iast 1 39) from sn_210 38) a62 s62 rfl (by omega) (fun Z13 h13 hx13 hE13 => ?_)
    have hG13 := GI_up hG11 hE13 (show (-2147483648) ≤ x1 ∧ x1 ≤ 2147483647 by omega) trivial rfl
    refine mx_J.step (sn_210 39) (fun _ _ => rfl) ?_
    refine JgetR (g := 1) (b := 57) hx13 (show mx_Sn _ _ 40 (mx_getf 12 1 43) from sn_210 40) a56 s56 rfl rfl (hG13.prr 56 1 rfl) ?_
    refine JcI (z := 27) (show mx_Sn _ _ 43 (mx_const (.int 27) 45) from sn_210 43) rfl ?_
    refine mx_J.step (sn_210 45) (fun _ _ => rfl) ?_
    have eq16 : Z13 56 18 = Z 56 18 := ((up_nk hE13 rfl).trans ((up_nk hE11 rfl).trans (hf6 56 18 rfl)))
    obtain ⟨z15, Z15, h15, hc15, hx15, hG15, hf15, b15⟩ := ct_188_56 (d := d + 0) (l := l) (D := D) (b0 := b0) (ad := ad) (Hb := Hb) (tau := tau) hx13 hG13 
    try rw [eq16] at b15
    refine Jcv hx13 (show mx_Sn _ _ 46 (mx_callv 188 1 12 49) from sn_210 46) a56 s56 hc15 rfl rfl rfl ?_
    refine JiastI hx15 (show mx_Sn _ _ 49 (mx_iast 1 50) from sn_210 49) a57 s57 rfl (by omega) (fun Z17 h17 hx17 hE17 => ?_)
    have eq18 : Z15 56 18 = Z 56 18 := ((hf15 56 18 rfl).trans ((up_nk hE13 rfl).trans ((up_nk hE11 rfl).trans (hf6 56 18 rfl))))
    have hG17 := GI_up57 hG15 hE17 (show (-2147483648) ≤ z15 ∧ z15 ≤ 2147483647 by omega) (show f57 ((27) % 962) (z15) by first | assumption | (unfold f57; omega) | (unfold f57 at *; omega)) (by omega) (by omega)
    have eq19 : Z17 57 1 = Z 57 1 := ((up_ni hE17 (by decide)).trans ((hf15 57 1 rfl).trans ((up_nk hE13 rfl).trans ((up_nk hE11 rfl).trans (hf6 57 1 rfl)))))
    have b20 : 0 ≤ Z 57 1 ∧ Z 57 1 ≤ 18 := by have hq := GI_ex hG 57 1; replace hq : f57 (1 % 962) (Z 57 1) := hq; unfold f57 at hq; omega
    have b21 : (-2147483648) ≤ Z 57 1 ∧ Z 57 1 ≤ 2147483647 := hG.pr 57 1
    have eq22 : Z17 57 963 = Z 57 963 := ((up_ni hE17 (by decide)).trans ((hf15 57 963 rfl).trans ((up_nk hE13 rfl).trans ((up_nk hE11 rfl).trans (hf6 57 963 rfl)))))
    have b23 : 0 ≤ Z 57 963 ∧ Z 57 963 ≤ 18 := by have hq := GI_ex hG 57 963; replace hq : f57 (963 % 962) (Z 57 963) := hq; unfold f57 at hq; omega
    have b24 : (-2147483648) ≤ Z 57 963 ∧ Z 57 963 ≤ 2147483647 := hG.pr 57 963
    have eq25 : Z17 57 1925 = Z 57 1925 := ((up_ni hE17 (by decide)).trans ((hf15 57 1925 rfl).trans ((up_nk hE13 rfl).trans ((up_nk hE11 rfl).trans (hf6 57 1925 rfl)))))
    have b26 : 0 ≤ Z 57 1925 ∧ Z 57 1925 ≤ 18 := by have hq := GI_ex hG 57 1925; replace hq : f57 (1925 % 962) (Z 57 1925) := hq; unfold f57 at hq; omega
    have b27 : (-2147483648) ≤ Z 57 1925 ∧ Z 57 1925 ≤ 2147483647 := hG.pr 57 1925
    have eq28 : Z17 57 27 = z15 := (up_at hE17)
    have eq29 : hv Z17 (Z17 57 27) x0 = hv Z z15 x0 := by rw [(show Z17 57 27 = z15 from (up_at hE17))]; exact ((hv_c (fun i => up_nk hE17 rfl)).trans ((hv_c (fun i => hf15 61 i rfl)).trans ((hv_c (fun i => up_nk hE13 rfl)).trans ((hv_c (fun i => up_nk hE11 rfl)).trans (hv_c (fun i => hf6 61 i rfl))))))
    have eq30 : hv Z17 z15 x0 = hv Z z15 x0 := ((hv_c (fun i => up_nk hE17 rfl)).trans ((hv_c (fun i => hf15 61 i rfl)).trans ((hv_c (fun i => up_nk hE13 rfl)).trans ((hv_c (fun i => up_nk hE11 rfl)).trans (hv_c (fun i => hf6 61 i rfl))))))
    have eq31 : Z17 57 1 = Z 57 1 := ((up_ni hE17 (by decide)).trans ((hf15 57 1 rfl).trans ((up_nk hE13 rfl).trans ((up_nk hE11 rfl).trans (hf6 57 1 rfl)))))
    have eq32 : Z17 57 963 = Z 57 963 := ((up_ni hE17 (by decide)).trans ((hf15 57 963 rfl).trans ((up_nk hE13 rfl).trans ((up_nk hE11 rfl).trans (hf6 57 963 rfl)))))
    have eq33 : Z17 57 1925 = Z 57 1925 := ((up_ni hE17 (by decide)).trans ((hf15 57 1925 rfl).trans ((up_nk hE13 rfl).trans ((up_nk hE11 rfl).trans (hf6 57 1925 rfl)))))
    exact mx_J.ret (sn_210 50) (fun _ _ => rfl) (hP Z17 h17 hx17 hG17 (fr_tr (M := [(57, (-1)), (62, (-1))]) (fr_tr (M := [(57, (-1)), (62, (-1))]) (fr_tr (M := [(57, (-1)), (62, (-1))]) (fr_tr (M := [(57, (-1)), (62, (-1))]) (fr_tr (M := [(57, (-1)), (62, (-1))]) fr_rf (hf6) (M1 := []) rfl rfl) (fr_ua hE11) rfl rfl) (fr_ua hE13) rfl rfl) (hf15) rfl rfl) (fr_ua hE17) rfl rfl) (by omega))
theorem ct_210_56 {l : Launch} {D : va_G} {b0 : Nat} {ad : Nat → Nat} {Hb : Heap} {tau : Nat → Int64} {d n s : Nat} {S : Nat → xS} {Z : xZ} {h : mx_H} (hx : XH n s S Z h) (hG : GI n S Z)  {x0 x1 : Int} (p0 : 1 ≤ x0 ∧ x0 ≤ 18) (p1 : 1 ≤ x1 ∧ x1 ≤ 17) (k0 : hv Z (Z 57 27) x0 = 1) : ∃ (Z' : xZ) (h' : mx_H), mx_Ca (tB l D b0 ad Hb tau) (d + 3) 210 [.ref 56, xI x0, xI x1] h (none, h') ∧ XH n s S Z' h' ∧ GI n S Z' ∧ fr' [(57, (-1)), (62, (-1))] Z Z' ∧ ((Z' 57 1 = Z 57 1 ∧ Z' 57 963 = Z 57 963 ∧ Z' 57 1925 = Z 57 1925)) := by
  obtain ⟨r, hca, Z', h', e, q⟩ := Jmt (B := tB l D b0 ad Hb tau) (M := mt_210) (mi := 210) (as := [.ref 56, xI x0, xI x1]) (d := d + 2) (ls := [some (.ref 56), some (xI x0), some (xI x1)]) rfl rfl rfl rfl rfl rfl (cw_210_56 (l := l) (D := D) (b0 := b0) (ad := ad) (Hb := Hb) (tau := tau) (d := d) (Post := fun r => ∃ (Z' : xZ) (h' : mx_H), r = (none, h') ∧ XH n s S Z' h' ∧ GI n S Z' ∧ fr' [(57, (-1)), (62, (-1))] Z Z' ∧ ((Z' 57 1 = Z 57 1 ∧ Z' 57 963 = Z 57 963 ∧ Z' 57 1925 = Z 57 1925))) hx hG p0 p1 k0 (fun Z' h' q1 q2 q3 q4 => ⟨Z', h', rfl, q1, q2, q3, q4⟩))
  subst e; exact ⟨Z', h', hca, q⟩
set_option maxRecDepth 100000 in
theorem cw_211_56 {l : Launch} {D : va_G} {b0 : Nat} {ad : Nat → Nat} {Hb : Heap} {tau : Nat → Int64} {d n s : Nat} {S : Nat → xS} {Z : xZ} {h : mx_H} {Post : mx_R → Prop} (hx : XH n s S Z h) (hG : GI n S Z)  {x0 x1 : Int} (p0 : (-2147483648) ≤ x0 ∧ x0 ≤ 2147483647) (p1 : (-2147483648) ≤ x1 ∧ x1 ≤ 2147483647) (hP : ∀ (z : Int) (Z' : xZ) (h' : mx_H), XH n s S Z' h' → GI n S Z' → fr' [(56, 0), (57, (-1)), (62, (-1)), (66, (-1))] Z Z' → (-12) ≤ z ∧ z ≤ 18 ∧ (Z' 57 1 = Z 57 1 ∧ Z' 57 963 = Z 57 963 ∧ Z' 57 1925 = Z 57 1925) → Post (some (xI z), h')) : mx_J (tB l D b0 ad Hb tau) mt_211 (d + 3) 0 [some (.ref 56), some (xI x0), some (xI x1), none] [] h Post := by
    have a56 : 56 < n := lt83 (GI_n hG) rfl
    have s56 : S 56 = .inl (12, [0, 2, 2, 2, 2, 0, 0, 0, 0, 0, 0, 0, 0, 0, 0, 2, 2, 2, 0, 2, 2, 2, 0, 0, 2, 2, 2, 2, 2, 2, 0, 0, 2, 2, 2, 2, 2, 2, 2, 2, 2, 2]) := GI_s hG 56 rfl
    have a57 : 57 < n := lt83 (GI_n hG) rfl
    have s57 : S 57 = .inr (.int, 2886, 0) := GI_s hG 57 rfl
    refine mx_J.step (sn_211 0) (fun _ _ => rfl) ?_
    refine JcI (z := 0) (show mx_Sn _ _ 1 (mx_const (.int 0) 2) from sn_211 1) rfl ?_
    refine JputI (g := 0) hx (show mx_Sn _ _ 2 (mx_putf 1 12 0 (.int) 5) from sn_211 2) a56 s56 rfl rfl rfl rfl (fun Z1 h1 hx1 hE1 => ?_)
    have hG1 := GI_up hG hE1 (show (-2147483648) ≤ 0 ∧ 0 ≤ 2147483647 by omega) trivial rfl
    refine mx_J.step (sn_211 5) (fun _ _ => rfl) ?_
    refine mx_J.step (sn_211 6) (fun _ _ => rfl) ?_
    refine mx_J.step (sn_211 7) (fun _ _ => rfl) ?_
    have eq3 : Z1 57 27 = Z 57 27 := (up_nk hE1 rfl)
    have b4 := GI_st hG 27
    have b5 : 0 ≤ Z 56 18 ∧ Z 56 18 ≤ 385 := hG.pr 56 18
    have b6 : 0 ≤ Z 57 27 ∧ Z 57 27 ≤ 384 := by have hq := GI_ex hG 57 27; replace hq : f57 (27 % 962) (Z 57 27) := hq; unfold f57 at hq; omega
    have b7 : (-2147483648) ≤ Z 57 27 ∧ Z 57 27 ≤ 2147483647 := hG.pr 57 27
    have eq8 : hv Z1 (Z1 57 27) x0 = hv Z (Z 57 27) x0 := by rw [(show Z1 57 27 = Z 57 27 from (up_nk hE1 rfl))]; exact (hv_c (fun i => up_nk hE1 rfl))
    have eq9 : hv Z1 (Z 57 27) x0 = hv Z (Z 57 27) x0 := (hv_c (fun i => up_nk hE1 rfl))
    obtain ⟨z2, hc2, b2⟩ := ct_209_56 (d := d + 0) (l := l) (D := D) (b0 := b0) (ad := ad) (Hb := Hb) (tau := tau) hx1 hG1 (show (-2147483648) ≤ x0 ∧ x0 ≤ 2147483647 by omega) (show (-2147483648) ≤ x1 ∧ x1 ≤ 2147483647 by omega)
    try rw [eq3] at b2
    refine Jcv hx1 (show mx_Sn _ _ 8 (mx_callv 209 3 12 11) from sn_211 8) a56 s56 hc2 rfl rfl rfl ?_
    refine mx_J.step (ls2 := [some (.ref 56), some (xI x0), some (xI x1), some (xI z2)]) (sn_211 11) (fun _ _ => rfl) ?_
    refine mx_J.step (sn_211 12) (fun _ _ => rfl) ?_
    refine Jif_eq (show mx_Sn _ _ 13 (mx_if_eq 21 16) from sn_211 13) (by omega) (fun q10 => ?_) (fun q10 => ?_)
    · skip
      refine mx_J.step (sn_211 21) (fun _ _ => rfl) ?_
      have eq12 : Z1 57 27 = Z 57 27 := (up_nk hE1 rfl)
      obtain ⟨Z11, h11, hc11, hx11, hG11, hf11, b11⟩ := ct_202_56 (d := d + 2) (l := l) (D := D) (b0 := b0) (ad := ad) (Hb := Hb) (tau := tau) hx1 hG1 
      try rw [eq12] at b11
      have b13 : (-2147483648) ≤ Z11 66 0 ∧ Z11 66 0 ≤ 2147483647 := hG11.pr 66 0
      have b14 : (((0 : Int) = 0 → 0 ≤ (Z11 66 0) ∧ (Z11 66 0) ≤ 384) ∧ ((0 : Int) = 1 → 0 ≤ (Z11 66 0) ∧ (Z11 66 0) ≤ 9)) := GI_ex hG11 66 0
      refine Jcv0 hx1 (show mx_Sn _ _ 22 (mx_callv 202 1 12 25) from sn_211 22) a56 s56 hc11 rfl rfl rfl ?_
      refine mx_J.step (sn_211 25) (fun _ _ => rfl) ?_
      refine mx_J.step (sn_211 26) (fun _ _ => rfl) ?_
      refine mx_J.step (sn_211 27) (fun _ _ => rfl) ?_
      have eq16 : Z11 57 27 = Z 57 27 := ((hf11 57 27 rfl).trans (up_nk hE1 rfl))
      have eq17 : hv Z11 (Z11 57 27) x0 = hv Z (Z 57 27) x0 := by rw [(show Z11 57 27 = Z 57 27 from ((hf11 57 27 rfl).trans (up_nk hE1 rfl)))]; exact ((hv_c (fun i => hf11 61 i rfl)).trans (hv_c (fun i => up_nk hE1 rfl)))
      have eq18 : hv Z11 (Z 57 27) x0 = hv Z (Z 57 27) x0 := ((hv_c (fun i => hf11 61 i rfl)).trans (hv_c (fun i => up_nk hE1 rfl)))
      have eq19 : Z11 57 1 = Z 57 1 := ((hf11 57 1 rfl).trans (up_nk hE1 rfl))
      have b20 : 0 ≤ Z 57 1 ∧ Z 57 1 ≤ 18 := by have hq := GI_ex hG 57 1; replace hq : f57 (1 % 962) (Z 57 1) := hq; unfold f57 at hq; omega
      have b21 : (-2147483648) ≤ Z 57 1 ∧ Z 57 1 ≤ 2147483647 := hG.pr 57 1
      have eq22 : Z11 57 963 = Z 57 963 := ((hf11 57 963 rfl).trans (up_nk hE1 rfl))
      have b23 : 0 ≤ Z 57 963 ∧ Z 57 963 ≤ 18 := by have hq := GI_ex hG 57 963; replace hq : f57 (963 % 962) (Z 57 963) := hq; unfold f57 at hq; omega
      have b24 : (-2147483648) ≤ Z 57 963 ∧ Z 57 963 ≤ 2147483647 := hG.pr 57 963
      have eq25 : Z11 57 1925 = Z 57 1925 := ((hf11 57 1925 rfl).trans (up_nk hE1 rfl))
      have b26 : 0 ≤ Z 57 1925 ∧ Z 57 1925 ≤ 18 := by have hq := GI_ex hG 57 1925; replace hq : f57 (1925 % 962) (Z 57 1925) := hq; unfold f57 at hq; omega
      have b27 : (-2147483648) ≤ Z 57 1925 ∧ Z 57 1925 ≤ 2147483647 := hG.pr 57 1925
      obtain ⟨Z15, h15, hc15, hx15, hG15, hf15, b15⟩ := ct_210_56 (d := d + 0) (l := l) (D := D) (b0 := b0) (ad := ad) (Hb := Hb) (tau := tau) hx11 hG11 (show 1 ≤ x0 ∧ x0 ≤ 18 by omega) (show 1 ≤ x1 ∧ x1 ≤ 17 by omega) (show hv Z11 (Z11 57 27) x0 = 1 by first | omega | (simp only [eq16, eq19, eq22, eq25]; omega))
      try rw [eq16] at b15
      try rw [eq19] at b15
      try rw [eq22] at b15
      try rw [eq25] at b15
      have b28 : 0 ≤ Z15 57 1 ∧ Z15 57 1 ≤ 18 := by have hq := GI_ex hG15 57 1; replace hq : f57 (1 % 962) (Z15 57 1) := hq; unfold f57 at hq; omega
      have b29 : (-2147483648) ≤ Z15 57 1 ∧ Z15 57 1 ≤ 2147483647 := hG15.pr 57 1
      have b30 : 0 ≤ Z15 57 963 ∧ Z15 57 963 ≤ 18 := by have hq := GI_ex hG15 57 963; replace hq : f57 (963 % 962) (Z15 57 963) := hq; unfold f57 at hq; omega
      have b31 : (-2147483648) ≤ Z15 57 963 ∧ Z15 57 963 ≤ 2147483647 := hG15.pr 57 963
      have b32 : 0 ≤ Z15 57 1925 ∧ Z15 57 1925 ≤ 18 := by have hq := GI_ex hG15 57 1925; replace hq : f57 (1925 % 962) (Z15 57 1925) := hq; unfold f57 at hq; omega
      have b33 : (-2147483648) ≤ Z15 57 1925 ∧ Z15 57 1925 ≤ 2147483647 := hG15.pr 57 1925
      refine Jcv0 hx11 (show mx_Sn _ _ 28 (mx_callv 210 3 12 31) from sn_211 28) a56 s56 hc15 rfl rfl rfl ?_
      refine mx_J.step (sn_211 31) (fun _ _ => rfl) ?_
      have eq35 : Z15 66 0 = Z11 66 0 := (hf15 66 0 rfl)
      have eq36 : Z15 56 18 = Z 56 18 := ((hf15 56 18 rfl).trans ((hf11 56 18 rfl).trans (up_ni hE1 (by decide))))
      obtain ⟨Z34, h34, hc34, hx34, hG34, hf34, b34⟩ := ct_204_56 (d := d + 2) (l := l) (D := D) (b0 := b0) (ad := ad) (Hb := Hb) (tau := tau) hx15 hG15  (show Z15 66 0 < Z15 56 18 by first | omega | (simp only [eq35, eq36]; omega))
      try rw [eq35] at b34
      try rw [eq36] at b34
      have b37 : 0 ≤ Z34 57 1 ∧ Z34 57 1 ≤ 18 := by have hq := GI_ex hG34 57 1; replace hq : f57 (1 % 962) (Z34 57 1) := hq; unfold f57 at hq; omega
      have b38 : (-2147483648) ≤ Z34 57 1 ∧ Z34 57 1 ≤ 2147483647 := hG34.pr 57 1
      have b39 : 0 ≤ Z34 57 963 ∧ Z34 57 963 ≤ 18 := by have hq := GI_ex hG34 57 963; replace hq : f57 (963 % 962) (Z34 57 963) := hq; unfold f57 at hq; omega
      have b40 : (-2147483648) ≤ Z34 57 963 ∧ Z34 57 963 ≤ 2147483647 := hG34.pr 57 963
      have b41 : 0 ≤ Z34 57 1925 ∧ Z34 57 1925 ≤ 18 := by have hq := GI_ex hG34 57 1925; replace hq : f57 (1925 % 962) (Z34 57 1925) := hq; unfold f57 at hq; omega
      have b42 : (-2147483648) ≤ Z34 57 1925 ∧ Z34 57 1925 ≤ 2147483647 := hG34.pr 57 1925
      refine Jcv0 hx15 (show mx_Sn _ _ 32 (mx_callv 204 1 12 35) from sn_211 32) a56 s56 hc34 rfl rfl rfl ?_
      refine mx_J.step (sn_211 35) (fun _ _ => rfl) ?_
      refine mx_J.step (sn_211 36) (fun _ _ => rfl) ?_
      refine JgetR (g := 1) (b := 57) hx34 (show mx_Sn _ _ 37 (mx_getf 12 1 40) from sn_211 37) a56 s56 rfl rfl (hG34.prr 56 1 rfl) ?_
      refine JcI (z := 27) (show mx_Sn _ _ 40 (mx_const (.int 27) 42) from sn_211 40) rfl ?_
      have b44 := GI_st hG34 27
      have eq45 : Z34 56 18 = Z 56 18 := ((hf34 56 18 rfl).trans ((hf15 56 18 rfl).trans ((hf11 56 18 rfl).trans (up_ni hE1 (by decide)))))
      have b46 : 0 ≤ Z34 57 27 ∧ Z34 57 27 ≤ 384 := by have hq := GI_ex hG34 57 27; replace hq : f57 (27 % 962) (Z34 57 27) := hq; unfold f57 at hq; omega
      have b47 : (-2147483648) ≤ Z34 57 27 ∧ Z34 57 27 ≤ 2147483647 := hG34.pr 57 27
      refine JialdI (z := Z34 57 27) hx34 (show mx_Sn _ _ 42 (mx_iald 43) from sn_211 42) a57 s57 (by omega) rfl ?_
      have eq49 : mn Z34 (Z34 57 27) = mn Z (Z34 57 27) := ((mn_c (fun i => hf34 61 i rfl)).trans ((mn_c (fun i => hf15 61 i rfl)).trans ((mn_c (fun i => hf11 61 i rfl)).trans (mn_c (fun i => up_nk hE1 rfl)))))
      obtain ⟨z48, hc48, b48⟩ := ct_191_56 (d := d + 1) (l := l) (D := D) (b0 := b0) (ad := ad) (Hb := Hb) (tau := tau) hx34 hG34 (show 0 ≤ Z34 57 27 ∧ Z34 57 27 ≤ 384 by omega)
      refine Jcv hx34 (show mx_Sn _ _ 43 (mx_callv 191 2 12 46) from sn_211 43) a56 s56 hc48 rfl rfl rfl ?_
      exact mx_J.ret (sn_211 46) (fun _ _ => rfl) (hP z48 Z34 h34 hx34 hG34 (fr_tr (M := [(56, 0), (57, (-1)), (62, (-1)), (66, (-1))]) (fr_tr (M := [(56, 0), (57, (-1)), (62, (-1)), (66, (-1))]) (fr_tr (M := [(56, 0), (57, (-1)), (62, (-1)), (66, (-1))]) (fr_tr (M := [(56, 0), (57, (-1)), (62, (-1)), (66, (-1))]) fr_rf (fr_up hE1) (M1 := []) rfl rfl) (hf11) rfl rfl) (hf15) rfl rfl) (hf34) rfl rfl) (by omega))
    · skip
      refine JcI (z := (-10)) (show mx_Sn _ _ 16 (mx_const (.int (-10)) 18) from sn_211 16) rfl ?_
      refine mx_J.step (sn_211 18) (fun _ _ => rfl) ?_
      refine Jisub (show mx_Sn _ _ 19 (mx_isub 20) from sn_211 19) ?_
      have eq50 : Z1 57 1 = Z 57 1 := (up_nk hE1 rfl)
      have b51 : 0 ≤ Z 57 1 ∧ Z 57 1 ≤ 18 := by have hq := GI_ex hG 57 1; replace hq : f57 (1 % 962) (Z 57 1) := hq; unfold f57 at hq; omega
      have b52 : (-2147483648) ≤ Z 57 1 ∧ Z 57 1 ≤ 2147483647 := hG.pr 57 1
      have eq53 : Z1 57 963 = Z 57 963 := (up_nk hE1 rfl)
      have b54 : 0 ≤ Z 57 963 ∧ Z 57 963 ≤ 18 := by have hq := GI_ex hG 57 963; replace hq : f57 (963 % 962) (Z 57 963) := hq; unfold f57 at hq; omega
      have b55 : (-2147483648) ≤ Z 57 963 ∧ Z 57 963 ≤ 2147483647 := hG.pr 57 963
      have eq56 : Z1 57 1925 = Z 57 1925 := (up_nk hE1 rfl)
      have b57 : 0 ≤ Z 57 1925 ∧ Z 57 1925 ≤ 18 := by have hq := GI_ex hG 57 1925; replace hq : f57 (1925 % 962) (Z 57 1925) := hq; unfold f57 at hq; omega
      have b58 : (-2147483648) ≤ Z 57 1925 ∧ Z 57 1925 ≤ 2147483647 := hG.pr 57 1925
      have eq59 : Z1 57 1 = Z 57 1 := (up_nk hE1 rfl)
      have eq60 : Z1 57 963 = Z 57 963 := (up_nk hE1 rfl)
      have eq61 : Z1 57 1925 = Z 57 1925 := (up_nk hE1 rfl)
      exact mx_J.ret (sn_211 20) (fun _ _ => rfl) (hP ((-10) - z2) Z1 h1 hx1 hG1 (fr_tr (M := [(56, 0), (57, (-1)), (62, (-1)), (66, (-1))]) fr_rf (fr_up hE1) (M1 := []) rfl rfl) (by omega))
theorem ct_211_56 {l : Launch} {D : va_G} {b0 : Nat} {ad : Nat → Nat} {Hb : Heap} {tau : Nat → Int64} {d n s : Nat} {S : Nat → xS} {Z : xZ} {h : mx_H} (hx : XH n s S Z h) (hG : GI n S Z)  {x0 x1 : Int} (p0 : (-2147483648) ≤ x0 ∧ x0 ≤ 2147483647) (p1 : (-2147483648) ≤ x1 ∧ x1 ≤ 2147483647) : ∃ (z : Int) (Z' : xZ) (h' : mx_H), mx_Ca (tB l D b0 ad Hb tau) (d + 4) 211 [.ref 56, xI x0, xI x1] h (some (xI z), h') ∧ XH n s S Z' h' ∧ GI n S Z' ∧ fr' [(56, 0), (57, (-1)), (62, (-1)), (66, (-1))] Z Z' ∧ ((-12) ≤ z ∧ z ≤ 18 ∧ (Z' 57 1 = Z 57 1 ∧ Z' 57 963 = Z 57 963 ∧ Z' 57 1925 = Z 57 1925)) := by
  obtain ⟨r, hca, z, Z', h', e, q⟩ := Jmt (B := tB l D b0 ad Hb tau) (M := mt_211) (mi := 211) (as := [.ref 56, xI x0, xI x1]) (d := d + 3) (ls := [some (.ref 56), some (xI x0), some (xI x1), none]) rfl rfl rfl rfl rfl rfl (cw_211_56 (l := l) (D := D) (b0 := b0) (ad := ad) (Hb := Hb) (tau := tau) (d := d) (Post := fun r => ∃ (z : Int) (Z' : xZ) (h' : mx_H), r = (some (xI z), h') ∧ XH n s S Z' h' ∧ GI n S Z' ∧ fr' [(56, 0), (57, (-1)), (62, (-1)), (66, (-1))] Z Z' ∧ ((-12) ≤ z ∧ z ≤ 18 ∧ (Z' 57 1 = Z 57 1 ∧ Z' 57 963 = Z 57 963 ∧ Z' 57 1925 = Z 57 1925))) hx hG p0 p1 (fun z Z' h' q1 q2 q3 q4 => ⟨z, Z', h', rfl, q1, q2, q3, q4⟩))
  subst e; exact ⟨z, Z', h', hca, q⟩
set_option maxRecDepth 100000 in
theorem cw_212_56 {l : Launch} {D : va_G} {b0 : Nat} {ad : Nat → Nat} {Hb : Heap} {tau : Nat → Int64} {d n s : Nat} {S : Nat → xS} {Z : xZ} {h : mx_H} {Post : mx_R → Prop} (hx : XH n s S Z h) (hG : GI n S Z)  {x0 x1 : Int} (p0 : (-2147483648) ≤ x0 ∧ x0 ≤ 2147483647) (p1 : (-2147483648) ≤ x1 ∧ x1 ≤ 2147483647) (hP : ∀ z : Int, 0 ≤ z ∧ z ≤ 2 ∧ (z = 0 → (1 ≤ x0 ∧ x0 ≤ 18 ∧ 1 ≤ x1 ∧ x1 ≤ 18 ∧ hv Z (Z 57 27) x0 = 1 ∧ hv Z (Z 57 27) x1 = 1)) → Post (some (xI z), h)) : mx_J (tB l D b0 ad Hb tau) mt_212 (d + 2) 0 [some (.ref 56), some (xI x0), some (xI x1), none] [] h Post := by
    have a56 : 56 < n := lt83 (GI_n hG) rfl
    have s56 : S 56 = .inl (12, [0, 2, 2, 2, 2, 0, 0, 0, 0, 0, 0, 0, 0, 0, 0, 2, 2, 2, 0, 2, 2, 2, 0, 0, 2, 2, 2, 2, 2, 2, 0, 0, 2, 2, 2, 2, 2, 2, 2, 2, 2, 2]) := GI_s hG 56 rfl
    have a57 : 57 < n := lt83 (GI_n hG) rfl
    have s57 : S 57 = .inr (.int, 2886, 0) := GI_s hG 57 rfl
    refine mx_J.step (sn_212 0) (fun _ _ => rfl) ?_
    refine Ji2l (show mx_Sn _ _ 1 (mx_i2l 2) from sn_212 1) (by omega) ?_
    obtain ⟨z1, hc1, b1⟩ := ct_208_ (d := d + 0) (l := l) (D := D) (b0 := b0) (ad := ad) (Hb := Hb) (tau := tau) hx hG (show (-9223372036854775808) ≤ x0 ∧ x0 ≤ 9223372036854775807 by omega)
    refine Jcs (show mx_Sn _ _ 2 (mx_calls 208 1 5) from sn_212 2) hc1 rfl rfl rfl ?_
    have c16 : mx_J (tB l D b0 ad Hb tau) mt_212 (d + 2) 16 [some (.ref 56), some (xI x0), some (xI x1), none] [] h Post := by
      refine JcI (z := 1) (show mx_Sn _ _ 16 (mx_const (.int 1) 17) from sn_212 16) rfl ?_
      have b3 := GI_st hG 27
      have b4 : 0 ≤ Z 56 18 ∧ Z 56 18 ≤ 385 := hG.pr 56 18
      have b5 : 0 ≤ Z 57 27 ∧ Z 57 27 ≤ 384 := by have hq := GI_ex hG 57 27; replace hq : f57 (27 % 962) (Z 57 27) := hq; unfold f57 at hq; omega
      have b6 : (-2147483648) ≤ Z 57 27 ∧ Z 57 27 ≤ 2147483647 := hG.pr 57 27
      exact mx_J.ret (sn_212 17) (fun _ _ => rfl) (hP 1 (by omega))
    refine Jif_eq (show mx_Sn _ _ 5 (mx_if_eq 16 8) from sn_212 5) (by omega) (fun q7 => ?_) (fun q7 => ?_)
    · skip
      exact c16 
    · skip
      refine mx_J.step (sn_212 8) (fun _ _ => rfl) ?_
      refine Ji2l (show mx_Sn _ _ 9 (mx_i2l 10) from sn_212 9) (by omega) ?_
      obtain ⟨z8, hc8, b8⟩ := ct_208_ (d := d + 0) (l := l) (D := D) (b0 := b0) (ad := ad) (Hb := Hb) (tau := tau) hx hG (show (-9223372036854775808) ≤ x1 ∧ x1 ≤ 9223372036854775807 by omega)
      refine Jcs (show mx_Sn _ _ 10 (mx_calls 208 1 13) from sn_212 10) hc8 rfl rfl rfl ?_
      refine Jif_ne (show mx_Sn _ _ 13 (mx_if_ne 18 16) from sn_212 13) (by omega) (fun q9 => ?_) (fun q9 => ?_)
      · skip
        refine mx_J.step (sn_212 18) (fun _ _ => rfl) ?_
        refine mx_J.step (sn_212 19) (fun _ _ => rfl) ?_
        refine JgetR (g := 1) (b := 57) hx (show mx_Sn _ _ 20 (mx_getf 12 1 23) from sn_212 20) a56 s56 rfl rfl (hG.prr 56 1 rfl) ?_
        refine JcI (z := 27) (show mx_Sn _ _ 23 (mx_const (.int 27) 25) from sn_212 23) rfl ?_
        have b11 := GI_st hG 27
        have b12 : 0 ≤ Z 56 18 ∧ Z 56 18 ≤ 385 := hG.pr 56 18
        have b13 : 0 ≤ Z 57 27 ∧ Z 57 27 ≤ 384 := by have hq := GI_ex hG 57 27; replace hq : f57 (27 % 962) (Z 57 27) := hq; unfold f57 at hq; omega
        have b14 : (-2147483648) ≤ Z 57 27 ∧ Z 57 27 ≤ 2147483647 := hG.pr 57 27
        refine JialdI (z := Z 57 27) hx (show mx_Sn _ _ 25 (mx_iald 26) from sn_212 25) a57 s57 (by omega) rfl ?_
        refine mx_J.step (sn_212 26) (fun _ _ => rfl) ?_
        obtain ⟨z15, hc15, b15⟩ := ct_192_56 (d := d + 0) (l := l) (D := D) (b0 := b0) (ad := ad) (Hb := Hb) (tau := tau) hx hG (show 0 ≤ Z 57 27 ∧ Z 57 27 ≤ 384 by omega) (show (-2147483648) ≤ x0 ∧ x0 ≤ 2147483647 by omega)
        refine Jcv hx (show mx_Sn _ _ 27 (mx_callv 192 3 12 30) from sn_212 27) a56 s56 hc15 rfl rfl rfl ?_
        refine mx_J.step (ls2 := [some (.ref 56), some (xI x0), some (xI x1), some (xI z15)]) (sn_212 30) (fun _ _ => rfl) ?_
        refine mx_J.step (sn_212 31) (fun _ _ => rfl) ?_
        refine JcI (z := (-1)) (show mx_Sn _ _ 32 (mx_const (.int (-1)) 33) from sn_212 32) rfl ?_
        have c52 : mx_J (tB l D b0 ad Hb tau) mt_212 (d + 2) 52 [some (.ref 56), some (xI x0), some (xI x1), some (xI z15)] [] h Post := by
          refine JcI (z := 2) (show mx_Sn _ _ 52 (mx_const (.int 2) 53) from sn_212 52) rfl ?_
          exact mx_J.ret (sn_212 53) (fun _ _ => rfl) (hP 2 (by omega))
        refine Jicmp_eq (show mx_Sn _ _ 33 (mx_icmp_eq 52 36) from sn_212 33) (by omega) (by omega) (fun q17 => ?_) (fun q17 => ?_)
        · skip
          exact c52 
        · skip
          refine mx_J.step (sn_212 36) (fun _ _ => rfl) ?_
          refine mx_J.step (sn_212 37) (fun _ _ => rfl) ?_
          refine JgetR (g := 1) (b := 57) hx (show mx_Sn _ _ 38 (mx_getf 12 1 41) from sn_212 38) a56 s56 rfl rfl (hG.prr 56 1 rfl) ?_
          refine JcI (z := 27) (show mx_Sn _ _ 41 (mx_const (.int 27) 43) from sn_212 41) rfl ?_
          refine JialdI (z := Z 57 27) hx (show mx_Sn _ _ 43 (mx_iald 44) from sn_212 43) a57 s57 (by omega) rfl ?_
          refine mx_J.step (sn_212 44) (fun _ _ => rfl) ?_
          obtain ⟨z19, hc19, b19⟩ := ct_192_56 (d := d + 0) (l := l) (D := D) (b0 := b0) (ad := ad) (Hb := Hb) (tau := tau) hx hG (show 0 ≤ Z 57 27 ∧ Z 57 27 ≤ 384 by omega) (show (-2147483648) ≤ x1 ∧ x1 ≤ 2147483647 by omega)
          refine Jcv hx (show mx_Sn _ _ 45 (mx_callv 192 3 12 48) from sn_212 45) a56 s56 hc19 rfl rfl rfl ?_
          refine JcI (z := (-1)) (show mx_Sn _ _ 48 (mx_const (.int (-1)) 49) from sn_212 48) rfl ?_
          refine Jicmp_ne (show mx_Sn _ _ 49 (mx_icmp_ne 54 52) from sn_212 49) (by omega) (by omega) (fun q20 => ?_) (fun q20 => ?_)
          · skip
            refine mx_J.step (sn_212 54) (fun _ _ => rfl) ?_
            refine mx_J.step (sn_212 55) (fun _ _ => rfl) ?_
            have c88 : ∀ (k21_0 : Int), 0 ≤ k21_0 ∧ k21_0 ≤ 2 → mx_J (tB l D b0 ad Hb tau) mt_212 (d + 2) 88 [some (.ref 56), some (xI x0), some (xI x1), some (xI z15)] [xI k21_0] h Post := by
              intro k21_0 f21_0
              exact mx_J.ret (sn_212 88) (fun _ _ => rfl) (hP k21_0 (by omega))
            have c83 : mx_J (tB l D b0 ad Hb tau) mt_212 (d + 2) 83 [some (.ref 56), some (xI x0), some (xI x1), some (xI z15)] [] h Post := by
              refine JcI (z := 0) (show mx_Sn _ _ 83 (mx_const (.int 0) 84) from sn_212 83) rfl ?_
              refine mx_J.step (sn_212 84) (fun _ _ => rfl) ?_
              exact c88 0 (by omega)
            refine Jicmp_ne (show mx_Sn _ _ 56 (mx_icmp_ne 83 59) from sn_212 56) (by omega) (by omega) (fun q23 => ?_) (fun q23 => ?_)
            · skip
              exact c83 
            · skip
              refine mx_J.step (sn_212 59) (fun _ _ => rfl) ?_
              refine JcI (z := 17) (show mx_Sn _ _ 60 (mx_const (.int 17) 62) from sn_212 60) rfl ?_
              have c87 : mx_J (tB l D b0 ad Hb tau) mt_212 (d + 2) 87 [some (.ref 56), some (xI x0), some (xI x1), some (xI z15)] [] h Post := by
                refine JcI (z := 2) (show mx_Sn _ _ 87 (mx_const (.int 2) 88) from sn_212 87) rfl ?_
                exact c88 2 (by omega)
              refine Jicmp_ge (show mx_Sn _ _ 62 (mx_icmp_ge 87 65) from sn_212 62) (by omega) (by omega) (fun q25 => ?_) (fun q25 => ?_)
              · skip
                exact c87 
              · skip
                refine mx_J.step (sn_212 65) (fun _ _ => rfl) ?_
                refine mx_J.step (sn_212 66) (fun _ _ => rfl) ?_
                refine JgetR (g := 1) (b := 57) hx (show mx_Sn _ _ 67 (mx_getf 12 1 70) from sn_212 67) a56 s56 rfl rfl (hG.prr 56 1 rfl) ?_
                refine JcI (z := 27) (show mx_Sn _ _ 70 (mx_const (.int 27) 72) from sn_212 70) rfl ?_
                refine JialdI (z := Z 57 27) hx (show mx_Sn _ _ 72 (mx_iald 73) from sn_212 72) a57 s57 (by omega) rfl ?_
                refine mx_J.step (sn_212 73) (fun _ _ => rfl) ?_
                refine JcI (z := 1) (show mx_Sn _ _ 74 (mx_const (.int 1) 75) from sn_212 74) rfl ?_
                refine Jiadd (show mx_Sn _ _ 75 (mx_iadd 76) from sn_212 75) ?_
                have b28 : 0 ≤ Z 61 (18 * (Z 57 27) + (z15 + 1)) ∧ Z 61 (18 * (Z 57 27) + (z15 + 1)) ≤ 18 := hG.pr 61 (18 * (Z 57 27) + (z15 + 1))
                obtain ⟨z27, hc27, b27⟩ := ct_190_56 (d := d + 1) (l := l) (D := D) (b0 := b0) (ad := ad) (Hb := Hb) (tau := tau) hx hG (show 0 ≤ Z 57 27 ∧ Z 57 27 ≤ 384 by omega) (show 0 ≤ z15 + 1 ∧ z15 + 1 ≤ 17 by omega)
                refine Jcv hx (show mx_Sn _ _ 76 (mx_callv 190 3 12 79) from sn_212 76) a56 s56 hc27 rfl rfl rfl ?_
                refine mx_J.step (sn_212 79) (fun _ _ => rfl) ?_
                refine Jicmp_ne (show mx_Sn _ _ 80 (mx_icmp_ne 87 83) from sn_212 80) (by omega) (by omega) (fun q29 => ?_) (fun q29 => ?_)
                · skip
                  exact c87 
                · skip
                  exact c83 
          · skip
            exact c52 
      · skip
        exact c16 
theorem ct_212_56 {l : Launch} {D : va_G} {b0 : Nat} {ad : Nat → Nat} {Hb : Heap} {tau : Nat → Int64} {d n s : Nat} {S : Nat → xS} {Z : xZ} {h : mx_H} (hx : XH n s S Z h) (hG : GI n S Z)  {x0 x1 : Int} (p0 : (-2147483648) ≤ x0 ∧ x0 ≤ 2147483647) (p1 : (-2147483648) ≤ x1 ∧ x1 ≤ 2147483647) : ∃ z : Int, mx_Ca (tB l D b0 ad Hb tau) (d + 3) 212 [.ref 56, xI x0, xI x1] h (some (xI z), h) ∧ (0 ≤ z ∧ z ≤ 2 ∧ (z = 0 → (1 ≤ x0 ∧ x0 ≤ 18 ∧ 1 ≤ x1 ∧ x1 ≤ 18 ∧ hv Z (Z 57 27) x0 = 1 ∧ hv Z (Z 57 27) x1 = 1))) := by
  obtain ⟨r, hca, z, e, hp⟩ := Jmt (B := tB l D b0 ad Hb tau) (M := mt_212) (mi := 212) (as := [.ref 56, xI x0, xI x1]) (d := d + 2) (ls := [some (.ref 56), some (xI x0), some (xI x1), none]) rfl rfl rfl rfl rfl rfl (cw_212_56 (l := l) (D := D) (b0 := b0) (ad := ad) (Hb := Hb) (tau := tau) (d := d) (Post := fun r => ∃ z : Int, r = (some (xI z), h) ∧ (0 ≤ z ∧ z ≤ 2 ∧ (z = 0 → (1 ≤ x0 ∧ x0 ≤ 18 ∧ 1 ≤ x1 ∧ x1 ≤ 18 ∧ hv Z (Z 57 27) x0 = 1 ∧ hv Z (Z 57 27) x1 = 1)))) hx hG p0 p1 (fun z hz => ⟨z, rfl, hz⟩))
  subst e; exact ⟨z, hca, hp⟩
