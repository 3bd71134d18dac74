set_option maxRecDepth 100000 in
theorem cw_169_56_3007 {l : Launch} {D : va_G} {b0 : Nat} {ad : Nat → Nat} {Hb : Heap} {tau : Nat → Int64} {d n s : Nat} {S : Nat → xS} {Z : xZ} {h : mx_H} {Post : mx_R → Prop} {a0 : Int} {g0 : Int} {T : Int → Int} {N : Int} {sg : SS} (hx : XH n s S Z h) (hG : GI n S Z)   (k0 : (Z 56 11 = 0 → Z 60 61 ≤ 899)) (k1 : a0 ≤ Z 60 61) (k2 : 0 ≤ a0) (k3 : 0 ≤ g0) (hr : RM g0 T N Z sg) (hP : ∀ (Z' : xZ) (h' : mx_H), XH n s S Z' h' → GI n S Z' → fr' [(60, (-1))] Z Z' → RM g0 T N Z' (gEm (1016) sg) ∧ QC Z Z' a0 (-1) 2 ∧ (Z' 60 0 = Z 60 0 ∧ Z' 60 1 = Z 60 1 ∧ Z' 60 2 = Z 60 2 ∧ ((¬ Z 56 11 = 0 ∧ Z' 60 61 = Z 60 61) ∨ (Z 56 11 = 0 ∧ Z' 60 61 = Z 60 61 + 1))) → Post (none, h')) : mx_J (tB l D b0 ad Hb tau) mt_169 (d + 0) 0 [some (.ref 56), some (xI 3007)] [] h Post := by
    have a56 : 56 < n := lt83 (GI_n hG) rfl
    have s56 : S 56 = .inl (12, [0, 2, 2, 2, 2, 0, 0, 0, 0, 0, 0, 0, 0, 0, 0, 2, 2, 2, 0, 2, 2, 2, 0, 0, 2, 2, 2, 2, 2, 2, 0, 0, 2, 2, 2, 2, 2, 2, 2, 2, 2, 2]) := GI_s hG 56 rfl
    have a60 : 60 < n := lt83 (GI_n hG) rfl
    have s60 : S 60 = .inr (.int, 962, 0) := GI_s hG 60 rfl
    refine mx_J.step (sn_169 0) (fun _ _ => rfl) ?_
    have b2 : 0 ≤ Z 56 11 ∧ Z 56 11 ≤ 4 := hG.pr 56 11
    refine JgetI (g := 11) (z := Z 56 11) hx (show mx_Sn _ _ 1 (mx_getf 12 11 4) from sn_169 1) a56 s56 rfl rfl rfl ?_
    refine Jif_eq (show mx_Sn _ _ 4 (mx_if_eq 8 7) from sn_169 4) (by omega) (fun q3 => ?_) (fun q3 => ?_)
    · skip
      refine mx_J.step (sn_169 8) (fun _ _ => rfl) ?_
      refine JgetR (g := 4) (b := 60) hx (show mx_Sn _ _ 9 (mx_getf 12 4 12) from sn_169 9) a56 s56 rfl rfl (hG.prr 56 4 rfl) ?_
      refine JcI (z := 62) (show mx_Sn _ _ 12 (mx_const (.int 62) 14) from sn_169 12) rfl ?_
      refine mx_J.step (sn_169 14) (fun _ _ => rfl) ?_
      refine JgetR (g := 4) (b := 60) hx (show mx_Sn _ _ 15 (mx_getf 12 4 18) from sn_169 15) a56 s56 rfl rfl (hG.prr 56 4 rfl) ?_
      refine JcI (z := 61) (show mx_Sn _ _ 18 (mx_const (.int 61) 20) from sn_169 18) rfl ?_
      have b6 : 0 ≤ Z 60 61 ∧ Z 60 61 ≤ 900 := by have hq := GI_ex hG 60 61; replace hq : f60 (61 % 962) (Z 60 61) := hq; unfold f60 at hq; omega
      have b7 : (-2147483648) ≤ Z 60 61 ∧ Z 60 61 ≤ 2147483647 := hG.pr 60 61
      refine JialdI (z := Z 60 61) hx (show mx_Sn _ _ 20 (mx_iald 21) from sn_169 20) a60 s60 (by omega) rfl ?_
      refine Jiadd (show mx_Sn _ _ 21 (mx_iadd 22) from sn_169 21) ?_
      refine mx_J.step (sn_169 22) (fun _ _ => rfl) ?_
      refine JiastI hx (show mx_Sn _ _ 23 (mx_iast 1 24) from sn_169 23) a60 s60 rfl (by omega) (fun Z8 h8 hx8 hE8 => ?_)
      have hG8 := GI_up hG hE8 (show (-2147483648) ≤ 3007 ∧ 3007 ≤ 2147483647 by omega) (show f60 ((62 + (Z 60 61)) % 962) (3007) by first | (rw [Int.emod_eq_of_lt (by omega) (by omega)]; unfold f60; omega) | assumption | (unfold f60; omega) | (unfold f60 at *; omega)) rfl
      refine mx_J.step (sn_169 24) (fun _ _ => rfl) ?_
      refine JgetR (g := 4) (b := 60) hx8 (show mx_Sn _ _ 25 (mx_getf 12 4 28) from sn_169 25) a56 s56 rfl rfl (hG8.prr 56 4 rfl) ?_
      refine JcI (z := 61) (show mx_Sn _ _ 28 (mx_const (.int 61) 30) from sn_169 28) rfl ?_
      refine mx_J.step (sn_169 30) (fun _ _ => rfl) ?_
      refine JialdI (z := Z 60 61) hx8 (show mx_Sn _ _ 31 (mx_iald 32) from sn_169 31) a60 s60 (by omega) (up_ni hE8 (by omega)) ?_
      refine JcI (z := 1) (show mx_Sn _ _ 32 (mx_const (.int 1) 33) from sn_169 32) rfl ?_
      refine Jiadd (show mx_Sn _ _ 33 (mx_iadd 34) from sn_169 33) ?_
      refine JiastI hx8 (show mx_Sn _ _ 34 (mx_iast 1 35) from sn_169 34) a60 s60 rfl (by omega) (fun Z10 h10 hx10 hE10 => ?_)
      have hG10 := GI_up hG8 hE10 (show (-2147483648) ≤ (Z 60 61) + 1 ∧ (Z 60 61) + 1 ≤ 2147483647 by omega) (show f60 ((61) % 962) ((Z 60 61) + 1) by first | assumption | (unfold f60; omega) | (unfold f60 at *; omega)) rfl
      have rc11 : RM g0 T N Z10 (gEm (1016) sg) := RM_e (RM_em hr ⟨((up_nk hE10 rfl).trans (up_nk hE8 rfl)), ((up_nk hE10 rfl).trans (up_nk hE8 rfl)), ((up_nk hE10 rfl).trans (up_nk hE8 rfl)), ((up_nk hE10 rfl).trans (up_nk hE8 rfl)), ((up_nk hE10 rfl).trans (up_nk hE8 rfl)), ((up_nk hE10 rfl).trans (up_nk hE8 rfl)), ((up_nk hE10 rfl).trans (up_nk hE8 rfl)), fun i => ((up_nk hE10 rfl).trans (up_nk hE8 rfl))⟩ (by omega) (up_at hE10) ((up_ni hE10 (by omega)).trans (up_at hE8)) (fun i h6 hi => (up_ni hE10 (by omega)).trans (up_ni hE8 hi)) (by omega)) (congrArg (fun w => gEm w sg) (um_l.2.2.1))
      have c1 := cd_dp (a := a0) hE8 hE10 (by omega) (by omega)
      have dv := dl_e 3007
      have c2 : MW Z a0 = 1 → nd 3007 ≤ DP Z a0 → MW Z10 a0 = 1 := fun h1 h2 => cd_mw hE8 hE10 h1 (by unfold okc; omega) h2
      have c3 : WFF Z = 1 → WFF Z10 = 1 := cd_wf hE8 hE10 (by omega)
      have eq12 : Z10 60 61 = (Z 60 61) + 1 := (up_at hE10)
      have eq13 : Z10 60 0 = Z 60 0 := ((up_ni hE10 (by decide)).trans (up_ni hE8 (by omega)))
      have b14 : (-2147483648) ≤ Z 60 0 ∧ Z 60 0 ≤ 2147483647 := hG.pr 60 0
      have eq15 : Z10 60 1 = Z 60 1 := ((up_ni hE10 (by decide)).trans (up_ni hE8 (by omega)))
      have b16 : 0 ≤ Z 60 1 ∧ Z 60 1 ≤ 18 := by have hq := GI_ex hG 60 1; replace hq : f60 (1 % 962) (Z 60 1) := hq; unfold f60 at hq; omega
      have b17 : (-2147483648) ≤ Z 60 1 ∧ Z 60 1 ≤ 2147483647 := hG.pr 60 1
      have eq18 : Z10 60 2 = Z 60 2 := ((up_ni hE10 (by decide)).trans (up_ni hE8 (by omega)))
      have b19 : 0 ≤ Z 60 2 ∧ Z 60 2 ≤ 18 := by have hq := GI_ex hG 60 2; replace hq : f60 (2 % 962) (Z 60 2) := hq; unfold f60 at hq; omega
      have b20 : (-2147483648) ≤ Z 60 2 ∧ Z 60 2 ≤ 2147483647 := hG.pr 60 2
      have eq21 : Z10 56 8 = Z 56 8 := ((up_nk hE10 rfl).trans (up_nk hE8 rfl))
      have b22 : 0 ≤ Z 56 8 ∧ Z 56 8 ≤ 900 := hG.pr 56 8
      have eq23 : Z10 56 11 = Z 56 11 := ((up_nk hE10 rfl).trans (up_nk hE8 rfl))
      have eq24 : Z10 60 61 = (Z 60 61) + 1 := (up_at hE10)
      have eq25 : Z10 60 0 = Z 60 0 := ((up_ni hE10 (by decide)).trans (up_ni hE8 (by omega)))
      have eq26 : Z10 60 1 = Z 60 1 := ((up_ni hE10 (by decide)).trans (up_ni hE8 (by omega)))
      have eq27 : Z10 60 2 = Z 60 2 := ((up_ni hE10 (by decide)).trans (up_ni hE8 (by omega)))
      exact mx_J.ret (sn_169 35) (fun _ _ => rfl) (hP Z10 h10 hx10 hG10 (fr_tr (M := [(60, (-1))]) (fr_tr (M := [(60, (-1))]) fr_rf (fr_ua hE8) (M1 := []) rfl rfl) (fr_ua hE10) rfl rfl) ⟨rc11, fun e => ⟨by omega, fun h1 h2 => c2 h1 (by omega), c3⟩, by omega⟩)
    · skip
      have b28 : 0 ≤ Z 60 61 ∧ Z 60 61 ≤ 900 := by have hq := GI_ex hG 60 61; replace hq : f60 (61 % 962) (Z 60 61) := hq; unfold f60 at hq; omega
      have b29 : (-2147483648) ≤ Z 60 61 ∧ Z 60 61 ≤ 2147483647 := hG.pr 60 61
      have b30 : (-2147483648) ≤ Z 60 0 ∧ Z 60 0 ≤ 2147483647 := hG.pr 60 0
      have b31 : 0 ≤ Z 60 1 ∧ Z 60 1 ≤ 18 := by have hq := GI_ex hG 60 1; replace hq : f60 (1 % 962) (Z 60 1) := hq; unfold f60 at hq; omega
      have b32 : (-2147483648) ≤ Z 60 1 ∧ Z 60 1 ≤ 2147483647 := hG.pr 60 1
      have b33 : 0 ≤ Z 60 2 ∧ Z 60 2 ≤ 18 := by have hq := GI_ex hG 60 2; replace hq : f60 (2 % 962) (Z 60 2) := hq; unfold f60 at hq; omega
      have b34 : (-2147483648) ≤ Z 60 2 ∧ Z 60 2 ≤ 2147483647 := hG.pr 60 2
      have b35 : 0 ≤ Z 56 8 ∧ Z 56 8 ≤ 900 := hG.pr 56 8
      exact mx_J.ret (sn_169 7) (fun _ _ => rfl) (hP Z h hx hG fr_rf ⟨(RM_e hr (RM_emx hr (by omega))), fun e => absurd e (by omega), by omega⟩)
theorem ct_169_56_3007 {l : Launch} {D : va_G} {b0 : Nat} {ad : Nat → Nat} {Hb : Heap} {tau : Nat → Int64} {d n s : Nat} {S : Nat → xS} {Z : xZ} {h : mx_H} {a0 : Int} {g0 : Int} {T : Int → Int} {N : Int} {sg : SS} (hx : XH n s S Z h) (hG : GI n S Z)   (k0 : (Z 56 11 = 0 → Z 60 61 ≤ 899)) (k1 : a0 ≤ Z 60 61) (k2 : 0 ≤ a0) (k3 : 0 ≤ g0) (hr : RM g0 T N Z sg) : ∃ (Z' : xZ) (h' : mx_H), mx_Ca (tB l D b0 ad Hb tau) (d + 1) 169 [.ref 56, xI 3007] h (none, h') ∧ XH n s S Z' h' ∧ GI n S Z' ∧ fr' [(60, (-1))] Z Z' ∧ (RM g0 T N Z' (gEm (1016) sg) ∧ QC Z Z' a0 (-1) 2 ∧ (Z' 60 0 = Z 60 0 ∧ Z' 60 1 = Z 60 1 ∧ Z' 60 2 = Z 60 2 ∧ ((¬ Z 56 11 = 0 ∧ Z' 60 61 = Z 60 61) ∨ (Z 56 11 = 0 ∧ Z' 60 61 = Z 60 61 + 1)))) := by
  obtain ⟨r, hca, Z', h', e, q⟩ := Jmt (B := tB l D b0 ad Hb tau) (M := mt_169) (mi := 169) (as := [.ref 56, xI 3007]) (d := d + 0) (ls := [some (.ref 56), some (xI 3007)]) rfl rfl rfl rfl rfl rfl (cw_169_56_3007 (l := l) (D := D) (b0 := b0) (ad := ad) (Hb := Hb) (tau := tau) (d := d) (Post := fun r => ∃ (Z' : xZ) (h' : mx_H), r = (none, h') ∧ XH n s S Z' h' ∧ GI n S Z' ∧ fr' [(60, (-1))] Z Z' ∧ (RM g0 T N Z' (gEm (1016) sg) ∧ QC Z Z' a0 (-1) 2 ∧ (Z' 60 0 = Z 60 0 ∧ Z' 60 1 = Z 60 1 ∧ Z' 60 2 = Z 60 2 ∧ ((¬ Z 56 11 = 0 ∧ Z' 60 61 = Z 60 61) ∨ (Z 56 11 = 0 ∧ Z' 60 61 = Z 60 61 + 1))))) hx hG k0 k1 k2 k3 hr (fun Z' h' q1 q2 q3 q4 => ⟨Z', h', rfl, q1, q2, q3, q4⟩))
  subst e; exact ⟨Z', h', hca, q⟩
set_option maxRecDepth 100000 in
theorem cw_169_56_3008 {l : Launch} {D : va_G} {b0 : Nat} {ad : Nat → Nat} {Hb : Heap} {tau : Nat → Int64} {d n s : Nat} {S : Nat → xS} {Z : xZ} {h : mx_H} {Post : mx_R → Prop} {a0 : Int} {g0 : Int} {T : Int → Int} {N : Int} {sg : SS} (hx : XH n s S Z h) (hG : GI n S Z)   (k0 : (Z 56 11 = 0 → Z 60 61 ≤ 899)) (k1 : a0 ≤ Z 60 61) (k2 : 0 ≤ a0) (k3 : 0 ≤ g0) (hr : RM g0 T N Z sg) (hP : ∀ (Z' : xZ) (h' : mx_H), XH n s S Z' h' → GI n S Z' → fr' [(60, (-1))] Z Z' → RM g0 T N Z' (gEm (1017) sg) ∧ QC Z Z' a0 (-1) 2 ∧ (Z' 60 0 = Z 60 0 ∧ Z' 60 1 = Z 60 1 ∧ Z' 60 2 = Z 60 2 ∧ ((¬ Z 56 11 = 0 ∧ Z' 60 61 = Z 60 61) ∨ (Z 56 11 = 0 ∧ Z' 60 61 = Z 60 61 + 1))) → Post (none, h')) : mx_J (tB l D b0 ad Hb tau) mt_169 (d + 0) 0 [some (.ref 56), some (xI 3008)] [] h Post := by
    have a56 : 56 < n := lt83 (GI_n hG) rfl
    have s56 : S 56 = .inl (12, [0, 2, 2, 2, 2, 0, 0, 0, 0, 0, 0, 0, 0, 0, 0, 2, 2, 2, 0, 2, 2, 2, 0, 0, 2, 2, 2, 2, 2, 2, 0, 0, 2, 2, 2, 2, 2, 2, 2, 2, 2, 2]) := GI_s hG 56 rfl
    have a60 : 60 < n := lt83 (GI_n hG) rfl
    have s60 : S 60 = .inr (.int, 962, 0) := GI_s hG 60 rfl
    refine mx_J.step (sn_169 0) (fun _ _ => rfl) ?_
    have b2 : 0 ≤ Z 56 11 ∧ Z 56 11 ≤ 4 := hG.pr 56 11
    refine JgetI (g := 11) (z := Z 56 11) hx (show mx_Sn _ _ 1 (mx_getf 12 11 4) from sn_169 1) a56 s56 rfl rfl rfl ?_
    refine Jif_eq (show mx_Sn _ _ 4 (mx_if_eq 8 7) from sn_169 4) (by omega) (fun q3 => ?_) (fun q3 => ?_)
    · skip
      refine mx_J.step (sn_169 8) (fun _ _ => rfl) ?_
      refine JgetR (g := 4) (b := 60) hx (show mx_Sn _ _ 9 (mx_getf 12 4 12) from sn_169 9) a56 s56 rfl rfl (hG.prr 56 4 rfl) ?_
      refine JcI (z := 62) (show mx_Sn _ _ 12 (mx_const (.int 62) 14) from sn_169 12) rfl ?_
      refine mx_J.step (sn_169 14) (fun _ _ => rfl) ?_
      refine JgetR (g := 4) (b := 60) hx (show mx_Sn _ _ 15 (mx_getf 12 4 18) from sn_169 15) a56 s56 rfl rfl (hG.prr 56 4 rfl) ?_
      refine JcI (z := 61) (show mx_Sn _ _ 18 (mx_const (.int 61) 20) from sn_169 18) rfl ?_
      have b6 : 0 ≤ Z 60 61 ∧ Z 60 61 ≤ 900 := by have hq := GI_ex hG 60 61; replace hq : f60 (61 % 962) (Z 60 61) := hq; unfold f60 at hq; omega
      have b7 : (-2147483648) ≤ Z 60 61 ∧ Z 60 61 ≤ 2147483647 := hG.pr 60 61
      refine JialdI (z := Z 60 61) hx (show mx_Sn _ _ 20 (mx_iald 21) from sn_169 20) a60 s60 (by omega) rfl ?_
      refine Jiadd (show mx_Sn _ _ 21 (mx_iadd 22) from sn_169 21) ?_
      refine mx_J.step (sn_169 22) (fun _ _ => rfl) ?_
      refine JiastI hx (show mx_Sn _ _ 23 (mx_iast 1 24) from sn_169 23) a60 s60 rfl (by omega) (fun Z8 h8 hx8 hE8 => ?_)
      have hG8 := GI_up hG hE8 (show (-2147483648) ≤ 3008 ∧ 3008 ≤ 2147483647 by omega) (show f60 ((62 + (Z 60 61)) % 962) (3008) by first | (rw [Int.emod_eq_of_lt (by omega) (by omega)]; unfold f60; omega) | assumption | (unfold f60; omega) | (unfold f60 at *; omega)) rfl
      refine mx_J.step (sn_169 24) (fun _ _ => rfl) ?_
      refine JgetR (g := 4) (b := 60) hx8 (show mx_Sn _ _ 25 (mx_getf 12 4 28) from sn_169 25) a56 s56 rfl rfl (hG8.prr 56 4 rfl) ?_
      refine JcI (z := 61) (show mx_Sn _ _ 28 (mx_const (.int 61) 30) from sn_169 28) rfl ?_
      refine mx_J.step (sn_169 30) (fun _ _ => rfl) ?_
      refine JialdI (z := Z 60 61) hx8 (show mx_Sn _ _ 31 (mx_iald 32) from sn_169 31) a60 s60 (by omega) (up_ni hE8 (by omega)) ?_
      refine JcI (z := 1) (show mx_Sn _ _ 32 (mx_const (.int 1) 33) from sn_169 32) rfl ?_
      refine Jiadd (show mx_Sn _ _ 33 (mx_iadd 34) from sn_169 33) ?_
      refine JiastI hx8 (show mx_Sn _ _ 34 (mx_iast 1 35) from sn_169 34) a60 s60 rfl (by omega) (fun Z10 h10 hx10 hE10 => ?_)
      have hG10 := GI_up hG8 hE10 (show (-2147483648) ≤ (Z 60 61) + 1 ∧ (Z 60 61) + 1 ≤ 2147483647 by omega) (show f60 ((61) % 962) ((Z 60 61) + 1) by first | assumption | (unfold f60; omega) | (unfold f60 at *; omega)) rfl
      have rc11 : RM g0 T N Z10 (gEm (1017) sg) := RM_e (RM_em hr ⟨((up_nk hE10 rfl).trans (up_nk hE8 rfl)), ((up_nk hE10 rfl).trans (up_nk hE8 rfl)), ((up_nk hE10 rfl).trans (up_nk hE8 rfl)), ((up_nk hE10 rfl).trans (up_nk hE8 rfl)), ((up_nk hE10 rfl).trans (up_nk hE8 rfl)), ((up_nk hE10 rfl).trans (up_nk hE8 rfl)), ((up_nk hE10 rfl).trans (up_nk hE8 rfl)), fun i => ((up_nk hE10 rfl).trans (up_nk hE8 rfl))⟩ (by omega) (up_at hE10) ((up_ni hE10 (by omega)).trans (up_at hE8)) (fun i h6 hi => (up_ni hE10 (by omega)).trans (up_ni hE8 hi)) (by omega)) (congrArg (fun w => gEm w sg) (um_l.2.2.2.1))
      have c1 := cd_dp (a := a0) hE8 hE10 (by omega) (by omega)
      have dv := dl_e 3008
      have c2 : MW Z a0 = 1 → nd 3008 ≤ DP Z a0 → MW Z10 a0 = 1 := fun h1 h2 => cd_mw hE8 hE10 h1 (by unfold okc; omega) h2
      have c3 : WFF Z = 1 → WFF Z10 = 1 := cd_wf hE8 hE10 (by omega)
      have eq12 : Z10 60 61 = (Z 60 61) + 1 := (up_at hE10)
      have eq13 : Z10 60 0 = Z 60 0 := ((up_ni hE10 (by decide)).trans (up_ni hE8 (by omega)))
      have b14 : (-2147483648) ≤ Z 60 0 ∧ Z 60 0 ≤ 2147483647 := hG.pr 60 0
      have eq15 : Z10 60 1 = Z 60 1 := ((up_ni hE10 (by decide)).trans (up_ni hE8 (by omega)))
      have b16 : 0 ≤ Z 60 1 ∧ Z 60 1 ≤ 18 := by have hq := GI_ex hG 60 1; replace hq : f60 (1 % 962) (Z 60 1) := hq; unfold f60 at hq; omega
      have b17 : (-2147483648) ≤ Z 60 1 ∧ Z 60 1 ≤ 2147483647 := hG.pr 60 1
      have eq18 : Z10 60 2 = Z 60 2 := ((up_ni hE10 (by decide)).trans (up_ni hE8 (by omega)))
      have b19 : 0 ≤ Z 60 2 ∧ Z 60 2 ≤ 18 := by have hq := GI_ex hG 60 2; replace hq : f60 (2 % 962) (Z 60 2) := hq; unfold f60 at hq; omega
      have b20 : (-2147483648) ≤ Z 60 2 ∧ Z 60 2 ≤ 2147483647 := hG.pr 60 2
      have eq21 : Z10 56 8 = Z 56 8 := ((up_nk hE10 rfl).trans (up_nk hE8 rfl))
      have b22 : 0 ≤ Z 56 8 ∧ Z 56 8 ≤ 900 := hG.pr 56 8
      have eq23 : Z10 56 11 = Z 56 11 := ((up_nk hE10 rfl).trans (up_nk hE8 rfl))
      have eq24 : Z10 60 61 = (Z 60 61) + 1 := (up_at hE10)
      have eq25 : Z10 60 0 = Z 60 0 := ((up_ni hE10 (by decide)).trans (up_ni hE8 (by omega)))
      have eq26 : Z10 60 1 = Z 60 1 := ((up_ni hE10 (by decide)).trans (up_ni hE8 (by omega)))
      have eq27 : Z10 60 2 = Z 60 2 := ((up_ni hE10 (by decide)).trans (up_ni hE8 (by omega)))
      exact mx_J.ret (sn_169 35) (fun _ _ => rfl) (hP Z10 h10 hx10 hG10 (fr_tr (M := [(60, (-1))]) (fr_tr (M := [(60, (-1))]) fr_rf (fr_ua hE8) (M1 := []) rfl rfl) (fr_ua hE10) rfl rfl) ⟨rc11, fun e => ⟨by omega, fun h1 h2 => c2 h1 (by omega), c3⟩, by omega⟩)
    · skip
      have b28 : 0 ≤ Z 60 61 ∧ Z 60 61 ≤ 900 := by have hq := GI_ex hG 60 61; replace hq : f60 (61 % 962) (Z 60 61) := hq; unfold f60 at hq; omega
      have b29 : (-2147483648) ≤ Z 60 61 ∧ Z 60 61 ≤ 2147483647 := hG.pr 60 61
      have b30 : (-2147483648) ≤ Z 60 0 ∧ Z 60 0 ≤ 2147483647 := hG.pr 60 0
      have b31 : 0 ≤ Z 60 1 ∧ Z 60 1 ≤ 18 := by have hq := GI_ex hG 60 1; replace hq : f60 (1 % 962) (Z 60 1) := hq; unfold f60 at hq; omega
      have b32 : (-2147483648) ≤ Z 60 1 ∧ Z 60 1 ≤ 2147483647 := hG.pr 60 1
      have b33 : 0 ≤ Z 60 2 ∧ Z 60 2 ≤ 18 := by have hq := GI_ex hG 60 2; replace hq : f60 (2 % 962) (Z 60 2) := hq; unfold f60 at hq; omega
      have b34 : (-2147483648) ≤ Z 60 2 ∧ Z 60 2 ≤ 2147483647 := hG.pr 60 2
      have b35 : 0 ≤ Z 56 8 ∧ Z 56 8 ≤ 900 := hG.pr 56 8
      exact mx_J.ret (sn_169 7) (fun _ _ => rfl) (hP Z h hx hG fr_rf ⟨(RM_e hr (RM_emx hr (by omega))), fun e => absurd e (by omega), by omega⟩)
theorem ct_169_56_3008 {l : Launch} {D : va_G} {b0 : Nat} {ad : Nat → Nat} {Hb : Heap} {tau : Nat → Int64} {d n s : Nat} {S : Nat → xS} {Z : xZ} {h : mx_H} {a0 : Int} {g0 : Int} {T : Int → Int} {N : Int} {sg : SS} (hx : XH n s S Z h) (hG : GI n S Z)   (k0 : (Z 56 11 = 0 → Z 60 61 ≤ 899)) (k1 : a0 ≤ Z 60 61) (k2 : 0 ≤ a0) (k3 : 0 ≤ g0) (hr : RM g0 T N Z sg) : ∃ (Z' : xZ) (h' : mx_H), mx_Ca (tB l D b0 ad Hb tau) (d + 1) 169 [.ref 56, xI 3008] h (none, h') ∧ XH n s S Z' h' ∧ GI n S Z' ∧ fr' [(60, (-1))] Z Z' ∧ (RM g0 T N Z' (gEm (1017) sg) ∧ QC Z Z' a0 (-1) 2 ∧ (Z' 60 0 = Z 60 0 ∧ Z' 60 1 = Z 60 1 ∧ Z' 60 2 = Z 60 2 ∧ ((¬ Z 56 11 = 0 ∧ Z' 60 61 = Z 60 61) ∨ (Z 56 11 = 0 ∧ Z' 60 61 = Z 60 61 + 1)))) := by
  obtain ⟨r, hca, Z', h', e, q⟩ := Jmt (B := tB l D b0 ad Hb tau) (M := mt_169) (mi := 169) (as := [.ref 56, xI 3008]) (d := d + 0) (ls := [some (.ref 56), some (xI 3008)]) rfl rfl rfl rfl rfl rfl (cw_169_56_3008 (l := l) (D := D) (b0 := b0) (ad := ad) (Hb := Hb) (tau := tau) (d := d) (Post := fun r => ∃ (Z' : xZ) (h' : mx_H), r = (none, h') ∧ XH n s S Z' h' ∧ GI n S Z' ∧ fr' [(60, (-1))] Z Z' ∧ (RM g0 T N Z' (gEm (1017) sg) ∧ QC Z Z' a0 (-1) 2 ∧ (Z' 60 0 = Z 60 0 ∧ Z' 60 1 = Z 60 1 ∧ Z' 60 2 = Z 60 2 ∧ ((¬ Z 56 11 = 0 ∧ Z' 60 61 = Z 60 61) ∨ (Z 56 11 = 0 ∧ Z' 60 61 = Z 60 61 + 1))))) hx hG k0 k1 k2 k3 hr (fun Z' h' q1 q2 q3 q4 => ⟨Z', h', rfl, q1, q2, q3, q4⟩))
  subst e; exact ⟨Z', h', hca, q⟩
set_option maxRecDepth 100000 in
theorem cw_166_56 {l : Launch} {D : va_G} {b0 : Nat} {ad : Nat → Nat} {Hb : Heap} {tau : Nat → Int64} {d n s : Nat} {S : Nat → xS} {Z : xZ} {h : mx_H} {Post : mx_R → Prop} {g0 : Int} {T : Int → Int} {N : Int} {sg : SS} (hx : XH n s S Z h) (hG : GI n S Z)  {x0 x1 : Int} (p0 : 0 ≤ x0 ∧ x0 ≤ 1) (p1 : 0 ≤ x1 ∧ x1 ≤ 18) (k0 : (Z 56 6 ≤ Z 56 7 ∧ Z 56 7 ≤ Z 56 8 ∧ (Z 56 9 = 24 ∨ Z 56 6 < Z 56 7))) (hr : RM g0 T N Z sg) (hP : ∀ (z : Int) (Z' : xZ) (h' : mx_H), XH n s S Z' h' → GI n S Z' → fr' [(56, 6), (56, 7), (56, 9), (56, 10), (56, 11), (56, 12)] Z Z' → RM g0 T N Z' (gTk T N x0 x1 sg) ∧ (0 ≤ (gTk T N x0 x1 sg).1 → z = tVl T N sg.1) ∧ 0 ≤ z ∧ z ≤ 999 ∧ ((Z' 56 6 ≤ Z' 56 7 ∧ Z' 56 7 ≤ Z 56 8 ∧ (Z' 56 9 = 24 ∨ Z' 56 6 < Z' 56 7)) ∧ Z 56 6 ≤ Z' 56 6 ∧ (Z' 56 11 = 0 → Z 56 11 = 0 ∧ x0 ≤ z ∧ z ≤ x1 ∧ Z 56 6 + 1 ≤ Z' 56 6) ∧ 0 ≤ z ∧ z ≤ 999) → Post (some (xI z), h')) : mx_J (tB l D b0 ad Hb tau) mt_166 (d + 6) 0 [some (.ref 56), some (xI x0), some (xI x1), none] [] h Post := by
    have a56 : 56 < n := lt83 (GI_n hG) rfl
    have s56 : S 56 = .inl (12, [0, 2, 2, 2, 2, 0, 0, 0, 0, 0, 0, 0, 0, 0, 0, 2, 2, 2, 0, 2, 2, 2, 0, 0, 2, 2, 2, 2, 2, 2, 0, 0, 2, 2, 2, 2, 2, 2, 2, 2, 2, 2]) := GI_s hG 56 rfl
    refine mx_J.step (sn_166 0) (fun _ _ => rfl) ?_
    refine JcI (z := 23) (show mx_Sn _ _ 1 (mx_const (.int 23) 3) from sn_166 1) rfl ?_
    have b2 : 0 ≤ Z 56 9 ∧ Z 56 9 ≤ 100 := hG.pr 56 9
    have b3 : 0 ≤ Z 56 11 ∧ Z 56 11 ≤ 4 := hG.pr 56 11
    obtain ⟨z1, hc1, b1⟩ := ct_164_56 (d := d + 5) (l := l) (D := D) (b0 := b0) (ad := ad) (Hb := Hb) (tau := tau) hx hG (show 0 ≤ 23 ∧ 23 ≤ 100 by omega)
    refine Jcv hx (show mx_Sn _ _ 3 (mx_callv 164 2 12 6) from sn_166 3) a56 s56 hc1 rfl rfl rfl ?_
    have c37 : ∀  (Z5 : xZ) (h5 : mx_H), (Z5 56 11 = 0 → Z 56 11 = 0 ∧ Z 56 9 = 23 ∧ x0 ≤ Z 56 10 ∧ Z 56 10 ≤ x1) → RM g0 T N Z5 (gTJ T N x0 x1 sg) → XH n s S Z5 h5 → GI n S Z5 → fr' [(56, 11), (56, 12)] Z Z5 → mx_J (tB l D b0 ad Hb tau) mt_166 (d + 6) 37 [some (.ref 56), some (xI x0), some (xI x1), none] [] h5 Post := by
      intro Z5 h5 f4_0 f4_1 hx5 hG5 hf5
      have b6 : 0 ≤ Z5 56 11 ∧ Z5 56 11 ≤ 4 := hG5.pr 56 11
      refine mx_J.step (sn_166 37) (fun _ _ => rfl) ?_
      have b8 : 0 ≤ Z 56 10 ∧ Z 56 10 ≤ 999 := hG.pr 56 10
      refine JgetI (g := 10) (z := Z 56 10) hx5 (show mx_Sn _ _ 38 (mx_getf 12 10 41) from sn_166 38) a56 s56 rfl rfl (hf5 56 10 rfl) ?_
      refine mx_J.step (ls2 := [some (.ref 56), some (xI x0), some (xI x1), some (xI (Z 56 10))]) (sn_166 41) (fun _ _ => rfl) ?_
      refine mx_J.step (sn_166 42) (fun _ _ => rfl) ?_
      refine JgetI (g := 11) (z := Z5 56 11) hx5 (show mx_Sn _ _ 43 (mx_getf 12 11 46) from sn_166 43) a56 s56 rfl rfl rfl ?_
      have jp := RM_p f4_1
      have c53 : ∀  (Z11 : xZ) (h11 : mx_H), (Z11 56 6 ≤ Z11 56 7 ∧ Z11 56 7 ≤ Z 56 8 ∧ (Z11 56 9 = 24 ∨ Z11 56 6 < Z11 56 7) ∧ Z 56 6 ≤ Z11 56 6 ∧ (Z11 56 11 = 0 → Z 56 11 = 0 ∧ x0 ≤ (Z 56 10) ∧ (Z 56 10) ≤ x1 ∧ Z 56 6 + 1 ≤ Z11 56 6)) → RM g0 T N Z11 (gTk T N x0 x1 sg) → XH n s S Z11 h11 → GI n S Z11 → fr' [(56, 6), (56, 7), (56, 9), (56, 10)] Z5 Z11 → mx_J (tB l D b0 ad Hb tau) mt_166 (d + 6) 53 [some (.ref 56), some (xI x0), some (xI x1), some (xI (Z 56 10))] [] h11 Post := by
        intro Z11 h11 f10_0 f10_1 hx11 hG11 hf11
        have b12 : 0 ≤ Z11 56 6 ∧ Z11 56 6 ≤ 900 := hG11.pr 56 6
        have b13 : 0 ≤ Z11 56 7 ∧ Z11 56 7 ≤ 900 := hG11.pr 56 7
        have b14 : 0 ≤ Z11 56 9 ∧ Z11 56 9 ≤ 100 := hG11.pr 56 9
        have eq15 : Z11 56 11 = Z5 56 11 := (hf11 56 11 rfl)
        refine mx_J.step (sn_166 53) (fun _ _ => rfl) ?_
        have eq16 : Z11 56 11 = Z5 56 11 := (hf11 56 11 rfl)
        have eq17 : Z11 56 8 = Z 56 8 := ((hf11 56 8 rfl).trans (hf5 56 8 rfl))
        have b18 : 0 ≤ Z 56 8 ∧ Z 56 8 ≤ 900 := hG.pr 56 8
        have eq19 : Z11 56 11 = Z5 56 11 := (hf11 56 11 rfl)
        have b20 : 0 ≤ Z11 56 10 ∧ Z11 56 10 ≤ 999 := hG11.pr 56 10
        exact mx_J.ret (sn_166 54) (fun _ _ => rfl) (hP (Z 56 10) Z11 h11 hx11 hG11 (fr_tr (M := [(56, 6), (56, 7), (56, 9), (56, 10), (56, 11), (56, 12)]) (fr_tr (M := [(56, 6), (56, 7), (56, 9), (56, 10), (56, 11), (56, 12)]) fr_rf (hf5) (M1 := []) rfl rfl) (hf11) rfl rfl) ⟨f10_1, (gTk_v (RM_v hr)), by omega⟩)
      refine Jif_ne (show mx_Sn _ _ 46 (mx_if_ne 53 49) from sn_166 46) (by omega) (fun q21 => ?_) (fun q21 => ?_)
      · skip
        have eq22 : Z5 56 6 = Z 56 6 := (hf5 56 6 rfl)
        have b23 : 0 ≤ Z 56 6 ∧ Z 56 6 ≤ 900 := hG.pr 56 6
        have eq24 : Z5 56 7 = Z 56 7 := (hf5 56 7 rfl)
        have b25 : 0 ≤ Z 56 7 ∧ Z 56 7 ≤ 900 := hG.pr 56 7
        have eq26 : Z5 56 9 = Z 56 9 := (hf5 56 9 rfl)
        exact c53 Z5 h5 (by omega) (RM_e f4_1 (gTJ_d (fun q => by have := jp.1.mpr q; omega))) hx5 hG5 fr_rf
      · skip
        refine mx_J.step (sn_166 49) (fun _ _ => rfl) ?_
        have eq28 : Z5 56 7 = Z 56 7 := (hf5 56 7 rfl)
        have b29 : 0 ≤ Z 56 7 ∧ Z 56 7 ≤ 900 := hG.pr 56 7
        have eq30 : Z5 56 8 = Z 56 8 := (hf5 56 8 rfl)
        have b31 : 0 ≤ Z 56 8 ∧ Z 56 8 ≤ 900 := hG.pr 56 8
        obtain ⟨Z27, h27, hc27, hx27, hG27, hf27, b27⟩ := ct_162_56r (g0 := g0) (T := T) (N := N) (sg := gTJ T N x0 x1 sg) (d := d + 0) (l := l) (D := D) (b0 := b0) (ad := ad) (Hb := Hb) (tau := tau) hx5 hG5  (show Z5 56 7 ≤ Z5 56 8 by first | omega | (simp only [eq28, eq30]; omega)) (show Z5 56 11 = 0 by first | omega | (simp only [eq28, eq30]; omega)) f4_1
        try rw [eq28] at b27
        try rw [eq30] at b27
        obtain ⟨br27, b27⟩ := b27
        have b32 : 0 ≤ Z27 56 6 ∧ Z27 56 6 ≤ 900 := hG27.pr 56 6
        have b33 : 0 ≤ Z27 56 7 ∧ Z27 56 7 ≤ 900 := hG27.pr 56 7
        have b34 : 0 ≤ Z27 56 9 ∧ Z27 56 9 ≤ 100 := hG27.pr 56 9
        refine Jcv0 hx5 (show mx_Sn _ _ 50 (mx_callv 162 1 12 53) from sn_166 50) a56 s56 hc27 rfl rfl rfl ?_
        have eq35 : Z27 56 11 = Z5 56 11 := (hf27 56 11 rfl)
        exact c53 Z27 h27 (by omega) (RM_e br27 (gTJ_a (jp.1.mp (by omega)))) hx27 hG27 (fr_tr (M := [(56, 6), (56, 7), (56, 9), (56, 10)]) fr_rf (hf27) (M1 := []) rfl rfl)
    refine Jif_ne (show mx_Sn _ _ 6 (mx_if_ne 17 9) from sn_166 6) (by omega) (fun q36 => ?_) (fun q36 => ?_)
    · skip
      have g23 : gIs T N 23 sg := ((RM_is (k := 23) hr).mp (by omega))
      have v23 : Z 56 10 = tVl T N sg.1 := RM_v hr g23
      refine mx_J.step (sn_166 17) (fun _ _ => rfl) ?_
      have b38 : 0 ≤ Z 56 10 ∧ Z 56 10 ≤ 999 := hG.pr 56 10
      refine JgetI (g := 10) (z := Z 56 10) hx (show mx_Sn _ _ 18 (mx_getf 12 10 21) from sn_166 18) a56 s56 rfl rfl rfl ?_
      refine Ji2l (show mx_Sn _ _ 21 (mx_i2l 22) from sn_166 21) (by omega) ?_
      refine mx_J.step (sn_166 22) (fun _ _ => rfl) ?_
      refine Ji2l (show mx_Sn _ _ 23 (mx_i2l 24) from sn_166 23) (by omega) ?_
      refine mx_J.step (sn_166 24) (fun _ _ => rfl) ?_
      refine Ji2l (show mx_Sn _ _ 25 (mx_i2l 26) from sn_166 25) (by omega) ?_
      obtain ⟨z39, hc39, b39⟩ := ct_154_ (d := d + 5) (l := l) (D := D) (b0 := b0) (ad := ad) (Hb := Hb) (tau := tau) hx hG (show (-9223372036854775808) ≤ Z 56 10 ∧ Z 56 10 ≤ 9223372036854775807 by omega) (show (-9223372036854775808) ≤ x0 ∧ x0 ≤ 9223372036854775807 by omega) (show (-9223372036854775808) ≤ x1 ∧ x1 ≤ 9223372036854775807 by omega)
      refine Jcs (show mx_Sn _ _ 26 (mx_calls 154 3 29) from sn_166 26) hc39 rfl rfl rfl ?_
      refine Jif_ne (show mx_Sn _ _ 29 (mx_if_ne 37 32) from sn_166 29) (by omega) (fun q40 => ?_) (fun q40 => ?_)
      · skip
        exact c37 Z h (by omega) (RM_e hr (gTJ_y g23 (by omega))) hx hG fr_rf
      · skip
        refine mx_J.step (sn_166 32) (fun _ _ => rfl) ?_
        refine JcI (z := 3) (show mx_Sn _ _ 33 (mx_const (.int 3) 34) from sn_166 33) rfl ?_
        obtain ⟨Z41, h41, hc41, hx41, hG41, hf41, b41⟩ := ct_163_56 (g0 := g0) (T := T) (N := N) (sg := sg) (d := d + 5) (l := l) (D := D) (b0 := b0) (ad := ad) (Hb := Hb) (tau := tau) hx hG (show 2 ≤ 3 ∧ 3 ≤ 4 by omega) hr
        obtain ⟨br41, b41⟩ := b41
        have b42 : 0 ≤ Z41 56 11 ∧ Z41 56 11 ≤ 4 := hG41.pr 56 11
        refine Jcv0 hx (show mx_Sn _ _ 34 (mx_callv 163 2 12 37) from sn_166 34) a56 s56 hc41 rfl rfl rfl ?_
        exact c37 Z41 h41 (by omega) (RM_e br41 (gTJ_3 g23 (by omega))) hx41 hG41 (fr_tr (M := [(56, 11), (56, 12)]) fr_rf (hf41) (M1 := []) rfl rfl)
    · skip
      refine mx_J.step (sn_166 9) (fun _ _ => rfl) ?_
      refine JcI (z := 2) (show mx_Sn _ _ 10 (mx_const (.int 2) 11) from sn_166 10) rfl ?_
      obtain ⟨Z43, h43, hc43, hx43, hG43, hf43, b43⟩ := ct_163_56 (g0 := g0) (T := T) (N := N) (sg := sg) (d := d + 5) (l := l) (D := D) (b0 := b0) (ad := ad) (Hb := Hb) (tau := tau) hx hG (show 2 ≤ 2 ∧ 2 ≤ 4 by omega) hr
      obtain ⟨br43, b43⟩ := b43
      have b44 : 0 ≤ Z43 56 11 ∧ Z43 56 11 ≤ 4 := hG43.pr 56 11
      refine Jcv0 hx (show mx_Sn _ _ 11 (mx_callv 163 2 12 14) from sn_166 11) a56 s56 hc43 rfl rfl rfl ?_
      refine mx_J.step (sn_166 14) (fun _ _ => rfl) ?_
      exact c37 Z43 h43 (by omega) (RM_e br43 (gTJ_2 (fun q => by have := (RM_is (k := 23) hr).mpr q; omega))) hx43 hG43 (fr_tr (M := [(56, 11), (56, 12)]) fr_rf (hf43) (M1 := []) rfl rfl)
theorem ct_166_56 {l : Launch} {D : va_G} {b0 : Nat} {ad : Nat → Nat} {Hb : Heap} {tau : Nat → Int64} {d n s : Nat} {S : Nat → xS} {Z : xZ} {h : mx_H} {g0 : Int} {T : Int → Int} {N : Int} {sg : SS} (hx : XH n s S Z h) (hG : GI n S Z)  {x0 x1 : Int} (p0 : 0 ≤ x0 ∧ x0 ≤ 1) (p1 : 0 ≤ x1 ∧ x1 ≤ 18) (k0 : (Z 56 6 ≤ Z 56 7 ∧ Z 56 7 ≤ Z 56 8 ∧ (Z 56 9 = 24 ∨ Z 56 6 < Z 56 7))) (hr : RM g0 T N Z sg) : ∃ (z : Int) (Z' : xZ) (h' : mx_H), mx_Ca (tB l D b0 ad Hb tau) (d + 7) 166 [.ref 56, xI x0, xI x1] h (some (xI z), h') ∧ XH n s S Z' h' ∧ GI n S Z' ∧ fr' [(56, 6), (56, 7), (56, 9), (56, 10), (56, 11), (56, 12)] Z Z' ∧ (RM g0 T N Z' (gTk T N x0 x1 sg) ∧ (0 ≤ (gTk T N x0 x1 sg).1 → z = tVl T N sg.1) ∧ 0 ≤ z ∧ z ≤ 999 ∧ ((Z' 56 6 ≤ Z' 56 7 ∧ Z' 56 7 ≤ Z 56 8 ∧ (Z' 56 9 = 24 ∨ Z' 56 6 < Z' 56 7)) ∧ Z 56 6 ≤ Z' 56 6 ∧ (Z' 56 11 = 0 → Z 56 11 = 0 ∧ x0 ≤ z ∧ z ≤ x1 ∧ Z 56 6 + 1 ≤ Z' 56 6) ∧ 0 ≤ z ∧ z ≤ 999)) := by
  obtain ⟨r, hca, z, Z', h', e, q⟩ := Jmt (B := tB l D b0 ad Hb tau) (M := mt_166) (mi := 166) (as := [.ref 56, xI x0, xI x1]) (d := d + 6) (ls := [some (.ref 56), some (xI x0), some (xI x1), none]) rfl rfl rfl rfl rfl rfl (cw_166_56 (l := l) (D := D) (b0 := b0) (ad := ad) (Hb := Hb) (tau := tau) (d := d) (Post := fun r => ∃ (z : Int) (Z' : xZ) (h' : mx_H), r = (some (xI z), h') ∧ XH n s S Z' h' ∧ GI n S Z' ∧ fr' [(56, 6), (56, 7), (56, 9), (56, 10), (56, 11), (56, 12)] Z Z' ∧ (RM g0 T N Z' (gTk T N x0 x1 sg) ∧ (0 ≤ (gTk T N x0 x1 sg).1 → z = tVl T N sg.1) ∧ 0 ≤ z ∧ z ≤ 999 ∧ ((Z' 56 6 ≤ Z' 56 7 ∧ Z' 56 7 ≤ Z 56 8 ∧ (Z' 56 9 = 24 ∨ Z' 56 6 < Z' 56 7)) ∧ Z 56 6 ≤ Z' 56 6 ∧ (Z' 56 11 = 0 → Z 56 11 = 0 ∧ x0 ≤ z ∧ z ≤ x1 ∧ Z 56 6 + 1 ≤ Z' 56 6) ∧ 0 ≤ z ∧ z ≤ 999))) hx hG p0 p1 k0 hr (fun z Z' h' q1 q2 q3 q4 => ⟨z, Z', h', rfl, q1, q2, q3, q4⟩))
  subst e; exact ⟨z, Z', h', hca, q⟩
theorem ct_166_56x {l : Launch} {D : va_G} {b0 : Nat} {ad : Nat → Nat} {Hb : Heap} {tau : Nat → Int64} {T : Int → Int} {N : Int} {sg : SS} {d n s : Nat} {S : Nat → xS} {Z : xZ} {h : mx_H} (hx : XH n s S Z h) (hG : GI n S Z) {x0 x1 : Int} (p0 : 0 ≤ x0 ∧ x0 ≤ 1) (p1 : 0 ≤ x1 ∧ x1 ≤ 18) (k0 : (Z 56 6 ≤ Z 56 7 ∧ Z 56 7 ≤ Z 56 8 ∧ (Z 56 9 = 24 ∨ Z 56 6 < Z 56 7))) (hr : RMx T N Z sg) : ∃ (z : Int) (Z' : xZ) (h' : mx_H), mx_Ca (tB l D b0 ad Hb tau) (d + 7) 166 [.ref 56, xI x0, xI x1] h (some (xI z), h') ∧ XH n s S Z' h' ∧ GI n S Z' ∧ fr' [(56, 6), (56, 7), (56, 9), (56, 10), (56, 11), (56, 12)] Z Z' ∧ (RMx T N Z' (gTk T N x0 x1 sg) ∧ (0 ≤ (gTk T N x0 x1 sg).1 → z = tVl T N sg.1) ∧ 0 ≤ z ∧ z ≤ 999 ∧ ((Z' 56 6 ≤ Z' 56 7 ∧ Z' 56 7 ≤ Z 56 8 ∧ (Z' 56 9 = 24 ∨ Z' 56 6 < Z' 56 7)) ∧ Z 56 6 ≤ Z' 56 6 ∧ (Z' 56 11 = 0 → Z 56 11 = 0 ∧ x0 ≤ z ∧ z ≤ x1 ∧ Z 56 6 + 1 ≤ Z' 56 6) ∧ 0 ≤ z ∧ z ≤ 999)) := by
  obtain ⟨g, hg, hr⟩ := hr
  obtain ⟨z, Z', h', hca, q1, q2, q3, q5, q4⟩ := ct_166_56 (g0 := g) (T := T) (N := N) (sg := sg) (d := d) (l := l) (D := D) (b0 := b0) (ad := ad) (Hb := Hb) (tau := tau) hx hG p0 p1 k0 hr
  exact ⟨z, Z', h', hca, q1, q2, q3, ⟨g, hg, q5⟩, q4⟩
set_option maxRecDepth 100000 in
theorem cw_168_56 {l : Launch} {D : va_G} {b0 : Nat} {ad : Nat → Nat} {Hb : Heap} {tau : Nat → Int64} {d n s : Nat} {S : Nat → xS} {Z : xZ} {h : mx_H} {Post : mx_R → Prop} (hx : XH n s S Z h) (hG : GI n S Z)  {x0 : Int} (p0 : 0 ≤ x0 ∧ x0 ≤ 100) (hP : ∀ z : Int, (-1) ≤ z ∧ z ≤ 4 ∧ ((x0 = 1 ∧ z = 4) ∨ (¬ x0 = 1 ∧ 9 ≤ x0 ∧ x0 ≤ 12 ∧ z = x0 - 9) ∨ (¬ x0 = 1 ∧ ¬ (9 ≤ x0 ∧ x0 ≤ 12) ∧ z = -1)) → Post (some (xI z), h)) : mx_J (tB l D b0 ad Hb tau) mt_168 (d + 0) 0 [some (.ref 56), some (xI x0)] [] h Post := by
    refine mx_J.step (sn_168 0) (fun _ _ => rfl) ?_
    refine JcI (z := 1) (show mx_Sn _ _ 1 (mx_const (.int 1) 2) from sn_168 1) rfl ?_
    refine Jicmp_ne (show mx_Sn _ _ 2 (mx_icmp_ne 7 5) from sn_168 2) (by omega) (by omega) (fun q1 => ?_) (fun q1 => ?_)
    · skip
      refine mx_J.step (sn_168 7) (fun _ _ => rfl) ?_
      refine JcI (z := 9) (show mx_Sn _ _ 8 (mx_const (.int 9) 10) from sn_168 8) rfl ?_
      have c27 : ∀ (k2_0 : Int), (-1) ≤ k2_0 ∧ k2_0 ≤ 3 → ((9 ≤ x0 ∧ x0 ≤ 12 ∧ k2_0 = x0 - 9) ∨ (¬ (9 ≤ x0 ∧ x0 ≤ 12) ∧ k2_0 = -1)) → mx_J (tB l D b0 ad Hb tau) mt_168 (d + 0) 27 [some (.ref 56), some (xI x0)] [xI k2_0] h Post := by
        intro k2_0 f2_0 f2_1
        exact mx_J.ret (sn_168 27) (fun _ _ => rfl) (hP k2_0 (by omega))
      have c26 : ¬ (9 ≤ x0 ∧ x0 ≤ 12) → mx_J (tB l D b0 ad Hb tau) mt_168 (d + 0) 26 [some (.ref 56), some (xI x0)] [] h Post := by
        intro f3_0
        refine JcI (z := (-1)) (show mx_Sn _ _ 26 (mx_const (.int (-1)) 27) from sn_168 26) rfl ?_
        exact c27 (-1) (by omega) (by omega)
      refine Jicmp_lt (show mx_Sn _ _ 10 (mx_icmp_lt 26 13) from sn_168 10) (by omega) (by omega) (fun q4 => ?_) (fun q4 => ?_)
      · skip
        exact c26 (by omega)
      · skip
        refine mx_J.step (sn_168 13) (fun _ _ => rfl) ?_
        refine JcI (z := 12) (show mx_Sn _ _ 14 (mx_const (.int 12) 16) from sn_168 14) rfl ?_
        refine Jicmp_gt (show mx_Sn _ _ 16 (mx_icmp_gt 26 19) from sn_168 16) (by omega) (by omega) (fun q5 => ?_) (fun q5 => ?_)
        · skip
          exact c26 (by omega)
        · skip
          refine mx_J.step (sn_168 19) (fun _ _ => rfl) ?_
          refine JcI (z := 9) (show mx_Sn _ _ 20 (mx_const (.int 9) 22) from sn_168 20) rfl ?_
          refine Jisub (show mx_Sn _ _ 22 (mx_isub 23) from sn_168 22) ?_
          refine mx_J.step (sn_168 23) (fun _ _ => rfl) ?_
          exact c27 (x0 - 9) (by omega) (by omega)
    · skip
      refine JcI (z := 4) (show mx_Sn _ _ 5 (mx_const (.int 4) 6) from sn_168 5) rfl ?_
      exact mx_J.ret (sn_168 6) (fun _ _ => rfl) (hP 4 (by omega))
theorem ct_168_56 {l : Launch} {D : va_G} {b0 : Nat} {ad : Nat → Nat} {Hb : Heap} {tau : Nat → Int64} {d n s : Nat} {S : Nat → xS} {Z : xZ} {h : mx_H} (hx : XH n s S Z h) (hG : GI n S Z)  {x0 : Int} (p0 : 0 ≤ x0 ∧ x0 ≤ 100) : ∃ z : Int, mx_Ca (tB l D b0 ad Hb tau) (d + 1) 168 [.ref 56, xI x0] h (some (xI z), h) ∧ ((-1) ≤ z ∧ z ≤ 4 ∧ ((x0 = 1 ∧ z = 4) ∨ (¬ x0 = 1 ∧ 9 ≤ x0 ∧ x0 ≤ 12 ∧ z = x0 - 9) ∨ (¬ x0 = 1 ∧ ¬ (9 ≤ x0 ∧ x0 ≤ 12) ∧ z = -1))) := by
  obtain ⟨r, hca, z, e, hp⟩ := Jmt (B := tB l D b0 ad Hb tau) (M := mt_168) (mi := 168) (as := [.ref 56, xI x0]) (d := d + 0) (ls := [some (.ref 56), some (xI x0)]) rfl rfl rfl rfl rfl rfl (cw_168_56 (l := l) (D := D) (b0 := b0) (ad := ad) (Hb := Hb) (tau := tau) (d := d) (Post := fun r => ∃ z : Int, r = (some (xI z), h) ∧ ((-1) ≤ z ∧ z ≤ 4 ∧ ((x0 = 1 ∧ z = 4) ∨ (¬ x0 = 1 ∧ 9 ≤ x0 ∧ x0 ≤ 12 ∧ z = x0 - 9) ∨ (¬ x0 = 1 ∧ ¬ (9 ≤ x0 ∧ x0 ≤ 12) ∧ z = -1)))) hx hG p0 (fun z hz => ⟨z, rfl, hz⟩))
  subst e; exact ⟨z, hca, hp⟩
set_option maxRecDepth 100000 in
theorem cw_170_56 {l : Launch} {D : va_G} {b0 : Nat} {ad : Nat → Nat} {Hb : Heap} {tau : Nat → Int64} {d n s : Nat} {S : Nat → xS} {Z : xZ} {h : mx_H} {Post : mx_R → Prop} {g0 : Int} {T : Int → Int} {N : Int} {sg : SS} (hx : XH n s S Z h) (hG : GI n S Z)  {x0 : Int} (p0 : 0 ≤ x0 ∧ x0 ≤ 6) (k0 : (Z 56 6 ≤ Z 56 7 ∧ Z 56 7 ≤ Z 56 8 ∧ (Z 56 9 = 24 ∨ Z 56 6 < Z 56 7))) (k1 : ¬ Z 56 9 = 24) (hr : RM g0 T N Z sg) (hP : ∀ (z : Int) (Z' : xZ) (h' : mx_H), XH n s S Z' h' → GI n S Z' → fr' [(56, 6), (56, 7), (56, 9), (56, 10), (56, 11), (56, 12)] Z Z' → RM g0 T N Z' (gEn T N x0 sg) ∧ 0 ≤ z ∧ z ≤ 1 ∧ ((Z' 56 6 ≤ Z' 56 7 ∧ Z' 56 7 ≤ Z 56 8 ∧ (Z' 56 9 = 24 ∨ Z' 56 6 < Z' 56 7)) ∧ Z 56 6 ≤ Z' 56 6 ∧ ((z = 1 ∧ ¬ x0 = 6 ∧ Z' 56 11 = 0 ∧ Z 56 11 = 0 ∧ Z 56 6 + 1 ≤ Z' 56 6) ∨ (z = 0 ∧ ¬ Z' 56 11 = 0 ∧ (x0 = 6 ∨ ¬ Z 56 11 = 0)))) → Post (some (xI z), h')) : mx_J (tB l D b0 ad Hb tau) mt_170 (d + 6) 0 [some (.ref 56), some (xI x0)] [] h Post := by
    have a56 : 56 < n := lt83 (GI_n hG) rfl
    have s56 : S 56 = .inl (12, [0, 2, 2, 2, 2, 0, 0, 0, 0, 0, 0, 0, 0, 0, 0, 2, 2, 2, 0, 2, 2, 2, 0, 0, 2, 2, 2, 2, 2, 2, 0, 0, 2, 2, 2, 2, 2, 2, 2, 2, 2, 2]) := GI_s hG 56 rfl
    refine mx_J.step (sn_170 0) (fun _ _ => rfl) ?_
    refine JcI (z := 6) (show mx_Sn _ _ 1 (mx_const (.int 6) 3) from sn_170 1) rfl ?_
    have c11 : ∀  (Z2 : xZ) (h2 : mx_H), ((Z2 56 11 = 0 → Z 56 11 = 0 ∧ ¬ x0 = 6) ∧ (¬ Z2 56 11 = 0 → (x0 = 6 ∨ ¬ Z 56 11 = 0))) → RM g0 T N Z2 (gEj T N x0 sg) → XH n s S Z2 h2 → GI n S Z2 → fr' [(56, 11), (56, 12)] Z Z2 → mx_J (tB l D b0 ad Hb tau) mt_170 (d + 6) 11 [some (.ref 56), some (xI x0)] [] h2 Post := by
      intro Z2 h2 f1_0 f1_1 hx2 hG2 hf2
      have b3 : 0 ≤ Z2 56 11 ∧ Z2 56 11 ≤ 4 := hG2.pr 56 11
      have jp := RM_p f1_1
      refine mx_J.step (sn_170 11) (fun _ _ => rfl) ?_
      refine JgetI (g := 11) (z := Z2 56 11) hx2 (show mx_Sn _ _ 12 (mx_getf 12 11 15) from sn_170 12) a56 s56 rfl rfl rfl ?_
      have c22 : ∀  (Z6 : xZ) (h6 : mx_H), (Z6 56 6 ≤ Z6 56 7 ∧ Z6 56 7 ≤ Z 56 8 ∧ (Z6 56 9 = 24 ∨ Z6 56 6 < Z6 56 7) ∧ Z 56 6 ≤ Z6 56 6 ∧ (Z6 56 11 = 0 → Z 56 11 = 0 ∧ ¬ x0 = 6 ∧ Z 56 6 + 1 ≤ Z6 56 6) ∧ (¬ Z6 56 11 = 0 → (x0 = 6 ∨ ¬ Z 56 11 = 0))) → RM g0 T N Z6 (gEn T N x0 sg) → XH n s S Z6 h6 → GI n S Z6 → fr' [(56, 6), (56, 7), (56, 9), (56, 10)] Z2 Z6 → mx_J (tB l D b0 ad Hb tau) mt_170 (d + 6) 22 [some (.ref 56), some (xI x0)] [] h6 Post := by
        intro Z6 h6 f5_0 f5_1 hx6 hG6 hf6
        have b7 : 0 ≤ Z6 56 6 ∧ Z6 56 6 ≤ 900 := hG6.pr 56 6
        have b8 : 0 ≤ Z6 56 7 ∧ Z6 56 7 ≤ 900 := hG6.pr 56 7
        have b9 : 0 ≤ Z6 56 9 ∧ Z6 56 9 ≤ 100 := hG6.pr 56 9
        have eq10 : Z6 56 11 = Z2 56 11 := (hf6 56 11 rfl)
        refine mx_J.step (sn_170 22) (fun _ _ => rfl) ?_
        refine JgetI (g := 11) (z := Z2 56 11) hx6 (show mx_Sn _ _ 23 (mx_getf 12 11 26) from sn_170 23) a56 s56 rfl rfl (hf6 56 11 rfl) ?_
        have c34 : ∀ (k12_0 : Int), 0 ≤ k12_0 ∧ k12_0 ≤ 1 → ((k12_0 = 1 ∧ Z6 56 11 = 0) ∨ (k12_0 = 0 ∧ ¬ Z6 56 11 = 0)) → mx_J (tB l D b0 ad Hb tau) mt_170 (d + 6) 34 [some (.ref 56), some (xI x0)] [xI k12_0] h6 Post := by
          intro k12_0 f12_0 f12_1
          have eq13 : Z6 56 11 = Z2 56 11 := (hf6 56 11 rfl)
          have eq14 : Z6 56 11 = Z2 56 11 := (hf6 56 11 rfl)
          have eq15 : Z6 56 8 = Z 56 8 := ((hf6 56 8 rfl).trans (hf2 56 8 rfl))
          have b16 : 0 ≤ Z 56 8 ∧ Z 56 8 ≤ 900 := hG.pr 56 8
          have eq17 : Z6 56 11 = Z2 56 11 := (hf6 56 11 rfl)
          exact mx_J.ret (show mx_Sn _ _ 34 (mx_zret) from sn_170 34) (fun _ _ => zr_ok (by omega)) (hP k12_0 Z6 h6 hx6 hG6 (fr_tr (M := [(56, 6), (56, 7), (56, 9), (56, 10), (56, 11), (56, 12)]) (fr_tr (M := [(56, 6), (56, 7), (56, 9), (56, 10), (56, 11), (56, 12)]) fr_rf (hf2) (M1 := []) rfl rfl) (hf6) rfl rfl) ⟨f5_1, by omega⟩)
        refine Jif_ne (show mx_Sn _ _ 26 (mx_if_ne 33 29) from sn_170 26) (by omega) (fun q18 => ?_) (fun q18 => ?_)
        · skip
          refine JcI (z := 0) (show mx_Sn _ _ 33 (mx_const (.int 0) 34) from sn_170 33) rfl ?_
          have eq19 : Z6 56 11 = Z2 56 11 := (hf6 56 11 rfl)
          exact c34 0 (by omega) (by omega)
        · skip
          refine JcI (z := 1) (show mx_Sn _ _ 29 (mx_const (.int 1) 30) from sn_170 29) rfl ?_
          refine mx_J.step (sn_170 30) (fun _ _ => rfl) ?_
          have eq20 : Z6 56 11 = Z2 56 11 := (hf6 56 11 rfl)
          exact c34 1 (by omega) (by omega)
      refine Jif_ne (show mx_Sn _ _ 15 (mx_if_ne 22 18) from sn_170 15) (by omega) (fun q21 => ?_) (fun q21 => ?_)
      · skip
        have eq22 : Z2 56 6 = Z 56 6 := (hf2 56 6 rfl)
        have b23 : 0 ≤ Z 56 6 ∧ Z 56 6 ≤ 900 := hG.pr 56 6
        have eq24 : Z2 56 7 = Z 56 7 := (hf2 56 7 rfl)
        have b25 : 0 ≤ Z 56 7 ∧ Z 56 7 ≤ 900 := hG.pr 56 7
        have eq26 : Z2 56 9 = Z 56 9 := (hf2 56 9 rfl)
        have b27 : 0 ≤ Z 56 9 ∧ Z 56 9 ≤ 100 := hG.pr 56 9
        exact c22 Z2 h2 (by omega) (RM_e f1_1 (gEj_d p0.2 (fun q => by have := jp.1.mpr q; omega))) hx2 hG2 fr_rf
      · skip
        refine mx_J.step (sn_170 18) (fun _ _ => rfl) ?_
        have eq29 : Z2 56 7 = Z 56 7 := (hf2 56 7 rfl)
        have b30 : 0 ≤ Z 56 7 ∧ Z 56 7 ≤ 900 := hG.pr 56 7
        have eq31 : Z2 56 8 = Z 56 8 := (hf2 56 8 rfl)
        have b32 : 0 ≤ Z 56 8 ∧ Z 56 8 ≤ 900 := hG.pr 56 8
        obtain ⟨Z28, h28, hc28, hx28, hG28, hf28, b28⟩ := ct_162_56r (g0 := g0) (T := T) (N := N) (sg := gEj T N x0 sg) (d := d + 0) (l := l) (D := D) (b0 := b0) (ad := ad) (Hb := Hb) (tau := tau) hx2 hG2  (show Z2 56 7 ≤ Z2 56 8 by first | omega | (simp only [eq29, eq31]; omega)) (show Z2 56 11 = 0 by first | omega | (simp only [eq29, eq31]; omega)) f1_1
        try rw [eq29] at b28
        try rw [eq31] at b28
        obtain ⟨br28, b28⟩ := b28
        have b33 : 0 ≤ Z28 56 6 ∧ Z28 56 6 ≤ 900 := hG28.pr 56 6
        have b34 : 0 ≤ Z28 56 7 ∧ Z28 56 7 ≤ 900 := hG28.pr 56 7
        have b35 : 0 ≤ Z28 56 9 ∧ Z28 56 9 ≤ 100 := hG28.pr 56 9
        refine Jcv0 hx2 (show mx_Sn _ _ 19 (mx_callv 162 1 12 22) from sn_170 19) a56 s56 hc28 rfl rfl rfl ?_
        have eq36 : Z28 56 11 = Z2 56 11 := (hf28 56 11 rfl)
        exact c22 Z28 h28 (by omega) (RM_e br28 (gEj_a p0.2 (jp.1.mp (by omega)))) hx28 hG28 (fr_tr (M := [(56, 6), (56, 7), (56, 9), (56, 10)]) fr_rf (hf28) (M1 := []) rfl rfl)
    refine Jicmp_ne (show mx_Sn _ _ 3 (mx_icmp_ne 11 6) from sn_170 3) (by omega) (by omega) (fun q37 => ?_) (fun q37 => ?_)
    · skip
      have b38 : 0 ≤ Z 56 11 ∧ Z 56 11 ≤ 4 := hG.pr 56 11
      exact c11 Z h (by omega) (RM_e hr (gEj_n (by omega))) hx hG fr_rf
    · skip
      refine mx_J.step (sn_170 6) (fun _ _ => rfl) ?_
      refine JcI (z := 4) (show mx_Sn _ _ 7 (mx_const (.int 4) 8) from sn_170 7) rfl ?_
      have b40 : 0 ≤ Z 56 9 ∧ Z 56 9 ≤ 100 := hG.pr 56 9
      have b41 : 0 ≤ Z 56 11 ∧ Z 56 11 ≤ 4 := hG.pr 56 11
      obtain ⟨Z39, h39, hc39, hx39, hG39, hf39, b39⟩ := ct_163_56 (g0 := g0) (T := T) (N := N) (sg := sg) (d := d + 5) (l := l) (D := D) (b0 := b0) (ad := ad) (Hb := Hb) (tau := tau) hx hG (show 2 ≤ 4 ∧ 4 ≤ 4 by omega) hr
      obtain ⟨br39, b39⟩ := b39
      have b42 : 0 ≤ Z39 56 11 ∧ Z39 56 11 ≤ 4 := hG39.pr 56 11
      refine Jcv0 hx (show mx_Sn _ _ 8 (mx_callv 163 2 12 11) from sn_170 8) a56 s56 hc39 rfl rfl rfl ?_
      exact c11 Z39 h39 (by omega) (RM_e br39 (gEj_y (by omega))) hx39 hG39 (fr_tr (M := [(56, 11), (56, 12)]) fr_rf (hf39) (M1 := []) rfl rfl)
theorem ct_170_56 {l : Launch} {D : va_G} {b0 : Nat} {ad : Nat → Nat} {Hb : Heap} {tau : Nat → Int64} {d n s : Nat} {S : Nat → xS} {Z : xZ} {h : mx_H} {g0 : Int} {T : Int → Int} {N : Int} {sg : SS} (hx : XH n s S Z h) (hG : GI n S Z)  {x0 : Int} (p0 : 0 ≤ x0 ∧ x0 ≤ 6) (k0 : (Z 56 6 ≤ Z 56 7 ∧ Z 56 7 ≤ Z 56 8 ∧ (Z 56 9 = 24 ∨ Z 56 6 < Z 56 7))) (k1 : ¬ Z 56 9 = 24) (hr : RM g0 T N Z sg) : ∃ (z : Int) (Z' : xZ) (h' : mx_H), mx_Ca (tB l D b0 ad Hb tau) (d + 7) 170 [.ref 56, xI x0] h (some (xI z), h') ∧ XH n s S Z' h' ∧ GI n S Z' ∧ fr' [(56, 6), (56, 7), (56, 9), (56, 10), (56, 11), (56, 12)] Z Z' ∧ (RM g0 T N Z' (gEn T N x0 sg) ∧ 0 ≤ z ∧ z ≤ 1 ∧ ((Z' 56 6 ≤ Z' 56 7 ∧ Z' 56 7 ≤ Z 56 8 ∧ (Z' 56 9 = 24 ∨ Z' 56 6 < Z' 56 7)) ∧ Z 56 6 ≤ Z' 56 6 ∧ ((z = 1 ∧ ¬ x0 = 6 ∧ Z' 56 11 = 0 ∧ Z 56 11 = 0 ∧ Z 56 6 + 1 ≤ Z' 56 6) ∨ (z = 0 ∧ ¬ Z' 56 11 = 0 ∧ (x0 = 6 ∨ ¬ Z 56 11 = 0))))) := by
  obtain ⟨r, hca, z, Z', h', e, q⟩ := Jmt (B := tB l D b0 ad Hb tau) (M := mt_170) (mi := 170) (as := [.ref 56, xI x0]) (d := d + 6) (ls := [some (.ref 56), some (xI x0)]) rfl rfl rfl rfl rfl rfl (cw_170_56 (l := l) (D := D) (b0 := b0) (ad := ad) (Hb := Hb) (tau := tau) (d := d) (Post := fun r => ∃ (z : Int) (Z' : xZ) (h' : mx_H), r = (some (xI z), h') ∧ XH n s S Z' h' ∧ GI n S Z' ∧ fr' [(56, 6), (56, 7), (56, 9), (56, 10), (56, 11), (56, 12)] Z Z' ∧ (RM g0 T N Z' (gEn T N x0 sg) ∧ 0 ≤ z ∧ z ≤ 1 ∧ ((Z' 56 6 ≤ Z' 56 7 ∧ Z' 56 7 ≤ Z 56 8 ∧ (Z' 56 9 = 24 ∨ Z' 56 6 < Z' 56 7)) ∧ Z 56 6 ≤ Z' 56 6 ∧ ((z = 1 ∧ ¬ x0 = 6 ∧ Z' 56 11 = 0 ∧ Z 56 11 = 0 ∧ Z 56 6 + 1 ≤ Z' 56 6) ∨ (z = 0 ∧ ¬ Z' 56 11 = 0 ∧ (x0 = 6 ∨ ¬ Z 56 11 = 0)))))) hx hG p0 k0 k1 hr (fun z Z' h' q1 q2 q3 q4 => ⟨z, Z', h', rfl, q1, q2, q3, q4⟩))
  subst e; exact ⟨z, Z', h', hca, q⟩
def rbR_174 (l : Launch) (D : va_G) (b0 : Nat) (ad : Nat → Nat) (Hb : Heap) (tau : Nat → Int64) (kk : Nat) (x0 : Int) : Prop := ∀ (a0 : Int) (g0 : Int) (T : Int → Int) (N : Int) (sg : SS) (d n s : Nat) (S : Nat → xS) (Z : xZ) (h : mx_H) (hd : kk ≤ d) (hx : XH n s S Z h) (hG : GI n S Z) (k0 : (Z 56 6 ≤ Z 56 7 ∧ Z 56 7 ≤ Z 56 8 ∧ (Z 56 9 = 24 ∨ Z 56 6 < Z 56 7))) (k1 : Z 60 61 ≤ Z 56 6) (k2 : a0 ≤ Z 60 61) (k3 : 0 ≤ a0) (k4 : 0 ≤ g0) (hr : RM g0 T N Z (sg)), ∃ (Z' : xZ) (h' : mx_H), mx_Ca (tB l D b0 ad Hb tau) d 174 [.ref 56, xI x0] h (none, h') ∧ XH n s S Z' h' ∧ GI n S Z' ∧ fr' [(56, 6), (56, 7), (56, 9), (56, 10), (56, 11), (56, 12), (60, (-1))] Z Z' ∧ (RM g0 T N Z' (smX T N (lvI T N x0) sg) ∧ QR Z Z' a0 1 0 ∧ ((Z' 56 6 ≤ Z' 56 7 ∧ Z' 56 7 ≤ Z 56 8 ∧ (Z' 56 9 = 24 ∨ Z' 56 6 < Z' 56 7)) ∧ Z' 60 0 = Z 60 0 ∧ Z' 60 1 = Z 60 1 ∧ Z' 60 2 = Z 60 2 ∧ Z 56 6 ≤ Z' 56 6 ∧ Z 60 61 ≤ Z' 60 61 ∧ Z' 60 61 - Z 60 61 ≤ Z' 56 6 - Z 56 6))
def rbR_175 (l : Launch) (D : va_G) (b0 : Nat) (ad : Nat → Nat) (Hb : Heap) (tau : Nat → Int64) (kk : Nat) (x0 : Int) : Prop := ∀ (a0 : Int) (g0 : Int) (T : Int → Int) (N : Int) (sg : SS) (d n s : Nat) (S : Nat → xS) (Z : xZ) (h : mx_H) (hd : kk ≤ d) (hx : XH n s S Z h) (hG : GI n S Z) (k0 : (Z 56 6 ≤ Z 56 7 ∧ Z 56 7 ≤ Z 56 8 ∧ (Z 56 9 = 24 ∨ Z 56 6 < Z 56 7))) (k1 : Z 60 61 ≤ Z 56 6) (k2 : a0 ≤ Z 60 61) (k3 : 0 ≤ a0) (k4 : 0 ≤ g0) (hr : RM g0 T N Z (sg)), ∃ (Z' : xZ) (h' : mx_H), mx_Ca (tB l D b0 ad Hb tau) d 175 [.ref 56, xI x0] h (none, h') ∧ XH n s S Z' h' ∧ GI n S Z' ∧ fr' [(56, 6), (56, 7), (56, 9), (56, 10), (56, 11), (56, 12), (60, (-1))] Z Z' ∧ (RM g0 T N Z' (unX T N (lvI T N x0) sg) ∧ QR Z Z' a0 1 0 ∧ ((Z' 56 6 ≤ Z' 56 7 ∧ Z' 56 7 ≤ Z 56 8 ∧ (Z' 56 9 = 24 ∨ Z' 56 6 < Z' 56 7)) ∧ Z' 60 0 = Z 60 0 ∧ Z' 60 1 = Z 60 1 ∧ Z' 60 2 = Z 60 2 ∧ Z 56 6 ≤ Z' 56 6 ∧ Z 60 61 ≤ Z' 60 61 ∧ Z' 60 61 - Z 60 61 ≤ Z' 56 6 - Z 56 6))
def rbR_177 (l : Launch) (D : va_G) (b0 : Nat) (ad : Nat → Nat) (Hb : Heap) (tau : Nat → Int64) (kk : Nat) (x0 : Int) : Prop := ∀ (a0 : Int) (g0 : Int) (T : Int → Int) (N : Int) (sg : SS) (d n s : Nat) (S : Nat → xS) (Z : xZ) (h : mx_H) (hd : kk ≤ d) (hx : XH n s S Z h) (hG : GI n S Z) (k0 : (Z 56 6 ≤ Z 56 7 ∧ Z 56 7 ≤ Z 56 8 ∧ (Z 56 9 = 24 ∨ Z 56 6 < Z 56 7))) (k1 : Z 60 61 ≤ Z 56 6) (k2 : a0 ≤ Z 60 61) (k3 : 0 ≤ a0) (k4 : 0 ≤ g0) (hr : RM g0 T N Z (sg)), ∃ (Z' : xZ) (h' : mx_H), mx_Ca (tB l D b0 ad Hb tau) d 177 [.ref 56, xI x0] h (none, h') ∧ XH n s S Z' h' ∧ GI n S Z' ∧ fr' [(56, 6), (56, 7), (56, 9), (56, 10), (56, 11), (56, 12), (60, (-1))] Z Z' ∧ (RM g0 T N Z' (trX T N (lvI T N x0) sg) ∧ QR Z Z' a0 1 0 ∧ ((Z' 56 6 ≤ Z' 56 7 ∧ Z' 56 7 ≤ Z 56 8 ∧ (Z' 56 9 = 24 ∨ Z' 56 6 < Z' 56 7)) ∧ Z' 60 0 = Z 60 0 ∧ Z' 60 1 = Z 60 1 ∧ Z' 60 2 = Z 60 2 ∧ Z 56 6 ≤ Z' 56 6 ∧ Z 60 61 ≤ Z' 60 61 ∧ Z' 60 61 - Z 60 61 ≤ Z' 56 6 - Z 56 6))
def RBn (l : Launch) (D : va_G) (b0 : Nat) (ad : Nat → Nat) (Hb : Heap) (tau : Nat → Int64) (kk : Nat) (x0 : Int) : Prop := rbR_174 l D b0 ad Hb tau kk x0 ∧ rbR_175 l D b0 ad Hb tau kk x0 ∧ rbR_177 l D b0 ad Hb tau kk x0
def RBnh (l : Launch) (D : va_G) (b0 : Nat) (ad : Nat → Nat) (Hb : Heap) (tau : Nat → Int64) (kk : Nat) (x0 : Int) : Prop := x0 ≤ 5 → RBn l D b0 ad Hb tau kk (x0 + 1)
theorem riR_174 {l : Launch} {D : va_G} {b0 : Nat} {ad : Nat → Nat} {Hb : Heap} {tau : Nat → Int64} {x0 : Int} {kk : Nat} (IH : RBnh l D b0 ad Hb tau kk x0) (h5 : x0 ≤ 5) {a0 : Int} {g0 : Int} {T : Int → Int} {N : Int} {sg : SS} {d n s : Nat} {S : Nat → xS} {Z : xZ} {h : mx_H} (hd : kk ≤ d) (hx : XH n s S Z h) (hG : GI n S Z) (_p0 : 1 ≤ x0 + 1 ∧ x0 + 1 ≤ 6) (k0 : (Z 56 6 ≤ Z 56 7 ∧ Z 56 7 ≤ Z 56 8 ∧ (Z 56 9 = 24 ∨ Z 56 6 < Z 56 7))) (k1 : Z 60 61 ≤ Z 56 6) (k2 : a0 ≤ Z 60 61) (k3 : 0 ≤ a0) (k4 : 0 ≤ g0) (hr : RM g0 T N Z (sg)) : ∃ (Z' : xZ) (h' : mx_H), mx_Ca (tB l D b0 ad Hb tau) d 174 [.ref 56, xI (x0 + 1)] h (none, h') ∧ XH n s S Z' h' ∧ GI n S Z' ∧ fr' [(56, 6), (56, 7), (56, 9), (56, 10), (56, 11), (56, 12), (60, (-1))] Z Z' ∧ (RM g0 T N Z' (smX T N (lvI T N (x0 + 1)) sg) ∧ QR Z Z' a0 1 0 ∧ ((Z' 56 6 ≤ Z' 56 7 ∧ Z' 56 7 ≤ Z 56 8 ∧ (Z' 56 9 = 24 ∨ Z' 56 6 < Z' 56 7)) ∧ Z' 60 0 = Z 60 0 ∧ Z' 60 1 = Z 60 1 ∧ Z' 60 2 = Z 60 2 ∧ Z 56 6 ≤ Z' 56 6 ∧ Z 60 61 ≤ Z' 60 61 ∧ Z' 60 61 - Z 60 61 ≤ Z' 56 6 - Z 56 6)) := (IH h5).1 a0 g0 T N sg d n s S Z h hd hx hG k0 k1 k2 k3 k4 hr
theorem riR_175 {l : Launch} {D : va_G} {b0 : Nat} {ad : Nat → Nat} {Hb : Heap} {tau : Nat → Int64} {x0 : Int} {kk : Nat} (IH : RBnh l D b0 ad Hb tau kk x0) (h5 : x0 ≤ 5) {a0 : Int} {g0 : Int} {T : Int → Int} {N : Int} {sg : SS} {d n s : Nat} {S : Nat → xS} {Z : xZ} {h : mx_H} (hd : kk ≤ d) (hx : XH n s S Z h) (hG : GI n S Z) (_p0 : 1 ≤ x0 + 1 ∧ x0 + 1 ≤ 6) (k0 : (Z 56 6 ≤ Z 56 7 ∧ Z 56 7 ≤ Z 56 8 ∧ (Z 56 9 = 24 ∨ Z 56 6 < Z 56 7))) (k1 : Z 60 61 ≤ Z 56 6) (k2 : a0 ≤ Z 60 61) (k3 : 0 ≤ a0) (k4 : 0 ≤ g0) (hr : RM g0 T N Z (sg)) : ∃ (Z' : xZ) (h' : mx_H), mx_Ca (tB l D b0 ad Hb tau) d 175 [.ref 56, xI (x0 + 1)] h (none, h') ∧ XH n s S Z' h' ∧ GI n S Z' ∧ fr' [(56, 6), (56, 7), (56, 9), (56, 10), (56, 11), (56, 12), (60, (-1))] Z Z' ∧ (RM g0 T N Z' (unX T N (lvI T N (x0 + 1)) sg) ∧ QR Z Z' a0 1 0 ∧ ((Z' 56 6 ≤ Z' 56 7 ∧ Z' 56 7 ≤ Z 56 8 ∧ (Z' 56 9 = 24 ∨ Z' 56 6 < Z' 56 7)) ∧ Z' 60 0 = Z 60 0 ∧ Z' 60 1 = Z 60 1 ∧ Z' 60 2 = Z 60 2 ∧ Z 56 6 ≤ Z' 56 6 ∧ Z 60 61 ≤ Z' 60 61 ∧ Z' 60 61 - Z 60 61 ≤ Z' 56 6 - Z 56 6)) := (IH h5).2.1 a0 g0 T N sg d n s S Z h hd hx hG k0 k1 k2 k3 k4 hr
theorem riR_177 {l : Launch} {D : va_G} {b0 : Nat} {ad : Nat → Nat} {Hb : Heap} {tau : Nat → Int64} {x0 : Int} {kk : Nat} (IH : RBnh l D b0 ad Hb tau kk x0) (h5 : x0 ≤ 5) {a0 : Int} {g0 : Int} {T : Int → Int} {N : Int} {sg : SS} {d n s : Nat} {S : Nat → xS} {Z : xZ} {h : mx_H} (hd : kk ≤ d) (hx : XH n s S Z h) (hG : GI n S Z) (_p0 : 1 ≤ x0 + 1 ∧ x0 + 1 ≤ 6) (k0 : (Z 56 6 ≤ Z 56 7 ∧ Z 56 7 ≤ Z 56 8 ∧ (Z 56 9 = 24 ∨ Z 56 6 < Z 56 7))) (k1 : Z 60 61 ≤ Z 56 6) (k2 : a0 ≤ Z 60 61) (k3 : 0 ≤ a0) (k4 : 0 ≤ g0) (hr : RM g0 T N Z (sg)) : ∃ (Z' : xZ) (h' : mx_H), mx_Ca (tB l D b0 ad Hb tau) d 177 [.ref 56, xI (x0 + 1)] h (none, h') ∧ XH n s S Z' h' ∧ GI n S Z' ∧ fr' [(56, 6), (56, 7), (56, 9), (56, 10), (56, 11), (56, 12), (60, (-1))] Z Z' ∧ (RM g0 T N Z' (trX T N (lvI T N (x0 + 1)) sg) ∧ QR Z Z' a0 1 0 ∧ ((Z' 56 6 ≤ Z' 56 7 ∧ Z' 56 7 ≤ Z 56 8 ∧ (Z' 56 9 = 24 ∨ Z' 56 6 < Z' 56 7)) ∧ Z' 60 0 = Z 60 0 ∧ Z' 60 1 = Z 60 1 ∧ Z' 60 2 = Z 60 2 ∧ Z 56 6 ≤ Z' 56 6 ∧ Z 60 61 ≤ Z' 60 61 ∧ Z' 60 61 - Z 60 61 ≤ Z' 56 6 - Z 56 6)) := (IH h5).2.2 a0 g0 T N sg d n s S Z h hd hx hG k0 k1 k2 k3 k4 hr
set_option maxHeartbeats 8000000 in
set_option maxRecDepth 100000 in
theorem cw_172_56_s {l : Launch} {D : va_G} {b0 : Nat} {ad : Nat → Nat} {Hb : Heap} {tau : Nat → Int64} {d n s : Nat} {S : Nat → xS} {Z : xZ} {h : mx_H} {Post : mx_R → Prop} {a0 : Int} {g0 : Int} {T : Int → Int} {N : Int} {sg : SS} (hx : XH n s S Z h) (hG : GI n S Z)  {x0 : Int} (p0 : 0 ≤ x0 ∧ x0 ≤ 6) (k0 : (Z 56 6 ≤ Z 56 7 ∧ Z 56 7 ≤ Z 56 8 ∧ (Z 56 9 = 24 ∨ Z 56 6 < Z 56 7))) (k1 : Z 60 61 ≤ Z 56 6) (k2 : a0 ≤ Z 60 61) (k3 : 0 ≤ a0) (k4 : 0 ≤ g0) (k5 : ¬ Z 56 9 = 24) (k6 : Z 56 11 = 0) (hr : RM g0 T N Z sg) {kk : Nat} (IH : RBnh l D b0 ad Hb tau kk x0) (hd : kk ≤ d) (hP : ∀ (Z' : xZ) (h' : mx_H), XH n s S Z' h' → GI n S Z' → fr' [(56, 6), (56, 7), (56, 9), (56, 10), (56, 11), (56, 12), (60, (-1))] Z Z' → RM g0 T N Z' (ifX T N (lvI T N x0) sg) ∧ QR Z Z' a0 1 0 ∧ ((Z' 56 6 ≤ Z' 56 7 ∧ Z' 56 7 ≤ Z 56 8 ∧ (Z' 56 9 = 24 ∨ Z' 56 6 < Z' 56 7)) ∧ Z' 60 0 = Z 60 0 ∧ Z' 60 1 = Z 60 1 ∧ Z' 60 2 = Z 60 2 ∧ Z 56 6 ≤ Z' 56 6 ∧ Z 60 61 ≤ Z' 60 61 ∧ Z' 60 61 - Z 60 61 ≤ Z' 56 6 - Z 56 6) → Post (none, h')) : mx_J (tB l D b0 ad Hb tau) mt_172 (d + 7) 0 [some (.ref 56), some (xI x0)] [] h Post := by
    have a56 : 56 < n := lt83 (GI_n hG) rfl
    have s56 : S 56 = .inl (12, [0, 2, 2, 2, 2, 0, 0, 0, 0, 0, 0, 0, 0, 0, 0, 2, 2, 2, 0, 2, 2, 2, 0, 0, 2, 2, 2, 2, 2, 2, 0, 0, 2, 2, 2, 2, 2, 2, 2, 2, 2, 2]) := GI_s hG 56 rfl
    refine mx_J.step (sn_172 0) (fun _ _ => rfl) ?_
    refine mx_J.step (sn_172 1) (fun _ _ => rfl) ?_
    have b2 : 0 ≤ Z 56 6 ∧ Z 56 6 ≤ 900 := hG.pr 56 6
    have b3 : 0 ≤ Z 56 7 ∧ Z 56 7 ≤ 900 := hG.pr 56 7
    have b4 : 0 ≤ Z 56 8 ∧ Z 56 8 ≤ 900 := hG.pr 56 8
    have b5 : 0 ≤ Z 56 9 ∧ Z 56 9 ≤ 100 := hG.pr 56 9
    have b6 : 0 ≤ Z 56 11 ∧ Z 56 11 ≤ 4 := hG.pr 56 11
    obtain ⟨z1, Z1, h1, hc1, hx1, hG1, hf1, b1⟩ := ct_170_56 (g0 := g0) (T := T) (N := N) (sg := sg) (d := d + 0) (l := l) (D := D) (b0 := b0) (ad := ad) (Hb := Hb) (tau := tau) hx hG (show 0 ≤ x0 ∧ x0 ≤ 6 by omega) (show (Z 56 6 ≤ Z 56 7 ∧ Z 56 7 ≤ Z 56 8 ∧ (Z 56 9 = 24 ∨ Z 56 6 < Z 56 7)) by omega) (show ¬ Z 56 9 = 24 by omega) hr
    obtain ⟨br1, b1⟩ := b1
    have b7 : 0 ≤ Z1 56 6 ∧ Z1 56 6 ≤ 900 := hG1.pr 56 6
    have b8 : 0 ≤ Z1 56 7 ∧ Z1 56 7 ≤ 900 := hG1.pr 56 7
    have b9 : 0 ≤ Z1 56 9 ∧ Z1 56 9 ≤ 100 := hG1.pr 56 9
    have b10 : 0 ≤ Z1 56 11 ∧ Z1 56 11 ≤ 4 := hG1.pr 56 11
    have r1 := QR_g (k := 1) (c2 := 1) (QR_rf (Z := Z) (a := a0)) (fun e => by omega) (fun i => hf1 60 i rfl) (fun e => by omega) (by decide)
    refine Jcv hx (show mx_Sn _ _ 2 (mx_callv 170 2 12 5) from sn_172 2) a56 s56 hc1 rfl rfl rfl ?_
    refine Jif_ne (show mx_Sn _ _ 5 (mx_if_ne 9 8) from sn_172 5) (by omega) (fun q11 => ?_) (fun q11 => ?_)
    · skip
      have hx5 : x0 ≤ 5 := by omega
      have rc12 : RM g0 T N Z1 (gAd T N sg) := RM_e br1 ((gEn_y (by omega)).symm)
      refine mx_J.step (sn_172 9) (fun _ _ => rfl) ?_
      refine mx_J.step (sn_172 10) (fun _ _ => rfl) ?_
      refine JcI (z := 1) (show mx_Sn _ _ 11 (mx_const (.int 1) 12) from sn_172 11) rfl ?_
      refine Jiadd (show mx_Sn _ _ 12 (mx_iadd 13) from sn_172 12) ?_
      have eq14 : Z1 56 8 = Z 56 8 := (hf1 56 8 rfl)
      have eq15 : Z1 60 61 = Z 60 61 := (hf1 60 61 rfl)
      have b16 : 0 ≤ Z 60 61 ∧ Z 60 61 ≤ 900 := by have hq := GI_ex hG 60 61; replace hq : f60 (61 % 962) (Z 60 61) := hq; unfold f60 at hq; omega
      have b17 : (-2147483648) ≤ Z 60 61 ∧ Z 60 61 ≤ 2147483647 := hG.pr 60 61
      have eq18 : Z1 60 0 = Z 60 0 := (hf1 60 0 rfl)
      have b19 : (-2147483648) ≤ Z 60 0 ∧ Z 60 0 ≤ 2147483647 := hG.pr 60 0
      have eq20 : Z1 60 1 = Z 60 1 := (hf1 60 1 rfl)
      have b21 : 0 ≤ Z 60 1 ∧ Z 60 1 ≤ 18 := by have hq := GI_ex hG 60 1; replace hq : f60 (1 % 962) (Z 60 1) := hq; unfold f60 at hq; omega
      have b22 : (-2147483648) ≤ Z 60 1 ∧ Z 60 1 ≤ 2147483647 := hG.pr 60 1
      have eq23 : Z1 60 2 = Z 60 2 := (hf1 60 2 rfl)
      have b24 : 0 ≤ Z 60 2 ∧ Z 60 2 ≤ 18 := by have hq := GI_ex hG 60 2; replace hq : f60 (2 % 962) (Z 60 2) := hq; unfold f60 at hq; omega
      have b25 : (-2147483648) ≤ Z 60 2 ∧ Z 60 2 ≤ 2147483647 := hG.pr 60 2
      obtain ⟨Z13, h13, hc13, hx13, hG13, hf13, b13⟩ := riR_177 IH (by omega) (hd := by omega) (a0 := a0) (g0 := g0) (T := T) (N := N) (sg := gAd T N sg) (d := d + 7) (l := l) (D := D) (b0 := b0) (ad := ad) (Hb := Hb) (tau := tau) hx1 hG1 (show 1 ≤ x0 + 1 ∧ x0 + 1 ≤ 6 by omega) (show (Z1 56 6 ≤ Z1 56 7 ∧ Z1 56 7 ≤ Z1 56 8 ∧ (Z1 56 9 = 24 ∨ Z1 56 6 < Z1 56 7)) by first | omega | (simp only [eq14, eq15, eq18, eq20, eq23]; omega)) (show Z1 60 61 ≤ Z1 56 6 by first | omega | (simp only [eq14, eq15, eq18, eq20, eq23]; omega)) (show a0 ≤ Z1 60 61 by first | omega | (simp only [eq14, eq15, eq18, eq20, eq23]; omega)) (show 0 ≤ a0 by first | omega | (simp only [eq14, eq15, eq18, eq20, eq23]; omega)) (show 0 ≤ g0 by first | omega | (simp only [eq14, eq15, eq18, eq20, eq23]; omega)) rc12
      try rw [eq14] at b13
      try rw [eq15] at b13
      try rw [eq18] at b13
      try rw [eq20] at b13
      try rw [eq23] at b13
      obtain ⟨br13, b13⟩ := b13
      obtain ⟨bq13, b13⟩ := b13
      have b26 : 0 ≤ Z13 56 6 ∧ Z13 56 6 ≤ 900 := hG13.pr 56 6
      have b27 : 0 ≤ Z13 56 7 ∧ Z13 56 7 ≤ 900 := hG13.pr 56 7
      have b28 : 0 ≤ Z13 56 9 ∧ Z13 56 9 ≤ 100 := hG13.pr 56 9
      have b29 : 0 ≤ Z13 56 11 ∧ Z13 56 11 ≤ 4 := hG13.pr 56 11
      have b30 : 0 ≤ Z13 60 61 ∧ Z13 60 61 ≤ 900 := by have hq := GI_ex hG13 60 61; replace hq : f60 (61 % 962) (Z13 60 61) := hq; unfold f60 at hq; omega
      have b31 : (-2147483648) ≤ Z13 60 61 ∧ Z13 60 61 ≤ 2147483647 := hG13.pr 60 61
      have b32 : (-2147483648) ≤ Z13 60 0 ∧ Z13 60 0 ≤ 2147483647 := hG13.pr 60 0
      have b33 : 0 ≤ Z13 60 1 ∧ Z13 60 1 ≤ 18 := by have hq := GI_ex hG13 60 1; replace hq : f60 (1 % 962) (Z13 60 1) := hq; unfold f60 at hq; omega
      have b34 : (-2147483648) ≤ Z13 60 1 ∧ Z13 60 1 ≤ 2147483647 := hG13.pr 60 1
      have b35 : 0 ≤ Z13 60 2 ∧ Z13 60 2 ≤ 18 := by have hq := GI_ex hG13 60 2; replace hq : f60 (2 % 962) (Z13 60 2) := hq; unfold f60 at hq; omega
      have b36 : (-2147483648) ≤ Z13 60 2 ∧ Z13 60 2 ≤ 2147483647 := hG13.pr 60 2
      have r13 := QR_tr (d := 1) (c := 1) r1 bq13 (by decide) (by decide) (by decide)
      refine Jcv0 hx1 (show mx_Sn _ _ 13 (mx_callv 177 2 12 16) from sn_172 13) a56 s56 hc13 rfl rfl rfl ?_
      have gt6 := RM_is (k := 6) br13
      refine mx_J.step (sn_172 16) (fun _ _ => rfl) ?_
      refine JcI (z := 6) (show mx_Sn _ _ 17 (mx_const (.int 6) 19) from sn_172 17) rfl ?_
      have eq38 : Z13 56 8 = Z 56 8 := ((hf13 56 8 rfl).trans (hf1 56 8 rfl))
      obtain ⟨z37, Z37, h37, hc37, hx37, hG37, hf37, b37⟩ := ct_165_56 (g0 := g0) (T := T) (N := N) (sg := trX T N (lvI T N (x0 + 1)) (gAd T N sg)) (d := d + 0) (l := l) (D := D) (b0 := b0) (ad := ad) (Hb := Hb) (tau := tau) hx13 hG13 (show 0 ≤ 6 ∧ 6 ≤ 100 by omega) (show (Z13 56 6 ≤ Z13 56 7 ∧ Z13 56 7 ≤ Z13 56 8 ∧ (Z13 56 9 = 24 ∨ Z13 56 6 < Z13 56 7)) by first | omega | (simp only [eq38]; omega)) (show ¬ 6 = 24 by first | omega | (simp only [eq38]; omega)) br13
      try rw [eq38] at b37
      obtain ⟨br37, b37⟩ := b37
      have b39 : 0 ≤ Z37 56 6 ∧ Z37 56 6 ≤ 900 := hG37.pr 56 6
      have b40 : 0 ≤ Z37 56 7 ∧ Z37 56 7 ≤ 900 := hG37.pr 56 7
      have b41 : 0 ≤ Z37 56 9 ∧ Z37 56 9 ≤ 100 := hG37.pr 56 9
      have r37 := QR_g (k := 0) (c2 := 1) r13 (fun e => (hf37 56 11 rfl).symm.trans e) (fun i => hf37 60 i rfl) (fun e => by omega) (by decide)
      have rk37 : z37 = 1 → QR Z Z37 a0 1 2 := fun ez => QR_g (k := 1) r13 (fun e => (hf37 56 11 rfl).symm.trans e) (fun i => hf37 60 i rfl) (fun e => by omega) (by decide)
      refine Jcv hx13 (show mx_Sn _ _ 19 (mx_callv 165 2 12 22) from sn_172 19) a56 s56 hc37 rfl rfl rfl ?_
      have c30 : ∀  (Z43 : xZ) (h43 : mx_H), (Z43 56 6 ≤ Z43 56 7 ∧ Z43 56 7 ≤ Z 56 8) → (Z43 56 9 = 24 ∨ Z43 56 6 < Z43 56 7) → (Z 56 6 ≤ Z43 56 6 ∧ Z 60 61 ≤ Z43 60 61 ∧ Z43 60 61 - Z 60 61 ≤ Z43 56 6 - Z 56 6) → (Z43 60 0 = Z 60 0 ∧ Z43 60 1 = Z 60 1 ∧ Z43 60 2 = Z 60 2) → QR Z Z43 a0 1 1 → RM g0 T N Z43 (gEx T N 6 (trX T N (lvI T N (x0 + 1)) (gAd T N sg))) → XH n s S Z43 h43 → GI n S Z43 → fr' [(56, 11), (56, 12)] Z37 Z43 → mx_J (tB l D b0 ad Hb tau) mt_172 (d + 7) 30 [some (.ref 56), some (xI x0)] [] h43 Post := by
        intro Z43 h43 f42_0 f42_1 f42_2 f42_3 f42_4 f42_5 hx43 hG43 hf43
        clear b1 b13 b37
        have eq44 : Z43 56 6 = Z37 56 6 := (hf43 56 6 rfl)
        have eq45 : Z43 56 7 = Z37 56 7 := (hf43 56 7 rfl)
        have eq46 : Z43 56 6 = Z37 56 6 := (hf43 56 6 rfl)
        have eq47 : Z43 56 7 = Z37 56 7 := (hf43 56 7 rfl)
        have eq48 : Z43 56 9 = Z37 56 9 := (hf43 56 9 rfl)
        have eq49 : Z43 56 6 = Z37 56 6 := (hf43 56 6 rfl)
        have eq50 : Z43 60 61 = Z13 60 61 := ((hf43 60 61 rfl).trans (hf37 60 61 rfl))
        have eq51 : Z43 60 0 = Z13 60 0 := ((hf43 60 0 rfl).trans (hf37 60 0 rfl))
        have eq52 : Z43 60 1 = Z13 60 1 := ((hf43 60 1 rfl).trans (hf37 60 1 rfl))
        have eq53 : Z43 60 2 = Z13 60 2 := ((hf43 60 2 rfl).trans (hf37 60 2 rfl))
        refine mx_J.step (sn_172 30) (fun _ _ => rfl) ?_
        refine mx_J.step (sn_172 31) (fun _ _ => rfl) ?_
        refine JcI (z := 1) (show mx_Sn _ _ 32 (mx_const (.int 1) 33) from sn_172 32) rfl ?_
        refine Jiadd (show mx_Sn _ _ 33 (mx_iadd 34) from sn_172 33) ?_
        have eq55 : Z43 56 6 = Z37 56 6 := (hf43 56 6 rfl)
        have eq56 : Z43 56 7 = Z37 56 7 := (hf43 56 7 rfl)
        have eq57 : Z43 56 8 = Z 56 8 := ((hf43 56 8 rfl).trans ((hf37 56 8 rfl).trans ((hf13 56 8 rfl).trans (hf1 56 8 rfl))))
        have eq58 : Z43 56 9 = Z37 56 9 := (hf43 56 9 rfl)
        have b59 : 0 ≤ Z43 56 11 ∧ Z43 56 11 ≤ 4 := hG43.pr 56 11
        have eq60 : Z43 60 61 = Z13 60 61 := ((hf43 60 61 rfl).trans (hf37 60 61 rfl))
        have eq61 : Z43 60 0 = Z13 60 0 := ((hf43 60 0 rfl).trans (hf37 60 0 rfl))
        have eq62 : Z43 60 1 = Z13 60 1 := ((hf43 60 1 rfl).trans (hf37 60 1 rfl))
        have eq63 : Z43 60 2 = Z13 60 2 := ((hf43 60 2 rfl).trans (hf37 60 2 rfl))
        obtain ⟨Z54, h54, hc54, hx54, hG54, hf54, b54⟩ := riR_174 IH (by omega) (hd := by omega) (a0 := a0) (g0 := g0) (T := T) (N := N) (sg := gEx T N 6 (trX T N (lvI T N (x0 + 1)) (gAd T N sg))) (d := d + 7) (l := l) (D := D) (b0 := b0) (ad := ad) (Hb := Hb) (tau := tau) hx43 hG43 (show 1 ≤ x0 + 1 ∧ x0 + 1 ≤ 6 by omega) (show (Z43 56 6 ≤ Z43 56 7 ∧ Z43 56 7 ≤ Z43 56 8 ∧ (Z43 56 9 = 24 ∨ Z43 56 6 < Z43 56 7)) by first | omega | (simp only [eq55, eq56, eq57, eq58, eq60, eq61, eq62, eq63]; omega)) (show Z43 60 61 ≤ Z43 56 6 by first | omega | (simp only [eq55, eq56, eq57, eq58, eq60, eq61, eq62, eq63]; omega)) (show a0 ≤ Z43 60 61 by first | omega | (simp only [eq55, eq56, eq57, eq58, eq60, eq61, eq62, eq63]; omega)) (show 0 ≤ a0 by first | omega | (simp only [eq55, eq56, eq57, eq58, eq60, eq61, eq62, eq63]; omega)) (show 0 ≤ g0 by first | omega | (simp only [eq55, eq56, eq57, eq58, eq60, eq61, eq62, eq63]; omega)) f42_5
        try rw [eq55] at b54
        try rw [eq56] at b54
        try rw [eq57] at b54
        try rw [eq58] at b54
        try rw [eq60] at b54
        try rw [eq61] at b54
        try rw [eq62] at b54
        try rw [eq63] at b54
        obtain ⟨br54, b54⟩ := b54
        obtain ⟨bq54, b54⟩ := b54
        have b64 : 0 ≤ Z54 56 6 ∧ Z54 56 6 ≤ 900 := hG54.pr 56 6
        have b65 : 0 ≤ Z54 56 7 ∧ Z54 56 7 ≤ 900 := hG54.pr 56 7
        have b66 : 0 ≤ Z54 56 9 ∧ Z54 56 9 ≤ 100 := hG54.pr 56 9
        have b67 : 0 ≤ Z54 56 11 ∧ Z54 56 11 ≤ 4 := hG54.pr 56 11
        have b68 : 0 ≤ Z54 60 61 ∧ Z54 60 61 ≤ 900 := by have hq := GI_ex hG54 60 61; replace hq : f60 (61 % 962) (Z54 60 61) := hq; unfold f60 at hq; omega
        have b69 : (-2147483648) ≤ Z54 60 61 ∧ Z54 60 61 ≤ 2147483647 := hG54.pr 60 61
        have b70 : (-2147483648) ≤ Z54 60 0 ∧ Z54 60 0 ≤ 2147483647 := hG54.pr 60 0
        have b71 : 0 ≤ Z54 60 1 ∧ Z54 60 1 ≤ 18 := by have hq := GI_ex hG54 60 1; replace hq : f60 (1 % 962) (Z54 60 1) := hq; unfold f60 at hq; omega
        have b72 : (-2147483648) ≤ Z54 60 1 ∧ Z54 60 1 ≤ 2147483647 := hG54.pr 60 1
        have b73 : 0 ≤ Z54 60 2 ∧ Z54 60 2 ≤ 18 := by have hq := GI_ex hG54 60 2; replace hq : f60 (2 % 962) (Z54 60 2) := hq; unfold f60 at hq; omega
        have b74 : (-2147483648) ≤ Z54 60 2 ∧ Z54 60 2 ≤ 2147483647 := hG54.pr 60 2
        have r54 := QR_tr (d := 2) (c := 1) f42_4 bq54 (by decide) (by decide) (by decide)
        refine Jcv0 hx43 (show mx_Sn _ _ 34 (mx_callv 174 2 12 37) from sn_172 34) a56 s56 hc54 rfl rfl rfl ?_
        have gt7 := RM_is (k := 7) br54
        refine mx_J.step (sn_172 37) (fun _ _ => rfl) ?_
        refine JcI (z := 7) (show mx_Sn _ _ 38 (mx_const (.int 7) 40) from sn_172 38) rfl ?_
        have eq76 : Z54 56 8 = Z 56 8 := ((hf54 56 8 rfl).trans ((hf43 56 8 rfl).trans ((hf37 56 8 rfl).trans ((hf13 56 8 rfl).trans (hf1 56 8 rfl)))))
        obtain ⟨z75, Z75, h75, hc75, hx75, hG75, hf75, b75⟩ := ct_165_56 (g0 := g0) (T := T) (N := N) (sg := smX T N (lvI T N (x0 + 1)) (gEx T N 6 (trX T N (lvI T N (x0 + 1)) (gAd T N sg)))) (d := d + 0) (l := l) (D := D) (b0 := b0) (ad := ad) (Hb := Hb) (tau := tau) hx54 hG54 (show 0 ≤ 7 ∧ 7 ≤ 100 by omega) (show (Z54 56 6 ≤ Z54 56 7 ∧ Z54 56 7 ≤ Z54 56 8 ∧ (Z54 56 9 = 24 ∨ Z54 56 6 < Z54 56 7)) by first | omega | (simp only [eq76]; omega)) (show ¬ 7 = 24 by first | omega | (simp only [eq76]; omega)) br54
        try rw [eq76] at b75
        obtain ⟨br75, b75⟩ := b75
        have b77 : 0 ≤ Z75 56 6 ∧ Z75 56 6 ≤ 900 := hG75.pr 56 6
        have b78 : 0 ≤ Z75 56 7 ∧ Z75 56 7 ≤ 900 := hG75.pr 56 7
        have b79 : 0 ≤ Z75 56 9 ∧ Z75 56 9 ≤ 100 := hG75.pr 56 9
        have r75 := QR_g (k := 0) (c2 := 1) r54 (fun e => (hf75 56 11 rfl).symm.trans e) (fun i => hf75 60 i rfl) (fun e => by omega) (by decide)
        have rk75 : z75 = 1 → QR Z Z75 a0 2 2 := fun ez => QR_g (k := 1) r54 (fun e => (hf75 56 11 rfl).symm.trans e) (fun i => hf75 60 i rfl) (fun e => by omega) (by decide)
        refine Jcv hx54 (show mx_Sn _ _ 40 (mx_callv 165 2 12 43) from sn_172 40) a56 s56 hc75 rfl rfl rfl ?_
        have c51 : ∀  (Z81 : xZ) (h81 : mx_H), (Z81 56 6 ≤ Z81 56 7 ∧ Z81 56 7 ≤ Z 56 8) → (Z81 56 9 = 24 ∨ Z81 56 6 < Z81 56 7) → (Z 56 6 ≤ Z81 56 6 ∧ Z 60 61 ≤ Z81 60 61 ∧ Z81 60 61 - Z 60 61 ≤ Z81 56 6 - Z 56 6) → (Z81 60 0 = Z 60 0 ∧ Z81 60 1 = Z 60 1 ∧ Z81 60 2 = Z 60 2) → QR Z Z81 a0 2 1 → RM g0 T N Z81 (gEx T N 7 (smX T N (lvI T N (x0 + 1)) (gEx T N 6 (trX T N (lvI T N (x0 + 1)) (gAd T N sg))))) → XH n s S Z81 h81 → GI n S Z81 → fr' [(56, 11), (56, 12)] Z75 Z81 → mx_J (tB l D b0 ad Hb tau) mt_172 (d + 7) 51 [some (.ref 56), some (xI x0)] [] h81 Post := by
          intro Z81 h81 f80_0 f80_1 f80_2 f80_3 f80_4 f80_5 hx81 hG81 hf81
          clear b54 b75
          have eq82 : Z81 56 6 = Z75 56 6 := (hf81 56 6 rfl)
          have eq83 : Z81 56 7 = Z75 56 7 := (hf81 56 7 rfl)
          have eq84 : Z81 56 6 = Z75 56 6 := (hf81 56 6 rfl)
          have eq85 : Z81 56 7 = Z75 56 7 := (hf81 56 7 rfl)
          have eq86 : Z81 56 9 = Z75 56 9 := (hf81 56 9 rfl)
          have eq87 : Z81 56 6 = Z75 56 6 := (hf81 56 6 rfl)
          have eq88 : Z81 60 61 = Z54 60 61 := ((hf81 60 61 rfl).trans (hf75 60 61 rfl))
          have eq89 : Z81 60 0 = Z54 60 0 := ((hf81 60 0 rfl).trans (hf75 60 0 rfl))
          have eq90 : Z81 60 1 = Z54 60 1 := ((hf81 60 1 rfl).trans (hf75 60 1 rfl))
          have eq91 : Z81 60 2 = Z54 60 2 := ((hf81 60 2 rfl).trans (hf75 60 2 rfl))
          refine mx_J.step (sn_172 51) (fun _ _ => rfl) ?_
          refine mx_J.step (sn_172 52) (fun _ _ => rfl) ?_
          refine JcI (z := 1) (show mx_Sn _ _ 53 (mx_const (.int 1) 54) from sn_172 53) rfl ?_
          refine Jiadd (show mx_Sn _ _ 54 (mx_iadd 55) from sn_172 54) ?_
          have eq93 : Z81 56 6 = Z75 56 6 := (hf81 56 6 rfl)
          have eq94 : Z81 56 7 = Z75 56 7 := (hf81 56 7 rfl)
          have eq95 : Z81 56 8 = Z 56 8 := ((hf81 56 8 rfl).trans ((hf75 56 8 rfl).trans ((hf54 56 8 rfl).trans ((hf43 56 8 rfl).trans ((hf37 56 8 rfl).trans ((hf13 56 8 rfl).trans (hf1 56 8 rfl)))))))
          have eq96 : Z81 56 9 = Z75 56 9 := (hf81 56 9 rfl)
          have b97 : 0 ≤ Z81 56 11 ∧ Z81 56 11 ≤ 4 := hG81.pr 56 11
          have eq98 : Z81 60 61 = Z54 60 61 := ((hf81 60 61 rfl).trans (hf75 60 61 rfl))
          have eq99 : Z81 60 0 = Z54 60 0 := ((hf81 60 0 rfl).trans (hf75 60 0 rfl))
          have eq100 : Z81 60 1 = Z54 60 1 := ((hf81 60 1 rfl).trans (hf75 60 1 rfl))
          have eq101 : Z81 60 2 = Z54 60 2 := ((hf81 60 2 rfl).trans (hf75 60 2 rfl))
          obtain ⟨Z92, h92, hc92, hx92, hG92, hf92, b92⟩ := riR_174 IH (by omega) (hd := by omega) (a0 := a0) (g0 := g0) (T := T) (N := N) (sg := gEx T N 7 (smX T N (lvI T N (x0 + 1)) (gEx T N 6 (trX T N (lvI T N (x0 + 1)) (gAd T N sg))))) (d := d + 7) (l := l) (D := D) (b0 := b0) (ad := ad) (Hb := Hb) (tau := tau) hx81 hG81 (show 1 ≤ x0 + 1 ∧ x0 + 1 ≤ 6 by omega) (show (Z81 56 6 ≤ Z81 56 7 ∧ Z81 56 7 ≤ Z81 56 8 ∧ (Z81 56 9 = 24 ∨ Z81 56 6 < Z81 56 7)) by first | omega | (simp only [eq93, eq94, eq95, eq96, eq98, eq99, eq100, eq101]; omega)) (show Z81 60 61 ≤ Z81 56 6 by first | omega | (simp only [eq93, eq94, eq95, eq96, eq98, eq99, eq100, eq101]; omega)) (show a0 ≤ Z81 60 61 by first | omega | (simp only [eq93, eq94, eq95, eq96, eq98, eq99, eq100, eq101]; omega)) (show 0 ≤ a0 by first | omega | (simp only [eq93, eq94, eq95, eq96, eq98, eq99, eq100, eq101]; omega)) (show 0 ≤ g0 by first | omega | (simp only [eq93, eq94, eq95, eq96, eq98, eq99, eq100, eq101]; omega)) f80_5
          try rw [eq93] at b92
          try rw [eq94] at b92
          try rw [eq95] at b92
          try rw [eq96] at b92
          try rw [eq98] at b92
          try rw [eq99] at b92
          try rw [eq100] at b92
          try rw [eq101] at b92
          obtain ⟨br92, b92⟩ := b92
          obtain ⟨bq92, b92⟩ := b92
          have b102 : 0 ≤ Z92 56 6 ∧ Z92 56 6 ≤ 900 := hG92.pr 56 6
          have b103 : 0 ≤ Z92 56 7 ∧ Z92 56 7 ≤ 900 := hG92.pr 56 7
          have b104 : 0 ≤ Z92 56 9 ∧ Z92 56 9 ≤ 100 := hG92.pr 56 9
          have b105 : 0 ≤ Z92 56 11 ∧ Z92 56 11 ≤ 4 := hG92.pr 56 11
          have b106 : 0 ≤ Z92 60 61 ∧ Z92 60 61 ≤ 900 := by have hq := GI_ex hG92 60 61; replace hq : f60 (61 % 962) (Z92 60 61) := hq; unfold f60 at hq; omega
          have b107 : (-2147483648) ≤ Z92 60 61 ∧ Z92 60 61 ≤ 2147483647 := hG92.pr 60 61
          have b108 : (-2147483648) ≤ Z92 60 0 ∧ Z92 60 0 ≤ 2147483647 := hG92.pr 60 0
          have b109 : 0 ≤ Z92 60 1 ∧ Z92 60 1 ≤ 18 := by have hq := GI_ex hG92 60 1; replace hq : f60 (1 % 962) (Z92 60 1) := hq; unfold f60 at hq; omega
          have b110 : (-2147483648) ≤ Z92 60 1 ∧ Z92 60 1 ≤ 2147483647 := hG92.pr 60 1
          have b111 : 0 ≤ Z92 60 2 ∧ Z92 60 2 ≤ 18 := by have hq := GI_ex hG92 60 2; replace hq : f60 (2 % 962) (Z92 60 2) := hq; unfold f60 at hq; omega
          have b112 : (-2147483648) ≤ Z92 60 2 ∧ Z92 60 2 ≤ 2147483647 := hG92.pr 60 2
          have r92 := QR_tr (d := 3) (c := 1) f80_4 bq92 (by decide) (by decide) (by decide)
          refine Jcv0 hx81 (show mx_Sn _ _ 55 (mx_callv 174 2 12 58) from sn_172 55) a56 s56 hc92 rfl rfl rfl ?_
          have gt8 := RM_is (k := 8) br92
          refine mx_J.step (sn_172 58) (fun _ _ => rfl) ?_
          refine JcI (z := 8) (show mx_Sn _ _ 59 (mx_const (.int 8) 61) from sn_172 59) rfl ?_
          have eq114 : Z92 56 8 = Z 56 8 := ((hf92 56 8 rfl).trans ((hf81 56 8 rfl).trans ((hf75 56 8 rfl).trans ((hf54 56 8 rfl).trans ((hf43 56 8 rfl).trans ((hf37 56 8 rfl).trans ((hf13 56 8 rfl).trans (hf1 56 8 rfl))))))))
          obtain ⟨z113, Z113, h113, hc113, hx113, hG113, hf113, b113⟩ := ct_165_56 (g0 := g0) (T := T) (N := N) (sg := smX T N (lvI T N (x0 + 1)) (gEx T N 7 (smX T N (lvI T N (x0 + 1)) (gEx T N 6 (trX T N (lvI T N (x0 + 1)) (gAd T N sg)))))) (d := d + 0) (l := l) (D := D) (b0 := b0) (ad := ad) (Hb := Hb) (tau := tau) hx92 hG92 (show 0 ≤ 8 ∧ 8 ≤ 100 by omega) (show (Z92 56 6 ≤ Z92 56 7 ∧ Z92 56 7 ≤ Z92 56 8 ∧ (Z92 56 9 = 24 ∨ Z92 56 6 < Z92 56 7)) by first | omega | (simp only [eq114]; omega)) (show ¬ 8 = 24 by first | omega | (simp only [eq114]; omega)) br92
          try rw [eq114] at b113
          obtain ⟨br113, b113⟩ := b113
          have b115 : 0 ≤ Z113 56 6 ∧ Z113 56 6 ≤ 900 := hG113.pr 56 6
          have b116 : 0 ≤ Z113 56 7 ∧ Z113 56 7 ≤ 900 := hG113.pr 56 7
          have b117 : 0 ≤ Z113 56 9 ∧ Z113 56 9 ≤ 100 := hG113.pr 56 9
          have r113 := QR_g (k := 0) (c2 := 1) r92 (fun e => (hf113 56 11 rfl).symm.trans e) (fun i => hf113 60 i rfl) (fun e => by omega) (by decide)
          have rk113 : z113 = 1 → QR Z Z113 a0 3 2 := fun ez => QR_g (k := 1) r92 (fun e => (hf113 56 11 rfl).symm.trans e) (fun i => hf113 60 i rfl) (fun e => by omega) (by decide)
          refine Jcv hx92 (show mx_Sn _ _ 61 (mx_callv 165 2 12 64) from sn_172 61) a56 s56 hc113 rfl rfl rfl ?_
          have c72 : ∀  (Z119 : xZ) (h119 : mx_H), (Z119 56 6 ≤ Z119 56 7 ∧ Z119 56 7 ≤ Z 56 8) → (Z119 56 9 = 24 ∨ Z119 56 6 < Z119 56 7) → (Z 56 6 ≤ Z119 56 6 ∧ Z 60 61 ≤ Z119 60 61 ∧ Z119 60 61 - Z 60 61 ≤ Z119 56 6 - Z 56 6) → (Z119 60 0 = Z 60 0 ∧ Z119 60 1 = Z 60 1 ∧ Z119 60 2 = Z 60 2) → QR Z Z119 a0 3 1 → RM g0 T N Z119 (gEx T N 8 (smX T N (lvI T N (x0 + 1)) (gEx T N 7 (smX T N (lvI T N (x0 + 1)) (gEx T N 6 (trX T N (lvI T N (x0 + 1)) (gAd T N sg))))))) → XH n s S Z119 h119 → GI n S Z119 → fr' [(56, 11), (56, 12)] Z113 Z119 → mx_J (tB l D b0 ad Hb tau) mt_172 (d + 7) 72 [some (.ref 56), some (xI x0)] [] h119 Post := by
            intro Z119 h119 f118_0 f118_1 f118_2 f118_3 f118_4 f118_5 hx119 hG119 hf119
            clear b92 b113
            have eq120 : Z119 56 6 = Z113 56 6 := (hf119 56 6 rfl)
            have eq121 : Z119 56 7 = Z113 56 7 := (hf119 56 7 rfl)
            have eq122 : Z119 56 6 = Z113 56 6 := (hf119 56 6 rfl)
            have eq123 : Z119 56 7 = Z113 56 7 := (hf119 56 7 rfl)
            have eq124 : Z119 56 9 = Z113 56 9 := (hf119 56 9 rfl)
            have eq125 : Z119 56 6 = Z113 56 6 := (hf119 56 6 rfl)
            have eq126 : Z119 60 61 = Z92 60 61 := ((hf119 60 61 rfl).trans (hf113 60 61 rfl))
            have eq127 : Z119 60 0 = Z92 60 0 := ((hf119 60 0 rfl).trans (hf113 60 0 rfl))
            have eq128 : Z119 60 1 = Z92 60 1 := ((hf119 60 1 rfl).trans (hf113 60 1 rfl))
            have eq129 : Z119 60 2 = Z92 60 2 := ((hf119 60 2 rfl).trans (hf113 60 2 rfl))
            refine mx_J.step (sn_172 72) (fun _ _ => rfl) ?_
            refine JcI (z := 3009) (show mx_Sn _ _ 73 (mx_const (.int 3009) 76) from sn_172 73) rfl ?_
            have eq131 : Z119 56 8 = Z 56 8 := ((hf119 56 8 rfl).trans ((hf113 56 8 rfl).trans ((hf92 56 8 rfl).trans ((hf81 56 8 rfl).trans ((hf75 56 8 rfl).trans ((hf54 56 8 rfl).trans ((hf43 56 8 rfl).trans ((hf37 56 8 rfl).trans ((hf13 56 8 rfl).trans (hf1 56 8 rfl))))))))))
            have b132 : 0 ≤ Z119 56 11 ∧ Z119 56 11 ≤ 4 := hG119.pr 56 11
            have eq133 : Z119 60 61 = Z92 60 61 := ((hf119 60 61 rfl).trans (hf113 60 61 rfl))
            have eq134 : DP Z119 a0 = DP Z92 a0 := ((DP_c (fun i => hf119 60 i rfl)).trans (DP_c (fun i => hf113 60 i rfl)))
            have eq135 : MW Z119 a0 = MW Z92 a0 := ((MW_c (fun i => hf119 60 i rfl)).trans (MW_c (fun i => hf113 60 i rfl)))
            have eq136 : WFF Z119  = WFF Z92 := ((WFF_c (fun i => hf119 60 i rfl)).trans (WFF_c (fun i => hf113 60 i rfl)))
            have eq137 : Z119 60 0 = Z92 60 0 := ((hf119 60 0 rfl).trans (hf113 60 0 rfl))
            have eq138 : Z119 60 1 = Z92 60 1 := ((hf119 60 1 rfl).trans (hf113 60 1 rfl))
            have eq139 : Z119 60 2 = Z92 60 2 := ((hf119 60 2 rfl).trans (hf113 60 2 rfl))
            have rp130 := QR_n f118_4
            obtain ⟨Z130, h130, hc130, hx130, hG130, hf130, b130⟩ := ct_169_56_3009 (a0 := a0) (g0 := g0) (T := T) (N := N) (sg := gEx T N 8 (smX T N (lvI T N (x0 + 1)) (gEx T N 7 (smX T N (lvI T N (x0 + 1)) (gEx T N 6 (trX T N (lvI T N (x0 + 1)) (gAd T N sg))))))) (d := d + 6) (l := l) (D := D) (b0 := b0) (ad := ad) (Hb := Hb) (tau := tau) hx119 hG119  (show (Z119 56 11 = 0 → Z119 60 61 ≤ 899) by first | omega | (simp only [eq131, eq133, eq137, eq138, eq139]; omega)) (show a0 ≤ Z119 60 61 by first | omega | (simp only [eq131, eq133, eq137, eq138, eq139]; omega)) (show 0 ≤ a0 by first | omega | (simp only [eq131, eq133, eq137, eq138, eq139]; omega)) (show 0 ≤ g0 by first | omega | (simp only [eq131, eq133, eq137, eq138, eq139]; omega)) f118_5
            try rw [eq131] at b130
            try rw [eq133] at b130
            try rw [eq137] at b130
            try rw [eq138] at b130
            try rw [eq139] at b130
            obtain ⟨br130, b130⟩ := b130
            obtain ⟨bq130, b130⟩ := b130
            have b140 : 0 ≤ Z130 60 61 ∧ Z130 60 61 ≤ 900 := by have hq := GI_ex hG130 60 61; replace hq : f60 (61 % 962) (Z130 60 61) := hq; unfold f60 at hq; omega
            have b141 : (-2147483648) ≤ Z130 60 61 ∧ Z130 60 61 ≤ 2147483647 := hG130.pr 60 61
            have b142 : (-2147483648) ≤ Z130 60 0 ∧ Z130 60 0 ≤ 2147483647 := hG130.pr 60 0
            have b143 : 0 ≤ Z130 60 1 ∧ Z130 60 1 ≤ 18 := by have hq := GI_ex hG130 60 1; replace hq : f60 (1 % 962) (Z130 60 1) := hq; unfold f60 at hq; omega
            have b144 : (-2147483648) ≤ Z130 60 1 ∧ Z130 60 1 ≤ 2147483647 := hG130.pr 60 1
            have b145 : 0 ≤ Z130 60 2 ∧ Z130 60 2 ≤ 18 := by have hq := GI_ex hG130 60 2; replace hq : f60 (2 % 962) (Z130 60 2) := hq; unfold f60 at hq; omega
            have b146 : (-2147483648) ≤ Z130 60 2 ∧ Z130 60 2 ≤ 2147483647 := hG130.pr 60 2
            have rn130 := QR_n f118_4
            have r130 := QR_c (d2 := 1) (c2 := 0) f118_4 bq130 (by omega) (hf130 56 11 rfl) (hf130 56 6 rfl) (by decide) (by decide) (by decide)
            refine Jcv0 hx119 (show mx_Sn _ _ 76 (mx_callv 169 2 12 79) from sn_172 76) a56 s56 hc130 rfl rfl rfl ?_
            have eq147 : Z130 56 6 = Z113 56 6 := ((hf130 56 6 rfl).trans (hf119 56 6 rfl))
            have eq148 : Z130 56 7 = Z113 56 7 := ((hf130 56 7 rfl).trans (hf119 56 7 rfl))
            have eq149 : Z130 56 9 = Z113 56 9 := ((hf130 56 9 rfl).trans (hf119 56 9 rfl))
            have eq150 : Z130 56 11 = Z119 56 11 := (hf130 56 11 rfl)
            have eq151 : Z130 56 6 = Z113 56 6 := ((hf130 56 6 rfl).trans (hf119 56 6 rfl))
            have eq152 : Z130 56 7 = Z113 56 7 := ((hf130 56 7 rfl).trans (hf119 56 7 rfl))
            have eq153 : Z130 56 8 = Z 56 8 := ((hf130 56 8 rfl).trans ((hf119 56 8 rfl).trans ((hf113 56 8 rfl).trans ((hf92 56 8 rfl).trans ((hf81 56 8 rfl).trans ((hf75 56 8 rfl).trans ((hf54 56 8 rfl).trans ((hf43 56 8 rfl).trans ((hf37 56 8 rfl).trans ((hf13 56 8 rfl).trans (hf1 56 8 rfl)))))))))))
            have eq154 : Z130 56 9 = Z113 56 9 := ((hf130 56 9 rfl).trans (hf119 56 9 rfl))
            have eq155 : Z130 56 11 = Z119 56 11 := (hf130 56 11 rfl)
            exact mx_J.ret (sn_172 79) (fun _ _ => rfl) (hP Z130 h130 hx130 hG130 (fr_tr (M := [(56, 6), (56, 7), (56, 9), (56, 10), (56, 11), (56, 12), (60, (-1))]) (fr_tr (M := [(56, 6), (56, 7), (56, 9), (56, 10), (56, 11), (56, 12), (60, (-1))]) (fr_tr (M := [(56, 6), (56, 7), (56, 9), (56, 10), (56, 11), (56, 12), (60, (-1))]) (fr_tr (M := [(56, 6), (56, 7), (56, 9), (56, 10), (56, 11), (56, 12), (60, (-1))]) (fr_tr (M := [(56, 6), (56, 7), (56, 9), (56, 10), (56, 11), (56, 12), (60, (-1))]) (fr_tr (M := [(56, 6), (56, 7), (56, 9), (56, 10), (56, 11), (56, 12), (60, (-1))]) (fr_tr (M := [(56, 6), (56, 7), (56, 9), (56, 10), (56, 11), (56, 12), (60, (-1))]) (fr_tr (M := [(56, 6), (56, 7), (56, 9), (56, 10), (56, 11), (56, 12), (60, (-1))]) (fr_tr (M := [(56, 6), (56, 7), (56, 9), (56, 10), (56, 11), (56, 12), (60, (-1))]) (fr_tr (M := [(56, 6), (56, 7), (56, 9), (56, 10), (56, 11), (56, 12), (60, (-1))]) (fr_tr (M := [(56, 6), (56, 7), (56, 9), (56, 10), (56, 11), (56, 12), (60, (-1))]) fr_rf (hf1) (M1 := []) rfl rfl) (hf13) rfl rfl) (hf37) rfl rfl) (hf43) rfl rfl) (hf54) rfl rfl) (hf75) rfl rfl) (hf81) rfl rfl) (hf92) rfl rfl) (hf113) rfl rfl) (hf119) rfl rfl) (hf130) rfl rfl) ⟨(RM_e br130 (in_y hx5)), (QR_le r130 (by decide)), by omega⟩)
          refine Jif_ne (show mx_Sn _ _ 64 (mx_if_ne 72 67) from sn_172 64) (by omega) (fun q156 => ?_) (fun q156 => ?_)
          · skip
            have eq157 : Z113 60 61 = Z92 60 61 := (hf113 60 61 rfl)
            have eq158 : Z113 60 0 = Z92 60 0 := (hf113 60 0 rfl)
            have eq159 : Z113 60 1 = Z92 60 1 := (hf113 60 1 rfl)
            have eq160 : Z113 60 2 = Z92 60 2 := (hf113 60 2 rfl)
            exact c72 Z113 h113 (by omega) (by omega) (by omega) (by omega) (QR_le (rk113 (by omega)) (by decide)) (RM_e br113 (ee_y (gt8.mp (by omega)))) hx113 hG113 fr_rf
          · skip
            refine mx_J.step (sn_172 67) (fun _ _ => rfl) ?_
            refine JcI (z := 2) (show mx_Sn _ _ 68 (mx_const (.int 2) 69) from sn_172 68) rfl ?_
            have eq162 : Z113 56 11 = Z92 56 11 := (hf113 56 11 rfl)
            obtain ⟨Z161, h161, hc161, hx161, hG161, hf161, b161⟩ := ct_163_56 (g0 := g0) (T := T) (N := N) (sg := gEt T N 8 (smX T N (lvI T N (x0 + 1)) (gEx T N 7 (smX T N (lvI T N (x0 + 1)) (gEx T N 6 (trX T N (lvI T N (x0 + 1)) (gAd T N sg))))))) (d := d + 6) (l := l) (D := D) (b0 := b0) (ad := ad) (Hb := Hb) (tau := tau) hx113 hG113 (show 2 ≤ 2 ∧ 2 ≤ 4 by omega) br113
            try rw [eq162] at b161
            obtain ⟨br161, b161⟩ := b161
            have b163 : 0 ≤ Z161 56 11 ∧ Z161 56 11 ≤ 4 := hG161.pr 56 11
            have r161 : ¬ Z161 56 11 = 0 := by omega
            refine Jcv0 hx113 (show mx_Sn _ _ 69 (mx_callv 163 2 12 72) from sn_172 69) a56 s56 hc161 rfl rfl rfl ?_
            have eq164 : Z161 56 6 = Z113 56 6 := (hf161 56 6 rfl)
            have eq165 : Z161 56 7 = Z113 56 7 := (hf161 56 7 rfl)
            have eq166 : Z161 56 6 = Z113 56 6 := (hf161 56 6 rfl)
            have eq167 : Z161 56 7 = Z113 56 7 := (hf161 56 7 rfl)
            have eq168 : Z161 56 9 = Z113 56 9 := (hf161 56 9 rfl)
            have eq169 : Z161 56 6 = Z113 56 6 := (hf161 56 6 rfl)
            have eq170 : Z161 60 61 = Z92 60 61 := ((hf161 60 61 rfl).trans (hf113 60 61 rfl))
            have eq171 : Z161 60 0 = Z92 60 0 := ((hf161 60 0 rfl).trans (hf113 60 0 rfl))
            have eq172 : Z161 60 1 = Z92 60 1 := ((hf161 60 1 rfl).trans (hf113 60 1 rfl))
            have eq173 : Z161 60 2 = Z92 60 2 := ((hf161 60 2 rfl).trans (hf113 60 2 rfl))
            exact c72 Z161 h161 (by omega) (by omega) (by omega) (by omega) (QR_f r161) (RM_e br161 (ee_n (fun q => by have := gt8.mpr q; omega))) hx161 hG161 (fr_tr (M := [(56, 11), (56, 12)]) fr_rf (hf161) (M1 := []) rfl rfl)
        refine Jif_ne (show mx_Sn _ _ 43 (mx_if_ne 51 46) from sn_172 43) (by omega) (fun q174 => ?_) (fun q174 => ?_)
        · skip
          have eq175 : Z75 60 61 = Z54 60 61 := (hf75 60 61 rfl)
          have eq176 : Z75 60 0 = Z54 60 0 := (hf75 60 0 rfl)
          have eq177 : Z75 60 1 = Z54 60 1 := (hf75 60 1 rfl)
          have eq178 : Z75 60 2 = Z54 60 2 := (hf75 60 2 rfl)
          exact c51 Z75 h75 (by omega) (by omega) (by omega) (by omega) (QR_le (rk75 (by omega)) (by decide)) (RM_e br75 (ee_y (gt7.mp (by omega)))) hx75 hG75 fr_rf
        · skip
          refine mx_J.step (sn_172 46) (fun _ _ => rfl) ?_
          refine JcI (z := 2) (show mx_Sn _ _ 47 (mx_const (.int 2) 48) from sn_172 47) rfl ?_
          have eq180 : Z75 56 11 = Z54 56 11 := (hf75 56 11 rfl)
          obtain ⟨Z179, h179, hc179, hx179, hG179, hf179, b179⟩ := ct_163_56 (g0 := g0) (T := T) (N := N) (sg := gEt T N 7 (smX T N (lvI T N (x0 + 1)) (gEx T N 6 (trX T N (lvI T N (x0 + 1)) (gAd T N sg))))) (d := d + 6) (l := l) (D := D) (b0 := b0) (ad := ad) (Hb := Hb) (tau := tau) hx75 hG75 (show 2 ≤ 2 ∧ 2 ≤ 4 by omega) br75
          try rw [eq180] at b179
          obtain ⟨br179, b179⟩ := b179
          have b181 : 0 ≤ Z179 56 11 ∧ Z179 56 11 ≤ 4 := hG179.pr 56 11
          have r179 : ¬ Z179 56 11 = 0 := by omega
          refine Jcv0 hx75 (show mx_Sn _ _ 48 (mx_callv 163 2 12 51) from sn_172 48) a56 s56 hc179 rfl rfl rfl ?_
          have eq182 : Z179 56 6 = Z75 56 6 := (hf179 56 6 rfl)
          have eq183 : Z179 56 7 = Z75 56 7 := (hf179 56 7 rfl)
          have eq184 : Z179 56 6 = Z75 56 6 := (hf179 56 6 rfl)
          have eq185 : Z179 56 7 = Z75 56 7 := (hf179 56 7 rfl)
          have eq186 : Z179 56 9 = Z75 56 9 := (hf179 56 9 rfl)
          have eq187 : Z179 56 6 = Z75 56 6 := (hf179 56 6 rfl)
          have eq188 : Z179 60 61 = Z54 60 61 := ((hf179 60 61 rfl).trans (hf75 60 61 rfl))
          have eq189 : Z179 60 0 = Z54 60 0 := ((hf179 60 0 rfl).trans (hf75 60 0 rfl))
          have eq190 : Z179 60 1 = Z54 60 1 := ((hf179 60 1 rfl).trans (hf75 60 1 rfl))
          have eq191 : Z179 60 2 = Z54 60 2 := ((hf179 60 2 rfl).trans (hf75 60 2 rfl))
          exact c51 Z179 h179 (by omega) (by omega) (by omega) (by omega) (QR_f r179) (RM_e br179 (ee_n (fun q => by have := gt7.mpr q; omega))) hx179 hG179 (fr_tr (M := [(56, 11), (56, 12)]) fr_rf (hf179) (M1 := []) rfl rfl)
      refine Jif_ne (show mx_Sn _ _ 22 (mx_if_ne 30 25) from sn_172 22) (by omega) (fun q192 => ?_) (fun q192 => ?_)
      · skip
        have eq193 : Z37 60 61 = Z13 60 61 := (hf37 60 61 rfl)
        have eq194 : Z37 60 0 = Z13 60 0 := (hf37 60 0 rfl)
        have eq195 : Z37 60 1 = Z13 60 1 := (hf37 60 1 rfl)
        have eq196 : Z37 60 2 = Z13 60 2 := (hf37 60 2 rfl)
        exact c30 Z37 h37 (by omega) (by omega) (by omega) (by omega) (QR_le (rk37 (by omega)) (by decide)) (RM_e br37 (ee_y (gt6.mp (by omega)))) hx37 hG37 fr_rf
      · skip
        refine mx_J.step (sn_172 25) (fun _ _ => rfl) ?_
        refine JcI (z := 2) (show mx_Sn _ _ 26 (mx_const (.int 2) 27) from sn_172 26) rfl ?_
        have eq198 : Z37 56 11 = Z13 56 11 := (hf37 56 11 rfl)
        obtain ⟨Z197, h197, hc197, hx197, hG197, hf197, b197⟩ := ct_163_56 (g0 := g0) (T := T) (N := N) (sg := gEt T N 6 (trX T N (lvI T N (x0 + 1)) (gAd T N sg))) (d := d + 6) (l := l) (D := D) (b0 := b0) (ad := ad) (Hb := Hb) (tau := tau) hx37 hG37 (show 2 ≤ 2 ∧ 2 ≤ 4 by omega) br37
        try rw [eq198] at b197
        obtain ⟨br197, b197⟩ := b197
        have b199 : 0 ≤ Z197 56 11 ∧ Z197 56 11 ≤ 4 := hG197.pr 56 11
        have r197 : ¬ Z197 56 11 = 0 := by omega
        refine Jcv0 hx37 (show mx_Sn _ _ 27 (mx_callv 163 2 12 30) from sn_172 27) a56 s56 hc197 rfl rfl rfl ?_
        have eq200 : Z197 56 6 = Z37 56 6 := (hf197 56 6 rfl)
        have eq201 : Z197 56 7 = Z37 56 7 := (hf197 56 7 rfl)
        have eq202 : Z197 56 6 = Z37 56 6 := (hf197 56 6 rfl)
        have eq203 : Z197 56 7 = Z37 56 7 := (hf197 56 7 rfl)
        have eq204 : Z197 56 9 = Z37 56 9 := (hf197 56 9 rfl)
        have eq205 : Z197 56 6 = Z37 56 6 := (hf197 56 6 rfl)
        have eq206 : Z197 60 61 = Z13 60 61 := ((hf197 60 61 rfl).trans (hf37 60 61 rfl))
        have eq207 : Z197 60 0 = Z13 60 0 := ((hf197 60 0 rfl).trans (hf37 60 0 rfl))
        have eq208 : Z197 60 1 = Z13 60 1 := ((hf197 60 1 rfl).trans (hf37 60 1 rfl))
        have eq209 : Z197 60 2 = Z13 60 2 := ((hf197 60 2 rfl).trans (hf37 60 2 rfl))
        exact c30 Z197 h197 (by omega) (by omega) (by omega) (by omega) (QR_f r197) (RM_e br197 (ee_n (fun q => by have := gt6.mpr q; omega))) hx197 hG197 (fr_tr (M := [(56, 11), (56, 12)]) fr_rf (hf197) (M1 := []) rfl rfl)
    · skip
      have eq210 : Z1 60 61 = Z 60 61 := (hf1 60 61 rfl)
      have b211 : 0 ≤ Z 60 61 ∧ Z 60 61 ≤ 900 := by have hq := GI_ex hG 60 61; replace hq : f60 (61 % 962) (Z 60 61) := hq; unfold f60 at hq; omega
      have b212 : (-2147483648) ≤ Z 60 61 ∧ Z 60 61 ≤ 2147483647 := hG.pr 60 61
      have eq213 : Z1 60 0 = Z 60 0 := (hf1 60 0 rfl)
      have b214 : (-2147483648) ≤ Z 60 0 ∧ Z 60 0 ≤ 2147483647 := hG.pr 60 0
      have eq215 : Z1 60 1 = Z 60 1 := (hf1 60 1 rfl)
      have b216 : 0 ≤ Z 60 1 ∧ Z 60 1 ≤ 18 := by have hq := GI_ex hG 60 1; replace hq : f60 (1 % 962) (Z 60 1) := hq; unfold f60 at hq; omega
      have b217 : (-2147483648) ≤ Z 60 1 ∧ Z 60 1 ≤ 2147483647 := hG.pr 60 1
      have eq218 : Z1 60 2 = Z 60 2 := (hf1 60 2 rfl)
      have b219 : 0 ≤ Z 60 2 ∧ Z 60 2 ≤ 18 := by have hq := GI_ex hG 60 2; replace hq : f60 (2 % 962) (Z 60 2) := hq; unfold f60 at hq; omega
      have b220 : (-2147483648) ≤ Z 60 2 ∧ Z 60 2 ≤ 2147483647 := hG.pr 60 2
      have eq221 : Z1 56 8 = Z 56 8 := (hf1 56 8 rfl)
      have eq222 : Z1 60 61 = Z 60 61 := (hf1 60 61 rfl)
      have eq223 : Z1 60 0 = Z 60 0 := (hf1 60 0 rfl)
      have eq224 : Z1 60 1 = Z 60 1 := (hf1 60 1 rfl)
      have eq225 : Z1 60 2 = Z 60 2 := (hf1 60 2 rfl)
      exact mx_J.ret (sn_172 8) (fun _ _ => rfl) (hP Z1 h1 hx1 hG1 (fr_tr (M := [(56, 6), (56, 7), (56, 9), (56, 10), (56, 11), (56, 12), (60, (-1))]) fr_rf (hf1) (M1 := []) rfl rfl) ⟨(RM_e br1 ((in_n (by omega)).trans (gEn_n (by omega)).symm)), (QR_f (by omega)), by omega⟩)
theorem ct_172_56_s {l : Launch} {D : va_G} {b0 : Nat} {ad : Nat → Nat} {Hb : Heap} {tau : Nat → Int64} {d n s : Nat} {S : Nat → xS} {Z : xZ} {h : mx_H} {a0 : Int} {g0 : Int} {T : Int → Int} {N : Int} {sg : SS} (hx : XH n s S Z h) (hG : GI n S Z)  {x0 : Int} (p0 : 0 ≤ x0 ∧ x0 ≤ 6) (k0 : (Z 56 6 ≤ Z 56 7 ∧ Z 56 7 ≤ Z 56 8 ∧ (Z 56 9 = 24 ∨ Z 56 6 < Z 56 7))) (k1 : Z 60 61 ≤ Z 56 6) (k2 : a0 ≤ Z 60 61) (k3 : 0 ≤ a0) (k4 : 0 ≤ g0) (k5 : ¬ Z 56 9 = 24) (k6 : Z 56 11 = 0) (hr : RM g0 T N Z sg) {kk : Nat} (IH : RBnh l D b0 ad Hb tau kk x0) (hd : kk ≤ d) : ∃ (Z' : xZ) (h' : mx_H), mx_Ca (tB l D b0 ad Hb tau) (d + 8) 172 [.ref 56, xI x0] h (none, h') ∧ XH n s S Z' h' ∧ GI n S Z' ∧ fr' [(56, 6), (56, 7), (56, 9), (56, 10), (56, 11), (56, 12), (60, (-1))] Z Z' ∧ (RM g0 T N Z' (ifX T N (lvI T N x0) sg) ∧ QR Z Z' a0 1 0 ∧ ((Z' 56 6 ≤ Z' 56 7 ∧ Z' 56 7 ≤ Z 56 8 ∧ (Z' 56 9 = 24 ∨ Z' 56 6 < Z' 56 7)) ∧ Z' 60 0 = Z 60 0 ∧ Z' 60 1 = Z 60 1 ∧ Z' 60 2 = Z 60 2 ∧ Z 56 6 ≤ Z' 56 6 ∧ Z 60 61 ≤ Z' 60 61 ∧ Z' 60 61 - Z 60 61 ≤ Z' 56 6 - Z 56 6)) := by
  obtain ⟨r, hca, Z', h', e, q⟩ := Jmt (B := tB l D b0 ad Hb tau) (M := mt_172) (mi := 172) (as := [.ref 56, xI x0]) (d := d + 7) (ls := [some (.ref 56), some (xI x0)]) rfl rfl rfl rfl rfl rfl (cw_172_56_s (l := l) (D := D) (b0 := b0) (ad := ad) (Hb := Hb) (tau := tau) (d := d) (Post := fun r => ∃ (Z' : xZ) (h' : mx_H), r = (none, h') ∧ XH n s S Z' h' ∧ GI n S Z' ∧ fr' [(56, 6), (56, 7), (56, 9), (56, 10), (56, 11), (56, 12), (60, (-1))] Z Z' ∧ (RM g0 T N Z' (ifX T N (lvI T N x0) sg) ∧ QR Z Z' a0 1 0 ∧ ((Z' 56 6 ≤ Z' 56 7 ∧ Z' 56 7 ≤ Z 56 8 ∧ (Z' 56 9 = 24 ∨ Z' 56 6 < Z' 56 7)) ∧ Z' 60 0 = Z 60 0 ∧ Z' 60 1 = Z 60 1 ∧ Z' 60 2 = Z 60 2 ∧ Z 56 6 ≤ Z' 56 6 ∧ Z 60 61 ≤ Z' 60 61 ∧ Z' 60 61 - Z 60 61 ≤ Z' 56 6 - Z 56 6))) hx hG p0 k0 k1 k2 k3 k4 k5 k6 hr IH hd (fun Z' h' q1 q2 q3 q4 => ⟨Z', h', rfl, q1, q2, q3, q4⟩))
  subst e; exact ⟨Z', h', hca, q⟩
