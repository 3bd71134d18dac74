set_option maxRecDepth 100000 in
theorem cw_53_3_k {l : Launch} {D : va_G} {b0 : Nat} {ad : Nat → Nat} {Hb : Heap} {tau : Nat → Int64} {d n s : Nat} {S : Nat → xS} {Z : xZ} {h : mx_H} {Post : mx_R → Prop} (hx : XH n s S Z h) (hG : GI n S Z)  {x0 : Int} (p0 : 40 ≤ x0 ∧ x0 ≤ 320) (k0 : Z 3 0 = 2) (k1 : (Z 3 3 ≤ Z 3 2 ∧ Z 3 2 ≤ Z 3 1 ∧ (Z 3 4 = 0 ∨ Z 3 4 = 3 ∨ Z 3 3 < Z 3 2) ∧ (Z 3 4 = 3 ∨ Z 3 14 = 0))) (hP : ∀ (Z' : xZ) (h' : mx_H), XH n s S Z' h' → GI n S Z' → fr' [(3, 2), (3, 3), (3, 4), (3, 5), (3, 14), (3, 15)] Z Z' → ((Z' 3 3 ≤ Z' 3 2 ∧ Z' 3 2 ≤ Z 3 1 ∧ (Z' 3 4 = 0 ∨ Z' 3 4 = 3 ∨ Z' 3 3 < Z' 3 2) ∧ (Z' 3 4 = 3 ∨ Z' 3 14 = 0)) ∧ Z 3 3 ≤ Z' 3 3 ∧ (Z' 3 4 = 3 ∨ Z 3 3 + 1 ≤ Z' 3 3) ∧ (Z 3 4 = 3 → Z' 3 4 = 3)) → Post (none, h')) : mx_J (tB l D b0 ad Hb tau) mt_53 (d + 6) 0 [some (.ref 3), some (xI x0)] [] h Post := by
    have a3 : 3 < n := lt83 (GI_n hG) rfl
    have s3 : S 3 = .inl (7, [2, 0, 0, 0, 0, 0, 2, 0, 2, 2, 0, 2, 0, 0, 0, 0]) := GI_s hG 3 rfl
    refine mx_J.step (sn_53 0) (fun _ _ => rfl) ?_
    have b2 : 0 ≤ Z 3 4 ∧ Z 3 4 ≤ 400 := hG.pr 3 4
    refine JgetI (g := 4) (z := Z 3 4) hx (show mx_Sn _ _ 1 (mx_getf 7 4 4) from sn_53 1) a3 s3 rfl rfl rfl ?_
    refine mx_J.step (sn_53 4) (fun _ _ => rfl) ?_
    have c20 : ∀  (Z4 : xZ) (h4 : mx_H), ((Z4 3 3 ≤ Z4 3 2 ∧ Z4 3 2 ≤ Z 3 1 ∧ (Z4 3 4 = 0 ∨ Z4 3 4 = 3 ∨ Z4 3 3 < Z4 3 2) ∧ (Z4 3 4 = 3 ∨ Z4 3 14 = 0)) ∧ Z 3 3 ≤ Z4 3 3 ∧ (Z4 3 4 = 3 ∨ Z 3 3 + 1 ≤ Z4 3 3) ∧ (Z 3 4 = 3 → Z4 3 4 = 3)) → XH n s S Z4 h4 → GI n S Z4 → fr' [(3, 2), (3, 3), (3, 4), (3, 5), (3, 14), (3, 15)] Z Z4 → mx_J (tB l D b0 ad Hb tau) mt_53 (d + 6) 20 [some (.ref 3), some (xI x0)] [] h4 Post := by
      intro Z4 h4 f3_0 hx4 hG4 hf4
      have b5 : 0 ≤ Z4 3 2 ∧ Z4 3 2 ≤ 900 := hG4.pr 3 2
      have b6 : 0 ≤ Z4 3 3 ∧ Z4 3 3 ≤ 900 := hG4.pr 3 3
      have b7 : 0 ≤ Z4 3 4 ∧ Z4 3 4 ≤ 400 := hG4.pr 3 4
      have eq8 : Z4 3 7 = Z 3 7 := (hf4 3 7 rfl)
      have b9 : 0 ≤ Z 3 7 ∧ Z 3 7 ≤ 900 := hG.pr 3 7
      have b10 : 0 ≤ Z4 3 14 ∧ Z4 3 14 ≤ 4 := hG4.pr 3 14
      have b11 : 0 ≤ Z4 3 2 ∧ Z4 3 2 ≤ 900 := hG4.pr 3 2
      have b12 : 0 ≤ Z4 3 3 ∧ Z4 3 3 ≤ 900 := hG4.pr 3 3
      have b13 : 0 ≤ Z4 3 4 ∧ Z4 3 4 ≤ 400 := hG4.pr 3 4
      have eq14 : Z4 3 7 = Z 3 7 := (hf4 3 7 rfl)
      have b15 : 0 ≤ Z 3 7 ∧ Z 3 7 ≤ 900 := hG.pr 3 7
      have b16 : 0 ≤ Z4 3 14 ∧ Z4 3 14 ≤ 4 := hG4.pr 3 14
      have eq17 : Z4 3 0 = Z 3 0 := (hf4 3 0 rfl)
      have b18 : 2 ≤ Z 3 0 ∧ Z 3 0 ≤ 4 := hG.pr 3 0
      have eq19 : Z4 3 1 = Z 3 1 := (hf4 3 1 rfl)
      have b20 : 0 ≤ Z 3 1 ∧ Z 3 1 ≤ 900 := hG.pr 3 1
      have b21 : 0 ≤ Z4 3 2 ∧ Z4 3 2 ≤ 900 := hG4.pr 3 2
      have b22 : 0 ≤ Z4 3 3 ∧ Z4 3 3 ≤ 900 := hG4.pr 3 3
      have b23 : 0 ≤ Z4 3 4 ∧ Z4 3 4 ≤ 400 := hG4.pr 3 4
      have eq24 : Z4 3 7 = Z 3 7 := (hf4 3 7 rfl)
      have b25 : 0 ≤ Z 3 7 ∧ Z 3 7 ≤ 900 := hG.pr 3 7
      have b26 : 0 ≤ Z4 3 14 ∧ Z4 3 14 ≤ 4 := hG4.pr 3 14
      exact mx_J.ret (sn_53 20) (fun _ _ => rfl) (hP Z4 h4 hx4 hG4 (fr_tr (M := [(3, 2), (3, 3), (3, 4), (3, 5), (3, 14), (3, 15)]) fr_rf (hf4) (M1 := []) rfl rfl) (by omega))
    refine Jicmp_ne (show mx_Sn _ _ 5 (mx_icmp_ne 15 8) from sn_53 5) (by omega) (by omega) (fun q27 => ?_) (fun q27 => ?_)
    · skip
      refine mx_J.step (sn_53 15) (fun _ _ => rfl) ?_
      refine JcI (z := 2) (show mx_Sn _ _ 16 (mx_const (.int 2) 17) from sn_53 16) rfl ?_
      obtain ⟨Z28, h28, hc28, hx28, hG28, hf28, b28⟩ := ct_55_3 (d := d + 5) (l := l) (D := D) (b0 := b0) (ad := ad) (Hb := Hb) (tau := tau) hx hG (show 2 ≤ 2 ∧ 2 ≤ 4 by omega)
      have b29 : 0 ≤ Z28 3 4 ∧ Z28 3 4 ≤ 400 := hG28.pr 3 4
      refine Jcv0 hx (show mx_Sn _ _ 17 (mx_callv 55 2 7 20) from sn_53 17) a3 s3 hc28 rfl rfl rfl ?_
      have eq30 : Z28 3 2 = Z 3 2 := (hf28 3 2 rfl)
      have b31 : 0 ≤ Z 3 2 ∧ Z 3 2 ≤ 900 := hG.pr 3 2
      have eq32 : Z28 3 3 = Z 3 3 := (hf28 3 3 rfl)
      have b33 : 0 ≤ Z 3 3 ∧ Z 3 3 ≤ 900 := hG.pr 3 3
      have b34 : 0 ≤ Z28 3 4 ∧ Z28 3 4 ≤ 400 := hG28.pr 3 4
      have eq35 : Z28 3 7 = Z 3 7 := (hf28 3 7 rfl)
      have b36 : 0 ≤ Z 3 7 ∧ Z 3 7 ≤ 900 := hG.pr 3 7
      have b37 : 0 ≤ Z28 3 14 ∧ Z28 3 14 ≤ 4 := hG28.pr 3 14
      exact c20 Z28 h28 (by omega) hx28 hG28 (fr_tr (M := [(3, 2), (3, 3), (3, 4), (3, 5), (3, 14), (3, 15)]) fr_rf (hf28) (M1 := []) rfl rfl)
    · skip
      refine mx_J.step (sn_53 8) (fun _ _ => rfl) ?_
      have b39 : 2 ≤ Z 3 0 ∧ Z 3 0 ≤ 4 := hG.pr 3 0
      have b40 : 0 ≤ Z 3 1 ∧ Z 3 1 ≤ 900 := hG.pr 3 1
      have b41 : 0 ≤ Z 3 2 ∧ Z 3 2 ≤ 900 := hG.pr 3 2
      have b42 : 0 ≤ Z 3 3 ∧ Z 3 3 ≤ 900 := hG.pr 3 3
      have b43 : 0 ≤ Z 3 4 ∧ Z 3 4 ≤ 400 := hG.pr 3 4
      have b44 : 0 ≤ Z 3 14 ∧ Z 3 14 ≤ 4 := hG.pr 3 14
      obtain ⟨Z38, h38, hc38, hx38, hG38, hf38, b38⟩ := ct_56_3 (d := d + 0) (l := l) (D := D) (b0 := b0) (ad := ad) (Hb := Hb) (tau := tau) hx hG  (show Z 3 0 = 2 by omega) (show Z 3 2 ≤ Z 3 1 by omega)
      have b45 : 0 ≤ Z38 3 2 ∧ Z38 3 2 ≤ 900 := hG38.pr 3 2
      have b46 : 0 ≤ Z38 3 3 ∧ Z38 3 3 ≤ 900 := hG38.pr 3 3
      have b47 : 0 ≤ Z38 3 4 ∧ Z38 3 4 ≤ 400 := hG38.pr 3 4
      refine Jcv0 hx (show mx_Sn _ _ 9 (mx_callv 56 1 7 12) from sn_53 9) a3 s3 hc38 rfl rfl rfl ?_
      refine mx_J.step (sn_53 12) (fun _ _ => rfl) ?_
      have b48 : 0 ≤ Z38 3 2 ∧ Z38 3 2 ≤ 900 := hG38.pr 3 2
      have b49 : 0 ≤ Z38 3 3 ∧ Z38 3 3 ≤ 900 := hG38.pr 3 3
      have b50 : 0 ≤ Z38 3 4 ∧ Z38 3 4 ≤ 400 := hG38.pr 3 4
      have eq51 : Z38 3 7 = Z 3 7 := (hf38 3 7 rfl)
      have b52 : 0 ≤ Z 3 7 ∧ Z 3 7 ≤ 900 := hG.pr 3 7
      have eq53 : Z38 3 14 = Z 3 14 := (hf38 3 14 rfl)
      have b54 : 0 ≤ Z 3 14 ∧ Z 3 14 ≤ 4 := hG.pr 3 14
      exact c20 Z38 h38 (by omega) hx38 hG38 (fr_tr (M := [(3, 2), (3, 3), (3, 4), (3, 5), (3, 14), (3, 15)]) fr_rf (hf38) (M1 := []) rfl rfl)
theorem ct_53_3_k {l : Launch} {D : va_G} {b0 : Nat} {ad : Nat → Nat} {Hb : Heap} {tau : Nat → Int64} {d n s : Nat} {S : Nat → xS} {Z : xZ} {h : mx_H} (hx : XH n s S Z h) (hG : GI n S Z)  {x0 : Int} (p0 : 40 ≤ x0 ∧ x0 ≤ 320) (k0 : Z 3 0 = 2) (k1 : (Z 3 3 ≤ Z 3 2 ∧ Z 3 2 ≤ Z 3 1 ∧ (Z 3 4 = 0 ∨ Z 3 4 = 3 ∨ Z 3 3 < Z 3 2) ∧ (Z 3 4 = 3 ∨ Z 3 14 = 0))) : ∃ (Z' : xZ) (h' : mx_H), mx_Ca (tB l D b0 ad Hb tau) (d + 7) 53 [.ref 3, xI x0] h (none, h') ∧ XH n s S Z' h' ∧ GI n S Z' ∧ fr' [(3, 2), (3, 3), (3, 4), (3, 5), (3, 14), (3, 15)] Z Z' ∧ (((Z' 3 3 ≤ Z' 3 2 ∧ Z' 3 2 ≤ Z 3 1 ∧ (Z' 3 4 = 0 ∨ Z' 3 4 = 3 ∨ Z' 3 3 < Z' 3 2) ∧ (Z' 3 4 = 3 ∨ Z' 3 14 = 0)) ∧ Z 3 3 ≤ Z' 3 3 ∧ (Z' 3 4 = 3 ∨ Z 3 3 + 1 ≤ Z' 3 3) ∧ (Z 3 4 = 3 → Z' 3 4 = 3))) := by
  obtain ⟨r, hca, Z', h', e, q⟩ := Jmt (B := tB l D b0 ad Hb tau) (M := mt_53) (mi := 53) (as := [.ref 3, xI x0]) (d := d + 6) (ls := [some (.ref 3), some (xI x0)]) rfl rfl rfl rfl rfl rfl (cw_53_3_k (l := l) (D := D) (b0 := b0) (ad := ad) (Hb := Hb) (tau := tau) (d := d) (Post := fun r => ∃ (Z' : xZ) (h' : mx_H), r = (none, h') ∧ XH n s S Z' h' ∧ GI n S Z' ∧ fr' [(3, 2), (3, 3), (3, 4), (3, 5), (3, 14), (3, 15)] Z Z' ∧ (((Z' 3 3 ≤ Z' 3 2 ∧ Z' 3 2 ≤ Z 3 1 ∧ (Z' 3 4 = 0 ∨ Z' 3 4 = 3 ∨ Z' 3 3 < Z' 3 2) ∧ (Z' 3 4 = 3 ∨ Z' 3 14 = 0)) ∧ Z 3 3 ≤ Z' 3 3 ∧ (Z' 3 4 = 3 ∨ Z 3 3 + 1 ≤ Z' 3 3) ∧ (Z 3 4 = 3 → Z' 3 4 = 3)))) hx hG p0 k0 k1 (fun Z' h' q1 q2 q3 q4 => ⟨Z', h', rfl, q1, q2, q3, q4⟩))
  subst e; exact ⟨Z', h', hca, q⟩
set_option maxHeartbeats 8000000 in
set_option maxRecDepth 100000 in
theorem cw_38_3_2 {l : Launch} {D : va_G} {b0 : Nat} {ad : Nat → Nat} {Hb : Heap} {tau : Nat → Int64} {d n s : Nat} {S : Nat → xS} {Z : xZ} {h : mx_H} {Post : mx_R → Prop} (hx : XH n s S Z h) (hG : GI n S Z)  {x0 : Int} (p0 : 0 ≤ x0 ∧ x0 ≤ 900) (k0 : 3 * ((n : Nat) : Int) + x0 + 6 ≤ 12288) (hP : ∀ (n' s' : Nat) (S' : Nat → xS) (Z' : xZ) (h' : mx_H), XH n' s' S' Z' h' → GI n' S' Z' → fr8 [(3, 0), (3, 1), (3, 2), (3, 3), (3, 4), (3, 5), (3, 7), (3, 8), (3, 9), (3, 10), (3, 12), (3, 13), (3, 14), (3, 15), (5, (-1)), (6, (-1))] Z Z' → (1 ≤ Z' 3 12 ∧ ((n : Nat) : Int) ≤ ((n' : Nat) : Int) ∧ ((s : Nat) : Int) ≤ ((s' : Nat) : Int) ∧ ((s' : Nat) : Int) ≤ ((s : Nat) : Int) + 900 * (((n' : Nat) : Int) - ((n : Nat) : Int)) ∧ 3 * (((n' : Nat) : Int) - ((n : Nat) : Int)) ≤ x0 + 3) → Post (none, h')) : mx_J (tB l D b0 ad Hb tau) mt_38 (d + 63) 0 [some (.ref 3), some (.ref 2), some (xI x0), none] [] h Post := by
    refine mx_J.step (sn_38 0) (fun _ _ => rfl) ?_
    refine mx_J.step (sn_38 1) (fun _ _ => rfl) ?_
    refine JputR (g := 0) hx (show mx_Sn _ _ 2 (mx_putf 1 7 0 (.array .byte) 5) from sn_38 2) (lt83 (GI_n hG) rfl) (show S 3 = .inl (7, [2, 0, 0, 0, 0, 0, 2, 0, 2, 2, 0, 2, 0, 0, 0, 0]) from GI_s hG 3 rfl) rfl rfl rfl rfl (fun Z1 h1 hx1 hE1 => ?_)
    have hG1 := GI_up hG hE1 (by decide) trivial rfl
    refine mx_J.step (sn_38 5) (fun _ _ => rfl) ?_
    refine JcI (z := 0) (show mx_Sn _ _ 6 (mx_const (.int 0) 7) from sn_38 6) rfl ?_
    refine mx_J.step (sn_38 7) (fun _ _ => rfl) ?_
    refine mx_J.step (sn_38 8) (fun _ _ => rfl) ?_
    refine JalenI (z := 900) hx1 (show mx_Sn _ _ 9 (mx_alen 10) from sn_38 9) (lt83 (GI_n hG1) rfl) (show S 2 = .inr (.byte, 900, 0) from GI_s hG1 2 rfl) (by decide) rfl ?_
    refine Jmmin (show mx_Sn _ _ 10 (mx_mmin 13) from sn_38 10) (by omega) (by omega) ⟨_, rfl⟩ rfl (fun y2 hy2 => ?_)
    refine Jmmax (show mx_Sn _ _ 13 (mx_mmax 16) from sn_38 13) (by omega) (by omega) ⟨_, rfl⟩ rfl (fun y3 hy3 => ?_)
    have ey : y3 = x0 := by omega
    refine JputI (g := 1) hx1 (show mx_Sn _ _ 16 (mx_putf 1 7 1 (.int) 19) from sn_38 16) (lt83 (GI_n hG1) rfl) (show S 3 = .inl (7, [2, 0, 0, 0, 0, 0, 2, 0, 2, 2, 0, 2, 0, 0, 0, 0]) from GI_s hG1 3 rfl) rfl rfl rfl rfl (fun Z4 h4 hx4 hE4 => ?_)
    have hG4 := GI_up hG1 hE4 (show 0 ≤ y3 ∧ y3 ≤ 900 by omega) trivial rfl
    refine mx_J.step (sn_38 19) (fun _ _ => rfl) ?_
    refine JcI (z := 0) (show mx_Sn _ _ 20 (mx_const (.int 0) 21) from sn_38 20) rfl ?_
    refine JputI (g := 2) hx4 (show mx_Sn _ _ 21 (mx_putf 1 7 2 (.int) 24) from sn_38 21) (lt83 (GI_n hG4) rfl) (show S 3 = .inl (7, [2, 0, 0, 0, 0, 0, 2, 0, 2, 2, 0, 2, 0, 0, 0, 0]) from GI_s hG4 3 rfl) rfl rfl rfl rfl (fun Z5 h5 hx5 hE5 => ?_)
    have hG5 := GI_up hG4 hE5 (show 0 ≤ 0 ∧ 0 ≤ 900 by omega) trivial rfl
    refine mx_J.step (sn_38 24) (fun _ _ => rfl) ?_
    refine mx_J.step (sn_38 25) (fun _ _ => rfl) ?_
    refine JputR (g := 8) hx5 (show mx_Sn _ _ 28 (mx_putf 1 7 8 (.array .int) 31) from sn_38 28) (lt83 (GI_n hG5) rfl) (show S 3 = .inl (7, [2, 0, 0, 0, 0, 0, 2, 0, 2, 2, 0, 2, 0, 0, 0, 0]) from GI_s hG5 3 rfl) rfl rfl rfl rfl (fun Z6 h6 hx6 hE6 => ?_)
    have hG6 := GI_upC hG5 hE6 (by decide) trivial rfl ⟨0, 0, rfl, Or.inl rfl, (lt83 (GI_n hG5) rfl), by omega, (show S 0 = .inr (.int, 0, 0) from GI_s hG5 0 rfl)⟩
    refine mx_J.step (sn_38 31) (fun _ _ => rfl) ?_
    refine mx_J.step (sn_38 32) (fun _ _ => rfl) ?_
    refine JputR (g := 9) hx6 (show mx_Sn _ _ 35 (mx_putf 1 7 9 (.array .int) 38) from sn_38 35) (lt83 (GI_n hG6) rfl) (show S 3 = .inl (7, [2, 0, 0, 0, 0, 0, 2, 0, 2, 2, 0, 2, 0, 0, 0, 0]) from GI_s hG6 3 rfl) rfl rfl rfl rfl (fun Z7 h7 hx7 hE7 => ?_)
    have hG7 := GI_upC hG6 hE7 (by decide) trivial rfl ⟨0, 0, rfl, Or.inl rfl, (lt83 (GI_n hG6) rfl), by omega, (show S 0 = .inr (.int, 0, 0) from GI_s hG6 0 rfl)⟩
    refine mx_J.step (sn_38 38) (fun _ _ => rfl) ?_
    refine JcI (z := 0) (show mx_Sn _ _ 39 (mx_const (.int 0) 40) from sn_38 39) rfl ?_
    refine JputI (g := 10) hx7 (show mx_Sn _ _ 40 (mx_putf 1 7 10 (.int) 43) from sn_38 40) (lt83 (GI_n hG7) rfl) (show S 3 = .inl (7, [2, 0, 0, 0, 0, 0, 2, 0, 2, 2, 0, 2, 0, 0, 0, 0]) from GI_s hG7 3 rfl) rfl rfl rfl rfl (fun Z8 h8 hx8 hE8 => ?_)
    have hG8 := GI_up hG7 hE8 (show 0 ≤ 0 ∧ 0 ≤ 901 by omega) trivial rfl
    refine mx_J.step (sn_38 43) (fun _ _ => rfl) ?_
    refine JgetR (g := 11) (b := 6) hx8 (show mx_Sn _ _ 44 (mx_getf 7 11 47) from sn_38 44) (lt83 (GI_n hG8) rfl) (show S 3 = .inl (7, [2, 0, 0, 0, 0, 0, 2, 0, 2, 2, 0, 2, 0, 0, 0, 0]) from GI_s hG8 3 rfl) rfl rfl (hG8.prr 3 11 rfl) ?_
    refine JcI (z := 0) (show mx_Sn _ _ 47 (mx_const (.int 0) 48) from sn_38 47) rfl ?_
    obtain ⟨Z10, h10, hc10, hx10, hG10, hf10, m10_6⟩ := ct_284_6_i0 (d := d + 62) (l := l) (D := D) (b0 := b0) (ad := ad) (Hb := Hb) (tau := tau) hx8 hG8 
    refine Jcs0 (show mx_Sn _ _ 48 (mx_calls 284 2 51) from sn_38 48) hc10 rfl rfl rfl ?_
    have m610 : ai 6 Z10 19 0 0 = 1 := ai_y (by assumption)
    refine mx_J.step (sn_38 51) (fun _ _ => rfl) ?_
    refine JcI (z := 0) (show mx_Sn _ _ 52 (mx_const (.int 0) 53) from sn_38 52) rfl ?_
    refine JputI (g := 12) hx10 (show mx_Sn _ _ 53 (mx_putf 1 7 12 (.int) 56) from sn_38 53) (lt83 (GI_n hG10) rfl) (show S 3 = .inl (7, [2, 0, 0, 0, 0, 0, 2, 0, 2, 2, 0, 2, 0, 0, 0, 0]) from GI_s hG10 3 rfl) rfl rfl rfl rfl (fun Z11 h11 hx11 hE11 => ?_)
    have hG11 := GI_up hG10 hE11 (show 0 ≤ 0 ∧ 0 ≤ 18 by omega) trivial rfl
    have eq12 : Z11 3 12 = 0 := (up_at hE11)
    have eq13 : (ai 6) Z11 19 0 0 = (ai 6) Z10 19 0 0 := (ai_c (fun i => up_nk hE11 rfl))
    have eq14 : (ai 6) Z11 19 0 (Z11 3 12) = (ai 6) Z10 19 0 0 := by rw [(show Z11 3 12 = 0 from (up_at hE11))]; exact (ai_c (fun i => up_nk hE11 rfl))
    have eq15 : (ai 6) Z11 19 0 0 = (ai 6) Z10 19 0 0 := (ai_c (fun i => up_nk hE11 rfl))
    have eq16 : (ai 6) Z11 19 0 ((Z11 3 12) + 1) = (ai 6) Z10 19 0 (0 + 1) := by rw [(show Z11 3 12 = 0 from (up_at hE11))]; exact (ai_c (fun i => up_nk hE11 rfl))
    have eq17 : (ai 6) Z11 19 0 (0 + 1) = (ai 6) Z10 19 0 (0 + 1) := (ai_c (fun i => up_nk hE11 rfl))
    have m711 : ai 6 Z11 19 0 (0 + 1) = 1 := ai_m (len := 19) (lo := 0) (hi := 0) (by omega) (by omega) (by omega) (by omega)
    refine mx_J.step (sn_38 56) (fun _ _ => rfl) ?_
    refine JcI (z := 0) (show mx_Sn _ _ 57 (mx_const (.int 0) 58) from sn_38 57) rfl ?_
    refine JputI (g := 14) hx11 (show mx_Sn _ _ 58 (mx_putf 1 7 14 (.int) 61) from sn_38 58) (lt83 (GI_n hG11) rfl) (show S 3 = .inl (7, [2, 0, 0, 0, 0, 0, 2, 0, 2, 2, 0, 2, 0, 0, 0, 0]) from GI_s hG11 3 rfl) rfl rfl rfl rfl (fun Z18 h18 hx18 hE18 => ?_)
    have hG18 := GI_up hG11 hE18 (show 0 ≤ 0 ∧ 0 ≤ 4 by omega) trivial rfl
    refine mx_J.step (sn_38 61) (fun _ _ => rfl) ?_
    refine JcI (z := (-1)) (show mx_Sn _ _ 62 (mx_const (.int (-1)) 63) from sn_38 62) rfl ?_
    refine JputI (g := 15) hx18 (show mx_Sn _ _ 63 (mx_putf 1 7 15 (.int) 66) from sn_38 63) (lt83 (GI_n hG18) rfl) (show S 3 = .inl (7, [2, 0, 0, 0, 0, 0, 2, 0, 2, 2, 0, 2, 0, 0, 0, 0]) from GI_s hG18 3 rfl) rfl rfl rfl rfl (fun Z19 h19 hx19 hE19 => ?_)
    have hG19 := GI_up hG18 hE19 (show (-1) ≤ (-1) ∧ (-1) ≤ 900 by omega) trivial rfl
    refine mx_J.step (sn_38 66) (fun _ _ => rfl) ?_
    have eq21 : Z19 3 0 = 2 := ((up_ni hE19 (by decide)).trans ((up_ni hE18 (by decide)).trans ((up_ni hE11 (by decide)).trans ((hf10 3 0 rfl).trans ((up_ni hE8 (by decide)).trans ((up_ni hE7 (by decide)).trans ((up_ni hE6 (by decide)).trans ((up_ni hE5 (by decide)).trans ((up_ni hE4 (by decide)).trans (up_at hE1))))))))))
    have eq22 : Z19 3 1 = y3 := ((up_ni hE19 (by decide)).trans ((up_ni hE18 (by decide)).trans ((up_ni hE11 (by decide)).trans ((hf10 3 1 rfl).trans ((up_ni hE8 (by decide)).trans ((up_ni hE7 (by decide)).trans ((up_ni hE6 (by decide)).trans ((up_ni hE5 (by decide)).trans (up_at hE4)))))))))
    have eq23 : Z19 3 2 = 0 := ((up_ni hE19 (by decide)).trans ((up_ni hE18 (by decide)).trans ((up_ni hE11 (by decide)).trans ((hf10 3 2 rfl).trans ((up_ni hE8 (by decide)).trans ((up_ni hE7 (by decide)).trans ((up_ni hE6 (by decide)).trans (up_at hE5))))))))
    have eq24 : Z19 3 3 = Z 3 3 := ((up_ni hE19 (by decide)).trans ((up_ni hE18 (by decide)).trans ((up_ni hE11 (by decide)).trans ((hf10 3 3 rfl).trans ((up_ni hE8 (by decide)).trans ((up_ni hE7 (by decide)).trans ((up_ni hE6 (by decide)).trans ((up_ni hE5 (by decide)).trans ((up_ni hE4 (by decide)).trans (up_ni hE1 (by decide)))))))))))
    have b25 : 0 ≤ Z 3 3 ∧ Z 3 3 ≤ 900 := hG.pr 3 3
    have eq26 : Z19 3 4 = Z 3 4 := ((up_ni hE19 (by decide)).trans ((up_ni hE18 (by decide)).trans ((up_ni hE11 (by decide)).trans ((hf10 3 4 rfl).trans ((up_ni hE8 (by decide)).trans ((up_ni hE7 (by decide)).trans ((up_ni hE6 (by decide)).trans ((up_ni hE5 (by decide)).trans ((up_ni hE4 (by decide)).trans (up_ni hE1 (by decide)))))))))))
    have b27 : 0 ≤ Z 3 4 ∧ Z 3 4 ≤ 400 := hG.pr 3 4
    have eq28 : Z19 3 14 = 0 := ((up_ni hE19 (by decide)).trans (up_at hE18))
    obtain ⟨Z20, h20, hc20, hx20, hG20, hf20, b20⟩ := ct_56_3 (d := d + 57) (l := l) (D := D) (b0 := b0) (ad := ad) (Hb := Hb) (tau := tau) hx19 hG19  (show Z19 3 0 = 2 by first | omega | (simp only [eq21, eq22, eq23, eq24, eq26, eq28]; omega)) (show Z19 3 2 ≤ Z19 3 1 by first | omega | (simp only [eq21, eq22, eq23, eq24, eq26, eq28]; omega))
    try rw [eq21] at b20
    try rw [eq22] at b20
    try rw [eq23] at b20
    try rw [eq24] at b20
    try rw [eq26] at b20
    try rw [eq28] at b20
    have b29 : 0 ≤ Z20 3 2 ∧ Z20 3 2 ≤ 900 := hG20.pr 3 2
    have b30 : 0 ≤ Z20 3 3 ∧ Z20 3 3 ≤ 900 := hG20.pr 3 3
    have b31 : 0 ≤ Z20 3 4 ∧ Z20 3 4 ≤ 400 := hG20.pr 3 4
    refine Jcv0 hx19 (show mx_Sn _ _ 67 (mx_callv 56 1 7 70) from sn_38 67) (lt83 (GI_n hG19) rfl) (show S 3 = .inl (7, [2, 0, 0, 0, 0, 0, 2, 0, 2, 2, 0, 2, 0, 0, 0, 0]) from GI_s hG19 3 rfl) hc20 rfl rfl rfl ?_
    refine mx_J.step (sn_38 70) (fun _ _ => rfl) ?_
    refine JcI (z := 300) (show mx_Sn _ _ 71 (mx_const (.int 300) 74) from sn_38 71) rfl ?_
    have eq33 : Z20 3 0 = 2 := ((hf20 3 0 rfl).trans ((up_ni hE19 (by decide)).trans ((up_ni hE18 (by decide)).trans ((up_ni hE11 (by decide)).trans ((hf10 3 0 rfl).trans ((up_ni hE8 (by decide)).trans ((up_ni hE7 (by decide)).trans ((up_ni hE6 (by decide)).trans ((up_ni hE5 (by decide)).trans ((up_ni hE4 (by decide)).trans (up_at hE1)))))))))))
    have eq34 : Z20 3 1 = y3 := ((hf20 3 1 rfl).trans ((up_ni hE19 (by decide)).trans ((up_ni hE18 (by decide)).trans ((up_ni hE11 (by decide)).trans ((hf10 3 1 rfl).trans ((up_ni hE8 (by decide)).trans ((up_ni hE7 (by decide)).trans ((up_ni hE6 (by decide)).trans ((up_ni hE5 (by decide)).trans (up_at hE4))))))))))
    have b35 : 0 ≤ Z20 3 2 ∧ Z20 3 2 ≤ 900 := hG20.pr 3 2
    have b36 : 0 ≤ Z20 3 3 ∧ Z20 3 3 ≤ 900 := hG20.pr 3 3
    have b37 : 0 ≤ Z20 3 4 ∧ Z20 3 4 ≤ 400 := hG20.pr 3 4
    have eq38 : Z20 3 7 = Z 3 7 := ((hf20 3 7 rfl).trans ((up_ni hE19 (by decide)).trans ((up_ni hE18 (by decide)).trans ((up_ni hE11 (by decide)).trans ((hf10 3 7 rfl).trans ((up_ni hE8 (by decide)).trans ((up_ni hE7 (by decide)).trans ((up_ni hE6 (by decide)).trans ((up_ni hE5 (by decide)).trans ((up_ni hE4 (by decide)).trans (up_ni hE1 (by decide))))))))))))
    have b39 : 0 ≤ Z 3 7 ∧ Z 3 7 ≤ 900 := hG.pr 3 7
    have eq40 : Z20 3 14 = 0 := ((hf20 3 14 rfl).trans ((up_ni hE19 (by decide)).trans (up_at hE18)))
    obtain ⟨Z32, h32, hc32, hx32, hG32, hf32, b32⟩ := ct_53_3_k (d := d + 56) (l := l) (D := D) (b0 := b0) (ad := ad) (Hb := Hb) (tau := tau) hx20 hG20 (show 40 ≤ 300 ∧ 300 ≤ 320 by omega) (show Z20 3 0 = 2 by first | omega | (simp only [eq33, eq34, eq38, eq40]; omega)) (show (Z20 3 3 ≤ Z20 3 2 ∧ Z20 3 2 ≤ Z20 3 1 ∧ (Z20 3 4 = 0 ∨ Z20 3 4 = 3 ∨ Z20 3 3 < Z20 3 2) ∧ (Z20 3 4 = 3 ∨ Z20 3 14 = 0)) by first | omega | (simp only [eq33, eq34, eq38, eq40]; omega))
    try rw [eq33] at b32
    try rw [eq34] at b32
    try rw [eq38] at b32
    try rw [eq40] at b32
    have b41 : 0 ≤ Z32 3 2 ∧ Z32 3 2 ≤ 900 := hG32.pr 3 2
    have b42 : 0 ≤ Z32 3 3 ∧ Z32 3 3 ≤ 900 := hG32.pr 3 3
    have b43 : 0 ≤ Z32 3 4 ∧ Z32 3 4 ≤ 400 := hG32.pr 3 4
    have eq44 : Z32 3 7 = Z 3 7 := ((hf32 3 7 rfl).trans ((hf20 3 7 rfl).trans ((up_ni hE19 (by decide)).trans ((up_ni hE18 (by decide)).trans ((up_ni hE11 (by decide)).trans ((hf10 3 7 rfl).trans ((up_ni hE8 (by decide)).trans ((up_ni hE7 (by decide)).trans ((up_ni hE6 (by decide)).trans ((up_ni hE5 (by decide)).trans ((up_ni hE4 (by decide)).trans (up_ni hE1 (by decide)))))))))))))
    have b45 : 0 ≤ Z 3 7 ∧ Z 3 7 ≤ 900 := hG.pr 3 7
    have b46 : 0 ≤ Z32 3 14 ∧ Z32 3 14 ≤ 4 := hG32.pr 3 14
    refine Jcv0 hx20 (show mx_Sn _ _ 74 (mx_callv 53 2 7 77) from sn_38 74) (lt83 (GI_n hG20) rfl) (show S 3 = .inl (7, [2, 0, 0, 0, 0, 0, 2, 0, 2, 2, 0, 2, 0, 0, 0, 0]) from GI_s hG20 3 rfl) hc32 rfl rfl rfl ?_
    clear b20
    refine mx_J.step (sn_38 77) (fun _ _ => rfl) ?_
    refine JcI (z := 301) (show mx_Sn _ _ 78 (mx_const (.int 301) 81) from sn_38 78) rfl ?_
    have eq48 : Z32 3 0 = 2 := ((hf32 3 0 rfl).trans ((hf20 3 0 rfl).trans ((up_ni hE19 (by decide)).trans ((up_ni hE18 (by decide)).trans ((up_ni hE11 (by decide)).trans ((hf10 3 0 rfl).trans ((up_ni hE8 (by decide)).trans ((up_ni hE7 (by decide)).trans ((up_ni hE6 (by decide)).trans ((up_ni hE5 (by decide)).trans ((up_ni hE4 (by decide)).trans (up_at hE1))))))))))))
    have eq49 : Z32 3 1 = y3 := ((hf32 3 1 rfl).trans ((hf20 3 1 rfl).trans ((up_ni hE19 (by decide)).trans ((up_ni hE18 (by decide)).trans ((up_ni hE11 (by decide)).trans ((hf10 3 1 rfl).trans ((up_ni hE8 (by decide)).trans ((up_ni hE7 (by decide)).trans ((up_ni hE6 (by decide)).trans ((up_ni hE5 (by decide)).trans (up_at hE4)))))))))))
    have b50 : 0 ≤ Z32 3 2 ∧ Z32 3 2 ≤ 900 := hG32.pr 3 2
    have b51 : 0 ≤ Z32 3 3 ∧ Z32 3 3 ≤ 900 := hG32.pr 3 3
    have b52 : 0 ≤ Z32 3 4 ∧ Z32 3 4 ≤ 400 := hG32.pr 3 4
    have eq53 : Z32 3 7 = Z 3 7 := ((hf32 3 7 rfl).trans ((hf20 3 7 rfl).trans ((up_ni hE19 (by decide)).trans ((up_ni hE18 (by decide)).trans ((up_ni hE11 (by decide)).trans ((hf10 3 7 rfl).trans ((up_ni hE8 (by decide)).trans ((up_ni hE7 (by decide)).trans ((up_ni hE6 (by decide)).trans ((up_ni hE5 (by decide)).trans ((up_ni hE4 (by decide)).trans (up_ni hE1 (by decide)))))))))))))
    have b54 : 0 ≤ Z 3 7 ∧ Z 3 7 ≤ 900 := hG.pr 3 7
    have b55 : 0 ≤ Z32 3 14 ∧ Z32 3 14 ≤ 4 := hG32.pr 3 14
    obtain ⟨Z47, h47, hc47, hx47, hG47, hf47, b47⟩ := ct_53_3_k (d := d + 56) (l := l) (D := D) (b0 := b0) (ad := ad) (Hb := Hb) (tau := tau) hx32 hG32 (show 40 ≤ 301 ∧ 301 ≤ 320 by omega) (show Z32 3 0 = 2 by first | omega | (simp only [eq48, eq49, eq53]; omega)) (show (Z32 3 3 ≤ Z32 3 2 ∧ Z32 3 2 ≤ Z32 3 1 ∧ (Z32 3 4 = 0 ∨ Z32 3 4 = 3 ∨ Z32 3 3 < Z32 3 2) ∧ (Z32 3 4 = 3 ∨ Z32 3 14 = 0)) by first | omega | (simp only [eq48, eq49, eq53]; omega))
    try rw [eq48] at b47
    try rw [eq49] at b47
    try rw [eq53] at b47
    have b56 : 0 ≤ Z47 3 2 ∧ Z47 3 2 ≤ 900 := hG47.pr 3 2
    have b57 : 0 ≤ Z47 3 3 ∧ Z47 3 3 ≤ 900 := hG47.pr 3 3
    have b58 : 0 ≤ Z47 3 4 ∧ Z47 3 4 ≤ 400 := hG47.pr 3 4
    have eq59 : Z47 3 7 = Z 3 7 := ((hf47 3 7 rfl).trans ((hf32 3 7 rfl).trans ((hf20 3 7 rfl).trans ((up_ni hE19 (by decide)).trans ((up_ni hE18 (by decide)).trans ((up_ni hE11 (by decide)).trans ((hf10 3 7 rfl).trans ((up_ni hE8 (by decide)).trans ((up_ni hE7 (by decide)).trans ((up_ni hE6 (by decide)).trans ((up_ni hE5 (by decide)).trans ((up_ni hE4 (by decide)).trans (up_ni hE1 (by decide))))))))))))))
    have b60 : 0 ≤ Z 3 7 ∧ Z 3 7 ≤ 900 := hG.pr 3 7
    have b61 : 0 ≤ Z47 3 14 ∧ Z47 3 14 ≤ 4 := hG47.pr 3 14
    refine Jcv0 hx32 (show mx_Sn _ _ 81 (mx_callv 53 2 7 84) from sn_38 81) (lt83 (GI_n hG32) rfl) (show S 3 = .inl (7, [2, 0, 0, 0, 0, 0, 2, 0, 2, 2, 0, 2, 0, 0, 0, 0]) from GI_s hG32 3 rfl) hc47 rfl rfl rfl ?_
    clear b32
    refine mx_J.step (sn_38 84) (fun _ _ => rfl) ?_
    refine mx_J.step (sn_38 85) (fun _ _ => rfl) ?_
    refine JcI (z := 0) (show mx_Sn _ _ 86 (mx_const (.int 0) 87) from sn_38 86) rfl ?_
    refine JcI (z := 9) (show mx_Sn _ _ 87 (mx_const (.int 9) 89) from sn_38 87) rfl ?_
    have eq63 : Z47 3 0 = 2 := ((hf47 3 0 rfl).trans ((hf32 3 0 rfl).trans ((hf20 3 0 rfl).trans ((up_ni hE19 (by decide)).trans ((up_ni hE18 (by decide)).trans ((up_ni hE11 (by decide)).trans ((hf10 3 0 rfl).trans ((up_ni hE8 (by decide)).trans ((up_ni hE7 (by decide)).trans ((up_ni hE6 (by decide)).trans ((up_ni hE5 (by decide)).trans ((up_ni hE4 (by decide)).trans (up_at hE1)))))))))))))
    have eq64 : Z47 3 1 = y3 := ((hf47 3 1 rfl).trans ((hf32 3 1 rfl).trans ((hf20 3 1 rfl).trans ((up_ni hE19 (by decide)).trans ((up_ni hE18 (by decide)).trans ((up_ni hE11 (by decide)).trans ((hf10 3 1 rfl).trans ((up_ni hE8 (by decide)).trans ((up_ni hE7 (by decide)).trans ((up_ni hE6 (by decide)).trans ((up_ni hE5 (by decide)).trans (up_at hE4))))))))))))
    have b65 : 0 ≤ Z47 3 2 ∧ Z47 3 2 ≤ 900 := hG47.pr 3 2
    have b66 : 0 ≤ Z47 3 3 ∧ Z47 3 3 ≤ 900 := hG47.pr 3 3
    have b67 : 0 ≤ Z47 3 4 ∧ Z47 3 4 ≤ 400 := hG47.pr 3 4
    have eq68 : Z47 3 7 = Z 3 7 := ((hf47 3 7 rfl).trans ((hf32 3 7 rfl).trans ((hf20 3 7 rfl).trans ((up_ni hE19 (by decide)).trans ((up_ni hE18 (by decide)).trans ((up_ni hE11 (by decide)).trans ((hf10 3 7 rfl).trans ((up_ni hE8 (by decide)).trans ((up_ni hE7 (by decide)).trans ((up_ni hE6 (by decide)).trans ((up_ni hE5 (by decide)).trans ((up_ni hE4 (by decide)).trans (up_ni hE1 (by decide))))))))))))))
    have b69 : 0 ≤ Z 3 7 ∧ Z 3 7 ≤ 900 := hG.pr 3 7
    have b70 : 0 ≤ Z47 3 14 ∧ Z47 3 14 ≤ 4 := hG47.pr 3 14
    obtain ⟨z62, Z62, h62, hc62, hx62, hG62, hf62, b62⟩ := ct_54_3 (d := d + 56) (l := l) (D := D) (b0 := b0) (ad := ad) (Hb := Hb) (tau := tau) hx47 hG47 (show 0 ≤ 0 ∧ 0 ≤ 1 by omega) (show 0 ≤ 9 ∧ 9 ≤ 999 by omega) (show Z47 3 0 = 2 by first | omega | (simp only [eq63, eq64, eq68]; omega)) (show (Z47 3 3 ≤ Z47 3 2 ∧ Z47 3 2 ≤ Z47 3 1 ∧ (Z47 3 4 = 0 ∨ Z47 3 4 = 3 ∨ Z47 3 3 < Z47 3 2) ∧ (Z47 3 4 = 3 ∨ Z47 3 14 = 0)) by first | omega | (simp only [eq63, eq64, eq68]; omega))
    try rw [eq63] at b62
    try rw [eq64] at b62
    try rw [eq68] at b62
    have b71 : 0 ≤ Z62 3 2 ∧ Z62 3 2 ≤ 900 := hG62.pr 3 2
    have b72 : 0 ≤ Z62 3 3 ∧ Z62 3 3 ≤ 900 := hG62.pr 3 3
    have b73 : 0 ≤ Z62 3 4 ∧ Z62 3 4 ≤ 400 := hG62.pr 3 4
    have eq74 : Z62 3 7 = Z 3 7 := ((hf62 3 7 rfl).trans ((hf47 3 7 rfl).trans ((hf32 3 7 rfl).trans ((hf20 3 7 rfl).trans ((up_ni hE19 (by decide)).trans ((up_ni hE18 (by decide)).trans ((up_ni hE11 (by decide)).trans ((hf10 3 7 rfl).trans ((up_ni hE8 (by decide)).trans ((up_ni hE7 (by decide)).trans ((up_ni hE6 (by decide)).trans ((up_ni hE5 (by decide)).trans ((up_ni hE4 (by decide)).trans (up_ni hE1 (by decide)))))))))))))))
    have b75 : 0 ≤ Z 3 7 ∧ Z 3 7 ≤ 900 := hG.pr 3 7
    have b76 : 0 ≤ Z62 3 14 ∧ Z62 3 14 ≤ 4 := hG62.pr 3 14
    refine Jcv hx47 (show mx_Sn _ _ 89 (mx_callv 54 3 7 92) from sn_38 89) (lt83 (GI_n hG47) rfl) (show S 3 = .inl (7, [2, 0, 0, 0, 0, 0, 2, 0, 2, 2, 0, 2, 0, 0, 0, 0]) from GI_s hG47 3 rfl) hc62 rfl rfl rfl ?_
    clear b47
    refine JputI (g := 13) hx62 (show mx_Sn _ _ 92 (mx_putf 1 7 13 (.int) 95) from sn_38 92) (lt83 (GI_n hG62) rfl) (show S 3 = .inl (7, [2, 0, 0, 0, 0, 0, 2, 0, 2, 2, 0, 2, 0, 0, 0, 0]) from GI_s hG62 3 rfl) rfl rfl rfl rfl (fun Z77 h77 hx77 hE77 => ?_)
    have hG77 := GI_up hG62 hE77 (show 0 ≤ z62 ∧ z62 ≤ 9 by omega) trivial rfl
    refine mx_J.step (sn_38 95) (fun _ _ => rfl) ?_
    refine JcI (z := 59) (show mx_Sn _ _ 96 (mx_const (.int 59) 98) from sn_38 96) rfl ?_
    have eq79 : Z77 3 0 = 2 := ((up_ni hE77 (by decide)).trans ((hf62 3 0 rfl).trans ((hf47 3 0 rfl).trans ((hf32 3 0 rfl).trans ((hf20 3 0 rfl).trans ((up_ni hE19 (by decide)).trans ((up_ni hE18 (by decide)).trans ((up_ni hE11 (by decide)).trans ((hf10 3 0 rfl).trans ((up_ni hE8 (by decide)).trans ((up_ni hE7 (by decide)).trans ((up_ni hE6 (by decide)).trans ((up_ni hE5 (by decide)).trans ((up_ni hE4 (by decide)).trans (up_at hE1)))))))))))))))
    have eq80 : Z77 3 1 = y3 := ((up_ni hE77 (by decide)).trans ((hf62 3 1 rfl).trans ((hf47 3 1 rfl).trans ((hf32 3 1 rfl).trans ((hf20 3 1 rfl).trans ((up_ni hE19 (by decide)).trans ((up_ni hE18 (by decide)).trans ((up_ni hE11 (by decide)).trans ((hf10 3 1 rfl).trans ((up_ni hE8 (by decide)).trans ((up_ni hE7 (by decide)).trans ((up_ni hE6 (by decide)).trans ((up_ni hE5 (by decide)).trans (up_at hE4))))))))))))))
    have eq81 : Z77 3 2 = Z62 3 2 := (up_ni hE77 (by decide))
    have b82 : 0 ≤ Z62 3 2 ∧ Z62 3 2 ≤ 900 := hG62.pr 3 2
    have eq83 : Z77 3 3 = Z62 3 3 := (up_ni hE77 (by decide))
    have b84 : 0 ≤ Z62 3 3 ∧ Z62 3 3 ≤ 900 := hG62.pr 3 3
    have eq85 : Z77 3 4 = Z62 3 4 := (up_ni hE77 (by decide))
    have b86 : 0 ≤ Z62 3 4 ∧ Z62 3 4 ≤ 400 := hG62.pr 3 4
    have eq87 : Z77 3 7 = Z 3 7 := ((up_ni hE77 (by decide)).trans ((hf62 3 7 rfl).trans ((hf47 3 7 rfl).trans ((hf32 3 7 rfl).trans ((hf20 3 7 rfl).trans ((up_ni hE19 (by decide)).trans ((up_ni hE18 (by decide)).trans ((up_ni hE11 (by decide)).trans ((hf10 3 7 rfl).trans ((up_ni hE8 (by decide)).trans ((up_ni hE7 (by decide)).trans ((up_ni hE6 (by decide)).trans ((up_ni hE5 (by decide)).trans ((up_ni hE4 (by decide)).trans (up_ni hE1 (by decide))))))))))))))))
    have b88 : 0 ≤ Z 3 7 ∧ Z 3 7 ≤ 900 := hG.pr 3 7
    have eq89 : Z77 3 14 = Z62 3 14 := (up_ni hE77 (by decide))
    have b90 : 0 ≤ Z62 3 14 ∧ Z62 3 14 ≤ 4 := hG62.pr 3 14
    obtain ⟨Z78, h78, hc78, hx78, hG78, hf78, b78⟩ := ct_53_3_k (d := d + 56) (l := l) (D := D) (b0 := b0) (ad := ad) (Hb := Hb) (tau := tau) hx77 hG77 (show 40 ≤ 59 ∧ 59 ≤ 320 by omega) (show Z77 3 0 = 2 by first | omega | (simp only [eq79, eq80, eq81, eq83, eq85, eq87, eq89]; omega)) (show (Z77 3 3 ≤ Z77 3 2 ∧ Z77 3 2 ≤ Z77 3 1 ∧ (Z77 3 4 = 0 ∨ Z77 3 4 = 3 ∨ Z77 3 3 < Z77 3 2) ∧ (Z77 3 4 = 3 ∨ Z77 3 14 = 0)) by first | omega | (simp only [eq79, eq80, eq81, eq83, eq85, eq87, eq89]; omega))
    try rw [eq79] at b78
    try rw [eq80] at b78
    try rw [eq81] at b78
    try rw [eq83] at b78
    try rw [eq85] at b78
    try rw [eq87] at b78
    try rw [eq89] at b78
    have b91 : 0 ≤ Z78 3 2 ∧ Z78 3 2 ≤ 900 := hG78.pr 3 2
    have b92 : 0 ≤ Z78 3 3 ∧ Z78 3 3 ≤ 900 := hG78.pr 3 3
    have b93 : 0 ≤ Z78 3 4 ∧ Z78 3 4 ≤ 400 := hG78.pr 3 4
    have eq94 : Z78 3 7 = Z 3 7 := ((hf78 3 7 rfl).trans ((up_ni hE77 (by decide)).trans ((hf62 3 7 rfl).trans ((hf47 3 7 rfl).trans ((hf32 3 7 rfl).trans ((hf20 3 7 rfl).trans ((up_ni hE19 (by decide)).trans ((up_ni hE18 (by decide)).trans ((up_ni hE11 (by decide)).trans ((hf10 3 7 rfl).trans ((up_ni hE8 (by decide)).trans ((up_ni hE7 (by decide)).trans ((up_ni hE6 (by decide)).trans ((up_ni hE5 (by decide)).trans ((up_ni hE4 (by decide)).trans (up_ni hE1 (by decide)))))))))))))))))
    have b95 : 0 ≤ Z 3 7 ∧ Z 3 7 ≤ 900 := hG.pr 3 7
    have b96 : 0 ≤ Z78 3 14 ∧ Z78 3 14 ≤ 4 := hG78.pr 3 14
    refine Jcv0 hx77 (show mx_Sn _ _ 98 (mx_callv 53 2 7 101) from sn_38 98) (lt83 (GI_n hG77) rfl) (show S 3 = .inl (7, [2, 0, 0, 0, 0, 0, 2, 0, 2, 2, 0, 2, 0, 0, 0, 0]) from GI_s hG77 3 rfl) hc78 rfl rfl rfl ?_
    clear b62
    refine mx_J.step (sn_38 101) (fun _ _ => rfl) ?_
    refine JcI (z := 1) (show mx_Sn _ _ 102 (mx_const (.int 1) 103) from sn_38 102) rfl ?_
    refine JputI (g := 10) hx78 (show mx_Sn _ _ 103 (mx_putf 1 7 10 (.int) 106) from sn_38 103) (lt83 (GI_n hG78) rfl) (show S 3 = .inl (7, [2, 0, 0, 0, 0, 0, 2, 0, 2, 2, 0, 2, 0, 0, 0, 0]) from GI_s hG78 3 rfl) rfl rfl rfl rfl (fun Z97 h97 hx97 hE97 => ?_)
    have hG97 := GI_up hG78 hE97 (show 0 ≤ 1 ∧ 1 ≤ 901 by omega) trivial rfl
    refine JcI (z := 0) (show mx_Sn _ _ 106 (mx_const (.int 0) 107) from sn_38 106) rfl ?_
    refine mx_J.step (ls2 := [some (.ref 3), some (.ref 2), some (xI x0), some (xI 0)]) (sn_38 107) (fun _ _ => rfl) ?_
    have c108 : ∀ (m98 : Nat) (w98_3 : Int) (n99 s99 : Nat) (S99 : Nat → xS) (Z99 : xZ) (h99 : mx_H), 900 - w98_3 < (m98 : Int) → 0 ≤ w98_3 ∧ w98_3 ≤ 900 → (3 * (((n99 : Nat) : Int) - ((n : Nat) : Int)) ≤ Z99 3 3 + 3 ∧ ((n : Nat) : Int) ≤ ((n99 : Nat) : Int) ∧ ((s : Nat) : Int) ≤ ((s99 : Nat) : Int) ∧ ((s99 : Nat) : Int) ≤ ((s : Nat) : Int) + 900 * (((n99 : Nat) : Int) - ((n : Nat) : Int))) → (Z99 3 4 = 3 ∨ 3 * (((n99 : Nat) : Int) - ((n : Nat) : Int)) ≤ Z99 3 3) → (Z99 3 3 ≤ Z99 3 2 ∧ Z99 3 2 ≤ Z99 3 1 ∧ (Z99 3 4 = 0 ∨ Z99 3 4 = 3 ∨ Z99 3 3 < Z99 3 2) ∧ (Z99 3 4 = 3 ∨ Z99 3 14 = 0)) → (ai 6 Z99 19 0 (Z99 3 12 + 1) = 1) → (Z99 3 4 = 3 ∨ ai 6 Z99 19 0 (Z99 3 12) = 1) → (Z99 3 10 = w98_3 + 1 ∧ Z99 3 3 ≤ x0) → XH n99 s99 S99 Z99 h99 → GI n99 S99 Z99 → fr8 [(3, 2), (3, 3), (3, 4), (3, 5), (3, 7), (3, 8), (3, 9), (3, 10), (3, 12), (3, 14), (3, 15), (5, (-1)), (6, (-1))] Z97 Z99 → mx_J (tB l D b0 ad Hb tau) mt_38 (d + 63) 108 [some (.ref 3), some (.ref 2), some (xI x0), some (xI w98_3)] [] h99 Post := by
      intro m98
      induction m98 with
      | zero => intro w98_3 n99 s99 S99 Z99 h99 q98 f98_0 f98_1 f98_2 f98_3 f98_4 f98_5 f98_6 hx99 hG99 hf99; exact absurd q98 (by omega)
      | succ m98 ih98 =>
        intro w98_3 n99 s99 S99 Z99 h99 q98 f98_0 f98_1 f98_2 f98_3 f98_4 f98_5 f98_6 hx99 hG99 hf99
        have b100 : 0 ≤ Z99 3 3 ∧ Z99 3 3 ≤ 900 := hG99.pr 3 3
        have b101 : 0 ≤ Z99 3 4 ∧ Z99 3 4 ≤ 400 := hG99.pr 3 4
        have b102 : 0 ≤ Z99 3 3 ∧ Z99 3 3 ≤ 900 := hG99.pr 3 3
        have eq103 : Z99 3 0 = 2 := ((hf99 3 0 rfl rfl).trans ((up_ni hE97 (by decide)).trans ((hf78 3 0 rfl).trans ((up_ni hE77 (by decide)).trans ((hf62 3 0 rfl).trans ((hf47 3 0 rfl).trans ((hf32 3 0 rfl).trans ((hf20 3 0 rfl).trans ((up_ni hE19 (by decide)).trans ((up_ni hE18 (by decide)).trans ((up_ni hE11 (by decide)).trans ((hf10 3 0 rfl).trans ((up_ni hE8 (by decide)).trans ((up_ni hE7 (by decide)).trans ((up_ni hE6 (by decide)).trans ((up_ni hE5 (by decide)).trans ((up_ni hE4 (by decide)).trans (up_at hE1))))))))))))))))))
        have eq104 : Z99 3 1 = y3 := ((hf99 3 1 rfl rfl).trans ((up_ni hE97 (by decide)).trans ((hf78 3 1 rfl).trans ((up_ni hE77 (by decide)).trans ((hf62 3 1 rfl).trans ((hf47 3 1 rfl).trans ((hf32 3 1 rfl).trans ((hf20 3 1 rfl).trans ((up_ni hE19 (by decide)).trans ((up_ni hE18 (by decide)).trans ((up_ni hE11 (by decide)).trans ((hf10 3 1 rfl).trans ((up_ni hE8 (by decide)).trans ((up_ni hE7 (by decide)).trans ((up_ni hE6 (by decide)).trans ((up_ni hE5 (by decide)).trans (up_at hE4)))))))))))))))))
        have b105 : 0 ≤ Z99 3 2 ∧ Z99 3 2 ≤ 900 := hG99.pr 3 2
        have b106 : 0 ≤ Z99 3 3 ∧ Z99 3 3 ≤ 900 := hG99.pr 3 3
        have b107 : 0 ≤ Z99 3 4 ∧ Z99 3 4 ≤ 400 := hG99.pr 3 4
        have b108 : 0 ≤ Z99 3 7 ∧ Z99 3 7 ≤ 900 := hG99.pr 3 7
        have b109 : 0 ≤ Z99 3 14 ∧ Z99 3 14 ≤ 4 := hG99.pr 3 14
        have b110 : 0 ≤ Z99 3 12 ∧ Z99 3 12 ≤ 18 := hG99.pr 3 12
        have b111 : 0 ≤ Z99 3 12 ∧ Z99 3 12 ≤ 18 := hG99.pr 3 12
        have b112 : 0 ≤ Z99 3 4 ∧ Z99 3 4 ≤ 400 := hG99.pr 3 4
        have b113 : 0 ≤ Z99 3 12 ∧ Z99 3 12 ≤ 18 := hG99.pr 3 12
        have b114 : 0 ≤ Z99 3 12 ∧ Z99 3 12 ≤ 18 := hG99.pr 3 12
        have b115 : 0 ≤ Z99 3 10 ∧ Z99 3 10 ≤ 901 := hG99.pr 3 10
        have b116 : 0 ≤ Z99 3 3 ∧ Z99 3 3 ≤ 900 := hG99.pr 3 3
        refine mx_J.step (sn_38 108) (fun _ _ => rfl) ?_
        refine mx_J.step (sn_38 109) (fun _ _ => rfl) ?_
        have eq117 : Z99 3 1 = y3 := ((hf99 3 1 rfl rfl).trans ((up_ni hE97 (by decide)).trans ((hf78 3 1 rfl).trans ((up_ni hE77 (by decide)).trans ((hf62 3 1 rfl).trans ((hf47 3 1 rfl).trans ((hf32 3 1 rfl).trans ((hf20 3 1 rfl).trans ((up_ni hE19 (by decide)).trans ((up_ni hE18 (by decide)).trans ((up_ni hE11 (by decide)).trans ((hf10 3 1 rfl).trans ((up_ni hE8 (by decide)).trans ((up_ni hE7 (by decide)).trans ((up_ni hE6 (by decide)).trans ((up_ni hE5 (by decide)).trans (up_at hE4)))))))))))))))))
        have b118 : 0 ≤ Z99 3 12 ∧ Z99 3 12 ≤ 18 := hG99.pr 3 12
        refine JgetI (g := 1) (z := y3) hx99 (show mx_Sn _ _ 110 (mx_getf 7 1 113) from sn_38 110) (lt83 (GI_n hG99) rfl) (show S99 3 = .inl (7, [2, 0, 0, 0, 0, 0, 2, 0, 2, 2, 0, 2, 0, 0, 0, 0]) from GI_s hG99 3 rfl) rfl rfl ((hf99 3 1 rfl rfl).trans ((up_ni hE97 (by decide)).trans ((hf78 3 1 rfl).trans ((up_ni hE77 (by decide)).trans ((hf62 3 1 rfl).trans ((hf47 3 1 rfl).trans ((hf32 3 1 rfl).trans ((hf20 3 1 rfl).trans ((up_ni hE19 (by decide)).trans ((up_ni hE18 (by decide)).trans ((up_ni hE11 (by decide)).trans ((hf10 3 1 rfl).trans ((up_ni hE8 (by decide)).trans ((up_ni hE7 (by decide)).trans ((up_ni hE6 (by decide)).trans ((up_ni hE5 (by decide)).trans (up_at hE4))))))))))))))))) ?_
        have c157 : mx_J (tB l D b0 ad Hb tau) mt_38 (d + 63) 157 [some (.ref 3), some (.ref 2), some (xI x0), some (xI w98_3)] [] h99 Post := by
          refine mx_J.step (sn_38 157) (fun _ _ => rfl) ?_
          have b122 : 0 ≤ Z99 3 12 ∧ Z99 3 12 ≤ 18 := hG99.pr 3 12
          refine JgetI (g := 12) (z := Z99 3 12) hx99 (show mx_Sn _ _ 158 (mx_getf 7 12 161) from sn_38 158) (lt83 (GI_n hG99) rfl) (show S99 3 = .inl (7, [2, 0, 0, 0, 0, 0, 2, 0, 2, 2, 0, 2, 0, 0, 0, 0]) from GI_s hG99 3 rfl) rfl rfl rfl ?_
          have c176 : ∀  (Z124 : xZ) (h124 : mx_H), (1 ≤ Z124 3 12) → XH n99 s99 S99 Z124 h124 → GI n99 S99 Z124 → fr8 [(3, 12), (6, (-1))] Z99 Z124 → mx_J (tB l D b0 ad Hb tau) mt_38 (d + 63) 176 [some (.ref 3), some (.ref 2), some (xI x0), some (xI w98_3)] [] h124 Post := by
            intro Z124 h124 f123_0 hx124 hG124 hf124
            have b125 : 0 ≤ Z124 3 12 ∧ Z124 3 12 ≤ 18 := hG124.pr 3 12
            have b126 : 0 ≤ Z124 3 12 ∧ Z124 3 12 ≤ 18 := hG124.pr 3 12
            exact mx_J.ret (sn_38 176) (fun _ _ => rfl) (hP n99 s99 S99 Z124 h124 hx124 hG124 (fr8_tr (M := [(3, 0), (3, 1), (3, 2), (3, 3), (3, 4), (3, 5), (3, 7), (3, 8), (3, 9), (3, 10), (3, 12), (3, 13), (3, 14), (3, 15), (5, (-1)), (6, (-1))]) (fr8_tr (M := [(3, 0), (3, 1), (3, 2), (3, 3), (3, 4), (3, 5), (3, 7), (3, 8), (3, 9), (3, 10), (3, 12), (3, 13), (3, 14), (3, 15), (5, (-1)), (6, (-1))]) (fr8_tr (M := [(3, 0), (3, 1), (3, 2), (3, 3), (3, 4), (3, 5), (3, 7), (3, 8), (3, 9), (3, 10), (3, 12), (3, 13), (3, 14), (3, 15), (5, (-1)), (6, (-1))]) (fr8_tr (M := [(3, 0), (3, 1), (3, 2), (3, 3), (3, 4), (3, 5), (3, 7), (3, 8), (3, 9), (3, 10), (3, 12), (3, 13), (3, 14), (3, 15), (5, (-1)), (6, (-1))]) (fr8_tr (M := [(3, 0), (3, 1), (3, 2), (3, 3), (3, 4), (3, 5), (3, 7), (3, 8), (3, 9), (3, 10), (3, 12), (3, 13), (3, 14), (3, 15), (5, (-1)), (6, (-1))]) (fr8_tr (M := [(3, 0), (3, 1), (3, 2), (3, 3), (3, 4), (3, 5), (3, 7), (3, 8), (3, 9), (3, 10), (3, 12), (3, 13), (3, 14), (3, 15), (5, (-1)), (6, (-1))]) (fr8_tr (M := [(3, 0), (3, 1), (3, 2), (3, 3), (3, 4), (3, 5), (3, 7), (3, 8), (3, 9), (3, 10), (3, 12), (3, 13), (3, 14), (3, 15), (5, (-1)), (6, (-1))]) (fr8_tr (M := [(3, 0), (3, 1), (3, 2), (3, 3), (3, 4), (3, 5), (3, 7), (3, 8), (3, 9), (3, 10), (3, 12), (3, 13), (3, 14), (3, 15), (5, (-1)), (6, (-1))]) (fr8_tr (M := [(3, 0), (3, 1), (3, 2), (3, 3), (3, 4), (3, 5), (3, 7), (3, 8), (3, 9), (3, 10), (3, 12), (3, 13), (3, 14), (3, 15), (5, (-1)), (6, (-1))]) (fr8_tr (M := [(3, 0), (3, 1), (3, 2), (3, 3), (3, 4), (3, 5), (3, 7), (3, 8), (3, 9), (3, 10), (3, 12), (3, 13), (3, 14), (3, 15), (5, (-1)), (6, (-1))]) (fr8_tr (M := [(3, 0), (3, 1), (3, 2), (3, 3), (3, 4), (3, 5), (3, 7), (3, 8), (3, 9), (3, 10), (3, 12), (3, 13), (3, 14), (3, 15), (5, (-1)), (6, (-1))]) (fr8_tr (M := [(3, 0), (3, 1), (3, 2), (3, 3), (3, 4), (3, 5), (3, 7), (3, 8), (3, 9), (3, 10), (3, 12), (3, 13), (3, 14), (3, 15), (5, (-1)), (6, (-1))]) (fr8_tr (M := [(3, 0), (3, 1), (3, 2), (3, 3), (3, 4), (3, 5), (3, 7), (3, 8), (3, 9), (3, 10), (3, 12), (3, 13), (3, 14), (3, 15), (5, (-1)), (6, (-1))]) (fr8_tr (M := [(3, 0), (3, 1), (3, 2), (3, 3), (3, 4), (3, 5), (3, 7), (3, 8), (3, 9), (3, 10), (3, 12), (3, 13), (3, 14), (3, 15), (5, (-1)), (6, (-1))]) (fr8_tr (M := [(3, 0), (3, 1), (3, 2), (3, 3), (3, 4), (3, 5), (3, 7), (3, 8), (3, 9), (3, 10), (3, 12), (3, 13), (3, 14), (3, 15), (5, (-1)), (6, (-1))]) (fr8_tr (M := [(3, 0), (3, 1), (3, 2), (3, 3), (3, 4), (3, 5), (3, 7), (3, 8), (3, 9), (3, 10), (3, 12), (3, 13), (3, 14), (3, 15), (5, (-1)), (6, (-1))]) (fr8_tr (M := [(3, 0), (3, 1), (3, 2), (3, 3), (3, 4), (3, 5), (3, 7), (3, 8), (3, 9), (3, 10), (3, 12), (3, 13), (3, 14), (3, 15), (5, (-1)), (6, (-1))]) (fr8_tr (M := [(3, 0), (3, 1), (3, 2), (3, 3), (3, 4), (3, 5), (3, 7), (3, 8), (3, 9), (3, 10), (3, 12), (3, 13), (3, 14), (3, 15), (5, (-1)), (6, (-1))]) (fr8_tr (M := [(3, 0), (3, 1), (3, 2), (3, 3), (3, 4), (3, 5), (3, 7), (3, 8), (3, 9), (3, 10), (3, 12), (3, 13), (3, 14), (3, 15), (5, (-1)), (6, (-1))]) fr8_rf (fr8_of (fr_up hE1)) (M1 := []) rfl rfl) (fr8_of (fr_up hE4)) rfl rfl) (fr8_of (fr_up hE5)) rfl rfl) (fr8_of (fr_up hE6)) rfl rfl) (fr8_of (fr_up hE7)) rfl rfl) (fr8_of (fr_up hE8)) rfl rfl) (fr8_of (hf10)) rfl rfl) (fr8_of (fr_up hE11)) rfl rfl) (fr8_of (fr_up hE18)) rfl rfl) (fr8_of (fr_up hE19)) rfl rfl) (fr8_of (hf20)) rfl rfl) (fr8_of (hf32)) rfl rfl) (fr8_of (hf47)) rfl rfl) (fr8_of (hf62)) rfl rfl) (fr8_of (fr_up hE77)) rfl rfl) (fr8_of (hf78)) rfl rfl) (fr8_of (fr_up hE97)) rfl rfl) (hf99) rfl rfl) (hf124) rfl rfl) (by omega))
          refine Jif_ne (show mx_Sn _ _ 161 (mx_if_ne 176 164) from sn_38 161) (by omega) (fun q127 => ?_) (fun q127 => ?_)
          · skip
            have b128 : 0 ≤ Z99 3 12 ∧ Z99 3 12 ≤ 18 := hG99.pr 3 12
            exact c176 Z99 h99 (by omega) hx99 hG99 fr8_rf
          · skip
            refine mx_J.step (sn_38 164) (fun _ _ => rfl) ?_
            refine JgetR (g := 11) (b := 6) hx99 (show mx_Sn _ _ 165 (mx_getf 7 11 168) from sn_38 165) (lt83 (GI_n hG99) rfl) (show S99 3 = .inl (7, [2, 0, 0, 0, 0, 0, 2, 0, 2, 2, 0, 2, 0, 0, 0, 0]) from GI_s hG99 3 rfl) rfl rfl (hG99.prr 3 11 rfl) ?_
            refine JcI (z := 1) (show mx_Sn _ _ 168 (mx_const (.int 1) 169) from sn_38 168) rfl ?_
            refine JcI (z := 1) (show mx_Sn _ _ 169 (mx_const (.int 1) 170) from sn_38 169) rfl ?_
            have b130 : 0 ≤ Z99 3 12 ∧ Z99 3 12 ≤ 18 := hG99.pr 3 12
            have b131 : 0 ≤ Z99 3 12 ∧ Z99 3 12 ≤ 18 := hG99.pr 3 12
            have m899 : ai 6 Z99 19 0 1 = 1 := ai_m (len := 19) (lo := 0) (hi := (Z99 3 12) + 1) (by omega) (by omega) (by omega) (by omega)
            refine JiastI hx99 (show mx_Sn _ _ 170 (mx_iast 1 171) from sn_38 170) (lt83 (GI_n hG99) rfl) (show S99 6 = .inr (.int, 19, 0) from GI_s hG99 6 rfl) rfl (by omega) (fun Z132 h132 hx132 hE132 => ?_)
            have hG132 := GI_up hG99 hE132 (show 0 ≤ 1 ∧ 1 ≤ 20 by omega) trivial rfl
            have u3 : ai 6 Z132 19 0 1 = 1 := ai_u (Z := Z99) (by assumption) hE132 (by omega)
            refine mx_J.step (sn_38 171) (fun _ _ => rfl) ?_
            refine JcI (z := 1) (show mx_Sn _ _ 172 (mx_const (.int 1) 173) from sn_38 172) rfl ?_
            refine JputI (g := 12) hx132 (show mx_Sn _ _ 173 (mx_putf 1 7 12 (.int) 176) from sn_38 173) (lt83 (GI_n hG132) rfl) (show S99 3 = .inl (7, [2, 0, 0, 0, 0, 0, 2, 0, 2, 2, 0, 2, 0, 0, 0, 0]) from GI_s hG132 3 rfl) rfl rfl rfl rfl (fun Z133 h133 hx133 hE133 => ?_)
            have hG133 := GI_up hG132 hE133 (show 0 ≤ 1 ∧ 1 ≤ 18 by omega) trivial rfl
            have eq134 : Z133 3 12 = 1 := (up_at hE133)
            exact c176 Z133 h133 (by omega) hx133 hG133 (fr8_tr (M := [(3, 12), (6, (-1))]) (fr8_tr (M := [(3, 12), (6, (-1))]) fr8_rf (fr8_of (fr_ua hE132)) (M1 := []) rfl rfl) (fr8_of (fr_up hE133)) rfl rfl)
        refine Jicmp_ge (show mx_Sn _ _ 113 (mx_icmp_ge 157 116) from sn_38 113) (by omega) (by omega) (fun q135 => ?_) (fun q135 => ?_)
        · skip
          exact c157 
        · skip
          refine mx_J.step (sn_38 116) (fun _ _ => rfl) ?_
          have b137 : 0 ≤ Z99 3 4 ∧ Z99 3 4 ≤ 400 := hG99.pr 3 4
          refine JgetI (g := 4) (z := Z99 3 4) hx99 (show mx_Sn _ _ 117 (mx_getf 7 4 120) from sn_38 117) (lt83 (GI_n hG99) rfl) (show S99 3 = .inl (7, [2, 0, 0, 0, 0, 0, 2, 0, 2, 2, 0, 2, 0, 0, 0, 0]) from GI_s hG99 3 rfl) rfl rfl rfl ?_
          refine Jif_eq (show mx_Sn _ _ 120 (mx_if_eq 157 123) from sn_38 120) (by omega) (fun q138 => ?_) (fun q138 => ?_)
          · skip
            exact c157 
          · skip
            refine mx_J.step (sn_38 123) (fun _ _ => rfl) ?_
            have b140 : 0 ≤ Z99 3 4 ∧ Z99 3 4 ≤ 400 := hG99.pr 3 4
            refine JgetI (g := 4) (z := Z99 3 4) hx99 (show mx_Sn _ _ 124 (mx_getf 7 4 127) from sn_38 124) (lt83 (GI_n hG99) rfl) (show S99 3 = .inl (7, [2, 0, 0, 0, 0, 0, 2, 0, 2, 2, 0, 2, 0, 0, 0, 0]) from GI_s hG99 3 rfl) rfl rfl rfl ?_
            refine JcI (z := 3) (show mx_Sn _ _ 127 (mx_const (.int 3) 128) from sn_38 127) rfl ?_
            refine Jicmp_eq (show mx_Sn _ _ 128 (mx_icmp_eq 157 131) from sn_38 128) (by omega) (by omega) (fun q141 => ?_) (fun q141 => ?_)
            · skip
              exact c157 
            · skip
              refine mx_J.step (sn_38 131) (fun _ _ => rfl) ?_
              have eq143 : Z99 3 0 = 2 := ((hf99 3 0 rfl rfl).trans ((up_ni hE97 (by decide)).trans ((hf78 3 0 rfl).trans ((up_ni hE77 (by decide)).trans ((hf62 3 0 rfl).trans ((hf47 3 0 rfl).trans ((hf32 3 0 rfl).trans ((hf20 3 0 rfl).trans ((up_ni hE19 (by decide)).trans ((up_ni hE18 (by decide)).trans ((up_ni hE11 (by decide)).trans ((hf10 3 0 rfl).trans ((up_ni hE8 (by decide)).trans ((up_ni hE7 (by decide)).trans ((up_ni hE6 (by decide)).trans ((up_ni hE5 (by decide)).trans ((up_ni hE4 (by decide)).trans (up_at hE1))))))))))))))))))
              have eq144 : Z99 3 1 = y3 := ((hf99 3 1 rfl rfl).trans ((up_ni hE97 (by decide)).trans ((hf78 3 1 rfl).trans ((up_ni hE77 (by decide)).trans ((hf62 3 1 rfl).trans ((hf47 3 1 rfl).trans ((hf32 3 1 rfl).trans ((hf20 3 1 rfl).trans ((up_ni hE19 (by decide)).trans ((up_ni hE18 (by decide)).trans ((up_ni hE11 (by decide)).trans ((hf10 3 1 rfl).trans ((up_ni hE8 (by decide)).trans ((up_ni hE7 (by decide)).trans ((up_ni hE6 (by decide)).trans ((up_ni hE5 (by decide)).trans (up_at hE4)))))))))))))))))
              have b145 : 0 ≤ Z99 3 2 ∧ Z99 3 2 ≤ 900 := hG99.pr 3 2
              have b146 : 0 ≤ Z99 3 3 ∧ Z99 3 3 ≤ 900 := hG99.pr 3 3
              have b147 : 0 ≤ Z99 3 4 ∧ Z99 3 4 ≤ 400 := hG99.pr 3 4
              have b148 : 0 ≤ Z99 3 7 ∧ Z99 3 7 ≤ 900 := hG99.pr 3 7
              have b149 : 0 ≤ Z99 3 14 ∧ Z99 3 14 ≤ 4 := hG99.pr 3 14
              have b150 : 0 ≤ Z99 3 12 ∧ Z99 3 12 ≤ 18 := hG99.pr 3 12
              have b151 : 0 ≤ Z99 3 12 ∧ Z99 3 12 ≤ 18 := hG99.pr 3 12
              obtain ⟨n142, s142, S142, Z142, h142, hc142, hx142, hG142, hf142, b142⟩ := ct_40_3 (d := d + 0) (l := l) (D := D) (b0 := b0) (ad := ad) (Hb := Hb) (tau := tau) hx99 hG99  (show Z99 3 0 = 2 by first | omega | (simp only [eq143, eq144]; omega)) (show (Z99 3 3 ≤ Z99 3 2 ∧ Z99 3 2 ≤ Z99 3 1 ∧ (Z99 3 4 = 0 ∨ Z99 3 4 = 3 ∨ Z99 3 3 < Z99 3 2) ∧ (Z99 3 4 = 3 ∨ Z99 3 14 = 0)) by first | omega | (simp only [eq143, eq144]; omega)) (show ¬ Z99 3 4 = 0 by first | omega | (simp only [eq143, eq144]; omega)) (show ¬ Z99 3 4 = 3 by first | omega | (simp only [eq143, eq144]; omega)) (show ((n99 : Nat) : Int) ≤ 4095 by first | omega | (simp only [eq143, eq144]; omega)) (show ai 6 Z99 19 0 (Z99 3 12) = 1 by first | omega | (simp only [eq143, eq144]; omega))
              try rw [eq143] at b142
              try rw [eq144] at b142
              have b152 : 0 ≤ Z142 3 2 ∧ Z142 3 2 ≤ 900 := hG142.pr 3 2
              have b153 : 0 ≤ Z142 3 3 ∧ Z142 3 3 ≤ 900 := hG142.pr 3 3
              have b154 : 0 ≤ Z142 3 4 ∧ Z142 3 4 ≤ 400 := hG142.pr 3 4
              have b155 : 0 ≤ Z142 3 7 ∧ Z142 3 7 ≤ 900 := hG142.pr 3 7
              have b156 : 0 ≤ Z142 3 14 ∧ Z142 3 14 ≤ 4 := hG142.pr 3 14
              have b157 : 0 ≤ Z142 3 12 ∧ Z142 3 12 ≤ 18 := hG142.pr 3 12
              have b158 : 0 ≤ Z142 3 12 ∧ Z142 3 12 ≤ 18 := hG142.pr 3 12
              have b159 : 0 ≤ Z142 3 12 ∧ Z142 3 12 ≤ 18 := hG142.pr 3 12
              refine Jcv0 hx99 (show mx_Sn _ _ 132 (mx_callv 40 1 7 135) from sn_38 132) (lt83 (GI_n hG99) rfl) (show S99 3 = .inl (7, [2, 0, 0, 0, 0, 0, 2, 0, 2, 2, 0, 2, 0, 0, 0, 0]) from GI_s hG99 3 rfl) hc142 rfl rfl rfl ?_
              refine mx_J.step (sn_38 135) (fun _ _ => rfl) ?_
              refine JcI (z := 59) (show mx_Sn _ _ 136 (mx_const (.int 59) 138) from sn_38 136) rfl ?_
              have eq161 : Z142 3 0 = 2 := ((hf142 3 0 rfl rfl).trans ((hf99 3 0 rfl rfl).trans ((up_ni hE97 (by decide)).trans ((hf78 3 0 rfl).trans ((up_ni hE77 (by decide)).trans ((hf62 3 0 rfl).trans ((hf47 3 0 rfl).trans ((hf32 3 0 rfl).trans ((hf20 3 0 rfl).trans ((up_ni hE19 (by decide)).trans ((up_ni hE18 (by decide)).trans ((up_ni hE11 (by decide)).trans ((hf10 3 0 rfl).trans ((up_ni hE8 (by decide)).trans ((up_ni hE7 (by decide)).trans ((up_ni hE6 (by decide)).trans ((up_ni hE5 (by decide)).trans ((up_ni hE4 (by decide)).trans (up_at hE1)))))))))))))))))))
              have eq162 : Z142 3 1 = y3 := ((hf142 3 1 rfl rfl).trans ((hf99 3 1 rfl rfl).trans ((up_ni hE97 (by decide)).trans ((hf78 3 1 rfl).trans ((up_ni hE77 (by decide)).trans ((hf62 3 1 rfl).trans ((hf47 3 1 rfl).trans ((hf32 3 1 rfl).trans ((hf20 3 1 rfl).trans ((up_ni hE19 (by decide)).trans ((up_ni hE18 (by decide)).trans ((up_ni hE11 (by decide)).trans ((hf10 3 1 rfl).trans ((up_ni hE8 (by decide)).trans ((up_ni hE7 (by decide)).trans ((up_ni hE6 (by decide)).trans ((up_ni hE5 (by decide)).trans (up_at hE4))))))))))))))))))
              have b163 : 0 ≤ Z142 3 2 ∧ Z142 3 2 ≤ 900 := hG142.pr 3 2
              have b164 : 0 ≤ Z142 3 3 ∧ Z142 3 3 ≤ 900 := hG142.pr 3 3
              have b165 : 0 ≤ Z142 3 4 ∧ Z142 3 4 ≤ 400 := hG142.pr 3 4
              have b166 : 0 ≤ Z142 3 7 ∧ Z142 3 7 ≤ 900 := hG142.pr 3 7
              have b167 : 0 ≤ Z142 3 14 ∧ Z142 3 14 ≤ 4 := hG142.pr 3 14
              obtain ⟨Z160, h160, hc160, hx160, hG160, hf160, b160⟩ := ct_53_3_k (d := d + 56) (l := l) (D := D) (b0 := b0) (ad := ad) (Hb := Hb) (tau := tau) hx142 hG142 (show 40 ≤ 59 ∧ 59 ≤ 320 by omega) (show Z142 3 0 = 2 by first | omega | (simp only [eq161, eq162]; omega)) (show (Z142 3 3 ≤ Z142 3 2 ∧ Z142 3 2 ≤ Z142 3 1 ∧ (Z142 3 4 = 0 ∨ Z142 3 4 = 3 ∨ Z142 3 3 < Z142 3 2) ∧ (Z142 3 4 = 3 ∨ Z142 3 14 = 0)) by first | omega | (simp only [eq161, eq162]; omega))
              try rw [eq161] at b160
              try rw [eq162] at b160
              have b168 : 0 ≤ Z160 3 2 ∧ Z160 3 2 ≤ 900 := hG160.pr 3 2
              have b169 : 0 ≤ Z160 3 3 ∧ Z160 3 3 ≤ 900 := hG160.pr 3 3
              have b170 : 0 ≤ Z160 3 4 ∧ Z160 3 4 ≤ 400 := hG160.pr 3 4
              have eq171 : Z160 3 7 = Z142 3 7 := (hf160 3 7 rfl)
              have b172 : 0 ≤ Z142 3 7 ∧ Z142 3 7 ≤ 900 := hG142.pr 3 7
              have b173 : 0 ≤ Z160 3 14 ∧ Z160 3 14 ≤ 4 := hG160.pr 3 14
              refine Jcv0 hx142 (show mx_Sn _ _ 138 (mx_callv 53 2 7 141) from sn_38 138) (lt83 (GI_n hG142) rfl) (show S142 3 = .inl (7, [2, 0, 0, 0, 0, 0, 2, 0, 2, 2, 0, 2, 0, 0, 0, 0]) from GI_s hG142 3 rfl) hc160 rfl rfl rfl ?_
              refine mx_J.step (sn_38 141) (fun _ _ => rfl) ?_
              refine mx_J.step (sn_38 142) (fun _ _ => rfl) ?_
              have b175 : 0 ≤ Z99 3 10 ∧ Z99 3 10 ≤ 901 := hG99.pr 3 10
              refine JgetI (g := 10) (z := Z99 3 10) hx160 (show mx_Sn _ _ 143 (mx_getf 7 10 146) from sn_38 143) (lt83 (GI_n hG160) rfl) (show S142 3 = .inl (7, [2, 0, 0, 0, 0, 0, 2, 0, 2, 2, 0, 2, 0, 0, 0, 0]) from GI_s hG160 3 rfl) rfl rfl ((hf160 3 10 rfl).trans (hf142 3 10 rfl rfl)) ?_
              refine JcI (z := 1) (show mx_Sn _ _ 146 (mx_const (.int 1) 147) from sn_38 146) rfl ?_
              refine Jiadd (show mx_Sn _ _ 147 (mx_iadd 148) from sn_38 147) ?_
              refine JputI (g := 10) hx160 (show mx_Sn _ _ 148 (mx_putf 1 7 10 (.int) 151) from sn_38 148) (lt83 (GI_n hG160) rfl) (show S142 3 = .inl (7, [2, 0, 0, 0, 0, 0, 2, 0, 2, 2, 0, 2, 0, 0, 0, 0]) from GI_s hG160 3 rfl) rfl rfl rfl rfl (fun Z176 h176 hx176 hE176 => ?_)
              have hG176 := GI_up hG160 hE176 (show 0 ≤ (Z99 3 10) + 1 ∧ (Z99 3 10) + 1 ≤ 901 by omega) trivial rfl
              refine Jiinc (z := w98_3) (cz := 1) (ls2 := [some (.ref 3), some (.ref 2), some (xI x0), some (xI (w98_3 + 1))]) (show mx_Sn _ _ 151 (mx_iinc 3 1 154) from sn_38 151) rfl rfl rfl rfl ?_
              refine mx_J.step (sn_38 154) (fun _ _ => rfl) ?_
              have eq177 : Z176 3 3 = Z160 3 3 := (up_ni hE176 (by decide))
              have b178 : 0 ≤ Z160 3 3 ∧ Z160 3 3 ≤ 900 := hG160.pr 3 3
              have eq179 : Z176 3 4 = Z160 3 4 := (up_ni hE176 (by decide))
              have b180 : 0 ≤ Z160 3 4 ∧ Z160 3 4 ≤ 400 := hG160.pr 3 4
              have eq181 : Z176 3 3 = Z160 3 3 := (up_ni hE176 (by decide))
              have b182 : 0 ≤ Z160 3 3 ∧ Z160 3 3 ≤ 900 := hG160.pr 3 3
              have eq183 : Z176 3 0 = 2 := ((up_ni hE176 (by decide)).trans ((hf160 3 0 rfl).trans ((hf142 3 0 rfl rfl).trans ((hf99 3 0 rfl rfl).trans ((up_ni hE97 (by decide)).trans ((hf78 3 0 rfl).trans ((up_ni hE77 (by decide)).trans ((hf62 3 0 rfl).trans ((hf47 3 0 rfl).trans ((hf32 3 0 rfl).trans ((hf20 3 0 rfl).trans ((up_ni hE19 (by decide)).trans ((up_ni hE18 (by decide)).trans ((up_ni hE11 (by decide)).trans ((hf10 3 0 rfl).trans ((up_ni hE8 (by decide)).trans ((up_ni hE7 (by decide)).trans ((up_ni hE6 (by decide)).trans ((up_ni hE5 (by decide)).trans ((up_ni hE4 (by decide)).trans (up_at hE1)))))))))))))))))))))
              have eq184 : Z176 3 1 = y3 := ((up_ni hE176 (by decide)).trans ((hf160 3 1 rfl).trans ((hf142 3 1 rfl rfl).trans ((hf99 3 1 rfl rfl).trans ((up_ni hE97 (by decide)).trans ((hf78 3 1 rfl).trans ((up_ni hE77 (by decide)).trans ((hf62 3 1 rfl).trans ((hf47 3 1 rfl).trans ((hf32 3 1 rfl).trans ((hf20 3 1 rfl).trans ((up_ni hE19 (by decide)).trans ((up_ni hE18 (by decide)).trans ((up_ni hE11 (by decide)).trans ((hf10 3 1 rfl).trans ((up_ni hE8 (by decide)).trans ((up_ni hE7 (by decide)).trans ((up_ni hE6 (by decide)).trans ((up_ni hE5 (by decide)).trans (up_at hE4))))))))))))))))))))
              have eq185 : Z176 3 2 = Z160 3 2 := (up_ni hE176 (by decide))
              have b186 : 0 ≤ Z160 3 2 ∧ Z160 3 2 ≤ 900 := hG160.pr 3 2
              have eq187 : Z176 3 3 = Z160 3 3 := (up_ni hE176 (by decide))
              have b188 : 0 ≤ Z160 3 3 ∧ Z160 3 3 ≤ 900 := hG160.pr 3 3
              have eq189 : Z176 3 4 = Z160 3 4 := (up_ni hE176 (by decide))
              have b190 : 0 ≤ Z160 3 4 ∧ Z160 3 4 ≤ 400 := hG160.pr 3 4
              have eq191 : Z176 3 7 = Z142 3 7 := ((up_ni hE176 (by decide)).trans (hf160 3 7 rfl))
              have b192 : 0 ≤ Z142 3 7 ∧ Z142 3 7 ≤ 900 := hG142.pr 3 7
              have eq193 : Z176 3 14 = Z160 3 14 := (up_ni hE176 (by decide))
              have b194 : 0 ≤ Z160 3 14 ∧ Z160 3 14 ≤ 4 := hG160.pr 3 14
              have eq195 : Z176 3 12 = Z142 3 12 := ((up_ni hE176 (by decide)).trans (hf160 3 12 rfl))
              have b196 : 0 ≤ Z142 3 12 ∧ Z142 3 12 ≤ 18 := hG142.pr 3 12
              have b197 : 0 ≤ Z142 3 12 ∧ Z142 3 12 ≤ 18 := hG142.pr 3 12
              have eq198 : (ai 6) Z176 19 0 ((Z176 3 12) + 1) = (ai 6) Z142 19 0 ((Z142 3 12) + 1) := by rw [(show Z176 3 12 = Z142 3 12 from ((up_ni hE176 (by decide)).trans (hf160 3 12 rfl)))]; exact ((ai_c (fun i => up_nk hE176 rfl)).trans (ai_c (fun i => hf160 6 i rfl)))
              have eq199 : (ai 6) Z176 19 0 ((Z142 3 12) + 1) = (ai 6) Z142 19 0 ((Z142 3 12) + 1) := ((ai_c (fun i => up_nk hE176 rfl)).trans (ai_c (fun i => hf160 6 i rfl)))
              have eq200 : Z176 3 4 = Z160 3 4 := (up_ni hE176 (by decide))
              have b201 : 0 ≤ Z160 3 4 ∧ Z160 3 4 ≤ 400 := hG160.pr 3 4
              have eq202 : Z176 3 12 = Z142 3 12 := ((up_ni hE176 (by decide)).trans (hf160 3 12 rfl))
              have b203 : 0 ≤ Z142 3 12 ∧ Z142 3 12 ≤ 18 := hG142.pr 3 12
              have b204 : 0 ≤ Z142 3 12 ∧ Z142 3 12 ≤ 18 := hG142.pr 3 12
              have eq205 : (ai 6) Z176 19 0 (Z176 3 12) = (ai 6) Z142 19 0 (Z142 3 12) := by rw [(show Z176 3 12 = Z142 3 12 from ((up_ni hE176 (by decide)).trans (hf160 3 12 rfl)))]; exact ((ai_c (fun i => up_nk hE176 rfl)).trans (ai_c (fun i => hf160 6 i rfl)))
              have eq206 : (ai 6) Z176 19 0 (Z142 3 12) = (ai 6) Z142 19 0 (Z142 3 12) := ((ai_c (fun i => up_nk hE176 rfl)).trans (ai_c (fun i => hf160 6 i rfl)))
              have eq207 : Z176 3 10 = (Z99 3 10) + 1 := (up_at hE176)
              have eq208 : Z176 3 3 = Z160 3 3 := (up_ni hE176 (by decide))
              have b209 : 0 ≤ Z160 3 3 ∧ Z160 3 3 ≤ 900 := hG160.pr 3 3
              exact ih98 (w98_3 + 1) n142 s142 S142 Z176 h176 (by omega) (by omega) (by omega) (by omega) (by omega) (by omega) (by omega) (by omega) hx176 hG176 (fr8_tr (M := [(3, 2), (3, 3), (3, 4), (3, 5), (3, 7), (3, 8), (3, 9), (3, 10), (3, 12), (3, 14), (3, 15), (5, (-1)), (6, (-1))]) (fr8_tr (M := [(3, 2), (3, 3), (3, 4), (3, 5), (3, 7), (3, 8), (3, 9), (3, 10), (3, 12), (3, 14), (3, 15), (5, (-1)), (6, (-1))]) (fr8_tr (M := [(3, 2), (3, 3), (3, 4), (3, 5), (3, 7), (3, 8), (3, 9), (3, 10), (3, 12), (3, 14), (3, 15), (5, (-1)), (6, (-1))]) (fr8_tr (M := [(3, 2), (3, 3), (3, 4), (3, 5), (3, 7), (3, 8), (3, 9), (3, 10), (3, 12), (3, 14), (3, 15), (5, (-1)), (6, (-1))]) fr8_rf (hf99) (M1 := []) rfl rfl) (hf142) rfl rfl) (fr8_of (hf160)) rfl rfl) (fr8_of (fr_up hE176)) rfl rfl)
    have eq210 : Z97 3 3 = Z78 3 3 := (up_ni hE97 (by decide))
    have b211 : 0 ≤ Z78 3 3 ∧ Z78 3 3 ≤ 900 := hG78.pr 3 3
    have eq212 : Z97 3 4 = Z78 3 4 := (up_ni hE97 (by decide))
    have b213 : 0 ≤ Z78 3 4 ∧ Z78 3 4 ≤ 400 := hG78.pr 3 4
    have eq214 : Z97 3 3 = Z78 3 3 := (up_ni hE97 (by decide))
    have b215 : 0 ≤ Z78 3 3 ∧ Z78 3 3 ≤ 900 := hG78.pr 3 3
    have eq216 : Z97 3 0 = 2 := ((up_ni hE97 (by decide)).trans ((hf78 3 0 rfl).trans ((up_ni hE77 (by decide)).trans ((hf62 3 0 rfl).trans ((hf47 3 0 rfl).trans ((hf32 3 0 rfl).trans ((hf20 3 0 rfl).trans ((up_ni hE19 (by decide)).trans ((up_ni hE18 (by decide)).trans ((up_ni hE11 (by decide)).trans ((hf10 3 0 rfl).trans ((up_ni hE8 (by decide)).trans ((up_ni hE7 (by decide)).trans ((up_ni hE6 (by decide)).trans ((up_ni hE5 (by decide)).trans ((up_ni hE4 (by decide)).trans (up_at hE1)))))))))))))))))
    have eq217 : Z97 3 1 = y3 := ((up_ni hE97 (by decide)).trans ((hf78 3 1 rfl).trans ((up_ni hE77 (by decide)).trans ((hf62 3 1 rfl).trans ((hf47 3 1 rfl).trans ((hf32 3 1 rfl).trans ((hf20 3 1 rfl).trans ((up_ni hE19 (by decide)).trans ((up_ni hE18 (by decide)).trans ((up_ni hE11 (by decide)).trans ((hf10 3 1 rfl).trans ((up_ni hE8 (by decide)).trans ((up_ni hE7 (by decide)).trans ((up_ni hE6 (by decide)).trans ((up_ni hE5 (by decide)).trans (up_at hE4))))))))))))))))
    have eq218 : Z97 3 2 = Z78 3 2 := (up_ni hE97 (by decide))
    have b219 : 0 ≤ Z78 3 2 ∧ Z78 3 2 ≤ 900 := hG78.pr 3 2
    have eq220 : Z97 3 3 = Z78 3 3 := (up_ni hE97 (by decide))
    have b221 : 0 ≤ Z78 3 3 ∧ Z78 3 3 ≤ 900 := hG78.pr 3 3
    have eq222 : Z97 3 4 = Z78 3 4 := (up_ni hE97 (by decide))
    have b223 : 0 ≤ Z78 3 4 ∧ Z78 3 4 ≤ 400 := hG78.pr 3 4
    have eq224 : Z97 3 7 = Z 3 7 := ((up_ni hE97 (by decide)).trans ((hf78 3 7 rfl).trans ((up_ni hE77 (by decide)).trans ((hf62 3 7 rfl).trans ((hf47 3 7 rfl).trans ((hf32 3 7 rfl).trans ((hf20 3 7 rfl).trans ((up_ni hE19 (by decide)).trans ((up_ni hE18 (by decide)).trans ((up_ni hE11 (by decide)).trans ((hf10 3 7 rfl).trans ((up_ni hE8 (by decide)).trans ((up_ni hE7 (by decide)).trans ((up_ni hE6 (by decide)).trans ((up_ni hE5 (by decide)).trans ((up_ni hE4 (by decide)).trans (up_ni hE1 (by decide))))))))))))))))))
    have b225 : 0 ≤ Z 3 7 ∧ Z 3 7 ≤ 900 := hG.pr 3 7
    have eq226 : Z97 3 14 = Z78 3 14 := (up_ni hE97 (by decide))
    have b227 : 0 ≤ Z78 3 14 ∧ Z78 3 14 ≤ 4 := hG78.pr 3 14
    have eq228 : Z97 3 12 = 0 := ((up_ni hE97 (by decide)).trans ((hf78 3 12 rfl).trans ((up_ni hE77 (by decide)).trans ((hf62 3 12 rfl).trans ((hf47 3 12 rfl).trans ((hf32 3 12 rfl).trans ((hf20 3 12 rfl).trans ((up_ni hE19 (by decide)).trans ((up_ni hE18 (by decide)).trans (up_at hE11))))))))))
    have eq229 : (ai 6) Z97 19 0 ((Z97 3 12) + 1) = (ai 6) Z10 19 0 (0 + 1) := by rw [(show Z97 3 12 = 0 from ((up_ni hE97 (by decide)).trans ((hf78 3 12 rfl).trans ((up_ni hE77 (by decide)).trans ((hf62 3 12 rfl).trans ((hf47 3 12 rfl).trans ((hf32 3 12 rfl).trans ((hf20 3 12 rfl).trans ((up_ni hE19 (by decide)).trans ((up_ni hE18 (by decide)).trans (up_at hE11)))))))))))]; exact ((ai_c (fun i => up_nk hE97 rfl)).trans ((ai_c (fun i => hf78 6 i rfl)).trans ((ai_c (fun i => up_nk hE77 rfl)).trans ((ai_c (fun i => hf62 6 i rfl)).trans ((ai_c (fun i => hf47 6 i rfl)).trans ((ai_c (fun i => hf32 6 i rfl)).trans ((ai_c (fun i => hf20 6 i rfl)).trans ((ai_c (fun i => up_nk hE19 rfl)).trans ((ai_c (fun i => up_nk hE18 rfl)).trans (ai_c (fun i => up_nk hE11 rfl)))))))))))
    have eq230 : (ai 6) Z97 19 0 (0 + 1) = (ai 6) Z10 19 0 (0 + 1) := ((ai_c (fun i => up_nk hE97 rfl)).trans ((ai_c (fun i => hf78 6 i rfl)).trans ((ai_c (fun i => up_nk hE77 rfl)).trans ((ai_c (fun i => hf62 6 i rfl)).trans ((ai_c (fun i => hf47 6 i rfl)).trans ((ai_c (fun i => hf32 6 i rfl)).trans ((ai_c (fun i => hf20 6 i rfl)).trans ((ai_c (fun i => up_nk hE19 rfl)).trans ((ai_c (fun i => up_nk hE18 rfl)).trans (ai_c (fun i => up_nk hE11 rfl)))))))))))
    have eq231 : Z97 3 4 = Z78 3 4 := (up_ni hE97 (by decide))
    have b232 : 0 ≤ Z78 3 4 ∧ Z78 3 4 ≤ 400 := hG78.pr 3 4
    have eq233 : Z97 3 12 = 0 := ((up_ni hE97 (by decide)).trans ((hf78 3 12 rfl).trans ((up_ni hE77 (by decide)).trans ((hf62 3 12 rfl).trans ((hf47 3 12 rfl).trans ((hf32 3 12 rfl).trans ((hf20 3 12 rfl).trans ((up_ni hE19 (by decide)).trans ((up_ni hE18 (by decide)).trans (up_at hE11))))))))))
    have eq234 : (ai 6) Z97 19 0 (Z97 3 12) = (ai 6) Z10 19 0 0 := by rw [(show Z97 3 12 = 0 from ((up_ni hE97 (by decide)).trans ((hf78 3 12 rfl).trans ((up_ni hE77 (by decide)).trans ((hf62 3 12 rfl).trans ((hf47 3 12 rfl).trans ((hf32 3 12 rfl).trans ((hf20 3 12 rfl).trans ((up_ni hE19 (by decide)).trans ((up_ni hE18 (by decide)).trans (up_at hE11)))))))))))]; exact ((ai_c (fun i => up_nk hE97 rfl)).trans ((ai_c (fun i => hf78 6 i rfl)).trans ((ai_c (fun i => up_nk hE77 rfl)).trans ((ai_c (fun i => hf62 6 i rfl)).trans ((ai_c (fun i => hf47 6 i rfl)).trans ((ai_c (fun i => hf32 6 i rfl)).trans ((ai_c (fun i => hf20 6 i rfl)).trans ((ai_c (fun i => up_nk hE19 rfl)).trans ((ai_c (fun i => up_nk hE18 rfl)).trans (ai_c (fun i => up_nk hE11 rfl)))))))))))
    have eq235 : (ai 6) Z97 19 0 0 = (ai 6) Z10 19 0 0 := ((ai_c (fun i => up_nk hE97 rfl)).trans ((ai_c (fun i => hf78 6 i rfl)).trans ((ai_c (fun i => up_nk hE77 rfl)).trans ((ai_c (fun i => hf62 6 i rfl)).trans ((ai_c (fun i => hf47 6 i rfl)).trans ((ai_c (fun i => hf32 6 i rfl)).trans ((ai_c (fun i => hf20 6 i rfl)).trans ((ai_c (fun i => up_nk hE19 rfl)).trans ((ai_c (fun i => up_nk hE18 rfl)).trans (ai_c (fun i => up_nk hE11 rfl)))))))))))
    have eq236 : Z97 3 10 = 1 := (up_at hE97)
    have eq237 : Z97 3 3 = Z78 3 3 := (up_ni hE97 (by decide))
    have b238 : 0 ≤ Z78 3 3 ∧ Z78 3 3 ≤ 900 := hG78.pr 3 3
    exact c108 (Int.toNat (900 - 0) + 1) 0 n s S Z97 h97 (by omega) (by omega) (by omega) (by omega) (by omega) (by omega) (by omega) (by omega) hx97 hG97 fr8_rf
theorem ct_38_3_2 {l : Launch} {D : va_G} {b0 : Nat} {ad : Nat → Nat} {Hb : Heap} {tau : Nat → Int64} {d n s : Nat} {S : Nat → xS} {Z : xZ} {h : mx_H} (hx : XH n s S Z h) (hG : GI n S Z)  {x0 : Int} (p0 : 0 ≤ x0 ∧ x0 ≤ 900) (k0 : 3 * ((n : Nat) : Int) + x0 + 6 ≤ 12288) : ∃ (n' s' : Nat) (S' : Nat → xS) (Z' : xZ) (h' : mx_H), mx_Ca (tB l D b0 ad Hb tau) (d + 64) 38 [.ref 3, .ref 2, xI x0] h (none, h') ∧ XH n' s' S' Z' h' ∧ GI n' S' Z' ∧ fr8 [(3, 0), (3, 1), (3, 2), (3, 3), (3, 4), (3, 5), (3, 7), (3, 8), (3, 9), (3, 10), (3, 12), (3, 13), (3, 14), (3, 15), (5, (-1)), (6, (-1))] Z Z' ∧ ((1 ≤ Z' 3 12 ∧ ((n : Nat) : Int) ≤ ((n' : Nat) : Int) ∧ ((s : Nat) : Int) ≤ ((s' : Nat) : Int) ∧ ((s' : Nat) : Int) ≤ ((s : Nat) : Int) + 900 * (((n' : Nat) : Int) - ((n : Nat) : Int)) ∧ 3 * (((n' : Nat) : Int) - ((n : Nat) : Int)) ≤ x0 + 3)) := by
  obtain ⟨r, hca, n', s', S', Z', h', e, q⟩ := Jmt (B := tB l D b0 ad Hb tau) (M := mt_38) (mi := 38) (as := [.ref 3, .ref 2, xI x0]) (d := d + 63) (ls := [some (.ref 3), some (.ref 2), some (xI x0), none]) rfl rfl rfl rfl rfl rfl (cw_38_3_2 (l := l) (D := D) (b0 := b0) (ad := ad) (Hb := Hb) (tau := tau) (d := d) (Post := fun r => ∃ (n' s' : Nat) (S' : Nat → xS) (Z' : xZ) (h' : mx_H), r = (none, h') ∧ XH n' s' S' Z' h' ∧ GI n' S' Z' ∧ fr8 [(3, 0), (3, 1), (3, 2), (3, 3), (3, 4), (3, 5), (3, 7), (3, 8), (3, 9), (3, 10), (3, 12), (3, 13), (3, 14), (3, 15), (5, (-1)), (6, (-1))] Z Z' ∧ ((1 ≤ Z' 3 12 ∧ ((n : Nat) : Int) ≤ ((n' : Nat) : Int) ∧ ((s : Nat) : Int) ≤ ((s' : Nat) : Int) ∧ ((s' : Nat) : Int) ≤ ((s : Nat) : Int) + 900 * (((n' : Nat) : Int) - ((n : Nat) : Int)) ∧ 3 * (((n' : Nat) : Int) - ((n : Nat) : Int)) ≤ x0 + 3))) hx hG p0 k0 (fun n' s' S' Z' h' q1 q2 q3 q4 => ⟨n', s', S', Z', h', rfl, q1, q2, q3, q4⟩))
  subst e; exact ⟨n', s', S', Z', h', hca, q⟩
