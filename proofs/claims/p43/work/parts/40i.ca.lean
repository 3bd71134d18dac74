set_option maxHeartbeats 8000000 in
set_option maxRecDepth 100000 in
theorem cw_38_3_2 {l : Launch} {D : va_G} {b0 : Nat} {ad : Nat → Nat} {Hb : Heap} {tau : Nat → Int64} {d n s : Nat} {S : Nat → xS} {Z : xZ} {h : mx_H} {Post : mx_R → Prop} {T : Int → Int} {N : Int} (hx : XH n s S Z h) (hG : GI n S Z)  {x0 : Int} (p0 : 0 ≤ x0 ∧ x0 ≤ 900) (k0 : 3 * ((n : Nat) : Int) + x0 + 6 ≤ 12288) (k1 : TB T N Z) (k2 : N = x0) (hP : ∀ (n' s' : Nat) (S' : Nat → xS) (Z' : xZ) (h' : mx_H), XH n' s' S' Z' h' → GI n' S' Z' → fr8 [(3, 0), (3, 1), (3, 2), (3, 3), (3, 4), (3, 5), (3, 7), (3, 8), (3, 9), (3, 10), (3, 12), (3, 13), (3, 14), (3, 15), (5, (-1)), (6, (-1))] Z Z' → RDc T N Z' ∧ (1 ≤ Z' 3 12 ∧ ((n : Nat) : Int) ≤ ((n' : Nat) : Int) ∧ ((s : Nat) : Int) ≤ ((s' : Nat) : Int) ∧ ((s' : Nat) : Int) ≤ ((s : Nat) : Int) + 900 * (((n' : Nat) : Int) - ((n : Nat) : Int)) ∧ 3 * (((n' : Nat) : Int) - ((n : Nat) : Int)) ≤ x0 + 3) → Post (none, h')) : mx_J (tB l D b0 ad Hb tau) mt_38 (d + 106) 0 [some (.ref 3), some (.ref 2), some (xI x0), none] [] h Post := by
    refine mx_J.step (sn_38 0) (fun _ _ => rfl) ?_
    refine mx_J.step (sn_38 1) (fun _ _ => rfl) ?_
    refine JputR (g := 0) hx (show mx_Sn _ _ 2 (mx_putf 1 7 0 (.array .byte) 5) from sn_38 2) (lt83 (GI_n hG) rfl) (show S 3 = .inl (7, [2, 0, 0, 0, 0, 0, 2, 0, 2, 2, 0, 2, 0, 0, 0, 0]) from GI_s hG 3 rfl) rfl rfl rfl rfl (fun Z1 h1 hx1 hE1 => ?_)
    have hG1 := GI_up hG hE1 (by decide) trivial rfl
    refine mx_J.step (sn_38 5) (fun _ _ => rfl) ?_
    refine JcI (z := 0) (show mx_Sn _ _ 6 (mx_const (.int 0) 7) from sn_38 6) rfl ?_
    refine mx_J.step (sn_38 7) (fun _ _ => rfl) ?_
    refine mx_J.step (sn_38 8) (fun _ _ => rfl) ?_
    refine JalenI (z := 900) hx1 (show mx_Sn _ _ 9 (mx_alen 10) from sn_38 9) (lt83 (GI_n hG1) rfl) (show S 2 = .inr (.byte, 900, 0) from GI_s hG1 2 rfl) (by decide) rfl ?_
    refine Jmmin (show mx_Sn _ _ 10 (mx_mmin 13) from sn_38 10) (by omega) (by omega) ⟨_, rfl⟩ rfl (fun y2 hy2 => ?_)
    refine Jmmax (show mx_Sn _ _ 13 (mx_mmax 16) from sn_38 13) (by omega) (by omega) ⟨_, rfl⟩ rfl (fun y3 hy3 => ?_)
    have ey : y3 = x0 := by omega
    refine JputI (g := 1) hx1 (show mx_Sn _ _ 16 (mx_putf 1 7 1 (.int) 19) from sn_38 16) (lt83 (GI_n hG1) rfl) (show S 3 = .inl (7, [2, 0, 0, 0, 0, 0, 2, 0, 2, 2, 0, 2, 0, 0, 0, 0]) from GI_s hG1 3 rfl) rfl rfl rfl rfl (fun Z4 h4 hx4 hE4 => ?_)
    have hG4 := GI_up hG1 hE4 (show 0 ≤ y3 ∧ y3 ≤ 900 by omega) trivial rfl
    refine mx_J.step (sn_38 19) (fun _ _ => rfl) ?_
    refine JcI (z := 0) (show mx_Sn _ _ 20 (mx_const (.int 0) 21) from sn_38 20) rfl ?_
    refine JputI (g := 2) hx4 (show mx_Sn _ _ 21 (mx_putf 1 7 2 (.int) 24) from sn_38 21) (lt83 (GI_n hG4) rfl) (show S 3 = .inl (7, [2, 0, 0, 0, 0, 0, 2, 0, 2, 2, 0, 2, 0, 0, 0, 0]) from GI_s hG4 3 rfl) rfl rfl rfl rfl (fun Z5 h5 hx5 hE5 => ?_)
    have hG5 := GI_up hG4 hE5 (show 0 ≤ 0 ∧ 0 ≤ 900 by omega) trivial rfl
    refine mx_J.step (sn_38 24) (fun _ _ => rfl) ?_
    refine mx_J.step (sn_38 25) (fun _ _ => rfl) ?_
    refine JputR (g := 8) hx5 (show mx_Sn _ _ 28 (mx_putf 1 7 8 (.array .int) 31) from sn_38 28) (lt83 (GI_n hG5) rfl) (show S 3 = .inl (7, [2, 0, 0, 0, 0, 0, 2, 0, 2, 2, 0, 2, 0, 0, 0, 0]) from GI_s hG5 3 rfl) rfl rfl rfl rfl (fun Z6 h6 hx6 hE6 => ?_)
    have hG6 := GI_upC hG5 hE6 (by decide) trivial rfl ⟨0, 0, rfl, Or.inl rfl, (lt83 (GI_n hG5) rfl), by omega, (show S 0 = .inr (.int, 0, 0) from GI_s hG5 0 rfl)⟩
    refine mx_J.step (sn_38 31) (fun _ _ => rfl) ?_
    refine mx_J.step (sn_38 32) (fun _ _ => rfl) ?_
    refine JputR (g := 9) hx6 (show mx_Sn _ _ 35 (mx_putf 1 7 9 (.array .int) 38) from sn_38 35) (lt83 (GI_n hG6) rfl) (show S 3 = .inl (7, [2, 0, 0, 0, 0, 0, 2, 0, 2, 2, 0, 2, 0, 0, 0, 0]) from GI_s hG6 3 rfl) rfl rfl rfl rfl (fun Z7 h7 hx7 hE7 => ?_)
    have hG7 := GI_upC hG6 hE7 (by decide) trivial rfl ⟨0, 0, rfl, Or.inl rfl, (lt83 (GI_n hG6) rfl), by omega, (show S 0 = .inr (.int, 0, 0) from GI_s hG6 0 rfl)⟩
    refine mx_J.step (sn_38 38) (fun _ _ => rfl) ?_
    refine JcI (z := 0) (show mx_Sn _ _ 39 (mx_const (.int 0) 40) from sn_38 39) rfl ?_
    refine JputI (g := 10) hx7 (show mx_Sn _ _ 40 (mx_putf 1 7 10 (.int) 43) from sn_38 40) (lt83 (GI_n hG7) rfl) (show S 3 = .inl (7, [2, 0, 0, 0, 0, 0, 2, 0, 2, 2, 0, 2, 0, 0, 0, 0]) from GI_s hG7 3 rfl) rfl rfl rfl rfl (fun Z8 h8 hx8 hE8 => ?_)
    have hG8 := GI_up hG7 hE8 (show 0 ≤ 0 ∧ 0 ≤ 901 by omega) trivial rfl
    refine mx_J.step (sn_38 43) (fun _ _ => rfl) ?_
    refine JgetR (g := 11) (b := 6) hx8 (show mx_Sn _ _ 44 (mx_getf 7 11 47) from sn_38 44) (lt83 (GI_n hG8) rfl) (show S 3 = .inl (7, [2, 0, 0, 0, 0, 0, 2, 0, 2, 2, 0, 2, 0, 0, 0, 0]) from GI_s hG8 3 rfl) rfl rfl (hG8.prr 3 11 rfl) ?_
    refine JcI (z := 0) (show mx_Sn _ _ 47 (mx_const (.int 0) 48) from sn_38 47) rfl ?_
    obtain ⟨Z10, h10, hc10, hx10, hG10, hf10, m10_6⟩ := ct_284_6_i0 (d := d + 105) (l := l) (D := D) (b0 := b0) (ad := ad) (Hb := Hb) (tau := tau) hx8 hG8 
    refine Jcs0 (show mx_Sn _ _ 48 (mx_calls 284 2 51) from sn_38 48) hc10 rfl rfl rfl ?_
    have m610 : ai 6 Z10 19 0 0 = 1 := ai_y (by assumption)
    refine mx_J.step (sn_38 51) (fun _ _ => rfl) ?_
    refine JcI (z := 0) (show mx_Sn _ _ 52 (mx_const (.int 0) 53) from sn_38 52) rfl ?_
    refine JputI (g := 12) hx10 (show mx_Sn _ _ 53 (mx_putf 1 7 12 (.int) 56) from sn_38 53) (lt83 (GI_n hG10) rfl) (show S 3 = .inl (7, [2, 0, 0, 0, 0, 0, 2, 0, 2, 2, 0, 2, 0, 0, 0, 0]) from GI_s hG10 3 rfl) rfl rfl rfl rfl (fun Z11 h11 hx11 hE11 => ?_)
    have hG11 := GI_up hG10 hE11 (show 0 ≤ 0 ∧ 0 ≤ 18 by omega) trivial rfl
    have eq12 : Z11 3 12 = 0 := (up_at hE11)
    have eq13 : (ai 6) Z11 19 0 0 = (ai 6) Z10 19 0 0 := (ai_c (fun i => up_nk hE11 rfl))
    have eq14 : (ai 6) Z11 19 0 (Z11 3 12) = (ai 6) Z10 19 0 0 := by rw [(show Z11 3 12 = 0 from (up_at hE11))]; exact (ai_c (fun i => up_nk hE11 rfl))
    have eq15 : (ai 6) Z11 19 0 0 = (ai 6) Z10 19 0 0 := (ai_c (fun i => up_nk hE11 rfl))
    have eq16 : (ai 6) Z11 19 0 ((Z11 3 12) + 1) = (ai 6) Z10 19 0 (0 + 1) := by rw [(show Z11 3 12 = 0 from (up_at hE11))]; exact (ai_c (fun i => up_nk hE11 rfl))
    have eq17 : (ai 6) Z11 19 0 (0 + 1) = (ai 6) Z10 19 0 (0 + 1) := (ai_c (fun i => up_nk hE11 rfl))
    have m711 : ai 6 Z11 19 0 (0 + 1) = 1 := ai_m (len := 19) (lo := 0) (hi := 0) (by omega) (by omega) (by omega) (by omega)
    refine mx_J.step (sn_38 56) (fun _ _ => rfl) ?_
    refine JcI (z := 0) (show mx_Sn _ _ 57 (mx_const (.int 0) 58) from sn_38 57) rfl ?_
    refine JputI (g := 14) hx11 (show mx_Sn _ _ 58 (mx_putf 1 7 14 (.int) 61) from sn_38 58) (lt83 (GI_n hG11) rfl) (show S 3 = .inl (7, [2, 0, 0, 0, 0, 0, 2, 0, 2, 2, 0, 2, 0, 0, 0, 0]) from GI_s hG11 3 rfl) rfl rfl rfl rfl (fun Z18 h18 hx18 hE18 => ?_)
    have hG18 := GI_up hG11 hE18 (show 0 ≤ 0 ∧ 0 ≤ 4 by omega) trivial rfl
    refine mx_J.step (sn_38 61) (fun _ _ => rfl) ?_
    refine JcI (z := (-1)) (show mx_Sn _ _ 62 (mx_const (.int (-1)) 63) from sn_38 62) rfl ?_
    refine JputI (g := 15) hx18 (show mx_Sn _ _ 63 (mx_putf 1 7 15 (.int) 66) from sn_38 63) (lt83 (GI_n hG18) rfl) (show S 3 = .inl (7, [2, 0, 0, 0, 0, 0, 2, 0, 2, 2, 0, 2, 0, 0, 0, 0]) from GI_s hG18 3 rfl) rfl rfl rfl rfl (fun Z19 h19 hx19 hE19 => ?_)
    have hG19 := GI_up hG18 hE19 (show (-1) ≤ (-1) ∧ (-1) ≤ 900 by omega) trivial rfl
    have tx0 : TX T N Z19 := ⟨by have q := ((up_ni hE19 (by decide)).trans ((up_ni hE18 (by decide)).trans ((up_ni hE11 (by decide)).trans ((hf10 3 1 rfl).trans ((up_ni hE8 (by decide)).trans ((up_ni hE7 (by decide)).trans ((up_ni hE6 (by decide)).trans ((up_ni hE5 (by decide)).trans (up_at hE4))))))))); omega, by omega, by omega, fun i i0 i1 => by rw [(fun i => ((up_nk hE19 rfl).trans ((up_nk hE18 rfl).trans ((up_nk hE11 rfl).trans ((hf10 2 i rfl).trans ((up_nk hE8 rfl).trans ((up_nk hE7 rfl).trans ((up_nk hE6 rfl).trans ((up_nk hE5 rfl).trans ((up_nk hE4 rfl).trans (up_nk hE1 rfl))))))))))) i]; exact k1 i i0 (by omega)⟩
    obtain ⟨jl, jl1, jl2⟩ := li_z Z 5 (c := Z 3 7) (hG.pr 3 7).1
    refine mx_J.step (sn_38 66) (fun _ _ => rfl) ?_
    have eq21 : Z19 3 0 = 2 := ((up_ni hE19 (by decide)).trans ((up_ni hE18 (by decide)).trans ((up_ni hE11 (by decide)).trans ((hf10 3 0 rfl).trans ((up_ni hE8 (by decide)).trans ((up_ni hE7 (by decide)).trans ((up_ni hE6 (by decide)).trans ((up_ni hE5 (by decide)).trans ((up_ni hE4 (by decide)).trans (up_at hE1))))))))))
    have eq22 : Z19 3 1 = y3 := ((up_ni hE19 (by decide)).trans ((up_ni hE18 (by decide)).trans ((up_ni hE11 (by decide)).trans ((hf10 3 1 rfl).trans ((up_ni hE8 (by decide)).trans ((up_ni hE7 (by decide)).trans ((up_ni hE6 (by decide)).trans ((up_ni hE5 (by decide)).trans (up_at hE4)))))))))
    have eq23 : Z19 3 2 = 0 := ((up_ni hE19 (by decide)).trans ((up_ni hE18 (by decide)).trans ((up_ni hE11 (by decide)).trans ((hf10 3 2 rfl).trans ((up_ni hE8 (by decide)).trans ((up_ni hE7 (by decide)).trans ((up_ni hE6 (by decide)).trans (up_at hE5))))))))
    have eq24 : Z19 3 3 = Z 3 3 := ((up_ni hE19 (by decide)).trans ((up_ni hE18 (by decide)).trans ((up_ni hE11 (by decide)).trans ((hf10 3 3 rfl).trans ((up_ni hE8 (by decide)).trans ((up_ni hE7 (by decide)).trans ((up_ni hE6 (by decide)).trans ((up_ni hE5 (by decide)).trans ((up_ni hE4 (by decide)).trans (up_ni hE1 (by decide)))))))))))
    have b25 : 0 ≤ Z 3 3 ∧ Z 3 3 ≤ 900 := hG.pr 3 3
    have eq26 : Z19 3 4 = Z 3 4 := ((up_ni hE19 (by decide)).trans ((up_ni hE18 (by decide)).trans ((up_ni hE11 (by decide)).trans ((hf10 3 4 rfl).trans ((up_ni hE8 (by decide)).trans ((up_ni hE7 (by decide)).trans ((up_ni hE6 (by decide)).trans ((up_ni hE5 (by decide)).trans ((up_ni hE4 (by decide)).trans (up_ni hE1 (by decide)))))))))))
    have b27 : 0 ≤ Z 3 4 ∧ Z 3 4 ≤ 400 := hG.pr 3 4
    have eq28 : Z19 3 14 = 0 := ((up_ni hE19 (by decide)).trans (up_at hE18))
    obtain ⟨Z20, h20, hc20, hx20, hG20, hf20, b20⟩ := ct_56_3 (T := T) (N := N) (d := d + 100) (l := l) (D := D) (b0 := b0) (ad := ad) (Hb := Hb) (tau := tau) hx19 hG19  (show Z19 3 0 = 2 by first | omega | (simp only [eq21, eq22, eq23, eq24, eq26, eq28]; omega)) (show Z19 3 2 ≤ Z19 3 1 by first | omega | (simp only [eq21, eq22, eq23, eq24, eq26, eq28]; omega)) (tx0) (show Z19 3 1 = N by first | omega | (simp only [eq21, eq22, eq23, eq24, eq26, eq28]; omega))
    try rw [eq21] at b20
    try rw [eq22] at b20
    try rw [eq23] at b20
    try rw [eq24] at b20
    try rw [eq26] at b20
    try rw [eq28] at b20
    obtain ⟨bs20_0, b20⟩ := b20
    have b29 : 0 ≤ Z20 3 2 ∧ Z20 3 2 ≤ 900 := hG20.pr 3 2
    have b30 : 0 ≤ Z20 3 3 ∧ Z20 3 3 ≤ 900 := hG20.pr 3 3
    have b31 : 0 ≤ Z20 3 4 ∧ Z20 3 4 ≤ 400 := hG20.pr 3 4
    refine Jcv0 hx19 (show mx_Sn _ _ 67 (mx_callv 56 1 7 70) from sn_38 67) (lt83 (GI_n hG19) rfl) (show S 3 = .inl (7, [2, 0, 0, 0, 0, 0, 2, 0, 2, 2, 0, 2, 0, 0, 0, 0]) from GI_s hG19 3 rfl) hc20 rfl rfl rfl ?_
    have rc32 : RC T N Z20 ((tBg T N 0, jl)) := RC_0 (TX_c tx0 (hf20 3 1 rfl) (fun i => (hf20 2 i rfl))) bs20_0 ((up_ni hE19 (by decide)).trans (up_at hE18)) ((up_ni hE19 (by decide)).trans ((up_ni hE18 (by decide)).trans ((up_ni hE11 (by decide)).trans ((hf10 3 2 rfl).trans ((up_ni hE8 (by decide)).trans ((up_ni hE7 (by decide)).trans ((up_ni hE6 (by decide)).trans (up_at hE5)))))))) ((hf20 3 14 rfl).trans ((up_ni hE19 (by decide)).trans (up_at hE18))) ((hf20 3 15 rfl).trans (up_at hE19)) (((hf20 3 7 rfl).trans ((up_ni hE19 (by decide)).trans ((up_ni hE18 (by decide)).trans ((up_ni hE11 (by decide)).trans ((hf10 3 7 rfl).trans ((up_ni hE8 (by decide)).trans ((up_ni hE7 (by decide)).trans ((up_ni hE6 (by decide)).trans ((up_ni hE5 (by decide)).trans ((up_ni hE4 (by decide)).trans (up_ni hE1 (by decide)))))))))))).trans jl1) (fun j hj => ((fun i => ((hf20 5 i rfl).trans ((up_nk hE19 rfl).trans ((up_nk hE18 rfl).trans ((up_nk hE11 rfl).trans ((hf10 5 i rfl).trans ((up_nk hE8 rfl).trans ((up_nk hE7 rfl).trans ((up_nk hE6 rfl).trans ((up_nk hE5 rfl).trans ((up_nk hE4 rfl).trans (up_nk hE1 rfl)))))))))))) (j : Int)).trans (jl2 j hj))
    refine mx_J.step (sn_38 70) (fun _ _ => rfl) ?_
    refine JcI (z := 300) (show mx_Sn _ _ 71 (mx_const (.int 300) 74) from sn_38 71) rfl ?_
    have eq34 : Z20 3 0 = 2 := ((hf20 3 0 rfl).trans ((up_ni hE19 (by decide)).trans ((up_ni hE18 (by decide)).trans ((up_ni hE11 (by decide)).trans ((hf10 3 0 rfl).trans ((up_ni hE8 (by decide)).trans ((up_ni hE7 (by decide)).trans ((up_ni hE6 (by decide)).trans ((up_ni hE5 (by decide)).trans ((up_ni hE4 (by decide)).trans (up_at hE1)))))))))))
    have eq35 : Z20 3 1 = y3 := ((hf20 3 1 rfl).trans ((up_ni hE19 (by decide)).trans ((up_ni hE18 (by decide)).trans ((up_ni hE11 (by decide)).trans ((hf10 3 1 rfl).trans ((up_ni hE8 (by decide)).trans ((up_ni hE7 (by decide)).trans ((up_ni hE6 (by decide)).trans ((up_ni hE5 (by decide)).trans (up_at hE4))))))))))
    have eq36 : Z20 3 7 = Z 3 7 := ((hf20 3 7 rfl).trans ((up_ni hE19 (by decide)).trans ((up_ni hE18 (by decide)).trans ((up_ni hE11 (by decide)).trans ((hf10 3 7 rfl).trans ((up_ni hE8 (by decide)).trans ((up_ni hE7 (by decide)).trans ((up_ni hE6 (by decide)).trans ((up_ni hE5 (by decide)).trans ((up_ni hE4 (by decide)).trans (up_ni hE1 (by decide))))))))))))
    have b37 : 0 ≤ Z 3 7 ∧ Z 3 7 ≤ 900 := hG.pr 3 7
    have eq38 : Z20 3 14 = 0 := ((hf20 3 14 rfl).trans ((up_ni hE19 (by decide)).trans (up_at hE18)))
    obtain ⟨Z33, h33, hc33, hx33, hG33, hf33, b33⟩ := ct_53_3_i300 (T := T) (N := N) (sg := (tBg T N 0, jl)) (d := d + 99) (l := l) (D := D) (b0 := b0) (ad := ad) (Hb := Hb) (tau := tau) hx20 hG20  (show Z20 3 0 = 2 by first | omega | (simp only [eq34, eq35, eq36, eq38]; omega)) (show (Z20 3 3 ≤ Z20 3 2 ∧ Z20 3 2 ≤ Z20 3 1 ∧ (Z20 3 4 = 0 ∨ Z20 3 4 = 3 ∨ Z20 3 3 < Z20 3 2) ∧ (Z20 3 4 = 3 ∨ Z20 3 14 = 0)) by first | omega | (simp only [eq34, eq35, eq36, eq38]; omega)) rc32
    try rw [eq34] at b33
    try rw [eq35] at b33
    try rw [eq36] at b33
    try rw [eq38] at b33
    obtain ⟨br33, b33⟩ := b33
    have b39 : 0 ≤ Z33 3 2 ∧ Z33 3 2 ≤ 900 := hG33.pr 3 2
    have b40 : 0 ≤ Z33 3 3 ∧ Z33 3 3 ≤ 900 := hG33.pr 3 3
    have b41 : 0 ≤ Z33 3 4 ∧ Z33 3 4 ≤ 400 := hG33.pr 3 4
    have eq42 : Z33 3 7 = Z 3 7 := ((hf33 3 7 rfl).trans ((hf20 3 7 rfl).trans ((up_ni hE19 (by decide)).trans ((up_ni hE18 (by decide)).trans ((up_ni hE11 (by decide)).trans ((hf10 3 7 rfl).trans ((up_ni hE8 (by decide)).trans ((up_ni hE7 (by decide)).trans ((up_ni hE6 (by decide)).trans ((up_ni hE5 (by decide)).trans ((up_ni hE4 (by decide)).trans (up_ni hE1 (by decide)))))))))))))
    have b43 : 0 ≤ Z33 3 14 ∧ Z33 3 14 ≤ 4 := hG33.pr 3 14
    refine Jcv0 hx20 (show mx_Sn _ _ 74 (mx_callv 53 2 7 77) from sn_38 74) (lt83 (GI_n hG20) rfl) (show S 3 = .inl (7, [2, 0, 0, 0, 0, 0, 2, 0, 2, 2, 0, 2, 0, 0, 0, 0]) from GI_s hG20 3 rfl) hc33 rfl rfl rfl ?_
    clear b20
    refine mx_J.step (sn_38 77) (fun _ _ => rfl) ?_
    refine JcI (z := 301) (show mx_Sn _ _ 78 (mx_const (.int 301) 81) from sn_38 78) rfl ?_
    have eq45 : Z33 3 0 = 2 := ((hf33 3 0 rfl).trans ((hf20 3 0 rfl).trans ((up_ni hE19 (by decide)).trans ((up_ni hE18 (by decide)).trans ((up_ni hE11 (by decide)).trans ((hf10 3 0 rfl).trans ((up_ni hE8 (by decide)).trans ((up_ni hE7 (by decide)).trans ((up_ni hE6 (by decide)).trans ((up_ni hE5 (by decide)).trans ((up_ni hE4 (by decide)).trans (up_at hE1))))))))))))
    have eq46 : Z33 3 1 = y3 := ((hf33 3 1 rfl).trans ((hf20 3 1 rfl).trans ((up_ni hE19 (by decide)).trans ((up_ni hE18 (by decide)).trans ((up_ni hE11 (by decide)).trans ((hf10 3 1 rfl).trans ((up_ni hE8 (by decide)).trans ((up_ni hE7 (by decide)).trans ((up_ni hE6 (by decide)).trans ((up_ni hE5 (by decide)).trans (up_at hE4)))))))))))
    have eq47 : Z33 3 7 = Z 3 7 := ((hf33 3 7 rfl).trans ((hf20 3 7 rfl).trans ((up_ni hE19 (by decide)).trans ((up_ni hE18 (by decide)).trans ((up_ni hE11 (by decide)).trans ((hf10 3 7 rfl).trans ((up_ni hE8 (by decide)).trans ((up_ni hE7 (by decide)).trans ((up_ni hE6 (by decide)).trans ((up_ni hE5 (by decide)).trans ((up_ni hE4 (by decide)).trans (up_ni hE1 (by decide)))))))))))))
    obtain ⟨Z44, h44, hc44, hx44, hG44, hf44, b44⟩ := ct_53_3_i301 (T := T) (N := N) (sg := gEx T N 0 (tBg T N 0, jl)) (d := d + 99) (l := l) (D := D) (b0 := b0) (ad := ad) (Hb := Hb) (tau := tau) hx33 hG33  (show Z33 3 0 = 2 by first | omega | (simp only [eq45, eq46, eq47]; omega)) (show (Z33 3 3 ≤ Z33 3 2 ∧ Z33 3 2 ≤ Z33 3 1 ∧ (Z33 3 4 = 0 ∨ Z33 3 4 = 3 ∨ Z33 3 3 < Z33 3 2) ∧ (Z33 3 4 = 3 ∨ Z33 3 14 = 0)) by first | omega | (simp only [eq45, eq46, eq47]; omega)) br33
    try rw [eq45] at b44
    try rw [eq46] at b44
    try rw [eq47] at b44
    obtain ⟨br44, b44⟩ := b44
    have b48 : 0 ≤ Z44 3 2 ∧ Z44 3 2 ≤ 900 := hG44.pr 3 2
    have b49 : 0 ≤ Z44 3 3 ∧ Z44 3 3 ≤ 900 := hG44.pr 3 3
    have b50 : 0 ≤ Z44 3 4 ∧ Z44 3 4 ≤ 400 := hG44.pr 3 4
    have eq51 : Z44 3 7 = Z 3 7 := ((hf44 3 7 rfl).trans ((hf33 3 7 rfl).trans ((hf20 3 7 rfl).trans ((up_ni hE19 (by decide)).trans ((up_ni hE18 (by decide)).trans ((up_ni hE11 (by decide)).trans ((hf10 3 7 rfl).trans ((up_ni hE8 (by decide)).trans ((up_ni hE7 (by decide)).trans ((up_ni hE6 (by decide)).trans ((up_ni hE5 (by decide)).trans ((up_ni hE4 (by decide)).trans (up_ni hE1 (by decide))))))))))))))
    have b52 : 0 ≤ Z44 3 14 ∧ Z44 3 14 ≤ 4 := hG44.pr 3 14
    refine Jcv0 hx33 (show mx_Sn _ _ 81 (mx_callv 53 2 7 84) from sn_38 81) (lt83 (GI_n hG33) rfl) (show S 3 = .inl (7, [2, 0, 0, 0, 0, 0, 2, 0, 2, 2, 0, 2, 0, 0, 0, 0]) from GI_s hG33 3 rfl) hc44 rfl rfl rfl ?_
    clear b33
    refine mx_J.step (sn_38 84) (fun _ _ => rfl) ?_
    refine mx_J.step (sn_38 85) (fun _ _ => rfl) ?_
    refine JcI (z := 0) (show mx_Sn _ _ 86 (mx_const (.int 0) 87) from sn_38 86) rfl ?_
    refine JcI (z := 9) (show mx_Sn _ _ 87 (mx_const (.int 9) 89) from sn_38 87) rfl ?_
    have eq54 : Z44 3 0 = 2 := ((hf44 3 0 rfl).trans ((hf33 3 0 rfl).trans ((hf20 3 0 rfl).trans ((up_ni hE19 (by decide)).trans ((up_ni hE18 (by decide)).trans ((up_ni hE11 (by decide)).trans ((hf10 3 0 rfl).trans ((up_ni hE8 (by decide)).trans ((up_ni hE7 (by decide)).trans ((up_ni hE6 (by decide)).trans ((up_ni hE5 (by decide)).trans ((up_ni hE4 (by decide)).trans (up_at hE1)))))))))))))
    have eq55 : Z44 3 1 = y3 := ((hf44 3 1 rfl).trans ((hf33 3 1 rfl).trans ((hf20 3 1 rfl).trans ((up_ni hE19 (by decide)).trans ((up_ni hE18 (by decide)).trans ((up_ni hE11 (by decide)).trans ((hf10 3 1 rfl).trans ((up_ni hE8 (by decide)).trans ((up_ni hE7 (by decide)).trans ((up_ni hE6 (by decide)).trans ((up_ni hE5 (by decide)).trans (up_at hE4))))))))))))
    have eq56 : Z44 3 7 = Z 3 7 := ((hf44 3 7 rfl).trans ((hf33 3 7 rfl).trans ((hf20 3 7 rfl).trans ((up_ni hE19 (by decide)).trans ((up_ni hE18 (by decide)).trans ((up_ni hE11 (by decide)).trans ((hf10 3 7 rfl).trans ((up_ni hE8 (by decide)).trans ((up_ni hE7 (by decide)).trans ((up_ni hE6 (by decide)).trans ((up_ni hE5 (by decide)).trans ((up_ni hE4 (by decide)).trans (up_ni hE1 (by decide))))))))))))))
    obtain ⟨z53, Z53, h53, hc53, hx53, hG53, hf53, b53⟩ := ct_54_3 (T := T) (N := N) (sg := gEx T N 1 (gEx T N 0 (tBg T N 0, jl))) (d := d + 99) (l := l) (D := D) (b0 := b0) (ad := ad) (Hb := Hb) (tau := tau) hx44 hG44 (show 0 ≤ 0 ∧ 0 ≤ 1 by omega) (show 0 ≤ 9 ∧ 9 ≤ 999 by omega) (show Z44 3 0 = 2 by first | omega | (simp only [eq54, eq55, eq56]; omega)) (show (Z44 3 3 ≤ Z44 3 2 ∧ Z44 3 2 ≤ Z44 3 1 ∧ (Z44 3 4 = 0 ∨ Z44 3 4 = 3 ∨ Z44 3 3 < Z44 3 2) ∧ (Z44 3 4 = 3 ∨ Z44 3 14 = 0)) by first | omega | (simp only [eq54, eq55, eq56]; omega)) br44
    try rw [eq54] at b53
    try rw [eq55] at b53
    try rw [eq56] at b53
    obtain ⟨br53, b53⟩ := b53
    obtain ⟨bs53_0, b53⟩ := b53
    have b57 : 0 ≤ Z53 3 2 ∧ Z53 3 2 ≤ 900 := hG53.pr 3 2
    have b58 : 0 ≤ Z53 3 3 ∧ Z53 3 3 ≤ 900 := hG53.pr 3 3
    have b59 : 0 ≤ Z53 3 4 ∧ Z53 3 4 ≤ 400 := hG53.pr 3 4
    have eq60 : Z53 3 7 = Z 3 7 := ((hf53 3 7 rfl).trans ((hf44 3 7 rfl).trans ((hf33 3 7 rfl).trans ((hf20 3 7 rfl).trans ((up_ni hE19 (by decide)).trans ((up_ni hE18 (by decide)).trans ((up_ni hE11 (by decide)).trans ((hf10 3 7 rfl).trans ((up_ni hE8 (by decide)).trans ((up_ni hE7 (by decide)).trans ((up_ni hE6 (by decide)).trans ((up_ni hE5 (by decide)).trans ((up_ni hE4 (by decide)).trans (up_ni hE1 (by decide)))))))))))))))
    have b61 : 0 ≤ Z53 3 14 ∧ Z53 3 14 ≤ 4 := hG53.pr 3 14
    refine Jcv hx44 (show mx_Sn _ _ 89 (mx_callv 54 3 7 92) from sn_38 89) (lt83 (GI_n hG44) rfl) (show S 3 = .inl (7, [2, 0, 0, 0, 0, 0, 2, 0, 2, 2, 0, 2, 0, 0, 0, 0]) from GI_s hG44 3 rfl) hc53 rfl rfl rfl ?_
    clear b44
    refine JputI (g := 13) hx53 (show mx_Sn _ _ 92 (mx_putf 1 7 13 (.int) 95) from sn_38 92) (lt83 (GI_n hG53) rfl) (show S 3 = .inl (7, [2, 0, 0, 0, 0, 0, 2, 0, 2, 2, 0, 2, 0, 0, 0, 0]) from GI_s hG53 3 rfl) rfl rfl rfl rfl (fun Z62 h62 hx62 hE62 => ?_)
    have hG62 := GI_up hG53 hE62 (show 0 ≤ z53 ∧ z53 ≤ 9 by omega) trivial rfl
    refine mx_J.step (sn_38 95) (fun _ _ => rfl) ?_
    refine JcI (z := 59) (show mx_Sn _ _ 96 (mx_const (.int 59) 98) from sn_38 96) rfl ?_
    have rc64 : RC T N Z62 (gTk T N 0 9 (gEx T N 1 (gEx T N 0 (tBg T N 0, jl)))) := RC_c br53 ⟨(up_ni hE62 (by decide)), (up_ni hE62 (by decide)), (up_ni hE62 (by decide)), (up_ni hE62 (by decide)), (up_ni hE62 (by decide)), (up_ni hE62 (by decide)), (up_ni hE62 (by decide)), fun i => (up_nk hE62 rfl)⟩ (up_ni hE62 (by decide)) (fun i => (up_nk hE62 rfl))
    have eq65 : Z62 3 0 = 2 := ((up_ni hE62 (by decide)).trans ((hf53 3 0 rfl).trans ((hf44 3 0 rfl).trans ((hf33 3 0 rfl).trans ((hf20 3 0 rfl).trans ((up_ni hE19 (by decide)).trans ((up_ni hE18 (by decide)).trans ((up_ni hE11 (by decide)).trans ((hf10 3 0 rfl).trans ((up_ni hE8 (by decide)).trans ((up_ni hE7 (by decide)).trans ((up_ni hE6 (by decide)).trans ((up_ni hE5 (by decide)).trans ((up_ni hE4 (by decide)).trans (up_at hE1)))))))))))))))
    have eq66 : Z62 3 1 = y3 := ((up_ni hE62 (by decide)).trans ((hf53 3 1 rfl).trans ((hf44 3 1 rfl).trans ((hf33 3 1 rfl).trans ((hf20 3 1 rfl).trans ((up_ni hE19 (by decide)).trans ((up_ni hE18 (by decide)).trans ((up_ni hE11 (by decide)).trans ((hf10 3 1 rfl).trans ((up_ni hE8 (by decide)).trans ((up_ni hE7 (by decide)).trans ((up_ni hE6 (by decide)).trans ((up_ni hE5 (by decide)).trans (up_at hE4))))))))))))))
    have eq67 : Z62 3 2 = Z53 3 2 := (up_ni hE62 (by decide))
    have eq68 : Z62 3 3 = Z53 3 3 := (up_ni hE62 (by decide))
    have eq69 : Z62 3 4 = Z53 3 4 := (up_ni hE62 (by decide))
    have eq70 : Z62 3 7 = Z 3 7 := ((up_ni hE62 (by decide)).trans ((hf53 3 7 rfl).trans ((hf44 3 7 rfl).trans ((hf33 3 7 rfl).trans ((hf20 3 7 rfl).trans ((up_ni hE19 (by decide)).trans ((up_ni hE18 (by decide)).trans ((up_ni hE11 (by decide)).trans ((hf10 3 7 rfl).trans ((up_ni hE8 (by decide)).trans ((up_ni hE7 (by decide)).trans ((up_ni hE6 (by decide)).trans ((up_ni hE5 (by decide)).trans ((up_ni hE4 (by decide)).trans (up_ni hE1 (by decide))))))))))))))))
    have eq71 : Z62 3 14 = Z53 3 14 := (up_ni hE62 (by decide))
    obtain ⟨Z63, h63, hc63, hx63, hG63, hf63, b63⟩ := ct_53_3_i59 (T := T) (N := N) (sg := gTk T N 0 9 (gEx T N 1 (gEx T N 0 (tBg T N 0, jl)))) (d := d + 99) (l := l) (D := D) (b0 := b0) (ad := ad) (Hb := Hb) (tau := tau) hx62 hG62  (show Z62 3 0 = 2 by first | omega | (simp only [eq65, eq66, eq67, eq68, eq69, eq70, eq71]; omega)) (show (Z62 3 3 ≤ Z62 3 2 ∧ Z62 3 2 ≤ Z62 3 1 ∧ (Z62 3 4 = 0 ∨ Z62 3 4 = 3 ∨ Z62 3 3 < Z62 3 2) ∧ (Z62 3 4 = 3 ∨ Z62 3 14 = 0)) by first | omega | (simp only [eq65, eq66, eq67, eq68, eq69, eq70, eq71]; omega)) rc64
    try rw [eq65] at b63
    try rw [eq66] at b63
    try rw [eq67] at b63
    try rw [eq68] at b63
    try rw [eq69] at b63
    try rw [eq70] at b63
    try rw [eq71] at b63
    obtain ⟨br63, b63⟩ := b63
    have b72 : 0 ≤ Z63 3 2 ∧ Z63 3 2 ≤ 900 := hG63.pr 3 2
    have b73 : 0 ≤ Z63 3 3 ∧ Z63 3 3 ≤ 900 := hG63.pr 3 3
    have b74 : 0 ≤ Z63 3 4 ∧ Z63 3 4 ≤ 400 := hG63.pr 3 4
    have eq75 : Z63 3 7 = Z 3 7 := ((hf63 3 7 rfl).trans ((up_ni hE62 (by decide)).trans ((hf53 3 7 rfl).trans ((hf44 3 7 rfl).trans ((hf33 3 7 rfl).trans ((hf20 3 7 rfl).trans ((up_ni hE19 (by decide)).trans ((up_ni hE18 (by decide)).trans ((up_ni hE11 (by decide)).trans ((hf10 3 7 rfl).trans ((up_ni hE8 (by decide)).trans ((up_ni hE7 (by decide)).trans ((up_ni hE6 (by decide)).trans ((up_ni hE5 (by decide)).trans ((up_ni hE4 (by decide)).trans (up_ni hE1 (by decide)))))))))))))))))
    have b76 : 0 ≤ Z63 3 14 ∧ Z63 3 14 ≤ 4 := hG63.pr 3 14
    refine Jcv0 hx62 (show mx_Sn _ _ 98 (mx_callv 53 2 7 101) from sn_38 98) (lt83 (GI_n hG62) rfl) (show S 3 = .inl (7, [2, 0, 0, 0, 0, 0, 2, 0, 2, 2, 0, 2, 0, 0, 0, 0]) from GI_s hG62 3 rfl) hc63 rfl rfl rfl ?_
    clear b53
    refine mx_J.step (sn_38 101) (fun _ _ => rfl) ?_
    refine JcI (z := 1) (show mx_Sn _ _ 102 (mx_const (.int 1) 103) from sn_38 102) rfl ?_
    refine JputI (g := 10) hx63 (show mx_Sn _ _ 103 (mx_putf 1 7 10 (.int) 106) from sn_38 103) (lt83 (GI_n hG63) rfl) (show S 3 = .inl (7, [2, 0, 0, 0, 0, 0, 2, 0, 2, 2, 0, 2, 0, 0, 0, 0]) from GI_s hG63 3 rfl) rfl rfl rfl rfl (fun Z77 h77 hx77 hE77 => ?_)
    have hG77 := GI_up hG63 hE77 (show 0 ≤ 1 ∧ 1 ≤ 901 by omega) trivial rfl
    refine JcI (z := 0) (show mx_Sn _ _ 106 (mx_const (.int 0) 107) from sn_38 106) rfl ?_
    refine mx_J.step (ls2 := [some (.ref 3), some (.ref 2), some (xI x0), some (xI 0)]) (sn_38 107) (fun _ _ => rfl) ?_
    have c108 : ∀ (m78 : Nat) (w78_3 : Int) (sg78 : SS) (n79 s79 : Nat) (S79 : Nat → xS) (Z79 : xZ) (h79 : mx_H), 900 - w78_3 < (m78 : Int) → 0 ≤ w78_3 ∧ w78_3 ≤ 900 → RC T N Z79 sg78 → (3 * (((n79 : Nat) : Int) - ((n : Nat) : Int)) ≤ Z79 3 3 + 3 ∧ ((n : Nat) : Int) ≤ ((n79 : Nat) : Int) ∧ ((s : Nat) : Int) ≤ ((s79 : Nat) : Int) ∧ ((s79 : Nat) : Int) ≤ ((s : Nat) : Int) + 900 * (((n79 : Nat) : Int) - ((n : Nat) : Int))) → (Z79 3 4 = 3 ∨ 3 * (((n79 : Nat) : Int) - ((n : Nat) : Int)) ≤ Z79 3 3) → (Z79 3 3 ≤ Z79 3 2 ∧ Z79 3 2 ≤ Z79 3 1 ∧ (Z79 3 4 = 0 ∨ Z79 3 4 = 3 ∨ Z79 3 3 < Z79 3 2) ∧ (Z79 3 4 = 3 ∨ Z79 3 14 = 0)) → (ai 6 Z79 19 0 (Z79 3 12 + 1) = 1) → (Z79 3 4 = 3 ∨ ai 6 Z79 19 0 (Z79 3 12) = 1) → (Z79 3 10 = w78_3 + 1 ∧ Z79 3 3 ≤ x0) → (Z79 3 4 = 3 ∨ w78_3 ≤ Z79 3 3) → LK T N sg78 (Z79 3 12) (Z79 3 10) → XH n79 s79 S79 Z79 h79 → GI n79 S79 Z79 → fr8 [(3, 2), (3, 3), (3, 4), (3, 5), (3, 7), (3, 8), (3, 9), (3, 10), (3, 12), (3, 14), (3, 15), (5, (-1)), (6, (-1))] Z77 Z79 → mx_J (tB l D b0 ad Hb tau) mt_38 (d + 106) 108 [some (.ref 3), some (.ref 2), some (xI x0), some (xI w78_3)] [] h79 Post := by
      intro m78
      induction m78 with
      | zero => intro w78_3 sg78 n79 s79 S79 Z79 h79 q78 f78_0 f78_1 f78_2 f78_3 f78_4 f78_5 f78_6 f78_7 f78_8 f78_9 hx79 hG79 hf79; exact absurd q78 (by omega)
      | succ m78 ih78 =>
        intro w78_3 sg78 n79 s79 S79 Z79 h79 q78 f78_0 f78_1 f78_2 f78_3 f78_4 f78_5 f78_6 f78_7 f78_8 f78_9 hx79 hG79 hf79
        have b80 : 0 ≤ Z79 3 3 ∧ Z79 3 3 ≤ 900 := hG79.pr 3 3
        have b81 : 0 ≤ Z79 3 4 ∧ Z79 3 4 ≤ 400 := hG79.pr 3 4
        have eq82 : Z79 3 0 = 2 := ((hf79 3 0 rfl rfl).trans ((up_ni hE77 (by decide)).trans ((hf63 3 0 rfl).trans ((up_ni hE62 (by decide)).trans ((hf53 3 0 rfl).trans ((hf44 3 0 rfl).trans ((hf33 3 0 rfl).trans ((hf20 3 0 rfl).trans ((up_ni hE19 (by decide)).trans ((up_ni hE18 (by decide)).trans ((up_ni hE11 (by decide)).trans ((hf10 3 0 rfl).trans ((up_ni hE8 (by decide)).trans ((up_ni hE7 (by decide)).trans ((up_ni hE6 (by decide)).trans ((up_ni hE5 (by decide)).trans ((up_ni hE4 (by decide)).trans (up_at hE1))))))))))))))))))
        have eq83 : Z79 3 1 = y3 := ((hf79 3 1 rfl rfl).trans ((up_ni hE77 (by decide)).trans ((hf63 3 1 rfl).trans ((up_ni hE62 (by decide)).trans ((hf53 3 1 rfl).trans ((hf44 3 1 rfl).trans ((hf33 3 1 rfl).trans ((hf20 3 1 rfl).trans ((up_ni hE19 (by decide)).trans ((up_ni hE18 (by decide)).trans ((up_ni hE11 (by decide)).trans ((hf10 3 1 rfl).trans ((up_ni hE8 (by decide)).trans ((up_ni hE7 (by decide)).trans ((up_ni hE6 (by decide)).trans ((up_ni hE5 (by decide)).trans (up_at hE4)))))))))))))))))
        have b84 : 0 ≤ Z79 3 2 ∧ Z79 3 2 ≤ 900 := hG79.pr 3 2
        have b85 : 0 ≤ Z79 3 7 ∧ Z79 3 7 ≤ 900 := hG79.pr 3 7
        have b86 : 0 ≤ Z79 3 14 ∧ Z79 3 14 ≤ 4 := hG79.pr 3 14
        have b87 : 0 ≤ Z79 3 12 ∧ Z79 3 12 ≤ 18 := hG79.pr 3 12
        have b88 : 0 ≤ Z79 3 10 ∧ Z79 3 10 ≤ 901 := hG79.pr 3 10
        have hN : Z79 3 1 = N := (RC_p f78_1).2.2.2
        refine mx_J.step (sn_38 108) (fun _ _ => rfl) ?_
        refine mx_J.step (sn_38 109) (fun _ _ => rfl) ?_
        have eq89 : Z79 3 1 = y3 := ((hf79 3 1 rfl rfl).trans ((up_ni hE77 (by decide)).trans ((hf63 3 1 rfl).trans ((up_ni hE62 (by decide)).trans ((hf53 3 1 rfl).trans ((hf44 3 1 rfl).trans ((hf33 3 1 rfl).trans ((hf20 3 1 rfl).trans ((up_ni hE19 (by decide)).trans ((up_ni hE18 (by decide)).trans ((up_ni hE11 (by decide)).trans ((hf10 3 1 rfl).trans ((up_ni hE8 (by decide)).trans ((up_ni hE7 (by decide)).trans ((up_ni hE6 (by decide)).trans ((up_ni hE5 (by decide)).trans (up_at hE4)))))))))))))))))
        refine JgetI (g := 1) (z := y3) hx79 (show mx_Sn _ _ 110 (mx_getf 7 1 113) from sn_38 110) (lt83 (GI_n hG79) rfl) (show S79 3 = .inl (7, [2, 0, 0, 0, 0, 0, 2, 0, 2, 2, 0, 2, 0, 0, 0, 0]) from GI_s hG79 3 rfl) rfl rfl ((hf79 3 1 rfl rfl).trans ((up_ni hE77 (by decide)).trans ((hf63 3 1 rfl).trans ((up_ni hE62 (by decide)).trans ((hf53 3 1 rfl).trans ((hf44 3 1 rfl).trans ((hf33 3 1 rfl).trans ((hf20 3 1 rfl).trans ((up_ni hE19 (by decide)).trans ((up_ni hE18 (by decide)).trans ((up_ni hE11 (by decide)).trans ((hf10 3 1 rfl).trans ((up_ni hE8 (by decide)).trans ((up_ni hE7 (by decide)).trans ((up_ni hE6 (by decide)).trans ((up_ni hE5 (by decide)).trans (up_at hE4))))))))))))))))) ?_
        have c157 : RZ T N sg78 (Z79 3 12) (Z79 3 10) → mx_J (tB l D b0 ad Hb tau) mt_38 (d + 106) 157 [some (.ref 3), some (.ref 2), some (xI x0), some (xI w78_3)] [] h79 Post := by
          intro f91_0
          refine mx_J.step (sn_38 157) (fun _ _ => rfl) ?_
          refine JgetI (g := 12) (z := Z79 3 12) hx79 (show mx_Sn _ _ 158 (mx_getf 7 12 161) from sn_38 158) (lt83 (GI_n hG79) rfl) (show S79 3 = .inl (7, [2, 0, 0, 0, 0, 0, 2, 0, 2, 2, 0, 2, 0, 0, 0, 0]) from GI_s hG79 3 rfl) rfl rfl rfl ?_
          have c176 : ∀  (Z94 : xZ) (h94 : mx_H), (1 ≤ Z94 3 12) → RC T N Z94 sg78 → RZ T N sg78 (Z79 3 12) (Z94 3 10) → ((Z79 3 12 = 0 → Z94 3 12 = 1) ∧ (¬ Z79 3 12 = 0 → Z94 3 12 = Z79 3 12)) → XH n79 s79 S79 Z94 h94 → GI n79 S79 Z94 → fr8 [(3, 12), (6, (-1))] Z79 Z94 → mx_J (tB l D b0 ad Hb tau) mt_38 (d + 106) 176 [some (.ref 3), some (.ref 2), some (xI x0), some (xI w78_3)] [] h94 Post := by
            intro Z94 h94 f93_0 f93_1 f93_2 f93_3 hx94 hG94 hf94
            have b95 : 0 ≤ Z94 3 12 ∧ Z94 3 12 ≤ 18 := hG94.pr 3 12
            exact mx_J.ret (sn_38 176) (fun _ _ => rfl) (hP n79 s79 S79 Z94 h94 hx94 hG94 (fr8_tr (M := [(3, 0), (3, 1), (3, 2), (3, 3), (3, 4), (3, 5), (3, 7), (3, 8), (3, 9), (3, 10), (3, 12), (3, 13), (3, 14), (3, 15), (5, (-1)), (6, (-1))]) (fr8_tr (M := [(3, 0), (3, 1), (3, 2), (3, 3), (3, 4), (3, 5), (3, 7), (3, 8), (3, 9), (3, 10), (3, 12), (3, 13), (3, 14), (3, 15), (5, (-1)), (6, (-1))]) (fr8_tr (M := [(3, 0), (3, 1), (3, 2), (3, 3), (3, 4), (3, 5), (3, 7), (3, 8), (3, 9), (3, 10), (3, 12), (3, 13), (3, 14), (3, 15), (5, (-1)), (6, (-1))]) (fr8_tr (M := [(3, 0), (3, 1), (3, 2), (3, 3), (3, 4), (3, 5), (3, 7), (3, 8), (3, 9), (3, 10), (3, 12), (3, 13), (3, 14), (3, 15), (5, (-1)), (6, (-1))]) (fr8_tr (M := [(3, 0), (3, 1), (3, 2), (3, 3), (3, 4), (3, 5), (3, 7), (3, 8), (3, 9), (3, 10), (3, 12), (3, 13), (3, 14), (3, 15), (5, (-1)), (6, (-1))]) (fr8_tr (M := [(3, 0), (3, 1), (3, 2), (3, 3), (3, 4), (3, 5), (3, 7), (3, 8), (3, 9), (3, 10), (3, 12), (3, 13), (3, 14), (3, 15), (5, (-1)), (6, (-1))]) (fr8_tr (M := [(3, 0), (3, 1), (3, 2), (3, 3), (3, 4), (3, 5), (3, 7), (3, 8), (3, 9), (3, 10), (3, 12), (3, 13), (3, 14), (3, 15), (5, (-1)), (6, (-1))]) (fr8_tr (M := [(3, 0), (3, 1), (3, 2), (3, 3), (3, 4), (3, 5), (3, 7), (3, 8), (3, 9), (3, 10), (3, 12), (3, 13), (3, 14), (3, 15), (5, (-1)), (6, (-1))]) (fr8_tr (M := [(3, 0), (3, 1), (3, 2), (3, 3), (3, 4), (3, 5), (3, 7), (3, 8), (3, 9), (3, 10), (3, 12), (3, 13), (3, 14), (3, 15), (5, (-1)), (6, (-1))]) (fr8_tr (M := [(3, 0), (3, 1), (3, 2), (3, 3), (3, 4), (3, 5), (3, 7), (3, 8), (3, 9), (3, 10), (3, 12), (3, 13), (3, 14), (3, 15), (5, (-1)), (6, (-1))]) (fr8_tr (M := [(3, 0), (3, 1), (3, 2), (3, 3), (3, 4), (3, 5), (3, 7), (3, 8), (3, 9), (3, 10), (3, 12), (3, 13), (3, 14), (3, 15), (5, (-1)), (6, (-1))]) (fr8_tr (M := [(3, 0), (3, 1), (3, 2), (3, 3), (3, 4), (3, 5), (3, 7), (3, 8), (3, 9), (3, 10), (3, 12), (3, 13), (3, 14), (3, 15), (5, (-1)), (6, (-1))]) (fr8_tr (M := [(3, 0), (3, 1), (3, 2), (3, 3), (3, 4), (3, 5), (3, 7), (3, 8), (3, 9), (3, 10), (3, 12), (3, 13), (3, 14), (3, 15), (5, (-1)), (6, (-1))]) (fr8_tr (M := [(3, 0), (3, 1), (3, 2), (3, 3), (3, 4), (3, 5), (3, 7), (3, 8), (3, 9), (3, 10), (3, 12), (3, 13), (3, 14), (3, 15), (5, (-1)), (6, (-1))]) (fr8_tr (M := [(3, 0), (3, 1), (3, 2), (3, 3), (3, 4), (3, 5), (3, 7), (3, 8), (3, 9), (3, 10), (3, 12), (3, 13), (3, 14), (3, 15), (5, (-1)), (6, (-1))]) (fr8_tr (M := [(3, 0), (3, 1), (3, 2), (3, 3), (3, 4), (3, 5), (3, 7), (3, 8), (3, 9), (3, 10), (3, 12), (3, 13), (3, 14), (3, 15), (5, (-1)), (6, (-1))]) (fr8_tr (M := [(3, 0), (3, 1), (3, 2), (3, 3), (3, 4), (3, 5), (3, 7), (3, 8), (3, 9), (3, 10), (3, 12), (3, 13), (3, 14), (3, 15), (5, (-1)), (6, (-1))]) (fr8_tr (M := [(3, 0), (3, 1), (3, 2), (3, 3), (3, 4), (3, 5), (3, 7), (3, 8), (3, 9), (3, 10), (3, 12), (3, 13), (3, 14), (3, 15), (5, (-1)), (6, (-1))]) (fr8_tr (M := [(3, 0), (3, 1), (3, 2), (3, 3), (3, 4), (3, 5), (3, 7), (3, 8), (3, 9), (3, 10), (3, 12), (3, 13), (3, 14), (3, 15), (5, (-1)), (6, (-1))]) fr8_rf (fr8_of (fr_up hE1)) (M1 := []) rfl rfl) (fr8_of (fr_up hE4)) rfl rfl) (fr8_of (fr_up hE5)) rfl rfl) (fr8_of (fr_up hE6)) rfl rfl) (fr8_of (fr_up hE7)) rfl rfl) (fr8_of (fr_up hE8)) rfl rfl) (fr8_of (hf10)) rfl rfl) (fr8_of (fr_up hE11)) rfl rfl) (fr8_of (fr_up hE18)) rfl rfl) (fr8_of (fr_up hE19)) rfl rfl) (fr8_of (hf20)) rfl rfl) (fr8_of (hf33)) rfl rfl) (fr8_of (hf44)) rfl rfl) (fr8_of (hf53)) rfl rfl) (fr8_of (fr_up hE62)) rfl rfl) (fr8_of (hf63)) rfl rfl) (fr8_of (fr_up hE77)) rfl rfl) (hf79) rfl rfl) (hf94) rfl rfl) ⟨(⟨_, _, f93_1, by assumption, by omega, by omega⟩), by omega⟩)
          refine Jif_ne (show mx_Sn _ _ 161 (mx_if_ne 176 164) from sn_38 161) (by omega) (fun q96 => ?_) (fun q96 => ?_)
          · skip
            exact c176 Z79 h79 (by omega) f78_1 (by assumption) (by omega) hx79 hG79 fr8_rf
          · skip
            refine mx_J.step (sn_38 164) (fun _ _ => rfl) ?_
            refine JgetR (g := 11) (b := 6) hx79 (show mx_Sn _ _ 165 (mx_getf 7 11 168) from sn_38 165) (lt83 (GI_n hG79) rfl) (show S79 3 = .inl (7, [2, 0, 0, 0, 0, 0, 2, 0, 2, 2, 0, 2, 0, 0, 0, 0]) from GI_s hG79 3 rfl) rfl rfl (hG79.prr 3 11 rfl) ?_
            refine JcI (z := 1) (show mx_Sn _ _ 168 (mx_const (.int 1) 169) from sn_38 168) rfl ?_
            refine JcI (z := 1) (show mx_Sn _ _ 169 (mx_const (.int 1) 170) from sn_38 169) rfl ?_
            have m879 : ai 6 Z79 19 0 1 = 1 := ai_m (len := 19) (lo := 0) (hi := (Z79 3 12) + 1) (by omega) (by omega) (by omega) (by omega)
            refine JiastI hx79 (show mx_Sn _ _ 170 (mx_iast 1 171) from sn_38 170) (lt83 (GI_n hG79) rfl) (show S79 6 = .inr (.int, 19, 0) from GI_s hG79 6 rfl) rfl (by omega) (fun Z98 h98 hx98 hE98 => ?_)
            have hG98 := GI_up hG79 hE98 (show 0 ≤ 1 ∧ 1 ≤ 20 by omega) trivial rfl
            have u3 : ai 6 Z98 19 0 1 = 1 := ai_u (Z := Z79) (by assumption) hE98 (by omega)
            refine mx_J.step (sn_38 171) (fun _ _ => rfl) ?_
            refine JcI (z := 1) (show mx_Sn _ _ 172 (mx_const (.int 1) 173) from sn_38 172) rfl ?_
            refine JputI (g := 12) hx98 (show mx_Sn _ _ 173 (mx_putf 1 7 12 (.int) 176) from sn_38 173) (lt83 (GI_n hG98) rfl) (show S79 3 = .inl (7, [2, 0, 0, 0, 0, 0, 2, 0, 2, 2, 0, 2, 0, 0, 0, 0]) from GI_s hG98 3 rfl) rfl rfl rfl rfl (fun Z99 h99 hx99 hE99 => ?_)
            have hG99 := GI_up hG98 hE99 (show 0 ≤ 1 ∧ 1 ≤ 18 by omega) trivial rfl
            have rc100 : RC T N Z98 (sg78) := RC_c f78_1 ⟨(up_nk hE98 rfl), (up_nk hE98 rfl), (up_nk hE98 rfl), (up_nk hE98 rfl), (up_nk hE98 rfl), (up_nk hE98 rfl), (up_nk hE98 rfl), fun i => (up_nk hE98 rfl)⟩ (up_nk hE98 rfl) (fun i => (up_nk hE98 rfl))
            have rc101 : RC T N Z99 (sg78) := RC_c rc100 ⟨(up_ni hE99 (by decide)), (up_ni hE99 (by decide)), (up_ni hE99 (by decide)), (up_ni hE99 (by decide)), (up_ni hE99 (by decide)), (up_ni hE99 (by decide)), (up_ni hE99 (by decide)), fun i => (up_nk hE99 rfl)⟩ (up_ni hE99 (by decide)) (fun i => (up_nk hE99 rfl))
            have eq102 : Z99 3 12 = 1 := (up_at hE99)
            have eq103 : Z99 3 12 = 1 := (up_at hE99)
            exact c176 Z99 h99 (by omega) rc101 (by rw [(show Z99 3 10 = Z79 3 10 from ((up_ni hE99 (by decide)).trans (up_nk hE98 rfl)))]; assumption) (by omega) hx99 hG99 (fr8_tr (M := [(3, 12), (6, (-1))]) (fr8_tr (M := [(3, 12), (6, (-1))]) fr8_rf (fr8_of (fr_ua hE98)) (M1 := []) rfl rfl) (fr8_of (fr_up hE99)) rfl rfl)
        refine Jicmp_ge (show mx_Sn _ _ 113 (mx_icmp_ge 157 116) from sn_38 113) (by omega) (by omega) (fun q104 => ?_) (fun q104 => ?_)
        · skip
          exact c157 (LK_e (by assumption) (RC_24 f78_1 (by omega)))
        · skip
          refine mx_J.step (sn_38 116) (fun _ _ => rfl) ?_
          refine JgetI (g := 4) (z := Z79 3 4) hx79 (show mx_Sn _ _ 117 (mx_getf 7 4 120) from sn_38 117) (lt83 (GI_n hG79) rfl) (show S79 3 = .inl (7, [2, 0, 0, 0, 0, 0, 2, 0, 2, 2, 0, 2, 0, 0, 0, 0]) from GI_s hG79 3 rfl) rfl rfl rfl ?_
          refine Jif_eq (show mx_Sn _ _ 120 (mx_if_eq 157 123) from sn_38 120) (by omega) (fun q106 => ?_) (fun q106 => ?_)
          · skip
            exact c157 (LK_e (by assumption) (fun q => q.2 (RC_y (k := 24) (v := 0) f78_1 (by unfold tKk; omega) rfl (by omega)).2))
          · skip
            refine mx_J.step (sn_38 123) (fun _ _ => rfl) ?_
            refine JgetI (g := 4) (z := Z79 3 4) hx79 (show mx_Sn _ _ 124 (mx_getf 7 4 127) from sn_38 124) (lt83 (GI_n hG79) rfl) (show S79 3 = .inl (7, [2, 0, 0, 0, 0, 0, 2, 0, 2, 2, 0, 2, 0, 0, 0, 0]) from GI_s hG79 3 rfl) rfl rfl rfl ?_
            refine JcI (z := 3) (show mx_Sn _ _ 127 (mx_const (.int 3) 128) from sn_38 127) rfl ?_
            refine Jicmp_eq (show mx_Sn _ _ 128 (mx_icmp_eq 157 131) from sn_38 128) (by omega) (by omega) (fun q108 => ?_) (fun q108 => ?_)
            · skip
              exact c157 (LK_e (by assumption) (fun q => by have := (RC_p f78_1).1.mpr (by omega); omega))
            · skip
              have lk : LK T N sg78 (Z79 3 12) (Z79 3 10) := (by assumption)
              have la := RC_a f78_1 (by omega)
              have lnn := RC_N f78_1
              have lk24 : ¬ tKd T N (sg78).1 = 24 := fun q => (RC_n (k := 24) (v := 0) f78_1 (by unfold tKk; omega) rfl (by omega)) ⟨la, q⟩
              refine mx_J.step (sn_38 131) (fun _ _ => rfl) ?_
              have eq110 : Z79 3 0 = 2 := ((hf79 3 0 rfl rfl).trans ((up_ni hE77 (by decide)).trans ((hf63 3 0 rfl).trans ((up_ni hE62 (by decide)).trans ((hf53 3 0 rfl).trans ((hf44 3 0 rfl).trans ((hf33 3 0 rfl).trans ((hf20 3 0 rfl).trans ((up_ni hE19 (by decide)).trans ((up_ni hE18 (by decide)).trans ((up_ni hE11 (by decide)).trans ((hf10 3 0 rfl).trans ((up_ni hE8 (by decide)).trans ((up_ni hE7 (by decide)).trans ((up_ni hE6 (by decide)).trans ((up_ni hE5 (by decide)).trans ((up_ni hE4 (by decide)).trans (up_at hE1))))))))))))))))))
              have eq111 : Z79 3 1 = y3 := ((hf79 3 1 rfl rfl).trans ((up_ni hE77 (by decide)).trans ((hf63 3 1 rfl).trans ((up_ni hE62 (by decide)).trans ((hf53 3 1 rfl).trans ((hf44 3 1 rfl).trans ((hf33 3 1 rfl).trans ((hf20 3 1 rfl).trans ((up_ni hE19 (by decide)).trans ((up_ni hE18 (by decide)).trans ((up_ni hE11 (by decide)).trans ((hf10 3 1 rfl).trans ((up_ni hE8 (by decide)).trans ((up_ni hE7 (by decide)).trans ((up_ni hE6 (by decide)).trans ((up_ni hE5 (by decide)).trans (up_at hE4)))))))))))))))))
              obtain ⟨n109, s109, S109, Z109, h109, hc109, hx109, hG109, hf109, b109⟩ := ct_40_3 (T := T) (N := N) (sg := sg78) (d := d + 0) (l := l) (D := D) (b0 := b0) (ad := ad) (Hb := Hb) (tau := tau) hx79 hG79  (show Z79 3 0 = 2 by first | omega | (simp only [eq110, eq111]; omega)) (show (Z79 3 3 ≤ Z79 3 2 ∧ Z79 3 2 ≤ Z79 3 1 ∧ (Z79 3 4 = 0 ∨ Z79 3 4 = 3 ∨ Z79 3 3 < Z79 3 2) ∧ (Z79 3 4 = 3 ∨ Z79 3 14 = 0)) by first | omega | (simp only [eq110, eq111]; omega)) (show ¬ Z79 3 4 = 0 by first | omega | (simp only [eq110, eq111]; omega)) (show ¬ Z79 3 4 = 3 by first | omega | (simp only [eq110, eq111]; omega)) (show ((n79 : Nat) : Int) ≤ 4095 by first | omega | (simp only [eq110, eq111]; omega)) (show ai 6 Z79 19 0 (Z79 3 12) = 1 by first | omega | (simp only [eq110, eq111]; omega)) f78_1
              try rw [eq110] at b109
              try rw [eq111] at b109
              obtain ⟨br109, b109⟩ := b109
              obtain ⟨bs109_0, b109⟩ := b109
              have b112 : 0 ≤ Z109 3 2 ∧ Z109 3 2 ≤ 900 := hG109.pr 3 2
              have b113 : 0 ≤ Z109 3 3 ∧ Z109 3 3 ≤ 900 := hG109.pr 3 3
              have b114 : 0 ≤ Z109 3 4 ∧ Z109 3 4 ≤ 400 := hG109.pr 3 4
              have b115 : 0 ≤ Z109 3 7 ∧ Z109 3 7 ≤ 900 := hG109.pr 3 7
              have b116 : 0 ≤ Z109 3 14 ∧ Z109 3 14 ≤ 4 := hG109.pr 3 14
              have b117 : 0 ≤ Z109 3 12 ∧ Z109 3 12 ≤ 18 := hG109.pr 3 12
              refine Jcv0 hx79 (show mx_Sn _ _ 132 (mx_callv 40 1 7 135) from sn_38 132) (lt83 (GI_n hG79) rfl) (show S79 3 = .inl (7, [2, 0, 0, 0, 0, 0, 2, 0, 2, 2, 0, 2, 0, 0, 0, 0]) from GI_s hG79 3 rfl) hc109 rfl rfl rfl ?_
              refine mx_J.step (sn_38 135) (fun _ _ => rfl) ?_
              refine JcI (z := 59) (show mx_Sn _ _ 136 (mx_const (.int 59) 138) from sn_38 136) rfl ?_
              have eq119 : Z109 3 0 = 2 := ((hf109 3 0 rfl rfl).trans ((hf79 3 0 rfl rfl).trans ((up_ni hE77 (by decide)).trans ((hf63 3 0 rfl).trans ((up_ni hE62 (by decide)).trans ((hf53 3 0 rfl).trans ((hf44 3 0 rfl).trans ((hf33 3 0 rfl).trans ((hf20 3 0 rfl).trans ((up_ni hE19 (by decide)).trans ((up_ni hE18 (by decide)).trans ((up_ni hE11 (by decide)).trans ((hf10 3 0 rfl).trans ((up_ni hE8 (by decide)).trans ((up_ni hE7 (by decide)).trans ((up_ni hE6 (by decide)).trans ((up_ni hE5 (by decide)).trans ((up_ni hE4 (by decide)).trans (up_at hE1)))))))))))))))))))
              have eq120 : Z109 3 1 = y3 := ((hf109 3 1 rfl rfl).trans ((hf79 3 1 rfl rfl).trans ((up_ni hE77 (by decide)).trans ((hf63 3 1 rfl).trans ((up_ni hE62 (by decide)).trans ((hf53 3 1 rfl).trans ((hf44 3 1 rfl).trans ((hf33 3 1 rfl).trans ((hf20 3 1 rfl).trans ((up_ni hE19 (by decide)).trans ((up_ni hE18 (by decide)).trans ((up_ni hE11 (by decide)).trans ((hf10 3 1 rfl).trans ((up_ni hE8 (by decide)).trans ((up_ni hE7 (by decide)).trans ((up_ni hE6 (by decide)).trans ((up_ni hE5 (by decide)).trans (up_at hE4))))))))))))))))))
              obtain ⟨Z118, h118, hc118, hx118, hG118, hf118, b118⟩ := ct_53_3_i59 (T := T) (N := N) (sg := lnS T N sg78 (Z79 3 12)) (d := d + 99) (l := l) (D := D) (b0 := b0) (ad := ad) (Hb := Hb) (tau := tau) hx109 hG109  (show Z109 3 0 = 2 by first | omega | (simp only [eq119, eq120]; omega)) (show (Z109 3 3 ≤ Z109 3 2 ∧ Z109 3 2 ≤ Z109 3 1 ∧ (Z109 3 4 = 0 ∨ Z109 3 4 = 3 ∨ Z109 3 3 < Z109 3 2) ∧ (Z109 3 4 = 3 ∨ Z109 3 14 = 0)) by first | omega | (simp only [eq119, eq120]; omega)) br109
              try rw [eq119] at b118
              try rw [eq120] at b118
              obtain ⟨br118, b118⟩ := b118
              have b121 : 0 ≤ Z118 3 2 ∧ Z118 3 2 ≤ 900 := hG118.pr 3 2
              have b122 : 0 ≤ Z118 3 3 ∧ Z118 3 3 ≤ 900 := hG118.pr 3 3
              have b123 : 0 ≤ Z118 3 4 ∧ Z118 3 4 ≤ 400 := hG118.pr 3 4
              have eq124 : Z118 3 7 = Z109 3 7 := (hf118 3 7 rfl)
              have b125 : 0 ≤ Z118 3 14 ∧ Z118 3 14 ≤ 4 := hG118.pr 3 14
              refine Jcv0 hx109 (show mx_Sn _ _ 138 (mx_callv 53 2 7 141) from sn_38 138) (lt83 (GI_n hG109) rfl) (show S109 3 = .inl (7, [2, 0, 0, 0, 0, 0, 2, 0, 2, 2, 0, 2, 0, 0, 0, 0]) from GI_s hG109 3 rfl) hc118 rfl rfl rfl ?_
              refine mx_J.step (sn_38 141) (fun _ _ => rfl) ?_
              refine mx_J.step (sn_38 142) (fun _ _ => rfl) ?_
              refine JgetI (g := 10) (z := Z79 3 10) hx118 (show mx_Sn _ _ 143 (mx_getf 7 10 146) from sn_38 143) (lt83 (GI_n hG118) rfl) (show S109 3 = .inl (7, [2, 0, 0, 0, 0, 0, 2, 0, 2, 2, 0, 2, 0, 0, 0, 0]) from GI_s hG118 3 rfl) rfl rfl ((hf118 3 10 rfl).trans (hf109 3 10 rfl rfl)) ?_
              refine JcI (z := 1) (show mx_Sn _ _ 146 (mx_const (.int 1) 147) from sn_38 146) rfl ?_
              refine Jiadd (show mx_Sn _ _ 147 (mx_iadd 148) from sn_38 147) ?_
              refine JputI (g := 10) hx118 (show mx_Sn _ _ 148 (mx_putf 1 7 10 (.int) 151) from sn_38 148) (lt83 (GI_n hG118) rfl) (show S109 3 = .inl (7, [2, 0, 0, 0, 0, 0, 2, 0, 2, 2, 0, 2, 0, 0, 0, 0]) from GI_s hG118 3 rfl) rfl rfl rfl rfl (fun Z127 h127 hx127 hE127 => ?_)
              have hG127 := GI_up hG118 hE127 (show 0 ≤ (Z79 3 10) + 1 ∧ (Z79 3 10) + 1 ≤ 901 by omega) trivial rfl
              refine Jiinc (z := w78_3) (cz := 1) (ls2 := [some (.ref 3), some (.ref 2), some (xI x0), some (xI (w78_3 + 1))]) (show mx_Sn _ _ 151 (mx_iinc 3 1 154) from sn_38 151) rfl rfl rfl rfl ?_
              refine mx_J.step (sn_38 154) (fun _ _ => rfl) ?_
              have rc128 : RC T N Z127 (gEx T N 30 (lnS T N sg78 (Z79 3 12))) := RC_c br118 ⟨(up_ni hE127 (by decide)), (up_ni hE127 (by decide)), (up_ni hE127 (by decide)), (up_ni hE127 (by decide)), (up_ni hE127 (by decide)), (up_ni hE127 (by decide)), (up_ni hE127 (by decide)), fun i => (up_nk hE127 rfl)⟩ (up_ni hE127 (by decide)) (fun i => (up_nk hE127 rfl))
              have eq129 : Z127 3 3 = Z118 3 3 := (up_ni hE127 (by decide))
              have eq130 : Z127 3 4 = Z118 3 4 := (up_ni hE127 (by decide))
              have eq131 : Z127 3 3 = Z118 3 3 := (up_ni hE127 (by decide))
              have eq132 : Z127 3 0 = 2 := ((up_ni hE127 (by decide)).trans ((hf118 3 0 rfl).trans ((hf109 3 0 rfl rfl).trans ((hf79 3 0 rfl rfl).trans ((up_ni hE77 (by decide)).trans ((hf63 3 0 rfl).trans ((up_ni hE62 (by decide)).trans ((hf53 3 0 rfl).trans ((hf44 3 0 rfl).trans ((hf33 3 0 rfl).trans ((hf20 3 0 rfl).trans ((up_ni hE19 (by decide)).trans ((up_ni hE18 (by decide)).trans ((up_ni hE11 (by decide)).trans ((hf10 3 0 rfl).trans ((up_ni hE8 (by decide)).trans ((up_ni hE7 (by decide)).trans ((up_ni hE6 (by decide)).trans ((up_ni hE5 (by decide)).trans ((up_ni hE4 (by decide)).trans (up_at hE1)))))))))))))))))))))
              have eq133 : Z127 3 1 = y3 := ((up_ni hE127 (by decide)).trans ((hf118 3 1 rfl).trans ((hf109 3 1 rfl rfl).trans ((hf79 3 1 rfl rfl).trans ((up_ni hE77 (by decide)).trans ((hf63 3 1 rfl).trans ((up_ni hE62 (by decide)).trans ((hf53 3 1 rfl).trans ((hf44 3 1 rfl).trans ((hf33 3 1 rfl).trans ((hf20 3 1 rfl).trans ((up_ni hE19 (by decide)).trans ((up_ni hE18 (by decide)).trans ((up_ni hE11 (by decide)).trans ((hf10 3 1 rfl).trans ((up_ni hE8 (by decide)).trans ((up_ni hE7 (by decide)).trans ((up_ni hE6 (by decide)).trans ((up_ni hE5 (by decide)).trans (up_at hE4))))))))))))))))))))
              have eq134 : Z127 3 2 = Z118 3 2 := (up_ni hE127 (by decide))
              have eq135 : Z127 3 3 = Z118 3 3 := (up_ni hE127 (by decide))
              have eq136 : Z127 3 4 = Z118 3 4 := (up_ni hE127 (by decide))
              have eq137 : Z127 3 7 = Z109 3 7 := ((up_ni hE127 (by decide)).trans (hf118 3 7 rfl))
              have eq138 : Z127 3 14 = Z118 3 14 := (up_ni hE127 (by decide))
              have eq139 : Z127 3 12 = Z109 3 12 := ((up_ni hE127 (by decide)).trans (hf118 3 12 rfl))
              have eq140 : (ai 6) Z127 19 0 ((Z127 3 12) + 1) = (ai 6) Z109 19 0 ((Z109 3 12) + 1) := by rw [(show Z127 3 12 = Z109 3 12 from ((up_ni hE127 (by decide)).trans (hf118 3 12 rfl)))]; exact ((ai_c (fun i => up_nk hE127 rfl)).trans (ai_c (fun i => hf118 6 i rfl)))
              have eq141 : (ai 6) Z127 19 0 ((Z109 3 12) + 1) = (ai 6) Z109 19 0 ((Z109 3 12) + 1) := ((ai_c (fun i => up_nk hE127 rfl)).trans (ai_c (fun i => hf118 6 i rfl)))
              have eq142 : Z127 3 4 = Z118 3 4 := (up_ni hE127 (by decide))
              have eq143 : Z127 3 12 = Z109 3 12 := ((up_ni hE127 (by decide)).trans (hf118 3 12 rfl))
              have eq144 : (ai 6) Z127 19 0 (Z127 3 12) = (ai 6) Z109 19 0 (Z109 3 12) := by rw [(show Z127 3 12 = Z109 3 12 from ((up_ni hE127 (by decide)).trans (hf118 3 12 rfl)))]; exact ((ai_c (fun i => up_nk hE127 rfl)).trans (ai_c (fun i => hf118 6 i rfl)))
              have eq145 : (ai 6) Z127 19 0 (Z109 3 12) = (ai 6) Z109 19 0 (Z109 3 12) := ((ai_c (fun i => up_nk hE127 rfl)).trans (ai_c (fun i => hf118 6 i rfl)))
              have eq146 : Z127 3 10 = (Z79 3 10) + 1 := (up_at hE127)
              have eq147 : Z127 3 3 = Z118 3 3 := (up_ni hE127 (by decide))
              have eq148 : Z127 3 4 = Z118 3 4 := (up_ni hE127 (by decide))
              have eq149 : Z127 3 3 = Z118 3 3 := (up_ni hE127 (by decide))
              exact ih78 (w78_3 + 1) (gEx T N 30 (lnS T N sg78 (Z79 3 12))) n109 s109 S109 Z127 h127 (by omega) (by omega) rc128 (by omega) (by omega) (by omega) (by omega) (by omega) (by omega) (by omega) (by rw [(show Z127 3 10 = (Z79 3 10) + 1 from (up_at hE127)), (show Z127 3 12 = Z109 3 12 from ((up_ni hE127 (by decide)).trans (hf118 3 12 rfl)))]; exact LK_s lk lnn la lk24 (by assumption)) hx127 hG127 (fr8_tr (M := [(3, 2), (3, 3), (3, 4), (3, 5), (3, 7), (3, 8), (3, 9), (3, 10), (3, 12), (3, 14), (3, 15), (5, (-1)), (6, (-1))]) (fr8_tr (M := [(3, 2), (3, 3), (3, 4), (3, 5), (3, 7), (3, 8), (3, 9), (3, 10), (3, 12), (3, 14), (3, 15), (5, (-1)), (6, (-1))]) (fr8_tr (M := [(3, 2), (3, 3), (3, 4), (3, 5), (3, 7), (3, 8), (3, 9), (3, 10), (3, 12), (3, 14), (3, 15), (5, (-1)), (6, (-1))]) (fr8_tr (M := [(3, 2), (3, 3), (3, 4), (3, 5), (3, 7), (3, 8), (3, 9), (3, 10), (3, 12), (3, 14), (3, 15), (5, (-1)), (6, (-1))]) fr8_rf (hf79) (M1 := []) rfl rfl) (hf109) rfl rfl) (fr8_of (hf118)) rfl rfl) (fr8_of (fr_up hE127)) rfl rfl)
    have rc150 : RC T N Z77 (gEx T N 30 (gTk T N 0 9 (gEx T N 1 (gEx T N 0 (tBg T N 0, jl))))) := RC_c br63 ⟨(up_ni hE77 (by decide)), (up_ni hE77 (by decide)), (up_ni hE77 (by decide)), (up_ni hE77 (by decide)), (up_ni hE77 (by decide)), (up_ni hE77 (by decide)), (up_ni hE77 (by decide)), fun i => (up_nk hE77 rfl)⟩ (up_ni hE77 (by decide)) (fun i => (up_nk hE77 rfl))
    have eq151 : Z77 3 3 = Z63 3 3 := (up_ni hE77 (by decide))
    have eq152 : Z77 3 4 = Z63 3 4 := (up_ni hE77 (by decide))
    have eq153 : Z77 3 3 = Z63 3 3 := (up_ni hE77 (by decide))
    have eq154 : Z77 3 0 = 2 := ((up_ni hE77 (by decide)).trans ((hf63 3 0 rfl).trans ((up_ni hE62 (by decide)).trans ((hf53 3 0 rfl).trans ((hf44 3 0 rfl).trans ((hf33 3 0 rfl).trans ((hf20 3 0 rfl).trans ((up_ni hE19 (by decide)).trans ((up_ni hE18 (by decide)).trans ((up_ni hE11 (by decide)).trans ((hf10 3 0 rfl).trans ((up_ni hE8 (by decide)).trans ((up_ni hE7 (by decide)).trans ((up_ni hE6 (by decide)).trans ((up_ni hE5 (by decide)).trans ((up_ni hE4 (by decide)).trans (up_at hE1)))))))))))))))))
    have eq155 : Z77 3 1 = y3 := ((up_ni hE77 (by decide)).trans ((hf63 3 1 rfl).trans ((up_ni hE62 (by decide)).trans ((hf53 3 1 rfl).trans ((hf44 3 1 rfl).trans ((hf33 3 1 rfl).trans ((hf20 3 1 rfl).trans ((up_ni hE19 (by decide)).trans ((up_ni hE18 (by decide)).trans ((up_ni hE11 (by decide)).trans ((hf10 3 1 rfl).trans ((up_ni hE8 (by decide)).trans ((up_ni hE7 (by decide)).trans ((up_ni hE6 (by decide)).trans ((up_ni hE5 (by decide)).trans (up_at hE4))))))))))))))))
    have eq156 : Z77 3 2 = Z63 3 2 := (up_ni hE77 (by decide))
    have eq157 : Z77 3 3 = Z63 3 3 := (up_ni hE77 (by decide))
    have eq158 : Z77 3 4 = Z63 3 4 := (up_ni hE77 (by decide))
    have eq159 : Z77 3 7 = Z 3 7 := ((up_ni hE77 (by decide)).trans ((hf63 3 7 rfl).trans ((up_ni hE62 (by decide)).trans ((hf53 3 7 rfl).trans ((hf44 3 7 rfl).trans ((hf33 3 7 rfl).trans ((hf20 3 7 rfl).trans ((up_ni hE19 (by decide)).trans ((up_ni hE18 (by decide)).trans ((up_ni hE11 (by decide)).trans ((hf10 3 7 rfl).trans ((up_ni hE8 (by decide)).trans ((up_ni hE7 (by decide)).trans ((up_ni hE6 (by decide)).trans ((up_ni hE5 (by decide)).trans ((up_ni hE4 (by decide)).trans (up_ni hE1 (by decide))))))))))))))))))
    have eq160 : Z77 3 14 = Z63 3 14 := (up_ni hE77 (by decide))
    have eq161 : Z77 3 12 = 0 := ((up_ni hE77 (by decide)).trans ((hf63 3 12 rfl).trans ((up_ni hE62 (by decide)).trans ((hf53 3 12 rfl).trans ((hf44 3 12 rfl).trans ((hf33 3 12 rfl).trans ((hf20 3 12 rfl).trans ((up_ni hE19 (by decide)).trans ((up_ni hE18 (by decide)).trans (up_at hE11))))))))))
    have eq162 : (ai 6) Z77 19 0 ((Z77 3 12) + 1) = (ai 6) Z10 19 0 (0 + 1) := by rw [(show Z77 3 12 = 0 from ((up_ni hE77 (by decide)).trans ((hf63 3 12 rfl).trans ((up_ni hE62 (by decide)).trans ((hf53 3 12 rfl).trans ((hf44 3 12 rfl).trans ((hf33 3 12 rfl).trans ((hf20 3 12 rfl).trans ((up_ni hE19 (by decide)).trans ((up_ni hE18 (by decide)).trans (up_at hE11)))))))))))]; exact ((ai_c (fun i => up_nk hE77 rfl)).trans ((ai_c (fun i => hf63 6 i rfl)).trans ((ai_c (fun i => up_nk hE62 rfl)).trans ((ai_c (fun i => hf53 6 i rfl)).trans ((ai_c (fun i => hf44 6 i rfl)).trans ((ai_c (fun i => hf33 6 i rfl)).trans ((ai_c (fun i => hf20 6 i rfl)).trans ((ai_c (fun i => up_nk hE19 rfl)).trans ((ai_c (fun i => up_nk hE18 rfl)).trans (ai_c (fun i => up_nk hE11 rfl)))))))))))
    have eq163 : (ai 6) Z77 19 0 (0 + 1) = (ai 6) Z10 19 0 (0 + 1) := ((ai_c (fun i => up_nk hE77 rfl)).trans ((ai_c (fun i => hf63 6 i rfl)).trans ((ai_c (fun i => up_nk hE62 rfl)).trans ((ai_c (fun i => hf53 6 i rfl)).trans ((ai_c (fun i => hf44 6 i rfl)).trans ((ai_c (fun i => hf33 6 i rfl)).trans ((ai_c (fun i => hf20 6 i rfl)).trans ((ai_c (fun i => up_nk hE19 rfl)).trans ((ai_c (fun i => up_nk hE18 rfl)).trans (ai_c (fun i => up_nk hE11 rfl)))))))))))
    have eq164 : Z77 3 4 = Z63 3 4 := (up_ni hE77 (by decide))
    have eq165 : Z77 3 12 = 0 := ((up_ni hE77 (by decide)).trans ((hf63 3 12 rfl).trans ((up_ni hE62 (by decide)).trans ((hf53 3 12 rfl).trans ((hf44 3 12 rfl).trans ((hf33 3 12 rfl).trans ((hf20 3 12 rfl).trans ((up_ni hE19 (by decide)).trans ((up_ni hE18 (by decide)).trans (up_at hE11))))))))))
    have eq166 : (ai 6) Z77 19 0 (Z77 3 12) = (ai 6) Z10 19 0 0 := by rw [(show Z77 3 12 = 0 from ((up_ni hE77 (by decide)).trans ((hf63 3 12 rfl).trans ((up_ni hE62 (by decide)).trans ((hf53 3 12 rfl).trans ((hf44 3 12 rfl).trans ((hf33 3 12 rfl).trans ((hf20 3 12 rfl).trans ((up_ni hE19 (by decide)).trans ((up_ni hE18 (by decide)).trans (up_at hE11)))))))))))]; exact ((ai_c (fun i => up_nk hE77 rfl)).trans ((ai_c (fun i => hf63 6 i rfl)).trans ((ai_c (fun i => up_nk hE62 rfl)).trans ((ai_c (fun i => hf53 6 i rfl)).trans ((ai_c (fun i => hf44 6 i rfl)).trans ((ai_c (fun i => hf33 6 i rfl)).trans ((ai_c (fun i => hf20 6 i rfl)).trans ((ai_c (fun i => up_nk hE19 rfl)).trans ((ai_c (fun i => up_nk hE18 rfl)).trans (ai_c (fun i => up_nk hE11 rfl)))))))))))
    have eq167 : (ai 6) Z77 19 0 0 = (ai 6) Z10 19 0 0 := ((ai_c (fun i => up_nk hE77 rfl)).trans ((ai_c (fun i => hf63 6 i rfl)).trans ((ai_c (fun i => up_nk hE62 rfl)).trans ((ai_c (fun i => hf53 6 i rfl)).trans ((ai_c (fun i => hf44 6 i rfl)).trans ((ai_c (fun i => hf33 6 i rfl)).trans ((ai_c (fun i => hf20 6 i rfl)).trans ((ai_c (fun i => up_nk hE19 rfl)).trans ((ai_c (fun i => up_nk hE18 rfl)).trans (ai_c (fun i => up_nk hE11 rfl)))))))))))
    have eq168 : Z77 3 10 = 1 := (up_at hE77)
    have eq169 : Z77 3 3 = Z63 3 3 := (up_ni hE77 (by decide))
    have eq170 : Z77 3 4 = Z63 3 4 := (up_ni hE77 (by decide))
    have eq171 : Z77 3 3 = Z63 3 3 := (up_ni hE77 (by decide))
    exact c108 (Int.toNat (900 - 0) + 1) 0 (gEx T N 30 (gTk T N 0 9 (gEx T N 1 (gEx T N 0 (tBg T N 0, jl))))) n s S Z77 h77 (by omega) (by omega) rc150 (by omega) (by omega) (by omega) (by omega) (by omega) (by omega) (by omega) (by rw [(show Z77 3 10 = 1 from (up_at hE77))]; exact LK_0 (s0 := gEx T N 30 (gTk T N 0 9 (rdA T N))) (gEx_m (gTk_m (gEx_m (gEx_m rfl)))) rfl ((up_ni hE77 (by decide)).trans ((hf63 3 12 rfl).trans ((up_ni hE62 (by decide)).trans ((hf53 3 12 rfl).trans ((hf44 3 12 rfl).trans ((hf33 3 12 rfl).trans ((hf20 3 12 rfl).trans ((up_ni hE19 (by decide)).trans ((up_ni hE18 (by decide)).trans (up_at hE11))))))))))) hx77 hG77 fr8_rf
theorem ct_38_3_2 {l : Launch} {D : va_G} {b0 : Nat} {ad : Nat → Nat} {Hb : Heap} {tau : Nat → Int64} {d n s : Nat} {S : Nat → xS} {Z : xZ} {h : mx_H} {T : Int → Int} {N : Int} (hx : XH n s S Z h) (hG : GI n S Z)  {x0 : Int} (p0 : 0 ≤ x0 ∧ x0 ≤ 900) (k0 : 3 * ((n : Nat) : Int) + x0 + 6 ≤ 12288) (k1 : TB T N Z) (k2 : N = x0) : ∃ (n' s' : Nat) (S' : Nat → xS) (Z' : xZ) (h' : mx_H), mx_Ca (tB l D b0 ad Hb tau) (d + 107) 38 [.ref 3, .ref 2, xI x0] h (none, h') ∧ XH n' s' S' Z' h' ∧ GI n' S' Z' ∧ fr8 [(3, 0), (3, 1), (3, 2), (3, 3), (3, 4), (3, 5), (3, 7), (3, 8), (3, 9), (3, 10), (3, 12), (3, 13), (3, 14), (3, 15), (5, (-1)), (6, (-1))] Z Z' ∧ (RDc T N Z' ∧ (1 ≤ Z' 3 12 ∧ ((n : Nat) : Int) ≤ ((n' : Nat) : Int) ∧ ((s : Nat) : Int) ≤ ((s' : Nat) : Int) ∧ ((s' : Nat) : Int) ≤ ((s : Nat) : Int) + 900 * (((n' : Nat) : Int) - ((n : Nat) : Int)) ∧ 3 * (((n' : Nat) : Int) - ((n : Nat) : Int)) ≤ x0 + 3)) := by
  obtain ⟨r, hca, n', s', S', Z', h', e, q⟩ := Jmt (B := tB l D b0 ad Hb tau) (M := mt_38) (mi := 38) (as := [.ref 3, .ref 2, xI x0]) (d := d + 106) (ls := [some (.ref 3), some (.ref 2), some (xI x0), none]) rfl rfl rfl rfl rfl rfl (cw_38_3_2 (l := l) (D := D) (b0 := b0) (ad := ad) (Hb := Hb) (tau := tau) (d := d) (Post := fun r => ∃ (n' s' : Nat) (S' : Nat → xS) (Z' : xZ) (h' : mx_H), r = (none, h') ∧ XH n' s' S' Z' h' ∧ GI n' S' Z' ∧ fr8 [(3, 0), (3, 1), (3, 2), (3, 3), (3, 4), (3, 5), (3, 7), (3, 8), (3, 9), (3, 10), (3, 12), (3, 13), (3, 14), (3, 15), (5, (-1)), (6, (-1))] Z Z' ∧ (RDc T N Z' ∧ (1 ≤ Z' 3 12 ∧ ((n : Nat) : Int) ≤ ((n' : Nat) : Int) ∧ ((s : Nat) : Int) ≤ ((s' : Nat) : Int) ∧ ((s' : Nat) : Int) ≤ ((s : Nat) : Int) + 900 * (((n' : Nat) : Int) - ((n : Nat) : Int)) ∧ 3 * (((n' : Nat) : Int) - ((n : Nat) : Int)) ≤ x0 + 3))) hx hG p0 k0 k1 k2 (fun n' s' S' Z' h' q1 q2 q3 q4 => ⟨n', s', S', Z', h', rfl, q1, q2, q3, q4⟩))
  subst e; exact ⟨n', s', S', Z', h', hca, q⟩
