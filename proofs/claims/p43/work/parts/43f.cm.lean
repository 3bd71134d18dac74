set_option maxRecDepth 100000 in
theorem cw_213_56 {l : Launch} {D : va_G} {b0 : Nat} {ad : Nat → Nat} {Hb : Heap} {tau : Nat → Int64} {d n s : Nat} {S : Nat → xS} {Z : xZ} {h : mx_H} {Post : mx_R → Prop} (hx : XH n s S Z h) (hG : GI n S Z)  {x0 x1 : Int} (p0 : 1 ≤ x0 ∧ x0 ≤ 18) (p1 : 1 ≤ x1 ∧ x1 ≤ 18) (k0 : hv Z (Z 57 27) x0 = 1) (k1 : hv Z (Z 57 27) x1 = 1) (hP : ∀ (Z' : xZ) (h' : mx_H), XH n s S Z' h' → GI n S Z' → fr' [(57, (-1)), (62, (-1))] Z Z' → (Z' 57 1 = Z 57 1 ∧ Z' 57 963 = Z 57 963 ∧ Z' 57 1925 = Z 57 1925) → Post (none, h')) : mx_J (tB l D b0 ad Hb tau) mt_213 (d + 2) 0 [some (.ref 56), some (xI x0), some (xI x1), none, none] [] h Post := by
    have a56 : 56 < n := lt83 (GI_n hG) rfl
    have s56 : S 56 = .inl (12, [0, 2, 2, 2, 2, 0, 0, 0, 0, 0, 0, 0, 0, 0, 0, 2, 2, 2, 0, 2, 2, 2, 0, 0, 2, 2, 2, 2, 2, 2, 0, 0, 2, 2, 2, 2, 2, 2, 2, 2, 2, 2]) := GI_s hG 56 rfl
    have a57 : 57 < n := lt83 (GI_n hG) rfl
    have s57 : S 57 = .inr (.int, 2886, 0) := GI_s hG 57 rfl
    have a62 : 62 < n := lt83 (GI_n hG) rfl
    have s62 : S 62 = .inr (.int, 20, 0) := GI_s hG 62 rfl
    refine mx_J.step (sn_213 0) (fun _ _ => rfl) ?_
    refine mx_J.step (sn_213 1) (fun _ _ => rfl) ?_
    refine JgetR (g := 1) (b := 57) hx (show mx_Sn _ _ 2 (mx_getf 12 1 5) from sn_213 2) a56 s56 rfl rfl (hG.prr 56 1 rfl) ?_
    refine JcI (z := 27) (show mx_Sn _ _ 5 (mx_const (.int 27) 7) from sn_213 5) rfl ?_
    have b2 := GI_st hG 27
    have b3 : 0 ≤ Z 56 18 ∧ Z 56 18 ≤ 385 := hG.pr 56 18
    have b4 : 0 ≤ Z 57 27 ∧ Z 57 27 ≤ 384 := by have hq := GI_ex hG 57 27; replace hq : f57 (27 % 962) (Z 57 27) := hq; unfold f57 at hq; omega
    have b5 : (-2147483648) ≤ Z 57 27 ∧ Z 57 27 ≤ 2147483647 := hG.pr 57 27
    refine JialdI (z := Z 57 27) hx (show mx_Sn _ _ 7 (mx_iald 8) from sn_213 7) a57 s57 (by omega) rfl ?_
    refine mx_J.step (sn_213 8) (fun _ _ => rfl) ?_
    obtain ⟨z6, hc6, b6⟩ := ct_192_56 (d := d + 0) (l := l) (D := D) (b0 := b0) (ad := ad) (Hb := Hb) (tau := tau) hx hG (show 0 ≤ Z 57 27 ∧ Z 57 27 ≤ 384 by omega) (show (-2147483648) ≤ x0 ∧ x0 ≤ 2147483647 by omega)
    refine Jcv hx (show mx_Sn _ _ 9 (mx_callv 192 3 12 12) from sn_213 9) a56 s56 hc6 rfl rfl rfl ?_
    refine mx_J.step (ls2 := [some (.ref 56), some (xI x0), some (xI x1), some (xI z6), none]) (sn_213 12) (fun _ _ => rfl) ?_
    refine mx_J.step (sn_213 13) (fun _ _ => rfl) ?_
    refine mx_J.step (sn_213 14) (fun _ _ => rfl) ?_
    have c36 : ∀ (k7_0 : Int), (-1) ≤ k7_0 ∧ k7_0 ≤ 18 → 0 ≤ k7_0 → mx_J (tB l D b0 ad Hb tau) mt_213 (d + 2) 36 [some (.ref 56), some (xI x0), some (xI x1), some (xI z6), none] [xI k7_0] h Post := by
      intro k7_0 f7_0 f7_1
      refine mx_J.step (ls2 := [some (.ref 56), some (xI x0), some (xI x1), some (xI z6), some (xI k7_0)]) (sn_213 36) (fun _ _ => rfl) ?_
      refine mx_J.step (sn_213 38) (fun _ _ => rfl) ?_
      refine mx_J.step (sn_213 39) (fun _ _ => rfl) ?_
      refine JgetR (g := 1) (b := 57) hx (show mx_Sn _ _ 40 (mx_getf 12 1 43) from sn_213 40) a56 s56 rfl rfl (hG.prr 56 1 rfl) ?_
      refine JcI (z := 27) (show mx_Sn _ _ 43 (mx_const (.int 27) 45) from sn_213 43) rfl ?_
      refine JialdI (z := Z 57 27) hx (show mx_Sn _ _ 45 (mx_iald 46) from sn_213 45) a57 s57 (by omega) rfl ?_
      obtain ⟨Z9, h9, hc9, hx9, hG9, hf9⟩ := ct_187_56 (d := d + 0) (l := l) (D := D) (b0 := b0) (ad := ad) (Hb := Hb) (tau := tau) hx hG (show 0 ≤ Z 57 27 ∧ Z 57 27 ≤ 384 by omega)
      refine Jcv0 hx (show mx_Sn _ _ 46 (mx_callv 187 2 12 49) from sn_213 46) a56 s56 hc9 rfl rfl rfl ?_
      refine mx_J.step (sn_213 49) (fun _ _ => rfl) ?_
      refine JgetR (g := 16) (b := 62) hx9 (show mx_Sn _ _ 50 (mx_getf 12 16 53) from sn_213 50) a56 s56 rfl rfl (hG9.prr 56 16 rfl) ?_
      refine mx_J.step (sn_213 53) (fun _ _ => rfl) ?_
      refine mx_J.step (sn_213 54) (fun _ _ => rfl) ?_
      refine mx_J.step (sn_213 55) (fun _ _ => rfl) ?_
      refine Jiadd (show mx_Sn _ _ 56 (mx_iadd 57) from sn_213 56) ?_
      refine JiastI hx9 (show mx_Sn _ _ 57 (mx_iast 1 58) from sn_213 57) a62 s62 rfl (by omega) (fun Z11 h11 hx11 hE11 => ?_)
      have hG11 := GI_up hG9 hE11 (show (-2147483648) ≤ x0 + x1 ∧ x0 + x1 ≤ 2147483647 by omega) trivial rfl
      refine mx_J.step (sn_213 58) (fun _ _ => rfl) ?_
      refine JgetR (g := 16) (b := 62) hx11 (show mx_Sn _ _ 59 (mx_getf 12 16 62) from sn_213 59) a56 s56 rfl rfl (hG11.prr 56 16 rfl) ?_
      refine mx_J.step (sn_213 62) (fun _ _ => rfl) ?_
      refine JcI (z := 0) (show mx_Sn _ _ 64 (mx_const (.int 0) 65) from sn_213 64) rfl ?_
      refine JiastI hx11 (show mx_Sn _ _ 65 (mx_iast 1 66) from sn_213 65) a62 s62 rfl (by omega) (fun Z13 h13 hx13 hE13 => ?_)
      have hG13 := GI_up hG11 hE13 (show (-2147483648) ≤ 0 ∧ 0 ≤ 2147483647 by omega) trivial rfl
      refine mx_J.step (sn_213 66) (fun _ _ => rfl) ?_
      refine JgetR (g := 1) (b := 57) hx13 (show mx_Sn _ _ 67 (mx_getf 12 1 70) from sn_213 67) a56 s56 rfl rfl (hG13.prr 56 1 rfl) ?_
      refine JcI (z := 27) (show mx_Sn _ _ 70 (mx_const (.int 27) 72) from sn_213 70) rfl ?_
      refine mx_J.step (sn_213 72) (fun _ _ => rfl) ?_
      have eq16 : Z13 56 18 = Z 56 18 := ((up_nk hE13 rfl).trans ((up_nk hE11 rfl).trans (hf9 56 18 rfl)))
      obtain ⟨z15, Z15, h15, hc15, hx15, hG15, hf15, b15⟩ := ct_188_56 (d := d + 0) (l := l) (D := D) (b0 := b0) (ad := ad) (Hb := Hb) (tau := tau) hx13 hG13 
      try rw [eq16] at b15
      refine Jcv hx13 (show mx_Sn _ _ 73 (mx_callv 188 1 12 76) from sn_213 73) a56 s56 hc15 rfl rfl rfl ?_
      refine JiastI hx15 (show mx_Sn _ _ 76 (mx_iast 1 77) from sn_213 76) a57 s57 rfl (by omega) (fun Z17 h17 hx17 hE17 => ?_)
      have eq18 : Z15 56 18 = Z 56 18 := ((hf15 56 18 rfl).trans ((up_nk hE13 rfl).trans ((up_nk hE11 rfl).trans (hf9 56 18 rfl))))
      have hG17 := GI_up57 hG15 hE17 (show (-2147483648) ≤ z15 ∧ z15 ≤ 2147483647 by omega) (show f57 ((27) % 962) (z15) by first | assumption | (unfold f57; omega) | (unfold f57 at *; omega)) (by omega) (by omega)
      have eq19 : Z17 57 1 = Z 57 1 := ((up_ni hE17 (by decide)).trans ((hf15 57 1 rfl).trans ((up_nk hE13 rfl).trans ((up_nk hE11 rfl).trans (hf9 57 1 rfl)))))
      have b20 : 0 ≤ Z 57 1 ∧ Z 57 1 ≤ 18 := by have hq := GI_ex hG 57 1; replace hq : f57 (1 % 962) (Z 57 1) := hq; unfold f57 at hq; omega
      have b21 : (-2147483648) ≤ Z 57 1 ∧ Z 57 1 ≤ 2147483647 := hG.pr 57 1
      have eq22 : Z17 57 963 = Z 57 963 := ((up_ni hE17 (by decide)).trans ((hf15 57 963 rfl).trans ((up_nk hE13 rfl).trans ((up_nk hE11 rfl).trans (hf9 57 963 rfl)))))
      have b23 : 0 ≤ Z 57 963 ∧ Z 57 963 ≤ 18 := by have hq := GI_ex hG 57 963; replace hq : f57 (963 % 962) (Z 57 963) := hq; unfold f57 at hq; omega
      have b24 : (-2147483648) ≤ Z 57 963 ∧ Z 57 963 ≤ 2147483647 := hG.pr 57 963
      have eq25 : Z17 57 1925 = Z 57 1925 := ((up_ni hE17 (by decide)).trans ((hf15 57 1925 rfl).trans ((up_nk hE13 rfl).trans ((up_nk hE11 rfl).trans (hf9 57 1925 rfl)))))
      have b26 : 0 ≤ Z 57 1925 ∧ Z 57 1925 ≤ 18 := by have hq := GI_ex hG 57 1925; replace hq : f57 (1925 % 962) (Z 57 1925) := hq; unfold f57 at hq; omega
      have b27 : (-2147483648) ≤ Z 57 1925 ∧ Z 57 1925 ≤ 2147483647 := hG.pr 57 1925
      have eq28 : Z17 57 27 = z15 := (up_at hE17)
      have eq29 : hv Z17 (Z17 57 27) x0 = hv Z z15 x0 := by rw [(show Z17 57 27 = z15 from (up_at hE17))]; exact ((hv_c (fun i => up_nk hE17 rfl)).trans ((hv_c (fun i => hf15 61 i rfl)).trans ((hv_c (fun i => up_nk hE13 rfl)).trans ((hv_c (fun i => up_nk hE11 rfl)).trans (hv_c (fun i => hf9 61 i rfl))))))
      have eq30 : hv Z17 z15 x0 = hv Z z15 x0 := ((hv_c (fun i => up_nk hE17 rfl)).trans ((hv_c (fun i => hf15 61 i rfl)).trans ((hv_c (fun i => up_nk hE13 rfl)).trans ((hv_c (fun i => up_nk hE11 rfl)).trans (hv_c (fun i => hf9 61 i rfl))))))
      have eq31 : hv Z17 (Z17 57 27) x1 = hv Z z15 x1 := by rw [(show Z17 57 27 = z15 from (up_at hE17))]; exact ((hv_c (fun i => up_nk hE17 rfl)).trans ((hv_c (fun i => hf15 61 i rfl)).trans ((hv_c (fun i => up_nk hE13 rfl)).trans ((hv_c (fun i => up_nk hE11 rfl)).trans (hv_c (fun i => hf9 61 i rfl))))))
      have eq32 : hv Z17 z15 x1 = hv Z z15 x1 := ((hv_c (fun i => up_nk hE17 rfl)).trans ((hv_c (fun i => hf15 61 i rfl)).trans ((hv_c (fun i => up_nk hE13 rfl)).trans ((hv_c (fun i => up_nk hE11 rfl)).trans (hv_c (fun i => hf9 61 i rfl))))))
      have eq33 : Z17 57 1 = Z 57 1 := ((up_ni hE17 (by decide)).trans ((hf15 57 1 rfl).trans ((up_nk hE13 rfl).trans ((up_nk hE11 rfl).trans (hf9 57 1 rfl)))))
      have eq34 : Z17 57 963 = Z 57 963 := ((up_ni hE17 (by decide)).trans ((hf15 57 963 rfl).trans ((up_nk hE13 rfl).trans ((up_nk hE11 rfl).trans (hf9 57 963 rfl)))))
      have eq35 : Z17 57 1925 = Z 57 1925 := ((up_ni hE17 (by decide)).trans ((hf15 57 1925 rfl).trans ((up_nk hE13 rfl).trans ((up_nk hE11 rfl).trans (hf9 57 1925 rfl)))))
      exact mx_J.ret (sn_213 77) (fun _ _ => rfl) (hP Z17 h17 hx17 hG17 (fr_tr (M := [(57, (-1)), (62, (-1))]) (fr_tr (M := [(57, (-1)), (62, (-1))]) (fr_tr (M := [(57, (-1)), (62, (-1))]) (fr_tr (M := [(57, (-1)), (62, (-1))]) (fr_tr (M := [(57, (-1)), (62, (-1))]) fr_rf (hf9) (M1 := []) rfl rfl) (fr_ua hE11) rfl rfl) (fr_ua hE13) rfl rfl) (hf15) rfl rfl) (fr_ua hE17) rfl rfl) (by omega))
    refine Jicmp_ne (show mx_Sn _ _ 15 (mx_icmp_ne 24 18) from sn_213 15) (by omega) (by omega) (fun q36 => ?_) (fun q36 => ?_)
    · skip
      refine mx_J.step (sn_213 24) (fun _ _ => rfl) ?_
      refine mx_J.step (sn_213 25) (fun _ _ => rfl) ?_
      refine JgetR (g := 1) (b := 57) hx (show mx_Sn _ _ 26 (mx_getf 12 1 29) from sn_213 26) a56 s56 rfl rfl (hG.prr 56 1 rfl) ?_
      refine JcI (z := 27) (show mx_Sn _ _ 29 (mx_const (.int 27) 31) from sn_213 29) rfl ?_
      refine JialdI (z := Z 57 27) hx (show mx_Sn _ _ 31 (mx_iald 32) from sn_213 31) a57 s57 (by omega) rfl ?_
      refine mx_J.step (sn_213 32) (fun _ _ => rfl) ?_
      obtain ⟨z38, hc38, b38⟩ := ct_192_56 (d := d + 0) (l := l) (D := D) (b0 := b0) (ad := ad) (Hb := Hb) (tau := tau) hx hG (show 0 ≤ Z 57 27 ∧ Z 57 27 ≤ 384 by omega) (show (-2147483648) ≤ x1 ∧ x1 ≤ 2147483647 by omega)
      refine Jcv hx (show mx_Sn _ _ 33 (mx_callv 192 3 12 36) from sn_213 33) a56 s56 hc38 rfl rfl rfl ?_
      exact c36 z38 (by omega) (by omega)
    · skip
      refine mx_J.step (sn_213 18) (fun _ _ => rfl) ?_
      refine JcI (z := 1) (show mx_Sn _ _ 19 (mx_const (.int 1) 20) from sn_213 19) rfl ?_
      refine Jiadd (show mx_Sn _ _ 20 (mx_iadd 21) from sn_213 20) ?_
      refine mx_J.step (sn_213 21) (fun _ _ => rfl) ?_
      exact c36 (z6 + 1) (by omega) (by omega)
theorem ct_213_56 {l : Launch} {D : va_G} {b0 : Nat} {ad : Nat → Nat} {Hb : Heap} {tau : Nat → Int64} {d n s : Nat} {S : Nat → xS} {Z : xZ} {h : mx_H} (hx : XH n s S Z h) (hG : GI n S Z)  {x0 x1 : Int} (p0 : 1 ≤ x0 ∧ x0 ≤ 18) (p1 : 1 ≤ x1 ∧ x1 ≤ 18) (k0 : hv Z (Z 57 27) x0 = 1) (k1 : hv Z (Z 57 27) x1 = 1) : ∃ (Z' : xZ) (h' : mx_H), mx_Ca (tB l D b0 ad Hb tau) (d + 3) 213 [.ref 56, xI x0, xI x1] h (none, h') ∧ XH n s S Z' h' ∧ GI n S Z' ∧ fr' [(57, (-1)), (62, (-1))] Z Z' ∧ ((Z' 57 1 = Z 57 1 ∧ Z' 57 963 = Z 57 963 ∧ Z' 57 1925 = Z 57 1925)) := by
  obtain ⟨r, hca, Z', h', e, q⟩ := Jmt (B := tB l D b0 ad Hb tau) (M := mt_213) (mi := 213) (as := [.ref 56, xI x0, xI x1]) (d := d + 2) (ls := [some (.ref 56), some (xI x0), some (xI x1), none, none]) rfl rfl rfl rfl rfl rfl (cw_213_56 (l := l) (D := D) (b0 := b0) (ad := ad) (Hb := Hb) (tau := tau) (d := d) (Post := fun r => ∃ (Z' : xZ) (h' : mx_H), r = (none, h') ∧ XH n s S Z' h' ∧ GI n S Z' ∧ fr' [(57, (-1)), (62, (-1))] Z Z' ∧ ((Z' 57 1 = Z 57 1 ∧ Z' 57 963 = Z 57 963 ∧ Z' 57 1925 = Z 57 1925))) hx hG p0 p1 k0 k1 (fun Z' h' q1 q2 q3 q4 => ⟨Z', h', rfl, q1, q2, q3, q4⟩))
  subst e; exact ⟨Z', h', hca, q⟩
set_option maxRecDepth 100000 in
theorem cw_214_56 {l : Launch} {D : va_G} {b0 : Nat} {ad : Nat → Nat} {Hb : Heap} {tau : Nat → Int64} {d n s : Nat} {S : Nat → xS} {Z : xZ} {h : mx_H} {Post : mx_R → Prop} (hx : XH n s S Z h) (hG : GI n S Z)  {x0 x1 : Int} (p0 : (-2147483648) ≤ x0 ∧ x0 ≤ 2147483647) (p1 : (-2147483648) ≤ x1 ∧ x1 ≤ 2147483647) (hP : ∀ (z : Int) (Z' : xZ) (h' : mx_H), XH n s S Z' h' → GI n S Z' → fr' [(56, 0), (57, (-1)), (62, (-1)), (66, (-1))] Z Z' → (-12) ≤ z ∧ z ≤ 18 ∧ (Z' 57 1 = Z 57 1 ∧ Z' 57 963 = Z 57 963 ∧ Z' 57 1925 = Z 57 1925) → Post (some (xI z), h')) : mx_J (tB l D b0 ad Hb tau) mt_214 (d + 3) 0 [some (.ref 56), some (xI x0), some (xI x1), none] [] h Post := by
    have a56 : 56 < n := lt83 (GI_n hG) rfl
    have s56 : S 56 = .inl (12, [0, 2, 2, 2, 2, 0, 0, 0, 0, 0, 0, 0, 0, 0, 0, 2, 2, 2, 0, 2, 2, 2, 0, 0, 2, 2, 2, 2, 2, 2, 0, 0, 2, 2, 2, 2, 2, 2, 2, 2, 2, 2]) := GI_s hG 56 rfl
    have a57 : 57 < n := lt83 (GI_n hG) rfl
    have s57 : S 57 = .inr (.int, 2886, 0) := GI_s hG 57 rfl
    refine mx_J.step (sn_214 0) (fun _ _ => rfl) ?_
    refine JcI (z := 0) (show mx_Sn _ _ 1 (mx_const (.int 0) 2) from sn_214 1) rfl ?_
    refine JputI (g := 0) hx (show mx_Sn _ _ 2 (mx_putf 1 12 0 (.int) 5) from sn_214 2) a56 s56 rfl rfl rfl rfl (fun Z1 h1 hx1 hE1 => ?_)
    have hG1 := GI_up hG hE1 (show (-2147483648) ≤ 0 ∧ 0 ≤ 2147483647 by omega) trivial rfl
    refine mx_J.step (sn_214 5) (fun _ _ => rfl) ?_
    refine mx_J.step (sn_214 6) (fun _ _ => rfl) ?_
    refine mx_J.step (sn_214 7) (fun _ _ => rfl) ?_
    have eq3 : Z1 57 27 = Z 57 27 := (up_nk hE1 rfl)
    have b4 := GI_st hG 27
    have b5 : 0 ≤ Z 56 18 ∧ Z 56 18 ≤ 385 := hG.pr 56 18
    have b6 : 0 ≤ Z 57 27 ∧ Z 57 27 ≤ 384 := by have hq := GI_ex hG 57 27; replace hq : f57 (27 % 962) (Z 57 27) := hq; unfold f57 at hq; omega
    have b7 : (-2147483648) ≤ Z 57 27 ∧ Z 57 27 ≤ 2147483647 := hG.pr 57 27
    have eq8 : hv Z1 (Z1 57 27) x0 = hv Z (Z 57 27) x0 := by rw [(show Z1 57 27 = Z 57 27 from (up_nk hE1 rfl))]; exact (hv_c (fun i => up_nk hE1 rfl))
    have eq9 : hv Z1 (Z 57 27) x0 = hv Z (Z 57 27) x0 := (hv_c (fun i => up_nk hE1 rfl))
    have eq10 : hv Z1 (Z1 57 27) x1 = hv Z (Z 57 27) x1 := by rw [(show Z1 57 27 = Z 57 27 from (up_nk hE1 rfl))]; exact (hv_c (fun i => up_nk hE1 rfl))
    have eq11 : hv Z1 (Z 57 27) x1 = hv Z (Z 57 27) x1 := (hv_c (fun i => up_nk hE1 rfl))
    obtain ⟨z2, hc2, b2⟩ := ct_212_56 (d := d + 0) (l := l) (D := D) (b0 := b0) (ad := ad) (Hb := Hb) (tau := tau) hx1 hG1 (show (-2147483648) ≤ x0 ∧ x0 ≤ 2147483647 by omega) (show (-2147483648) ≤ x1 ∧ x1 ≤ 2147483647 by omega)
    try rw [eq3] at b2
    refine Jcv hx1 (show mx_Sn _ _ 8 (mx_callv 212 3 12 11) from sn_214 8) a56 s56 hc2 rfl rfl rfl ?_
    refine mx_J.step (ls2 := [some (.ref 56), some (xI x0), some (xI x1), some (xI z2)]) (sn_214 11) (fun _ _ => rfl) ?_
    refine mx_J.step (sn_214 12) (fun _ _ => rfl) ?_
    refine Jif_eq (show mx_Sn _ _ 13 (mx_if_eq 21 16) from sn_214 13) (by omega) (fun q12 => ?_) (fun q12 => ?_)
    · skip
      refine mx_J.step (sn_214 21) (fun _ _ => rfl) ?_
      have eq14 : Z1 57 27 = Z 57 27 := (up_nk hE1 rfl)
      obtain ⟨Z13, h13, hc13, hx13, hG13, hf13, b13⟩ := ct_202_56 (d := d + 2) (l := l) (D := D) (b0 := b0) (ad := ad) (Hb := Hb) (tau := tau) hx1 hG1 
      try rw [eq14] at b13
      have b15 : (-2147483648) ≤ Z13 66 0 ∧ Z13 66 0 ≤ 2147483647 := hG13.pr 66 0
      have b16 : (((0 : Int) = 0 → 0 ≤ (Z13 66 0) ∧ (Z13 66 0) ≤ 384) ∧ ((0 : Int) = 1 → 0 ≤ (Z13 66 0) ∧ (Z13 66 0) ≤ 9)) := GI_ex hG13 66 0
      refine Jcv0 hx1 (show mx_Sn _ _ 22 (mx_callv 202 1 12 25) from sn_214 22) a56 s56 hc13 rfl rfl rfl ?_
      refine mx_J.step (sn_214 25) (fun _ _ => rfl) ?_
      refine mx_J.step (sn_214 26) (fun _ _ => rfl) ?_
      refine mx_J.step (sn_214 27) (fun _ _ => rfl) ?_
      have eq18 : Z13 57 27 = Z 57 27 := ((hf13 57 27 rfl).trans (up_nk hE1 rfl))
      have eq19 : hv Z13 (Z13 57 27) x0 = hv Z (Z 57 27) x0 := by rw [(show Z13 57 27 = Z 57 27 from ((hf13 57 27 rfl).trans (up_nk hE1 rfl)))]; exact ((hv_c (fun i => hf13 61 i rfl)).trans (hv_c (fun i => up_nk hE1 rfl)))
      have eq20 : hv Z13 (Z 57 27) x0 = hv Z (Z 57 27) x0 := ((hv_c (fun i => hf13 61 i rfl)).trans (hv_c (fun i => up_nk hE1 rfl)))
      have eq21 : hv Z13 (Z13 57 27) x1 = hv Z (Z 57 27) x1 := by rw [(show Z13 57 27 = Z 57 27 from ((hf13 57 27 rfl).trans (up_nk hE1 rfl)))]; exact ((hv_c (fun i => hf13 61 i rfl)).trans (hv_c (fun i => up_nk hE1 rfl)))
      have eq22 : hv Z13 (Z 57 27) x1 = hv Z (Z 57 27) x1 := ((hv_c (fun i => hf13 61 i rfl)).trans (hv_c (fun i => up_nk hE1 rfl)))
      have eq23 : Z13 57 1 = Z 57 1 := ((hf13 57 1 rfl).trans (up_nk hE1 rfl))
      have b24 : 0 ≤ Z 57 1 ∧ Z 57 1 ≤ 18 := by have hq := GI_ex hG 57 1; replace hq : f57 (1 % 962) (Z 57 1) := hq; unfold f57 at hq; omega
      have b25 : (-2147483648) ≤ Z 57 1 ∧ Z 57 1 ≤ 2147483647 := hG.pr 57 1
      have eq26 : Z13 57 963 = Z 57 963 := ((hf13 57 963 rfl).trans (up_nk hE1 rfl))
      have b27 : 0 ≤ Z 57 963 ∧ Z 57 963 ≤ 18 := by have hq := GI_ex hG 57 963; replace hq : f57 (963 % 962) (Z 57 963) := hq; unfold f57 at hq; omega
      have b28 : (-2147483648) ≤ Z 57 963 ∧ Z 57 963 ≤ 2147483647 := hG.pr 57 963
      have eq29 : Z13 57 1925 = Z 57 1925 := ((hf13 57 1925 rfl).trans (up_nk hE1 rfl))
      have b30 : 0 ≤ Z 57 1925 ∧ Z 57 1925 ≤ 18 := by have hq := GI_ex hG 57 1925; replace hq : f57 (1925 % 962) (Z 57 1925) := hq; unfold f57 at hq; omega
      have b31 : (-2147483648) ≤ Z 57 1925 ∧ Z 57 1925 ≤ 2147483647 := hG.pr 57 1925
      obtain ⟨Z17, h17, hc17, hx17, hG17, hf17, b17⟩ := ct_213_56 (d := d + 0) (l := l) (D := D) (b0 := b0) (ad := ad) (Hb := Hb) (tau := tau) hx13 hG13 (show 1 ≤ x0 ∧ x0 ≤ 18 by omega) (show 1 ≤ x1 ∧ x1 ≤ 18 by omega) (show hv Z13 (Z13 57 27) x0 = 1 by first | omega | (simp only [eq18, eq23, eq26, eq29]; omega)) (show hv Z13 (Z13 57 27) x1 = 1 by first | omega | (simp only [eq18, eq23, eq26, eq29]; omega))
      try rw [eq18] at b17
      try rw [eq23] at b17
      try rw [eq26] at b17
      try rw [eq29] at b17
      have b32 : 0 ≤ Z17 57 1 ∧ Z17 57 1 ≤ 18 := by have hq := GI_ex hG17 57 1; replace hq : f57 (1 % 962) (Z17 57 1) := hq; unfold f57 at hq; omega
      have b33 : (-2147483648) ≤ Z17 57 1 ∧ Z17 57 1 ≤ 2147483647 := hG17.pr 57 1
      have b34 : 0 ≤ Z17 57 963 ∧ Z17 57 963 ≤ 18 := by have hq := GI_ex hG17 57 963; replace hq : f57 (963 % 962) (Z17 57 963) := hq; unfold f57 at hq; omega
      have b35 : (-2147483648) ≤ Z17 57 963 ∧ Z17 57 963 ≤ 2147483647 := hG17.pr 57 963
      have b36 : 0 ≤ Z17 57 1925 ∧ Z17 57 1925 ≤ 18 := by have hq := GI_ex hG17 57 1925; replace hq : f57 (1925 % 962) (Z17 57 1925) := hq; unfold f57 at hq; omega
      have b37 : (-2147483648) ≤ Z17 57 1925 ∧ Z17 57 1925 ≤ 2147483647 := hG17.pr 57 1925
      refine Jcv0 hx13 (show mx_Sn _ _ 28 (mx_callv 213 3 12 31) from sn_214 28) a56 s56 hc17 rfl rfl rfl ?_
      refine mx_J.step (sn_214 31) (fun _ _ => rfl) ?_
      have eq39 : Z17 66 0 = Z13 66 0 := (hf17 66 0 rfl)
      have eq40 : Z17 56 18 = Z 56 18 := ((hf17 56 18 rfl).trans ((hf13 56 18 rfl).trans (up_ni hE1 (by decide))))
      obtain ⟨Z38, h38, hc38, hx38, hG38, hf38, b38⟩ := ct_204_56 (d := d + 2) (l := l) (D := D) (b0 := b0) (ad := ad) (Hb := Hb) (tau := tau) hx17 hG17  (show Z17 66 0 < Z17 56 18 by first | omega | (simp only [eq39, eq40]; omega))
      try rw [eq39] at b38
      try rw [eq40] at b38
      have b41 : 0 ≤ Z38 57 1 ∧ Z38 57 1 ≤ 18 := by have hq := GI_ex hG38 57 1; replace hq : f57 (1 % 962) (Z38 57 1) := hq; unfold f57 at hq; omega
      have b42 : (-2147483648) ≤ Z38 57 1 ∧ Z38 57 1 ≤ 2147483647 := hG38.pr 57 1
      have b43 : 0 ≤ Z38 57 963 ∧ Z38 57 963 ≤ 18 := by have hq := GI_ex hG38 57 963; replace hq : f57 (963 % 962) (Z38 57 963) := hq; unfold f57 at hq; omega
      have b44 : (-2147483648) ≤ Z38 57 963 ∧ Z38 57 963 ≤ 2147483647 := hG38.pr 57 963
      have b45 : 0 ≤ Z38 57 1925 ∧ Z38 57 1925 ≤ 18 := by have hq := GI_ex hG38 57 1925; replace hq : f57 (1925 % 962) (Z38 57 1925) := hq; unfold f57 at hq; omega
      have b46 : (-2147483648) ≤ Z38 57 1925 ∧ Z38 57 1925 ≤ 2147483647 := hG38.pr 57 1925
      refine Jcv0 hx17 (show mx_Sn _ _ 32 (mx_callv 204 1 12 35) from sn_214 32) a56 s56 hc38 rfl rfl rfl ?_
      refine mx_J.step (sn_214 35) (fun _ _ => rfl) ?_
      refine mx_J.step (sn_214 36) (fun _ _ => rfl) ?_
      refine JgetR (g := 1) (b := 57) hx38 (show mx_Sn _ _ 37 (mx_getf 12 1 40) from sn_214 37) a56 s56 rfl rfl (hG38.prr 56 1 rfl) ?_
      refine JcI (z := 27) (show mx_Sn _ _ 40 (mx_const (.int 27) 42) from sn_214 40) rfl ?_
      have b48 := GI_st hG38 27
      have eq49 : Z38 56 18 = Z 56 18 := ((hf38 56 18 rfl).trans ((hf17 56 18 rfl).trans ((hf13 56 18 rfl).trans (up_ni hE1 (by decide)))))
      have b50 : 0 ≤ Z38 57 27 ∧ Z38 57 27 ≤ 384 := by have hq := GI_ex hG38 57 27; replace hq : f57 (27 % 962) (Z38 57 27) := hq; unfold f57 at hq; omega
      have b51 : (-2147483648) ≤ Z38 57 27 ∧ Z38 57 27 ≤ 2147483647 := hG38.pr 57 27
      refine JialdI (z := Z38 57 27) hx38 (show mx_Sn _ _ 42 (mx_iald 43) from sn_214 42) a57 s57 (by omega) rfl ?_
      have eq53 : mn Z38 (Z38 57 27) = mn Z (Z38 57 27) := ((mn_c (fun i => hf38 61 i rfl)).trans ((mn_c (fun i => hf17 61 i rfl)).trans ((mn_c (fun i => hf13 61 i rfl)).trans (mn_c (fun i => up_nk hE1 rfl)))))
      obtain ⟨z52, hc52, b52⟩ := ct_191_56 (d := d + 1) (l := l) (D := D) (b0 := b0) (ad := ad) (Hb := Hb) (tau := tau) hx38 hG38 (show 0 ≤ Z38 57 27 ∧ Z38 57 27 ≤ 384 by omega)
      refine Jcv hx38 (show mx_Sn _ _ 43 (mx_callv 191 2 12 46) from sn_214 43) a56 s56 hc52 rfl rfl rfl ?_
      exact mx_J.ret (sn_214 46) (fun _ _ => rfl) (hP z52 Z38 h38 hx38 hG38 (fr_tr (M := [(56, 0), (57, (-1)), (62, (-1)), (66, (-1))]) (fr_tr (M := [(56, 0), (57, (-1)), (62, (-1)), (66, (-1))]) (fr_tr (M := [(56, 0), (57, (-1)), (62, (-1)), (66, (-1))]) (fr_tr (M := [(56, 0), (57, (-1)), (62, (-1)), (66, (-1))]) fr_rf (fr_up hE1) (M1 := []) rfl rfl) (hf13) rfl rfl) (hf17) rfl rfl) (hf38) rfl rfl) (by omega))
    · skip
      refine JcI (z := (-10)) (show mx_Sn _ _ 16 (mx_const (.int (-10)) 18) from sn_214 16) rfl ?_
      refine mx_J.step (sn_214 18) (fun _ _ => rfl) ?_
      refine Jisub (show mx_Sn _ _ 19 (mx_isub 20) from sn_214 19) ?_
      have eq54 : Z1 57 1 = Z 57 1 := (up_nk hE1 rfl)
      have b55 : 0 ≤ Z 57 1 ∧ Z 57 1 ≤ 18 := by have hq := GI_ex hG 57 1; replace hq : f57 (1 % 962) (Z 57 1) := hq; unfold f57 at hq; omega
      have b56 : (-2147483648) ≤ Z 57 1 ∧ Z 57 1 ≤ 2147483647 := hG.pr 57 1
      have eq57 : Z1 57 963 = Z 57 963 := (up_nk hE1 rfl)
      have b58 : 0 ≤ Z 57 963 ∧ Z 57 963 ≤ 18 := by have hq := GI_ex hG 57 963; replace hq : f57 (963 % 962) (Z 57 963) := hq; unfold f57 at hq; omega
      have b59 : (-2147483648) ≤ Z 57 963 ∧ Z 57 963 ≤ 2147483647 := hG.pr 57 963
      have eq60 : Z1 57 1925 = Z 57 1925 := (up_nk hE1 rfl)
      have b61 : 0 ≤ Z 57 1925 ∧ Z 57 1925 ≤ 18 := by have hq := GI_ex hG 57 1925; replace hq : f57 (1925 % 962) (Z 57 1925) := hq; unfold f57 at hq; omega
      have b62 : (-2147483648) ≤ Z 57 1925 ∧ Z 57 1925 ≤ 2147483647 := hG.pr 57 1925
      have eq63 : Z1 57 1 = Z 57 1 := (up_nk hE1 rfl)
      have eq64 : Z1 57 963 = Z 57 963 := (up_nk hE1 rfl)
      have eq65 : Z1 57 1925 = Z 57 1925 := (up_nk hE1 rfl)
      exact mx_J.ret (sn_214 20) (fun _ _ => rfl) (hP ((-10) - z2) Z1 h1 hx1 hG1 (fr_tr (M := [(56, 0), (57, (-1)), (62, (-1)), (66, (-1))]) fr_rf (fr_up hE1) (M1 := []) rfl rfl) (by omega))
theorem ct_214_56 {l : Launch} {D : va_G} {b0 : Nat} {ad : Nat → Nat} {Hb : Heap} {tau : Nat → Int64} {d n s : Nat} {S : Nat → xS} {Z : xZ} {h : mx_H} (hx : XH n s S Z h) (hG : GI n S Z)  {x0 x1 : Int} (p0 : (-2147483648) ≤ x0 ∧ x0 ≤ 2147483647) (p1 : (-2147483648) ≤ x1 ∧ x1 ≤ 2147483647) : ∃ (z : Int) (Z' : xZ) (h' : mx_H), mx_Ca (tB l D b0 ad Hb tau) (d + 4) 214 [.ref 56, xI x0, xI x1] h (some (xI z), h') ∧ XH n s S Z' h' ∧ GI n S Z' ∧ fr' [(56, 0), (57, (-1)), (62, (-1)), (66, (-1))] Z Z' ∧ ((-12) ≤ z ∧ z ≤ 18 ∧ (Z' 57 1 = Z 57 1 ∧ Z' 57 963 = Z 57 963 ∧ Z' 57 1925 = Z 57 1925)) := by
  obtain ⟨r, hca, z, Z', h', e, q⟩ := Jmt (B := tB l D b0 ad Hb tau) (M := mt_214) (mi := 214) (as := [.ref 56, xI x0, xI x1]) (d := d + 3) (ls := [some (.ref 56), some (xI x0), some (xI x1), none]) rfl rfl rfl rfl rfl rfl (cw_214_56 (l := l) (D := D) (b0 := b0) (ad := ad) (Hb := Hb) (tau := tau) (d := d) (Post := fun r => ∃ (z : Int) (Z' : xZ) (h' : mx_H), r = (some (xI z), h') ∧ XH n s S Z' h' ∧ GI n S Z' ∧ fr' [(56, 0), (57, (-1)), (62, (-1)), (66, (-1))] Z Z' ∧ ((-12) ≤ z ∧ z ≤ 18 ∧ (Z' 57 1 = Z 57 1 ∧ Z' 57 963 = Z 57 963 ∧ Z' 57 1925 = Z 57 1925))) hx hG p0 p1 (fun z Z' h' q1 q2 q3 q4 => ⟨z, Z', h', rfl, q1, q2, q3, q4⟩))
  subst e; exact ⟨z, Z', h', hca, q⟩
set_option maxRecDepth 100000 in
theorem cw_215_56 {l : Launch} {D : va_G} {b0 : Nat} {ad : Nat → Nat} {Hb : Heap} {tau : Nat → Int64} {d n s : Nat} {S : Nat → xS} {Z : xZ} {h : mx_H} {Post : mx_R → Prop} (hx : XH n s S Z h) (hG : GI n S Z)  {x0 : Int} (p0 : (-2147483648) ≤ x0 ∧ x0 ≤ 2147483647) (hP : ∀ (z : Int) (Z' : xZ) (h' : mx_H), XH n s S Z' h' → GI n S Z' → fr' [(56, 0), (57, (-1)), (66, (-1))] Z Z' → (-2147483648) ≤ z ∧ z ≤ 2147483647 ∧ (Z' 57 1 = Z 57 1 ∧ Z' 57 963 = Z 57 963 ∧ Z' 57 1925 = Z 57 1925) → Post (some (xI z), h')) : mx_J (tB l D b0 ad Hb tau) mt_215 (d + 1) 0 [some (.ref 56), some (xI x0)] [] h Post := by
    have a56 : 56 < n := lt83 (GI_n hG) rfl
    have s56 : S 56 = .inl (12, [0, 2, 2, 2, 2, 0, 0, 0, 0, 0, 0, 0, 0, 0, 0, 2, 2, 2, 0, 2, 2, 2, 0, 0, 2, 2, 2, 2, 2, 2, 0, 0, 2, 2, 2, 2, 2, 2, 2, 2, 2, 2]) := GI_s hG 56 rfl
    have a57 : 57 < n := lt83 (GI_n hG) rfl
    have s57 : S 57 = .inr (.int, 2886, 0) := GI_s hG 57 rfl
    have a66 : 66 < n := lt83 (GI_n hG) rfl
    have s66 : S 66 = .inr (.int, 3, 0) := GI_s hG 66 rfl
    refine mx_J.step (sn_215 0) (fun _ _ => rfl) ?_
    refine JcI (z := 0) (show mx_Sn _ _ 1 (mx_const (.int 0) 2) from sn_215 1) rfl ?_
    refine JputI (g := 0) hx (show mx_Sn _ _ 2 (mx_putf 1 12 0 (.int) 5) from sn_215 2) a56 s56 rfl rfl rfl rfl (fun Z1 h1 hx1 hE1 => ?_)
    have hG1 := GI_up hG hE1 (show (-2147483648) ≤ 0 ∧ 0 ≤ 2147483647 by omega) trivial rfl
    refine mx_J.step (sn_215 5) (fun _ _ => rfl) ?_
    refine Ji2l (show mx_Sn _ _ 6 (mx_i2l 7) from sn_215 6) (by omega) ?_
    refine JcL (z := 0) (show mx_Sn _ _ 7 (mx_const (.long 0) 8) from sn_215 7) rfl ?_
    refine JcL (z := 9) (show mx_Sn _ _ 8 (mx_const (.long 9) 11) from sn_215 8) rfl ?_
    obtain ⟨z2, hc2, b2⟩ := ct_154_ (d := d + 0) (l := l) (D := D) (b0 := b0) (ad := ad) (Hb := Hb) (tau := tau) hx1 hG1 (show (-9223372036854775808) ≤ x0 ∧ x0 ≤ 9223372036854775807 by omega) (show (-9223372036854775808) ≤ 0 ∧ 0 ≤ 9223372036854775807 by omega) (show (-9223372036854775808) ≤ 9 ∧ 9 ≤ 9223372036854775807 by omega)
    refine Jcs (show mx_Sn _ _ 11 (mx_calls 154 3 14) from sn_215 11) hc2 rfl rfl rfl ?_
    refine Jif_ne (show mx_Sn _ _ 14 (mx_if_ne 20 17) from sn_215 14) (by omega) (fun q3 => ?_) (fun q3 => ?_)
    · skip
      refine mx_J.step (sn_215 20) (fun _ _ => rfl) ?_
      have eq5 : Z1 57 27 = Z 57 27 := (up_nk hE1 rfl)
      have b6 := GI_st hG 27
      have b7 : 0 ≤ Z 56 18 ∧ Z 56 18 ≤ 385 := hG.pr 56 18
      have b8 : 0 ≤ Z 57 27 ∧ Z 57 27 ≤ 384 := by have hq := GI_ex hG 57 27; replace hq : f57 (27 % 962) (Z 57 27) := hq; unfold f57 at hq; omega
      have b9 : (-2147483648) ≤ Z 57 27 ∧ Z 57 27 ≤ 2147483647 := hG.pr 57 27
      obtain ⟨Z4, h4, hc4, hx4, hG4, hf4, b4⟩ := ct_202_56 (d := d + 0) (l := l) (D := D) (b0 := b0) (ad := ad) (Hb := Hb) (tau := tau) hx1 hG1 
      try rw [eq5] at b4
      have b10 : (-2147483648) ≤ Z4 66 0 ∧ Z4 66 0 ≤ 2147483647 := hG4.pr 66 0
      have b11 : (((0 : Int) = 0 → 0 ≤ (Z4 66 0) ∧ (Z4 66 0) ≤ 384) ∧ ((0 : Int) = 1 → 0 ≤ (Z4 66 0) ∧ (Z4 66 0) ≤ 9)) := GI_ex hG4 66 0
      refine Jcv0 hx1 (show mx_Sn _ _ 21 (mx_callv 202 1 12 24) from sn_215 21) a56 s56 hc4 rfl rfl rfl ?_
      refine mx_J.step (sn_215 24) (fun _ _ => rfl) ?_
      refine JgetR (g := 1) (b := 57) hx4 (show mx_Sn _ _ 25 (mx_getf 12 1 28) from sn_215 25) a56 s56 rfl rfl (hG4.prr 56 1 rfl) ?_
      refine JcI (z := 28) (show mx_Sn _ _ 28 (mx_const (.int 28) 30) from sn_215 28) rfl ?_
      refine mx_J.step (sn_215 30) (fun _ _ => rfl) ?_
      refine JiastI hx4 (show mx_Sn _ _ 31 (mx_iast 1 32) from sn_215 31) a57 s57 rfl (by omega) (fun Z13 h13 hx13 hE13 => ?_)
      have eq14 : Z4 56 18 = Z 56 18 := ((hf4 56 18 rfl).trans (up_ni hE1 (by decide)))
      have hG13 := GI_up57 hG4 hE13 (show (-2147483648) ≤ x0 ∧ x0 ≤ 2147483647 by omega) (show f57 ((28) % 962) (x0) by first | assumption | (unfold f57; omega) | (unfold f57 at *; omega)) (by omega) (by omega)
      refine mx_J.step (sn_215 32) (fun _ _ => rfl) ?_
      have eq16 : Z13 66 0 = Z4 66 0 := (up_nk hE13 rfl)
      have eq17 : Z13 56 18 = Z 56 18 := ((up_nk hE13 rfl).trans ((hf4 56 18 rfl).trans (up_ni hE1 (by decide))))
      have eq18 : Z13 57 1 = Z 57 1 := ((up_ni hE13 (by decide)).trans ((hf4 57 1 rfl).trans (up_nk hE1 rfl)))
      have b19 : 0 ≤ Z 57 1 ∧ Z 57 1 ≤ 18 := by have hq := GI_ex hG 57 1; replace hq : f57 (1 % 962) (Z 57 1) := hq; unfold f57 at hq; omega
      have b20 : (-2147483648) ≤ Z 57 1 ∧ Z 57 1 ≤ 2147483647 := hG.pr 57 1
      have eq21 : Z13 57 963 = Z 57 963 := ((up_ni hE13 (by decide)).trans ((hf4 57 963 rfl).trans (up_nk hE1 rfl)))
      have b22 : 0 ≤ Z 57 963 ∧ Z 57 963 ≤ 18 := by have hq := GI_ex hG 57 963; replace hq : f57 (963 % 962) (Z 57 963) := hq; unfold f57 at hq; omega
      have b23 : (-2147483648) ≤ Z 57 963 ∧ Z 57 963 ≤ 2147483647 := hG.pr 57 963
      have eq24 : Z13 57 1925 = Z 57 1925 := ((up_ni hE13 (by decide)).trans ((hf4 57 1925 rfl).trans (up_nk hE1 rfl)))
      have b25 : 0 ≤ Z 57 1925 ∧ Z 57 1925 ≤ 18 := by have hq := GI_ex hG 57 1925; replace hq : f57 (1925 % 962) (Z 57 1925) := hq; unfold f57 at hq; omega
      have b26 : (-2147483648) ≤ Z 57 1925 ∧ Z 57 1925 ≤ 2147483647 := hG.pr 57 1925
      obtain ⟨Z15, h15, hc15, hx15, hG15, hf15, b15⟩ := ct_204_56 (d := d + 0) (l := l) (D := D) (b0 := b0) (ad := ad) (Hb := Hb) (tau := tau) hx13 hG13  (show Z13 66 0 < Z13 56 18 by first | omega | (simp only [eq16, eq17, eq18, eq21, eq24]; omega))
      try rw [eq16] at b15
      try rw [eq17] at b15
      try rw [eq18] at b15
      try rw [eq21] at b15
      try rw [eq24] at b15
      have b27 : 0 ≤ Z15 57 1 ∧ Z15 57 1 ≤ 18 := by have hq := GI_ex hG15 57 1; replace hq : f57 (1 % 962) (Z15 57 1) := hq; unfold f57 at hq; omega
      have b28 : (-2147483648) ≤ Z15 57 1 ∧ Z15 57 1 ≤ 2147483647 := hG15.pr 57 1
      have b29 : 0 ≤ Z15 57 963 ∧ Z15 57 963 ≤ 18 := by have hq := GI_ex hG15 57 963; replace hq : f57 (963 % 962) (Z15 57 963) := hq; unfold f57 at hq; omega
      have b30 : (-2147483648) ≤ Z15 57 963 ∧ Z15 57 963 ≤ 2147483647 := hG15.pr 57 963
      have b31 : 0 ≤ Z15 57 1925 ∧ Z15 57 1925 ≤ 18 := by have hq := GI_ex hG15 57 1925; replace hq : f57 (1925 % 962) (Z15 57 1925) := hq; unfold f57 at hq; omega
      have b32 : (-2147483648) ≤ Z15 57 1925 ∧ Z15 57 1925 ≤ 2147483647 := hG15.pr 57 1925
      refine Jcv0 hx13 (show mx_Sn _ _ 33 (mx_callv 204 1 12 36) from sn_215 33) a56 s56 hc15 rfl rfl rfl ?_
      refine mx_J.step (sn_215 36) (fun _ _ => rfl) ?_
      refine JgetR (g := 21) (b := 66) hx15 (show mx_Sn _ _ 37 (mx_getf 12 21 40) from sn_215 37) a56 s56 rfl rfl (hG15.prr 56 21 rfl) ?_
      refine JcI (z := 1) (show mx_Sn _ _ 40 (mx_const (.int 1) 41) from sn_215 40) rfl ?_
      have b34 : (-2147483648) ≤ Z4 66 1 ∧ Z4 66 1 ≤ 2147483647 := hG4.pr 66 1
      have b35 : (((1 : Int) = 0 → 0 ≤ (Z4 66 1) ∧ (Z4 66 1) ≤ 384) ∧ ((1 : Int) = 1 → 0 ≤ (Z4 66 1) ∧ (Z4 66 1) ≤ 9)) := GI_ex hG4 66 1
      refine JialdI (z := Z4 66 1) hx15 (show mx_Sn _ _ 41 (mx_iald 42) from sn_215 41) a66 s66 (by omega) ((hf15 66 1 rfl).trans (up_nk hE13 rfl)) ?_
      exact mx_J.ret (sn_215 42) (fun _ _ => rfl) (hP (Z4 66 1) Z15 h15 hx15 hG15 (fr_tr (M := [(56, 0), (57, (-1)), (66, (-1))]) (fr_tr (M := [(56, 0), (57, (-1)), (66, (-1))]) (fr_tr (M := [(56, 0), (57, (-1)), (66, (-1))]) (fr_tr (M := [(56, 0), (57, (-1)), (66, (-1))]) fr_rf (fr_up hE1) (M1 := []) rfl rfl) (hf4) rfl rfl) (fr_ua hE13) rfl rfl) (hf15) rfl rfl) (by omega))
    · skip
      refine JcI (z := (-11)) (show mx_Sn _ _ 17 (mx_const (.int (-11)) 19) from sn_215 17) rfl ?_
      have eq36 : Z1 57 1 = Z 57 1 := (up_nk hE1 rfl)
      have b37 : 0 ≤ Z 57 1 ∧ Z 57 1 ≤ 18 := by have hq := GI_ex hG 57 1; replace hq : f57 (1 % 962) (Z 57 1) := hq; unfold f57 at hq; omega
      have b38 : (-2147483648) ≤ Z 57 1 ∧ Z 57 1 ≤ 2147483647 := hG.pr 57 1
      have eq39 : Z1 57 963 = Z 57 963 := (up_nk hE1 rfl)
      have b40 : 0 ≤ Z 57 963 ∧ Z 57 963 ≤ 18 := by have hq := GI_ex hG 57 963; replace hq : f57 (963 % 962) (Z 57 963) := hq; unfold f57 at hq; omega
      have b41 : (-2147483648) ≤ Z 57 963 ∧ Z 57 963 ≤ 2147483647 := hG.pr 57 963
      have eq42 : Z1 57 1925 = Z 57 1925 := (up_nk hE1 rfl)
      have b43 : 0 ≤ Z 57 1925 ∧ Z 57 1925 ≤ 18 := by have hq := GI_ex hG 57 1925; replace hq : f57 (1925 % 962) (Z 57 1925) := hq; unfold f57 at hq; omega
      have b44 : (-2147483648) ≤ Z 57 1925 ∧ Z 57 1925 ≤ 2147483647 := hG.pr 57 1925
      have eq45 : Z1 57 1 = Z 57 1 := (up_nk hE1 rfl)
      have eq46 : Z1 57 963 = Z 57 963 := (up_nk hE1 rfl)
      have eq47 : Z1 57 1925 = Z 57 1925 := (up_nk hE1 rfl)
      exact mx_J.ret (sn_215 19) (fun _ _ => rfl) (hP (-11) Z1 h1 hx1 hG1 (fr_tr (M := [(56, 0), (57, (-1)), (66, (-1))]) fr_rf (fr_up hE1) (M1 := []) rfl rfl) (by omega))
theorem ct_215_56 {l : Launch} {D : va_G} {b0 : Nat} {ad : Nat → Nat} {Hb : Heap} {tau : Nat → Int64} {d n s : Nat} {S : Nat → xS} {Z : xZ} {h : mx_H} (hx : XH n s S Z h) (hG : GI n S Z)  {x0 : Int} (p0 : (-2147483648) ≤ x0 ∧ x0 ≤ 2147483647) : ∃ (z : Int) (Z' : xZ) (h' : mx_H), mx_Ca (tB l D b0 ad Hb tau) (d + 2) 215 [.ref 56, xI x0] h (some (xI z), h') ∧ XH n s S Z' h' ∧ GI n S Z' ∧ fr' [(56, 0), (57, (-1)), (66, (-1))] Z Z' ∧ ((-2147483648) ≤ z ∧ z ≤ 2147483647 ∧ (Z' 57 1 = Z 57 1 ∧ Z' 57 963 = Z 57 963 ∧ Z' 57 1925 = Z 57 1925)) := by
  obtain ⟨r, hca, z, Z', h', e, q⟩ := Jmt (B := tB l D b0 ad Hb tau) (M := mt_215) (mi := 215) (as := [.ref 56, xI x0]) (d := d + 1) (ls := [some (.ref 56), some (xI x0)]) rfl rfl rfl rfl rfl rfl (cw_215_56 (l := l) (D := D) (b0 := b0) (ad := ad) (Hb := Hb) (tau := tau) (d := d) (Post := fun r => ∃ (z : Int) (Z' : xZ) (h' : mx_H), r = (some (xI z), h') ∧ XH n s S Z' h' ∧ GI n S Z' ∧ fr' [(56, 0), (57, (-1)), (66, (-1))] Z Z' ∧ ((-2147483648) ≤ z ∧ z ≤ 2147483647 ∧ (Z' 57 1 = Z 57 1 ∧ Z' 57 963 = Z 57 963 ∧ Z' 57 1925 = Z 57 1925))) hx hG p0 (fun z Z' h' q1 q2 q3 q4 => ⟨z, Z', h', rfl, q1, q2, q3, q4⟩))
  subst e; exact ⟨z, Z', h', hca, q⟩
set_option maxRecDepth 100000 in
theorem cw_216_56 {l : Launch} {D : va_G} {b0 : Nat} {ad : Nat → Nat} {Hb : Heap} {tau : Nat → Int64} {d n s : Nat} {S : Nat → xS} {Z : xZ} {h : mx_H} {Post : mx_R → Prop} (hx : XH n s S Z h) (hG : GI n S Z)  {x0 : Int} (p0 : (-2147483648) ≤ x0 ∧ x0 ≤ 2147483647) (hP : ∀ (z : Int) (Z' : xZ) (h' : mx_H), XH n s S Z' h' → GI n S Z' → fr' [(56, 0), (57, (-1))] Z Z' → (-3) ≤ z ∧ z ≤ 10 ∧ (Z' 57 1 = Z 57 1 ∧ Z' 57 963 = Z 57 963 ∧ Z' 57 1925 = Z 57 1925) → Post (some (xI z), h')) : mx_J (tB l D b0 ad Hb tau) mt_216 (d + 1) 0 [some (.ref 56), some (xI x0), none] [] h Post := by
    have a56 : 56 < n := lt83 (GI_n hG) rfl
    have s56 : S 56 = .inl (12, [0, 2, 2, 2, 2, 0, 0, 0, 0, 0, 0, 0, 0, 0, 0, 2, 2, 2, 0, 2, 2, 2, 0, 0, 2, 2, 2, 2, 2, 2, 0, 0, 2, 2, 2, 2, 2, 2, 2, 2, 2, 2]) := GI_s hG 56 rfl
    have a57 : 57 < n := lt83 (GI_n hG) rfl
    have s57 : S 57 = .inr (.int, 2886, 0) := GI_s hG 57 rfl
    refine mx_J.step (sn_216 0) (fun _ _ => rfl) ?_
    refine JcI (z := 0) (show mx_Sn _ _ 1 (mx_const (.int 0) 2) from sn_216 1) rfl ?_
    refine JputI (g := 0) hx (show mx_Sn _ _ 2 (mx_putf 1 12 0 (.int) 5) from sn_216 2) a56 s56 rfl rfl rfl rfl (fun Z1 h1 hx1 hE1 => ?_)
    have hG1 := GI_up hG hE1 (show (-2147483648) ≤ 0 ∧ 0 ≤ 2147483647 by omega) trivial rfl
    refine mx_J.step (sn_216 5) (fun _ _ => rfl) ?_
    refine Ji2l (show mx_Sn _ _ 6 (mx_i2l 7) from sn_216 6) (by omega) ?_
    refine JcL (z := 1) (show mx_Sn _ _ 7 (mx_const (.long 1) 8) from sn_216 7) rfl ?_
    refine JcL (z := 10) (show mx_Sn _ _ 8 (mx_const (.long 10) 11) from sn_216 8) rfl ?_
    obtain ⟨z2, hc2, b2⟩ := ct_154_ (d := d + 0) (l := l) (D := D) (b0 := b0) (ad := ad) (Hb := Hb) (tau := tau) hx1 hG1 (show (-9223372036854775808) ≤ x0 ∧ x0 ≤ 9223372036854775807 by omega) (show (-9223372036854775808) ≤ 1 ∧ 1 ≤ 9223372036854775807 by omega) (show (-9223372036854775808) ≤ 10 ∧ 10 ≤ 9223372036854775807 by omega)
    refine Jcs (show mx_Sn _ _ 11 (mx_calls 154 3 14) from sn_216 11) hc2 rfl rfl rfl ?_
    have c28 : mx_J (tB l D b0 ad Hb tau) mt_216 (d + 1) 28 [some (.ref 56), some (xI x0), none] [] h1 Post := by
      refine JcI (z := (-3)) (show mx_Sn _ _ 28 (mx_const (.int (-3)) 30) from sn_216 28) rfl ?_
      have eq4 : Z1 57 1 = Z 57 1 := (up_nk hE1 rfl)
      have b5 : 0 ≤ Z 57 1 ∧ Z 57 1 ≤ 18 := by have hq := GI_ex hG 57 1; replace hq : f57 (1 % 962) (Z 57 1) := hq; unfold f57 at hq; omega
      have b6 : (-2147483648) ≤ Z 57 1 ∧ Z 57 1 ≤ 2147483647 := hG.pr 57 1
      have eq7 : Z1 57 963 = Z 57 963 := (up_nk hE1 rfl)
      have b8 : 0 ≤ Z 57 963 ∧ Z 57 963 ≤ 18 := by have hq := GI_ex hG 57 963; replace hq : f57 (963 % 962) (Z 57 963) := hq; unfold f57 at hq; omega
      have b9 : (-2147483648) ≤ Z 57 963 ∧ Z 57 963 ≤ 2147483647 := hG.pr 57 963
      have eq10 : Z1 57 1925 = Z 57 1925 := (up_nk hE1 rfl)
      have b11 : 0 ≤ Z 57 1925 ∧ Z 57 1925 ≤ 18 := by have hq := GI_ex hG 57 1925; replace hq : f57 (1925 % 962) (Z 57 1925) := hq; unfold f57 at hq; omega
      have b12 : (-2147483648) ≤ Z 57 1925 ∧ Z 57 1925 ≤ 2147483647 := hG.pr 57 1925
      have eq13 : Z1 57 1 = Z 57 1 := (up_nk hE1 rfl)
      have eq14 : Z1 57 963 = Z 57 963 := (up_nk hE1 rfl)
      have eq15 : Z1 57 1925 = Z 57 1925 := (up_nk hE1 rfl)
      exact mx_J.ret (sn_216 30) (fun _ _ => rfl) (hP (-3) Z1 h1 hx1 hG1 (fr_tr (M := [(56, 0), (57, (-1))]) fr_rf (fr_up hE1) (M1 := []) rfl rfl) (by omega))
    refine Jif_eq (show mx_Sn _ _ 14 (mx_if_eq 28 17) from sn_216 14) (by omega) (fun q16 => ?_) (fun q16 => ?_)
    · skip
      exact c28 
    · skip
      refine mx_J.step (sn_216 17) (fun _ _ => rfl) ?_
      refine mx_J.step (sn_216 18) (fun _ _ => rfl) ?_
      refine JgetR (g := 1) (b := 57) hx1 (show mx_Sn _ _ 19 (mx_getf 12 1 22) from sn_216 19) a56 s56 rfl rfl (hG1.prr 56 1 rfl) ?_
      refine JcI (z := 30) (show mx_Sn _ _ 22 (mx_const (.int 30) 24) from sn_216 22) rfl ?_
      have b18 : 0 ≤ Z 57 30 ∧ Z 57 30 ≤ 10 := by have hq := GI_ex hG 57 30; replace hq : f57 (30 % 962) (Z 57 30) := hq; unfold f57 at hq; omega
      have b19 : (-2147483648) ≤ Z 57 30 ∧ Z 57 30 ≤ 2147483647 := hG.pr 57 30
      refine JialdI (z := Z 57 30) hx1 (show mx_Sn _ _ 24 (mx_iald 25) from sn_216 24) a57 s57 (by omega) (up_nk hE1 rfl) ?_
      refine Jicmp_le (show mx_Sn _ _ 25 (mx_icmp_le 31 28) from sn_216 25) (by omega) (by omega) (fun q20 => ?_) (fun q20 => ?_)
      · skip
        refine mx_J.step (sn_216 31) (fun _ _ => rfl) ?_
        refine JgetR (g := 1) (b := 57) hx1 (show mx_Sn _ _ 32 (mx_getf 12 1 35) from sn_216 32) a56 s56 rfl rfl (hG1.prr 56 1 rfl) ?_
        refine JcI (z := 30) (show mx_Sn _ _ 35 (mx_const (.int 30) 37) from sn_216 35) rfl ?_
        refine mx_J.step (sn_216 37) (fun _ _ => rfl) ?_
        refine JialdI (z := Z 57 30) hx1 (show mx_Sn _ _ 38 (mx_iald 39) from sn_216 38) a57 s57 (by omega) (up_nk hE1 rfl) ?_
        refine mx_J.step (sn_216 39) (fun _ _ => rfl) ?_
        refine Jisub (show mx_Sn _ _ 40 (mx_isub 41) from sn_216 40) ?_
        refine JiastI hx1 (show mx_Sn _ _ 41 (mx_iast 1 42) from sn_216 41) a57 s57 rfl (by omega) (fun Z22 h22 hx22 hE22 => ?_)
        have eq23 : Z1 56 18 = Z 56 18 := (up_ni hE1 (by decide))
        have b24 : 0 ≤ Z 56 18 ∧ Z 56 18 ≤ 385 := hG.pr 56 18
        have hG22 := GI_up57 hG1 hE22 (show (-2147483648) ≤ (Z 57 30) - x0 ∧ (Z 57 30) - x0 ≤ 2147483647 by omega) (show f57 ((30) % 962) ((Z 57 30) - x0) by first | assumption | (unfold f57; omega) | (unfold f57 at *; omega)) (by omega) (by omega)
        refine JcI (z := 0) (show mx_Sn _ _ 42 (mx_const (.int 0) 43) from sn_216 42) rfl ?_
        refine mx_J.step (ls2 := [some (.ref 56), some (xI x0), some (xI 0)]) (sn_216 43) (fun _ _ => rfl) ?_
        refine mx_J.step (sn_216 44) (fun _ _ => rfl) ?_
        refine JcI (z := 3) (show mx_Sn _ _ 45 (mx_const (.int 3) 46) from sn_216 45) rfl ?_
        refine Jicmp_ge (show mx_Sn _ _ 46 (mx_icmp_ge 83 49) from sn_216 46) (by omega) (by omega) (fun q25 => absurd q25 (by omega)) (fun q25 => ?_)
        refine mx_J.step (sn_216 49) (fun _ _ => rfl) ?_
        refine JgetR (g := 1) (b := 57) hx22 (show mx_Sn _ _ 50 (mx_getf 12 1 53) from sn_216 50) a56 s56 rfl rfl (hG22.prr 56 1 rfl) ?_
        refine JcI (z := 27) (show mx_Sn _ _ 53 (mx_const (.int 27) 55) from sn_216 53) rfl ?_
        refine mx_J.step (sn_216 55) (fun _ _ => rfl) ?_
        refine JiaddE (r := 27) (show mx_Sn _ _ 56 (mx_iadd 57) from sn_216 56) (by decide) ?_
        refine mx_J.step (sn_216 57) (fun _ _ => rfl) ?_
        refine JgetR (g := 1) (b := 57) hx22 (show mx_Sn _ _ 58 (mx_getf 12 1 61) from sn_216 58) a56 s56 rfl rfl (hG22.prr 56 1 rfl) ?_
        refine JcI (z := 31) (show mx_Sn _ _ 61 (mx_const (.int 31) 63) from sn_216 61) rfl ?_
        refine JcI (z := 3) (show mx_Sn _ _ 63 (mx_const (.int 3) 64) from sn_216 63) rfl ?_
        refine mx_J.step (sn_216 64) (fun _ _ => rfl) ?_
        refine JgetR (g := 1) (b := 57) hx22 (show mx_Sn _ _ 65 (mx_getf 12 1 68) from sn_216 65) a56 s56 rfl rfl (hG22.prr 56 1 rfl) ?_
        refine JcI (z := 30) (show mx_Sn _ _ 68 (mx_const (.int 30) 70) from sn_216 68) rfl ?_
        refine JialdI (z := (Z 57 30) - x0) hx22 (show mx_Sn _ _ 70 (mx_iald 71) from sn_216 70) a57 s57 (by omega) (up_at hE22) ?_
        refine Jimul (show mx_Sn _ _ 71 (mx_imul 72) from sn_216 71) ?_
        refine Jiadd (show mx_Sn _ _ 72 (mx_iadd 73) from sn_216 72) ?_
        refine mx_J.step (sn_216 73) (fun _ _ => rfl) ?_
        refine Jiadd (show mx_Sn _ _ 74 (mx_iadd 75) from sn_216 74) ?_
        have b29 := GI_st hG22 ((31 + (3 * ((Z 57 30) - x0))) + 0)
        have eq30 : Z22 56 18 = Z 56 18 := ((up_nk hE22 rfl).trans (up_ni hE1 (by decide)))
        have b31 : f57 (((31 + (3 * ((Z 57 30) - x0))) + 0) % 962) (Z22 57 ((31 + (3 * ((Z 57 30) - x0))) + 0)) := GI_ex hG22 57 ((31 + (3 * ((Z 57 30) - x0))) + 0)
        have b32 : (-2147483648) ≤ Z22 57 ((31 + (3 * ((Z 57 30) - x0))) + 0) ∧ Z22 57 ((31 + (3 * ((Z 57 30) - x0))) + 0) ≤ 2147483647 := hG22.pr 57 ((31 + (3 * ((Z 57 30) - x0))) + 0)
        refine JialdI (z := Z22 57 ((31 + (3 * ((Z 57 30) - x0))) + 0)) hx22 (show mx_Sn _ _ 75 (mx_iald 76) from sn_216 75) a57 s57 (by omega) rfl ?_
        refine JiastI hx22 (show mx_Sn _ _ 76 (mx_iast 1 77) from sn_216 76) a57 s57 rfl (by omega) (fun Z33 h33 hx33 hE33 => ?_)
        have eq34 : Z22 56 18 = Z 56 18 := ((up_nk hE22 rfl).trans (up_ni hE1 (by decide)))
        have hG33 := GI_up57 hG22 hE33 (show (-2147483648) ≤ Z22 57 ((31 + (3 * ((Z 57 30) - x0))) + 0) ∧ Z22 57 ((31 + (3 * ((Z 57 30) - x0))) + 0) ≤ 2147483647 by omega) (show f57 ((27) % 962) (Z22 57 ((31 + (3 * ((Z 57 30) - x0))) + 0)) by first | exact f57_m0 (by assumption) (by omega) (by omega) | exact f57_m1 (by assumption) (by omega) (by omega) | exact f57_m2 | (have hq := GI_ex hG22 57 ((31 + (3 * ((Z 57 30) - x0))) + 0); replace hq : f57 (((31 + (3 * ((Z 57 30) - x0))) + 0) % 962) (Z22 57 ((31 + (3 * ((Z 57 30) - x0))) + 0)) := hq; rw [Int.emod_eq_of_lt (a := ((31 + (3 * ((Z 57 30) - x0))) + 0)) (by omega) (by omega)] at hq; show f57 27 (Z22 57 ((31 + (3 * ((Z 57 30) - x0))) + 0)); unfold f57 at hq; unfold f57; omega) | assumption | (unfold f57; omega) | (unfold f57 at *; omega)) (by omega) (by omega)
        refine Jiinc (z := 0) (cz := 1) (ls2 := [some (.ref 56), some (xI x0), some (xI 1)]) (show mx_Sn _ _ 77 (mx_iinc 2 1 80) from sn_216 77) rfl rfl rfl rfl ?_
        refine mx_J.step (sn_216 80) (fun _ _ => rfl) ?_
        refine mx_J.step (sn_216 44) (fun _ _ => rfl) ?_
        refine JcI (z := 3) (show mx_Sn _ _ 45 (mx_const (.int 3) 46) from sn_216 45) rfl ?_
        refine Jicmp_ge (show mx_Sn _ _ 46 (mx_icmp_ge 83 49) from sn_216 46) (by omega) (by omega) (fun q35 => absurd q35 (by omega)) (fun q35 => ?_)
        refine mx_J.step (sn_216 49) (fun _ _ => rfl) ?_
        refine JgetR (g := 1) (b := 57) hx33 (show mx_Sn _ _ 50 (mx_getf 12 1 53) from sn_216 50) a56 s56 rfl rfl (hG33.prr 56 1 rfl) ?_
        refine JcI (z := 27) (show mx_Sn _ _ 53 (mx_const (.int 27) 55) from sn_216 53) rfl ?_
        refine mx_J.step (sn_216 55) (fun _ _ => rfl) ?_
        refine JiaddE (r := 28) (show mx_Sn _ _ 56 (mx_iadd 57) from sn_216 56) (by decide) ?_
        refine mx_J.step (sn_216 57) (fun _ _ => rfl) ?_
        refine JgetR (g := 1) (b := 57) hx33 (show mx_Sn _ _ 58 (mx_getf 12 1 61) from sn_216 58) a56 s56 rfl rfl (hG33.prr 56 1 rfl) ?_
        refine JcI (z := 31) (show mx_Sn _ _ 61 (mx_const (.int 31) 63) from sn_216 61) rfl ?_
        refine JcI (z := 3) (show mx_Sn _ _ 63 (mx_const (.int 3) 64) from sn_216 63) rfl ?_
        refine mx_J.step (sn_216 64) (fun _ _ => rfl) ?_
        refine JgetR (g := 1) (b := 57) hx33 (show mx_Sn _ _ 65 (mx_getf 12 1 68) from sn_216 65) a56 s56 rfl rfl (hG33.prr 56 1 rfl) ?_
        refine JcI (z := 30) (show mx_Sn _ _ 68 (mx_const (.int 30) 70) from sn_216 68) rfl ?_
        refine JialdI (z := (Z 57 30) - x0) hx33 (show mx_Sn _ _ 70 (mx_iald 71) from sn_216 70) a57 s57 (by omega) ((up_ni hE33 (by decide)).trans (up_at hE22)) ?_
        refine Jimul (show mx_Sn _ _ 71 (mx_imul 72) from sn_216 71) ?_
        refine Jiadd (show mx_Sn _ _ 72 (mx_iadd 73) from sn_216 72) ?_
        refine mx_J.step (sn_216 73) (fun _ _ => rfl) ?_
        refine Jiadd (show mx_Sn _ _ 74 (mx_iadd 75) from sn_216 74) ?_
        have b39 := GI_st hG33 ((31 + (3 * ((Z 57 30) - x0))) + 1)
        have eq40 : Z33 56 18 = Z 56 18 := ((up_nk hE33 rfl).trans ((up_nk hE22 rfl).trans (up_ni hE1 (by decide))))
        have b41 : f57 (((31 + (3 * ((Z 57 30) - x0))) + 1) % 962) (Z33 57 ((31 + (3 * ((Z 57 30) - x0))) + 1)) := GI_ex hG33 57 ((31 + (3 * ((Z 57 30) - x0))) + 1)
        have b42 : (-2147483648) ≤ Z33 57 ((31 + (3 * ((Z 57 30) - x0))) + 1) ∧ Z33 57 ((31 + (3 * ((Z 57 30) - x0))) + 1) ≤ 2147483647 := hG33.pr 57 ((31 + (3 * ((Z 57 30) - x0))) + 1)
        refine JialdI (z := Z33 57 ((31 + (3 * ((Z 57 30) - x0))) + 1)) hx33 (show mx_Sn _ _ 75 (mx_iald 76) from sn_216 75) a57 s57 (by omega) rfl ?_
        refine JiastI hx33 (show mx_Sn _ _ 76 (mx_iast 1 77) from sn_216 76) a57 s57 rfl (by omega) (fun Z43 h43 hx43 hE43 => ?_)
        have eq44 : Z33 56 18 = Z 56 18 := ((up_nk hE33 rfl).trans ((up_nk hE22 rfl).trans (up_ni hE1 (by decide))))
        have hG43 := GI_up57 hG33 hE43 (show (-2147483648) ≤ Z33 57 ((31 + (3 * ((Z 57 30) - x0))) + 1) ∧ Z33 57 ((31 + (3 * ((Z 57 30) - x0))) + 1) ≤ 2147483647 by omega) (show f57 ((28) % 962) (Z33 57 ((31 + (3 * ((Z 57 30) - x0))) + 1)) by first | exact f57_m0 (by assumption) (by omega) (by omega) | exact f57_m1 (by assumption) (by omega) (by omega) | exact f57_m2 | (have hq := GI_ex hG33 57 ((31 + (3 * ((Z 57 30) - x0))) + 1); replace hq : f57 (((31 + (3 * ((Z 57 30) - x0))) + 1) % 962) (Z33 57 ((31 + (3 * ((Z 57 30) - x0))) + 1)) := hq; rw [Int.emod_eq_of_lt (a := ((31 + (3 * ((Z 57 30) - x0))) + 1)) (by omega) (by omega)] at hq; show f57 28 (Z33 57 ((31 + (3 * ((Z 57 30) - x0))) + 1)); unfold f57 at hq; unfold f57; omega) | assumption | (unfold f57; omega) | (unfold f57 at *; omega)) (by omega) (by omega)
        refine Jiinc (z := 1) (cz := 1) (ls2 := [some (.ref 56), some (xI x0), some (xI 2)]) (show mx_Sn _ _ 77 (mx_iinc 2 1 80) from sn_216 77) rfl rfl rfl rfl ?_
        refine mx_J.step (sn_216 80) (fun _ _ => rfl) ?_
        refine mx_J.step (sn_216 44) (fun _ _ => rfl) ?_
        refine JcI (z := 3) (show mx_Sn _ _ 45 (mx_const (.int 3) 46) from sn_216 45) rfl ?_
        refine Jicmp_ge (show mx_Sn _ _ 46 (mx_icmp_ge 83 49) from sn_216 46) (by omega) (by omega) (fun q45 => absurd q45 (by omega)) (fun q45 => ?_)
        refine mx_J.step (sn_216 49) (fun _ _ => rfl) ?_
        refine JgetR (g := 1) (b := 57) hx43 (show mx_Sn _ _ 50 (mx_getf 12 1 53) from sn_216 50) a56 s56 rfl rfl (hG43.prr 56 1 rfl) ?_
        refine JcI (z := 27) (show mx_Sn _ _ 53 (mx_const (.int 27) 55) from sn_216 53) rfl ?_
        refine mx_J.step (sn_216 55) (fun _ _ => rfl) ?_
        refine JiaddE (r := 29) (show mx_Sn _ _ 56 (mx_iadd 57) from sn_216 56) (by decide) ?_
        refine mx_J.step (sn_216 57) (fun _ _ => rfl) ?_
        refine JgetR (g := 1) (b := 57) hx43 (show mx_Sn _ _ 58 (mx_getf 12 1 61) from sn_216 58) a56 s56 rfl rfl (hG43.prr 56 1 rfl) ?_
        refine JcI (z := 31) (show mx_Sn _ _ 61 (mx_const (.int 31) 63) from sn_216 61) rfl ?_
        refine JcI (z := 3) (show mx_Sn _ _ 63 (mx_const (.int 3) 64) from sn_216 63) rfl ?_
        refine mx_J.step (sn_216 64) (fun _ _ => rfl) ?_
        refine JgetR (g := 1) (b := 57) hx43 (show mx_Sn _ _ 65 (mx_getf 12 1 68) from sn_216 65) a56 s56 rfl rfl (hG43.prr 56 1 rfl) ?_
        refine JcI (z := 30) (show mx_Sn _ _ 68 (mx_const (.int 30) 70) from sn_216 68) rfl ?_
        refine JialdI (z := (Z 57 30) - x0) hx43 (show mx_Sn _ _ 70 (mx_iald 71) from sn_216 70) a57 s57 (by omega) ((up_ni hE43 (by decide)).trans ((up_ni hE33 (by decide)).trans (up_at hE22))) ?_
        refine Jimul (show mx_Sn _ _ 71 (mx_imul 72) from sn_216 71) ?_
        refine Jiadd (show mx_Sn _ _ 72 (mx_iadd 73) from sn_216 72) ?_
        refine mx_J.step (sn_216 73) (fun _ _ => rfl) ?_
        refine Jiadd (show mx_Sn _ _ 74 (mx_iadd 75) from sn_216 74) ?_
        have b49 := GI_st hG43 ((31 + (3 * ((Z 57 30) - x0))) + 2)
        have eq50 : Z43 56 18 = Z 56 18 := ((up_nk hE43 rfl).trans ((up_nk hE33 rfl).trans ((up_nk hE22 rfl).trans (up_ni hE1 (by decide)))))
        have b51 : f57 (((31 + (3 * ((Z 57 30) - x0))) + 2) % 962) (Z43 57 ((31 + (3 * ((Z 57 30) - x0))) + 2)) := GI_ex hG43 57 ((31 + (3 * ((Z 57 30) - x0))) + 2)
        have b52 : (-2147483648) ≤ Z43 57 ((31 + (3 * ((Z 57 30) - x0))) + 2) ∧ Z43 57 ((31 + (3 * ((Z 57 30) - x0))) + 2) ≤ 2147483647 := hG43.pr 57 ((31 + (3 * ((Z 57 30) - x0))) + 2)
        refine JialdI (z := Z43 57 ((31 + (3 * ((Z 57 30) - x0))) + 2)) hx43 (show mx_Sn _ _ 75 (mx_iald 76) from sn_216 75) a57 s57 (by omega) rfl ?_
        refine JiastI hx43 (show mx_Sn _ _ 76 (mx_iast 1 77) from sn_216 76) a57 s57 rfl (by omega) (fun Z53 h53 hx53 hE53 => ?_)
        have eq54 : Z43 56 18 = Z 56 18 := ((up_nk hE43 rfl).trans ((up_nk hE33 rfl).trans ((up_nk hE22 rfl).trans (up_ni hE1 (by decide)))))
        have hG53 := GI_up57 hG43 hE53 (show (-2147483648) ≤ Z43 57 ((31 + (3 * ((Z 57 30) - x0))) + 2) ∧ Z43 57 ((31 + (3 * ((Z 57 30) - x0))) + 2) ≤ 2147483647 by omega) (show f57 ((29) % 962) (Z43 57 ((31 + (3 * ((Z 57 30) - x0))) + 2)) by first | exact f57_m0 (by assumption) (by omega) (by omega) | exact f57_m1 (by assumption) (by omega) (by omega) | exact f57_m2 | (have hq := GI_ex hG43 57 ((31 + (3 * ((Z 57 30) - x0))) + 2); replace hq : f57 (((31 + (3 * ((Z 57 30) - x0))) + 2) % 962) (Z43 57 ((31 + (3 * ((Z 57 30) - x0))) + 2)) := hq; rw [Int.emod_eq_of_lt (a := ((31 + (3 * ((Z 57 30) - x0))) + 2)) (by omega) (by omega)] at hq; show f57 29 (Z43 57 ((31 + (3 * ((Z 57 30) - x0))) + 2)); unfold f57 at hq; unfold f57; omega) | assumption | (unfold f57; omega) | (unfold f57 at *; omega)) (by omega) (by omega)
        refine Jiinc (z := 2) (cz := 1) (ls2 := [some (.ref 56), some (xI x0), some (xI 3)]) (show mx_Sn _ _ 77 (mx_iinc 2 1 80) from sn_216 77) rfl rfl rfl rfl ?_
        refine mx_J.step (sn_216 80) (fun _ _ => rfl) ?_
        refine mx_J.step (sn_216 44) (fun _ _ => rfl) ?_
        refine JcI (z := 3) (show mx_Sn _ _ 45 (mx_const (.int 3) 46) from sn_216 45) rfl ?_
        refine Jicmp_ge (show mx_Sn _ _ 46 (mx_icmp_ge 83 49) from sn_216 46) (by omega) (by omega) (fun q55 => ?_) (fun q55 => absurd q55 (by omega))
        refine mx_J.step (sn_216 83) (fun _ _ => rfl) ?_
        refine JgetR (g := 1) (b := 57) hx53 (show mx_Sn _ _ 84 (mx_getf 12 1 87) from sn_216 84) a56 s56 rfl rfl (hG53.prr 56 1 rfl) ?_
        refine JcI (z := 30) (show mx_Sn _ _ 87 (mx_const (.int 30) 89) from sn_216 87) rfl ?_
        refine JialdI (z := (Z 57 30) - x0) hx53 (show mx_Sn _ _ 89 (mx_iald 90) from sn_216 89) a57 s57 (by omega) ((up_ni hE53 (by decide)).trans ((up_ni hE43 (by decide)).trans ((up_ni hE33 (by decide)).trans (up_at hE22)))) ?_
        have eq57 : Z53 57 1 = Z 57 1 := ((up_ni hE53 (by decide)).trans ((up_ni hE43 (by decide)).trans ((up_ni hE33 (by decide)).trans ((up_ni hE22 (by decide)).trans (up_nk hE1 rfl)))))
        have b58 : 0 ≤ Z 57 1 ∧ Z 57 1 ≤ 18 := by have hq := GI_ex hG 57 1; replace hq : f57 (1 % 962) (Z 57 1) := hq; unfold f57 at hq; omega
        have b59 : (-2147483648) ≤ Z 57 1 ∧ Z 57 1 ≤ 2147483647 := hG.pr 57 1
        have eq60 : Z53 57 963 = Z 57 963 := ((up_ni hE53 (by decide)).trans ((up_ni hE43 (by decide)).trans ((up_ni hE33 (by decide)).trans ((up_ni hE22 (by decide)).trans (up_nk hE1 rfl)))))
        have b61 : 0 ≤ Z 57 963 ∧ Z 57 963 ≤ 18 := by have hq := GI_ex hG 57 963; replace hq : f57 (963 % 962) (Z 57 963) := hq; unfold f57 at hq; omega
        have b62 : (-2147483648) ≤ Z 57 963 ∧ Z 57 963 ≤ 2147483647 := hG.pr 57 963
        have eq63 : Z53 57 1925 = Z 57 1925 := ((up_ni hE53 (by decide)).trans ((up_ni hE43 (by decide)).trans ((up_ni hE33 (by decide)).trans ((up_ni hE22 (by decide)).trans (up_nk hE1 rfl)))))
        have b64 : 0 ≤ Z 57 1925 ∧ Z 57 1925 ≤ 18 := by have hq := GI_ex hG 57 1925; replace hq : f57 (1925 % 962) (Z 57 1925) := hq; unfold f57 at hq; omega
        have b65 : (-2147483648) ≤ Z 57 1925 ∧ Z 57 1925 ≤ 2147483647 := hG.pr 57 1925
        have eq66 : Z53 57 1 = Z 57 1 := ((up_ni hE53 (by decide)).trans ((up_ni hE43 (by decide)).trans ((up_ni hE33 (by decide)).trans ((up_ni hE22 (by decide)).trans (up_nk hE1 rfl)))))
        have eq67 : Z53 57 963 = Z 57 963 := ((up_ni hE53 (by decide)).trans ((up_ni hE43 (by decide)).trans ((up_ni hE33 (by decide)).trans ((up_ni hE22 (by decide)).trans (up_nk hE1 rfl)))))
        have eq68 : Z53 57 1925 = Z 57 1925 := ((up_ni hE53 (by decide)).trans ((up_ni hE43 (by decide)).trans ((up_ni hE33 (by decide)).trans ((up_ni hE22 (by decide)).trans (up_nk hE1 rfl)))))
        exact mx_J.ret (sn_216 90) (fun _ _ => rfl) (hP ((Z 57 30) - x0) Z53 h53 hx53 hG53 (fr_tr (M := [(56, 0), (57, (-1))]) (fr_tr (M := [(56, 0), (57, (-1))]) (fr_tr (M := [(56, 0), (57, (-1))]) (fr_tr (M := [(56, 0), (57, (-1))]) (fr_tr (M := [(56, 0), (57, (-1))]) fr_rf (fr_up hE1) (M1 := []) rfl rfl) (fr_ua hE22) rfl rfl) (fr_ua hE33) rfl rfl) (fr_ua hE43) rfl rfl) (fr_ua hE53) rfl rfl) (by omega))
      · skip
        exact c28 
theorem ct_216_56 {l : Launch} {D : va_G} {b0 : Nat} {ad : Nat → Nat} {Hb : Heap} {tau : Nat → Int64} {d n s : Nat} {S : Nat → xS} {Z : xZ} {h : mx_H} (hx : XH n s S Z h) (hG : GI n S Z)  {x0 : Int} (p0 : (-2147483648) ≤ x0 ∧ x0 ≤ 2147483647) : ∃ (z : Int) (Z' : xZ) (h' : mx_H), mx_Ca (tB l D b0 ad Hb tau) (d + 2) 216 [.ref 56, xI x0] h (some (xI z), h') ∧ XH n s S Z' h' ∧ GI n S Z' ∧ fr' [(56, 0), (57, (-1))] Z Z' ∧ ((-3) ≤ z ∧ z ≤ 10 ∧ (Z' 57 1 = Z 57 1 ∧ Z' 57 963 = Z 57 963 ∧ Z' 57 1925 = Z 57 1925)) := by
  obtain ⟨r, hca, z, Z', h', e, q⟩ := Jmt (B := tB l D b0 ad Hb tau) (M := mt_216) (mi := 216) (as := [.ref 56, xI x0]) (d := d + 1) (ls := [some (.ref 56), some (xI x0), none]) rfl rfl rfl rfl rfl rfl (cw_216_56 (l := l) (D := D) (b0 := b0) (ad := ad) (Hb := Hb) (tau := tau) (d := d) (Post := fun r => ∃ (z : Int) (Z' : xZ) (h' : mx_H), r = (some (xI z), h') ∧ XH n s S Z' h' ∧ GI n S Z' ∧ fr' [(56, 0), (57, (-1))] Z Z' ∧ ((-3) ≤ z ∧ z ≤ 10 ∧ (Z' 57 1 = Z 57 1 ∧ Z' 57 963 = Z 57 963 ∧ Z' 57 1925 = Z 57 1925))) hx hG p0 (fun z Z' h' q1 q2 q3 q4 => ⟨z, Z', h', rfl, q1, q2, q3, q4⟩))
  subst e; exact ⟨z, Z', h', hca, q⟩
set_option maxRecDepth 100000 in
theorem cw_217_56 {l : Launch} {D : va_G} {b0 : Nat} {ad : Nat → Nat} {Hb : Heap} {tau : Nat → Int64} {d n s : Nat} {S : Nat → xS} {Z : xZ} {h : mx_H} {Post : mx_R → Prop} (hx : XH n s S Z h) (hG : GI n S Z)  {x0 : Int} (p0 : (-9223372036854775808) ≤ x0 ∧ x0 ≤ 9223372036854775807) (hP : ∀ z : Int, 0 ≤ z ∧ z ≤ 2 ∧ (z = 0 → ((0 ≤ x0 ∧ x0 ≤ 18) ∨ (20 ≤ x0 ∧ x0 ≤ 29) ∨ (1000 ≤ x0 ∧ x0 ≤ 2999 ∧ 1 ≤ (x0 - 1000) / 100 ∧ 1 ≤ x0 % 100 ∧ x0 % 100 ≤ (x0 - 1000) / 100 - 1 ∧ (x0 - 1000) / 100 ≤ 18 ∧ hv Z (Z 57 27) ((x0 - 1000) / 100) = 1) ∨ (3000 ≤ x0 ∧ x0 ≤ 4999 ∧ 1 ≤ (x0 - 3000) / 100 ∧ (x0 - 3000) / 100 ≤ 18 ∧ 1 ≤ x0 % 100 ∧ x0 % 100 ≤ 18 ∧ hv Z (Z 57 27) ((x0 - 3000) / 100) = 1 ∧ hv Z (Z 57 27) (x0 % 100) = 1))) → Post (some (xI z), h)) : mx_J (tB l D b0 ad Hb tau) mt_217 (d + 3) 0 [some (.ref 56), some (xL x0), none] [] h Post := by
    have a56 : 56 < n := lt83 (GI_n hG) rfl
    have s56 : S 56 = .inl (12, [0, 2, 2, 2, 2, 0, 0, 0, 0, 0, 0, 0, 0, 0, 0, 2, 2, 2, 0, 2, 2, 2, 0, 0, 2, 2, 2, 2, 2, 2, 0, 0, 2, 2, 2, 2, 2, 2, 2, 2, 2, 2]) := GI_s hG 56 rfl
    have a57 : 57 < n := lt83 (GI_n hG) rfl
    have s57 : S 57 = .inr (.int, 2886, 0) := GI_s hG 57 rfl
    refine mx_J.step (sn_217 0) (fun _ _ => rfl) ?_
    refine JcL (z := 0) (show mx_Sn _ _ 1 (mx_const (.long 0) 2) from sn_217 1) rfl ?_
    refine JcL (z := 18) (show mx_Sn _ _ 2 (mx_const (.long 18) 5) from sn_217 2) rfl ?_
    obtain ⟨z1, hc1, b1⟩ := ct_154_ (d := d + 2) (l := l) (D := D) (b0 := b0) (ad := ad) (Hb := Hb) (tau := tau) hx hG (show (-9223372036854775808) ≤ x0 ∧ x0 ≤ 9223372036854775807 by omega) (show (-9223372036854775808) ≤ 0 ∧ 0 ≤ 9223372036854775807 by omega) (show (-9223372036854775808) ≤ 18 ∧ 18 ≤ 9223372036854775807 by omega)
    refine Jcs (show mx_Sn _ _ 5 (mx_calls 154 3 8) from sn_217 5) hc1 rfl rfl rfl ?_
    refine Jif_eq (show mx_Sn _ _ 8 (mx_if_eq 33 11) from sn_217 8) (by omega) (fun q2 => ?_) (fun q2 => ?_)
    · skip
      refine mx_J.step (sn_217 33) (fun _ _ => rfl) ?_
      refine JcL (z := 20) (show mx_Sn _ _ 34 (mx_const (.long 20) 37) from sn_217 34) rfl ?_
      refine JcL (z := 29) (show mx_Sn _ _ 37 (mx_const (.long 29) 40) from sn_217 37) rfl ?_
      obtain ⟨z3, hc3, b3⟩ := ct_154_ (d := d + 2) (l := l) (D := D) (b0 := b0) (ad := ad) (Hb := Hb) (tau := tau) hx hG (show (-9223372036854775808) ≤ x0 ∧ x0 ≤ 9223372036854775807 by omega) (show (-9223372036854775808) ≤ 20 ∧ 20 ≤ 9223372036854775807 by omega) (show (-9223372036854775808) ≤ 29 ∧ 29 ≤ 9223372036854775807 by omega)
      refine Jcs (show mx_Sn _ _ 40 (mx_calls 154 3 43) from sn_217 40) hc3 rfl rfl rfl ?_
      refine Jif_eq (show mx_Sn _ _ 43 (mx_if_eq 48 46) from sn_217 43) (by omega) (fun q4 => ?_) (fun q4 => ?_)
      · skip
        refine mx_J.step (sn_217 48) (fun _ _ => rfl) ?_
        refine JcL (z := 1000) (show mx_Sn _ _ 49 (mx_const (.long 1000) 52) from sn_217 49) rfl ?_
        refine JcL (z := 2999) (show mx_Sn _ _ 52 (mx_const (.long 2999) 55) from sn_217 52) rfl ?_
        obtain ⟨z5, hc5, b5⟩ := ct_154_ (d := d + 2) (l := l) (D := D) (b0 := b0) (ad := ad) (Hb := Hb) (tau := tau) hx hG (show (-9223372036854775808) ≤ x0 ∧ x0 ≤ 9223372036854775807 by omega) (show (-9223372036854775808) ≤ 1000 ∧ 1000 ≤ 9223372036854775807 by omega) (show (-9223372036854775808) ≤ 2999 ∧ 2999 ≤ 9223372036854775807 by omega)
        refine Jcs (show mx_Sn _ _ 55 (mx_calls 154 3 58) from sn_217 55) hc5 rfl rfl rfl ?_
        refine Jif_eq (show mx_Sn _ _ 58 (mx_if_eq 80 61) from sn_217 58) (by omega) (fun q6 => ?_) (fun q6 => ?_)
        · skip
          refine mx_J.step (sn_217 80) (fun _ _ => rfl) ?_
          refine JcL (z := 3000) (show mx_Sn _ _ 81 (mx_const (.long 3000) 84) from sn_217 81) rfl ?_
          refine JcL (z := 4999) (show mx_Sn _ _ 84 (mx_const (.long 4999) 87) from sn_217 84) rfl ?_
          obtain ⟨z7, hc7, b7⟩ := ct_154_ (d := d + 2) (l := l) (D := D) (b0 := b0) (ad := ad) (Hb := Hb) (tau := tau) hx hG (show (-9223372036854775808) ≤ x0 ∧ x0 ≤ 9223372036854775807 by omega) (show (-9223372036854775808) ≤ 3000 ∧ 3000 ≤ 9223372036854775807 by omega) (show (-9223372036854775808) ≤ 4999 ∧ 4999 ≤ 9223372036854775807 by omega)
          refine Jcs (show mx_Sn _ _ 87 (mx_calls 154 3 90) from sn_217 87) hc7 rfl rfl rfl ?_
          have c115 : ∀ (k8_0 : Int), 0 ≤ k8_0 ∧ k8_0 ≤ 2 → (k8_0 = 0 → 3000 ≤ x0 ∧ x0 ≤ 4999 ∧ 1 ≤ (x0 - 3000) / 100 ∧ (x0 - 3000) / 100 ≤ 18 ∧ 1 ≤ x0 % 100 ∧ x0 % 100 ≤ 18 ∧ hv Z (Z 57 27) ((x0 - 3000) / 100) = 1 ∧ hv Z (Z 57 27) (x0 % 100) = 1) → mx_J (tB l D b0 ad Hb tau) mt_217 (d + 3) 115 [some (.ref 56), some (xL x0), none] [xI k8_0] h Post := by
            intro k8_0 f8_0 f8_1
            have b9 := GI_st hG 27
            have b10 : 0 ≤ Z 56 18 ∧ Z 56 18 ≤ 385 := hG.pr 56 18
            have b11 : 0 ≤ Z 57 27 ∧ Z 57 27 ≤ 384 := by have hq := GI_ex hG 57 27; replace hq : f57 (27 % 962) (Z 57 27) := hq; unfold f57 at hq; omega
            have b12 : (-2147483648) ≤ Z 57 27 ∧ Z 57 27 ≤ 2147483647 := hG.pr 57 27
            exact mx_J.ret (sn_217 115) (fun _ _ => rfl) (hP k8_0 (by omega))
          refine Jif_eq (show mx_Sn _ _ 90 (mx_if_eq 114 93) from sn_217 90) (by omega) (fun q13 => ?_) (fun q13 => ?_)
          · skip
            refine JcI (z := 1) (show mx_Sn _ _ 114 (mx_const (.int 1) 115) from sn_217 114) rfl ?_
            exact c115 1 (by omega) (by omega)
          · skip
            refine mx_J.step (sn_217 93) (fun _ _ => rfl) ?_
            refine mx_J.step (sn_217 94) (fun _ _ => rfl) ?_
            refine JcL (z := 3000) (show mx_Sn _ _ 95 (mx_const (.long 3000) 98) from sn_217 95) rfl ?_
            refine Jlsub (show mx_Sn _ _ 98 (mx_lsub 99) from sn_217 98) ?_
            refine Jl2i (show mx_Sn _ _ 99 (mx_l2i 100) from sn_217 99) ?_
            refine JcI (z := 100) (show mx_Sn _ _ 100 (mx_const (.int 100) 102) from sn_217 100) rfl ?_
            refine Jidiv (show mx_Sn _ _ 102 (mx_idiv 103) from sn_217 102) (by omega) (by omega) ?_
            refine mx_J.step (sn_217 103) (fun _ _ => rfl) ?_
            refine Jl2i (show mx_Sn _ _ 104 (mx_l2i 105) from sn_217 104) ?_
            refine JcI (z := 100) (show mx_Sn _ _ 105 (mx_const (.int 100) 107) from sn_217 105) rfl ?_
            refine Jirem (show mx_Sn _ _ 107 (mx_irem 108) from sn_217 107) (by omega) (by omega) ?_
            have b15 := GI_st hG 27
            have b16 : 0 ≤ Z 56 18 ∧ Z 56 18 ≤ 385 := hG.pr 56 18
            have b17 : 0 ≤ Z 57 27 ∧ Z 57 27 ≤ 384 := by have hq := GI_ex hG 57 27; replace hq : f57 (27 % 962) (Z 57 27) := hq; unfold f57 at hq; omega
            have b18 : (-2147483648) ≤ Z 57 27 ∧ Z 57 27 ≤ 2147483647 := hG.pr 57 27
            obtain ⟨z14, hc14, b14⟩ := ct_212_56 (d := d + 0) (l := l) (D := D) (b0 := b0) (ad := ad) (Hb := Hb) (tau := tau) hx hG (show (-2147483648) ≤ (x0 - 3000) / 100 ∧ (x0 - 3000) / 100 ≤ 2147483647 by omega) (show (-2147483648) ≤ x0 % 100 ∧ x0 % 100 ≤ 2147483647 by omega)
            refine Jcv hx (show mx_Sn _ _ 108 (mx_callv 212 3 12 111) from sn_217 108) a56 s56 hc14 rfl rfl rfl ?_
            refine mx_J.step (sn_217 111) (fun _ _ => rfl) ?_
            exact c115 z14 (by omega) (by omega)
        · skip
          refine mx_J.step (sn_217 61) (fun _ _ => rfl) ?_
          refine mx_J.step (sn_217 62) (fun _ _ => rfl) ?_
          refine JcL (z := 1000) (show mx_Sn _ _ 63 (mx_const (.long 1000) 66) from sn_217 63) rfl ?_
          refine Jlsub (show mx_Sn _ _ 66 (mx_lsub 67) from sn_217 66) ?_
          refine Jl2i (show mx_Sn _ _ 67 (mx_l2i 68) from sn_217 67) ?_
          refine JcI (z := 100) (show mx_Sn _ _ 68 (mx_const (.int 100) 70) from sn_217 68) rfl ?_
          refine Jidiv (show mx_Sn _ _ 70 (mx_idiv 71) from sn_217 70) (by omega) (by omega) ?_
          refine mx_J.step (sn_217 71) (fun _ _ => rfl) ?_
          refine Jl2i (show mx_Sn _ _ 72 (mx_l2i 73) from sn_217 72) ?_
          refine JcI (z := 100) (show mx_Sn _ _ 73 (mx_const (.int 100) 75) from sn_217 73) rfl ?_
          refine Jirem (show mx_Sn _ _ 75 (mx_irem 76) from sn_217 75) (by omega) (by omega) ?_
          have b20 := GI_st hG 27
          have b21 : 0 ≤ Z 56 18 ∧ Z 56 18 ≤ 385 := hG.pr 56 18
          have b22 : 0 ≤ Z 57 27 ∧ Z 57 27 ≤ 384 := by have hq := GI_ex hG 57 27; replace hq : f57 (27 % 962) (Z 57 27) := hq; unfold f57 at hq; omega
          have b23 : (-2147483648) ≤ Z 57 27 ∧ Z 57 27 ≤ 2147483647 := hG.pr 57 27
          obtain ⟨z19, hc19, b19⟩ := ct_209_56 (d := d + 0) (l := l) (D := D) (b0 := b0) (ad := ad) (Hb := Hb) (tau := tau) hx hG (show (-2147483648) ≤ (x0 - 1000) / 100 ∧ (x0 - 1000) / 100 ≤ 2147483647 by omega) (show (-2147483648) ≤ x0 % 100 ∧ x0 % 100 ≤ 2147483647 by omega)
          refine Jcv hx (show mx_Sn _ _ 76 (mx_callv 209 3 12 79) from sn_217 76) a56 s56 hc19 rfl rfl rfl ?_
          exact mx_J.ret (sn_217 79) (fun _ _ => rfl) (hP z19 (by omega))
      · skip
        refine JcI (z := 0) (show mx_Sn _ _ 46 (mx_const (.int 0) 47) from sn_217 46) rfl ?_
        have b24 := GI_st hG 27
        have b25 : 0 ≤ Z 56 18 ∧ Z 56 18 ≤ 385 := hG.pr 56 18
        have b26 : 0 ≤ Z 57 27 ∧ Z 57 27 ≤ 384 := by have hq := GI_ex hG 57 27; replace hq : f57 (27 % 962) (Z 57 27) := hq; unfold f57 at hq; omega
        have b27 : (-2147483648) ≤ Z 57 27 ∧ Z 57 27 ≤ 2147483647 := hG.pr 57 27
        exact mx_J.ret (sn_217 47) (fun _ _ => rfl) (hP 0 (by omega))
    · skip
      refine mx_J.step (sn_217 11) (fun _ _ => rfl) ?_
      refine mx_J.step (sn_217 12) (fun _ _ => rfl) ?_
      refine JgetR (g := 1) (b := 57) hx (show mx_Sn _ _ 13 (mx_getf 12 1 16) from sn_217 13) a56 s56 rfl rfl (hG.prr 56 1 rfl) ?_
      refine JcI (z := 27) (show mx_Sn _ _ 16 (mx_const (.int 27) 18) from sn_217 16) rfl ?_
      have b29 := GI_st hG 27
      have b30 : 0 ≤ Z 56 18 ∧ Z 56 18 ≤ 385 := hG.pr 56 18
      have b31 : 0 ≤ Z 57 27 ∧ Z 57 27 ≤ 384 := by have hq := GI_ex hG 57 27; replace hq : f57 (27 % 962) (Z 57 27) := hq; unfold f57 at hq; omega
      have b32 : (-2147483648) ≤ Z 57 27 ∧ Z 57 27 ≤ 2147483647 := hG.pr 57 27
      refine JialdI (z := Z 57 27) hx (show mx_Sn _ _ 18 (mx_iald 19) from sn_217 18) a57 s57 (by omega) rfl ?_
      refine mx_J.step (sn_217 19) (fun _ _ => rfl) ?_
      refine Jl2i (show mx_Sn _ _ 20 (mx_l2i 21) from sn_217 20) ?_
      obtain ⟨z33, hc33, b33⟩ := ct_197_56 (d := d + 0) (l := l) (D := D) (b0 := b0) (ad := ad) (Hb := Hb) (tau := tau) hx hG (show 0 ≤ Z 57 27 ∧ Z 57 27 ≤ 384 by omega) (show (-2147483648) ≤ x0 ∧ x0 ≤ 2147483647 by omega)
      refine Jcv hx (show mx_Sn _ _ 21 (mx_callv 197 3 12 24) from sn_217 21) a56 s56 hc33 rfl rfl rfl ?_
      have c32 : ∀ (k34_0 : Int), 0 ≤ k34_0 ∧ k34_0 ≤ 2 → (k34_0 = 0 ∨ k34_0 = 2) → mx_J (tB l D b0 ad Hb tau) mt_217 (d + 3) 32 [some (.ref 56), some (xL x0), none] [xI k34_0] h Post := by
        intro k34_0 f34_0 f34_1
        exact mx_J.ret (sn_217 32) (fun _ _ => rfl) (hP k34_0 (by omega))
      refine Jif_eq (show mx_Sn _ _ 24 (mx_if_eq 31 27) from sn_217 24) (by omega) (fun q35 => ?_) (fun q35 => ?_)
      · skip
        refine JcI (z := 2) (show mx_Sn _ _ 31 (mx_const (.int 2) 32) from sn_217 31) rfl ?_
        exact c32 2 (by omega) (by omega)
      · skip
        refine JcI (z := 0) (show mx_Sn _ _ 27 (mx_const (.int 0) 28) from sn_217 27) rfl ?_
        refine mx_J.step (sn_217 28) (fun _ _ => rfl) ?_
        exact c32 0 (by omega) (by omega)
theorem ct_217_56 {l : Launch} {D : va_G} {b0 : Nat} {ad : Nat → Nat} {Hb : Heap} {tau : Nat → Int64} {d n s : Nat} {S : Nat → xS} {Z : xZ} {h : mx_H} (hx : XH n s S Z h) (hG : GI n S Z)  {x0 : Int} (p0 : (-9223372036854775808) ≤ x0 ∧ x0 ≤ 9223372036854775807) : ∃ z : Int, mx_Ca (tB l D b0 ad Hb tau) (d + 4) 217 [.ref 56, xL x0] h (some (xI z), h) ∧ (0 ≤ z ∧ z ≤ 2 ∧ (z = 0 → ((0 ≤ x0 ∧ x0 ≤ 18) ∨ (20 ≤ x0 ∧ x0 ≤ 29) ∨ (1000 ≤ x0 ∧ x0 ≤ 2999 ∧ 1 ≤ (x0 - 1000) / 100 ∧ 1 ≤ x0 % 100 ∧ x0 % 100 ≤ (x0 - 1000) / 100 - 1 ∧ (x0 - 1000) / 100 ≤ 18 ∧ hv Z (Z 57 27) ((x0 - 1000) / 100) = 1) ∨ (3000 ≤ x0 ∧ x0 ≤ 4999 ∧ 1 ≤ (x0 - 3000) / 100 ∧ (x0 - 3000) / 100 ≤ 18 ∧ 1 ≤ x0 % 100 ∧ x0 % 100 ≤ 18 ∧ hv Z (Z 57 27) ((x0 - 3000) / 100) = 1 ∧ hv Z (Z 57 27) (x0 % 100) = 1)))) := by
  obtain ⟨r, hca, z, e, hp⟩ := Jmt (B := tB l D b0 ad Hb tau) (M := mt_217) (mi := 217) (as := [.ref 56, xL x0]) (d := d + 3) (ls := [some (.ref 56), some (xL x0), none]) rfl rfl rfl rfl rfl rfl (cw_217_56 (l := l) (D := D) (b0 := b0) (ad := ad) (Hb := Hb) (tau := tau) (d := d) (Post := fun r => ∃ z : Int, r = (some (xI z), h) ∧ (0 ≤ z ∧ z ≤ 2 ∧ (z = 0 → ((0 ≤ x0 ∧ x0 ≤ 18) ∨ (20 ≤ x0 ∧ x0 ≤ 29) ∨ (1000 ≤ x0 ∧ x0 ≤ 2999 ∧ 1 ≤ (x0 - 1000) / 100 ∧ 1 ≤ x0 % 100 ∧ x0 % 100 ≤ (x0 - 1000) / 100 - 1 ∧ (x0 - 1000) / 100 ≤ 18 ∧ hv Z (Z 57 27) ((x0 - 1000) / 100) = 1) ∨ (3000 ≤ x0 ∧ x0 ≤ 4999 ∧ 1 ≤ (x0 - 3000) / 100 ∧ (x0 - 3000) / 100 ≤ 18 ∧ 1 ≤ x0 % 100 ∧ x0 % 100 ≤ 18 ∧ hv Z (Z 57 27) ((x0 - 3000) / 100) = 1 ∧ hv Z (Z 57 27) (x0 % 100) = 1))))) hx hG p0 (fun z hz => ⟨z, rfl, hz⟩))
  subst e; exact ⟨z, hca, hp⟩
set_option maxRecDepth 100000 in
theorem cw_218_56 {l : Launch} {D : va_G} {b0 : Nat} {ad : Nat → Nat} {Hb : Heap} {tau : Nat → Int64} {d n s : Nat} {S : Nat → xS} {Z : xZ} {h : mx_H} {Post : mx_R → Prop} (hx : XH n s S Z h) (hG : GI n S Z)  {x0 : Int} (p0 : 0 ≤ x0 ∧ x0 ≤ 4999) (k0 : ((0 ≤ x0 ∧ x0 ≤ 18) ∨ (20 ≤ x0 ∧ x0 ≤ 29) ∨ (1000 ≤ x0 ∧ x0 ≤ 2999 ∧ 1 ≤ (x0 - 1000) / 100 ∧ 1 ≤ x0 % 100 ∧ x0 % 100 ≤ (x0 - 1000) / 100 - 1 ∧ (x0 - 1000) / 100 ≤ 18 ∧ hv Z (Z 57 27) ((x0 - 1000) / 100) = 1) ∨ (3000 ≤ x0 ∧ x0 ≤ 4999 ∧ 1 ≤ (x0 - 3000) / 100 ∧ (x0 - 3000) / 100 ≤ 18 ∧ 1 ≤ x0 % 100 ∧ x0 % 100 ≤ 18 ∧ hv Z (Z 57 27) ((x0 - 3000) / 100) = 1 ∧ hv Z (Z 57 27) (x0 % 100) = 1))) (hP : ∀ (Z' : xZ) (h' : mx_H), XH n s S Z' h' → GI n S Z' → fr' [(57, (-1)), (62, (-1)), (64, (-1)), (65, (-1))] Z Z' → (Z' 57 1 = Z 57 1 ∧ Z' 57 963 = Z 57 963 ∧ Z' 57 1925 = Z 57 1925) → Post (none, h')) : mx_J (tB l D b0 ad Hb tau) mt_218 (d + 6) 0 [some (.ref 56), some (xI x0)] [] h Post := by
    have a56 : 56 < n := lt83 (GI_n hG) rfl
    have s56 : S 56 = .inl (12, [0, 2, 2, 2, 2, 0, 0, 0, 0, 0, 0, 0, 0, 0, 0, 2, 2, 2, 0, 2, 2, 2, 0, 0, 2, 2, 2, 2, 2, 2, 0, 0, 2, 2, 2, 2, 2, 2, 2, 2, 2, 2]) := GI_s hG 56 rfl
    have a57 : 57 < n := lt83 (GI_n hG) rfl
    have s57 : S 57 = .inr (.int, 2886, 0) := GI_s hG 57 rfl
    refine mx_J.step (sn_218 0) (fun _ _ => rfl) ?_
    refine JcI (z := 18) (show mx_Sn _ _ 1 (mx_const (.int 18) 3) from sn_218 1) rfl ?_
    have c76 : ∀  (Z2 : xZ) (h2 : mx_H), (Z2 57 1 = Z 57 1 ∧ Z2 57 963 = Z 57 963 ∧ Z2 57 1925 = Z 57 1925) → XH n s S Z2 h2 → GI n S Z2 → fr' [(57, (-1)), (62, (-1)), (64, (-1)), (65, (-1))] Z Z2 → mx_J (tB l D b0 ad Hb tau) mt_218 (d + 6) 76 [some (.ref 56), some (xI x0)] [] h2 Post := by
      intro Z2 h2 f1_0 hx2 hG2 hf2
      have b3 : 0 ≤ Z2 57 1 ∧ Z2 57 1 ≤ 18 := by have hq := GI_ex hG2 57 1; replace hq : f57 (1 % 962) (Z2 57 1) := hq; unfold f57 at hq; omega
      have b4 : (-2147483648) ≤ Z2 57 1 ∧ Z2 57 1 ≤ 2147483647 := hG2.pr 57 1
      have b5 : 0 ≤ Z2 57 963 ∧ Z2 57 963 ≤ 18 := by have hq := GI_ex hG2 57 963; replace hq : f57 (963 % 962) (Z2 57 963) := hq; unfold f57 at hq; omega
      have b6 : (-2147483648) ≤ Z2 57 963 ∧ Z2 57 963 ≤ 2147483647 := hG2.pr 57 963
      have b7 : 0 ≤ Z2 57 1925 ∧ Z2 57 1925 ≤ 18 := by have hq := GI_ex hG2 57 1925; replace hq : f57 (1925 % 962) (Z2 57 1925) := hq; unfold f57 at hq; omega
      have b8 : (-2147483648) ≤ Z2 57 1925 ∧ Z2 57 1925 ≤ 2147483647 := hG2.pr 57 1925
      have b9 := GI_st hG2 27
      have eq10 : Z2 56 18 = Z 56 18 := (hf2 56 18 rfl)
      have b11 : 0 ≤ Z 56 18 ∧ Z 56 18 ≤ 385 := hG.pr 56 18
      have b12 : 0 ≤ Z2 57 27 ∧ Z2 57 27 ≤ 384 := by have hq := GI_ex hG2 57 27; replace hq : f57 (27 % 962) (Z2 57 27) := hq; unfold f57 at hq; omega
      have b13 : (-2147483648) ≤ Z2 57 27 ∧ Z2 57 27 ≤ 2147483647 := hG2.pr 57 27
      have eq14 : hv Z2 (Z2 57 27) ((x0 - 1000) / 100) = hv Z (Z2 57 27) ((x0 - 1000) / 100) := (hv_c (fun i => hf2 61 i rfl))
      have eq15 : hv Z2 (Z2 57 27) ((x0 - 3000) / 100) = hv Z (Z2 57 27) ((x0 - 3000) / 100) := (hv_c (fun i => hf2 61 i rfl))
      have eq16 : hv Z2 (Z2 57 27) (x0 % 100) = hv Z (Z2 57 27) (x0 % 100) := (hv_c (fun i => hf2 61 i rfl))
      exact mx_J.ret (sn_218 76) (fun _ _ => rfl) (hP Z2 h2 hx2 hG2 (fr_tr (M := [(57, (-1)), (62, (-1)), (64, (-1)), (65, (-1))]) fr_rf (hf2) (M1 := []) rfl rfl) (by omega))
    refine Jicmp_gt (show mx_Sn _ _ 3 (mx_icmp_gt 14 6) from sn_218 3) (by omega) (by omega) (fun q17 => ?_) (fun q17 => ?_)
    · skip
      refine mx_J.step (sn_218 14) (fun _ _ => rfl) ?_
      refine JcI (z := 30) (show mx_Sn _ _ 15 (mx_const (.int 30) 17) from sn_218 15) rfl ?_
      refine Jicmp_ge (show mx_Sn _ _ 17 (mx_icmp_ge 34 20) from sn_218 17) (by omega) (by omega) (fun q18 => ?_) (fun q18 => ?_)
      · skip
        refine mx_J.step (sn_218 34) (fun _ _ => rfl) ?_
        refine JcI (z := 3000) (show mx_Sn _ _ 35 (mx_const (.int 3000) 38) from sn_218 35) rfl ?_
        refine Jicmp_ge (show mx_Sn _ _ 38 (mx_icmp_ge 60 41) from sn_218 38) (by omega) (by omega) (fun q19 => ?_) (fun q19 => ?_)
        · skip
          refine mx_J.step (sn_218 60) (fun _ _ => rfl) ?_
          refine mx_J.step (sn_218 61) (fun _ _ => rfl) ?_
          refine JcI (z := 3000) (show mx_Sn _ _ 62 (mx_const (.int 3000) 65) from sn_218 62) rfl ?_
          refine Jisub (show mx_Sn _ _ 65 (mx_isub 66) from sn_218 65) ?_
          refine JcI (z := 100) (show mx_Sn _ _ 66 (mx_const (.int 100) 68) from sn_218 66) rfl ?_
          refine Jidiv (show mx_Sn _ _ 68 (mx_idiv 69) from sn_218 68) (by omega) (by omega) ?_
          refine mx_J.step (sn_218 69) (fun _ _ => rfl) ?_
          refine JcI (z := 100) (show mx_Sn _ _ 70 (mx_const (.int 100) 72) from sn_218 70) rfl ?_
          refine Jirem (show mx_Sn _ _ 72 (mx_irem 73) from sn_218 72) (by omega) (by omega) ?_
          have b21 := GI_st hG 27
          have b22 : 0 ≤ Z 56 18 ∧ Z 56 18 ≤ 385 := hG.pr 56 18
          have b23 : 0 ≤ Z 57 27 ∧ Z 57 27 ≤ 384 := by have hq := GI_ex hG 57 27; replace hq : f57 (27 % 962) (Z 57 27) := hq; unfold f57 at hq; omega
          have b24 : (-2147483648) ≤ Z 57 27 ∧ Z 57 27 ≤ 2147483647 := hG.pr 57 27
          have b25 : 0 ≤ Z 57 1 ∧ Z 57 1 ≤ 18 := by have hq := GI_ex hG 57 1; replace hq : f57 (1 % 962) (Z 57 1) := hq; unfold f57 at hq; omega
          have b26 : (-2147483648) ≤ Z 57 1 ∧ Z 57 1 ≤ 2147483647 := hG.pr 57 1
          have b27 : 0 ≤ Z 57 963 ∧ Z 57 963 ≤ 18 := by have hq := GI_ex hG 57 963; replace hq : f57 (963 % 962) (Z 57 963) := hq; unfold f57 at hq; omega
          have b28 : (-2147483648) ≤ Z 57 963 ∧ Z 57 963 ≤ 2147483647 := hG.pr 57 963
          have b29 : 0 ≤ Z 57 1925 ∧ Z 57 1925 ≤ 18 := by have hq := GI_ex hG 57 1925; replace hq : f57 (1925 % 962) (Z 57 1925) := hq; unfold f57 at hq; omega
          have b30 : (-2147483648) ≤ Z 57 1925 ∧ Z 57 1925 ≤ 2147483647 := hG.pr 57 1925
          obtain ⟨Z20, h20, hc20, hx20, hG20, hf20, b20⟩ := ct_213_56 (d := d + 3) (l := l) (D := D) (b0 := b0) (ad := ad) (Hb := Hb) (tau := tau) hx hG (show 1 ≤ (x0 - 3000) / 100 ∧ (x0 - 3000) / 100 ≤ 18 by omega) (show 1 ≤ x0 % 100 ∧ x0 % 100 ≤ 18 by omega) (show hv Z (Z 57 27) ((x0 - 3000) / 100) = 1 by omega) (show hv Z (Z 57 27) (x0 % 100) = 1 by omega)
          have b31 : 0 ≤ Z20 57 1 ∧ Z20 57 1 ≤ 18 := by have hq := GI_ex hG20 57 1; replace hq : f57 (1 % 962) (Z20 57 1) := hq; unfold f57 at hq; omega
          have b32 : (-2147483648) ≤ Z20 57 1 ∧ Z20 57 1 ≤ 2147483647 := hG20.pr 57 1
          have b33 : 0 ≤ Z20 57 963 ∧ Z20 57 963 ≤ 18 := by have hq := GI_ex hG20 57 963; replace hq : f57 (963 % 962) (Z20 57 963) := hq; unfold f57 at hq; omega
          have b34 : (-2147483648) ≤ Z20 57 963 ∧ Z20 57 963 ≤ 2147483647 := hG20.pr 57 963
          have b35 : 0 ≤ Z20 57 1925 ∧ Z20 57 1925 ≤ 18 := by have hq := GI_ex hG20 57 1925; replace hq : f57 (1925 % 962) (Z20 57 1925) := hq; unfold f57 at hq; omega
          have b36 : (-2147483648) ≤ Z20 57 1925 ∧ Z20 57 1925 ≤ 2147483647 := hG20.pr 57 1925
          refine Jcv0 hx (show mx_Sn _ _ 73 (mx_callv 213 3 12 76) from sn_218 73) a56 s56 hc20 rfl rfl rfl ?_
          exact c76 Z20 h20 (by omega) hx20 hG20 (fr_tr (M := [(57, (-1)), (62, (-1)), (64, (-1)), (65, (-1))]) fr_rf (hf20) (M1 := []) rfl rfl)
        · skip
          refine mx_J.step (sn_218 41) (fun _ _ => rfl) ?_
          refine mx_J.step (sn_218 42) (fun _ _ => rfl) ?_
          refine JcI (z := 1000) (show mx_Sn _ _ 43 (mx_const (.int 1000) 46) from sn_218 43) rfl ?_
          refine Jisub (show mx_Sn _ _ 46 (mx_isub 47) from sn_218 46) ?_
          refine JcI (z := 100) (show mx_Sn _ _ 47 (mx_const (.int 100) 49) from sn_218 47) rfl ?_
          refine Jidiv (show mx_Sn _ _ 49 (mx_idiv 50) from sn_218 49) (by omega) (by omega) ?_
          refine mx_J.step (sn_218 50) (fun _ _ => rfl) ?_
          refine JcI (z := 100) (show mx_Sn _ _ 51 (mx_const (.int 100) 53) from sn_218 51) rfl ?_
          refine Jirem (show mx_Sn _ _ 53 (mx_irem 54) from sn_218 53) (by omega) (by omega) ?_
          have b38 := GI_st hG 27
          have b39 : 0 ≤ Z 56 18 ∧ Z 56 18 ≤ 385 := hG.pr 56 18
          have b40 : 0 ≤ Z 57 27 ∧ Z 57 27 ≤ 384 := by have hq := GI_ex hG 57 27; replace hq : f57 (27 % 962) (Z 57 27) := hq; unfold f57 at hq; omega
          have b41 : (-2147483648) ≤ Z 57 27 ∧ Z 57 27 ≤ 2147483647 := hG.pr 57 27
          have b42 : 0 ≤ Z 57 1 ∧ Z 57 1 ≤ 18 := by have hq := GI_ex hG 57 1; replace hq : f57 (1 % 962) (Z 57 1) := hq; unfold f57 at hq; omega
          have b43 : (-2147483648) ≤ Z 57 1 ∧ Z 57 1 ≤ 2147483647 := hG.pr 57 1
          have b44 : 0 ≤ Z 57 963 ∧ Z 57 963 ≤ 18 := by have hq := GI_ex hG 57 963; replace hq : f57 (963 % 962) (Z 57 963) := hq; unfold f57 at hq; omega
          have b45 : (-2147483648) ≤ Z 57 963 ∧ Z 57 963 ≤ 2147483647 := hG.pr 57 963
          have b46 : 0 ≤ Z 57 1925 ∧ Z 57 1925 ≤ 18 := by have hq := GI_ex hG 57 1925; replace hq : f57 (1925 % 962) (Z 57 1925) := hq; unfold f57 at hq; omega
          have b47 : (-2147483648) ≤ Z 57 1925 ∧ Z 57 1925 ≤ 2147483647 := hG.pr 57 1925
          obtain ⟨Z37, h37, hc37, hx37, hG37, hf37, b37⟩ := ct_210_56 (d := d + 3) (l := l) (D := D) (b0 := b0) (ad := ad) (Hb := Hb) (tau := tau) hx hG (show 1 ≤ (x0 - 1000) / 100 ∧ (x0 - 1000) / 100 ≤ 18 by omega) (show 1 ≤ x0 % 100 ∧ x0 % 100 ≤ 17 by omega) (show hv Z (Z 57 27) ((x0 - 1000) / 100) = 1 by omega)
          have b48 : 0 ≤ Z37 57 1 ∧ Z37 57 1 ≤ 18 := by have hq := GI_ex hG37 57 1; replace hq : f57 (1 % 962) (Z37 57 1) := hq; unfold f57 at hq; omega
          have b49 : (-2147483648) ≤ Z37 57 1 ∧ Z37 57 1 ≤ 2147483647 := hG37.pr 57 1
          have b50 : 0 ≤ Z37 57 963 ∧ Z37 57 963 ≤ 18 := by have hq := GI_ex hG37 57 963; replace hq : f57 (963 % 962) (Z37 57 963) := hq; unfold f57 at hq; omega
          have b51 : (-2147483648) ≤ Z37 57 963 ∧ Z37 57 963 ≤ 2147483647 := hG37.pr 57 963
          have b52 : 0 ≤ Z37 57 1925 ∧ Z37 57 1925 ≤ 18 := by have hq := GI_ex hG37 57 1925; replace hq : f57 (1925 % 962) (Z37 57 1925) := hq; unfold f57 at hq; omega
          have b53 : (-2147483648) ≤ Z37 57 1925 ∧ Z37 57 1925 ≤ 2147483647 := hG37.pr 57 1925
          refine Jcv0 hx (show mx_Sn _ _ 54 (mx_callv 210 3 12 57) from sn_218 54) a56 s56 hc37 rfl rfl rfl ?_
          refine mx_J.step (sn_218 57) (fun _ _ => rfl) ?_
          exact c76 Z37 h37 (by omega) hx37 hG37 (fr_tr (M := [(57, (-1)), (62, (-1)), (64, (-1)), (65, (-1))]) fr_rf (hf37) (M1 := []) rfl rfl)
      · skip
        refine mx_J.step (sn_218 20) (fun _ _ => rfl) ?_
        refine JgetR (g := 1) (b := 57) hx (show mx_Sn _ _ 21 (mx_getf 12 1 24) from sn_218 21) a56 s56 rfl rfl (hG.prr 56 1 rfl) ?_
        refine JcI (z := 28) (show mx_Sn _ _ 24 (mx_const (.int 28) 26) from sn_218 24) rfl ?_
        refine mx_J.step (sn_218 26) (fun _ _ => rfl) ?_
        refine JcI (z := 20) (show mx_Sn _ _ 27 (mx_const (.int 20) 29) from sn_218 27) rfl ?_
        refine Jisub (show mx_Sn _ _ 29 (mx_isub 30) from sn_218 29) ?_
        refine JiastI hx (show mx_Sn _ _ 30 (mx_iast 1 31) from sn_218 30) a57 s57 rfl (by omega) (fun Z55 h55 hx55 hE55 => ?_)
        have b56 : 0 ≤ Z 56 18 ∧ Z 56 18 ≤ 385 := hG.pr 56 18
        have hG55 := GI_up57 hG hE55 (show (-2147483648) ≤ x0 - 20 ∧ x0 - 20 ≤ 2147483647 by omega) (show f57 ((28) % 962) (x0 - 20) by first | assumption | (unfold f57; omega) | (unfold f57 at *; omega)) (by omega) (by omega)
        refine mx_J.step (sn_218 31) (fun _ _ => rfl) ?_
        have eq57 : Z55 57 1 = Z 57 1 := (up_ni hE55 (by decide))
        have b58 : 0 ≤ Z 57 1 ∧ Z 57 1 ≤ 18 := by have hq := GI_ex hG 57 1; replace hq : f57 (1 % 962) (Z 57 1) := hq; unfold f57 at hq; omega
        have b59 : (-2147483648) ≤ Z 57 1 ∧ Z 57 1 ≤ 2147483647 := hG.pr 57 1
        have eq60 : Z55 57 963 = Z 57 963 := (up_ni hE55 (by decide))
        have b61 : 0 ≤ Z 57 963 ∧ Z 57 963 ≤ 18 := by have hq := GI_ex hG 57 963; replace hq : f57 (963 % 962) (Z 57 963) := hq; unfold f57 at hq; omega
        have b62 : (-2147483648) ≤ Z 57 963 ∧ Z 57 963 ≤ 2147483647 := hG.pr 57 963
        have eq63 : Z55 57 1925 = Z 57 1925 := (up_ni hE55 (by decide))
        have b64 : 0 ≤ Z 57 1925 ∧ Z 57 1925 ≤ 18 := by have hq := GI_ex hG 57 1925; replace hq : f57 (1925 % 962) (Z 57 1925) := hq; unfold f57 at hq; omega
        have b65 : (-2147483648) ≤ Z 57 1925 ∧ Z 57 1925 ≤ 2147483647 := hG.pr 57 1925
        exact c76 Z55 h55 (by omega) hx55 hG55 (fr_tr (M := [(57, (-1)), (62, (-1)), (64, (-1)), (65, (-1))]) fr_rf (fr_ua hE55) (M1 := []) rfl rfl)
    · skip
      refine mx_J.step (sn_218 6) (fun _ _ => rfl) ?_
      refine mx_J.step (sn_218 7) (fun _ _ => rfl) ?_
      have b67 : 0 ≤ Z 57 1 ∧ Z 57 1 ≤ 18 := by have hq := GI_ex hG 57 1; replace hq : f57 (1 % 962) (Z 57 1) := hq; unfold f57 at hq; omega
      have b68 : (-2147483648) ≤ Z 57 1 ∧ Z 57 1 ≤ 2147483647 := hG.pr 57 1
      have b69 : 0 ≤ Z 57 963 ∧ Z 57 963 ≤ 18 := by have hq := GI_ex hG 57 963; replace hq : f57 (963 % 962) (Z 57 963) := hq; unfold f57 at hq; omega
      have b70 : (-2147483648) ≤ Z 57 963 ∧ Z 57 963 ≤ 2147483647 := hG.pr 57 963
      have b71 : 0 ≤ Z 57 1925 ∧ Z 57 1925 ≤ 18 := by have hq := GI_ex hG 57 1925; replace hq : f57 (1925 % 962) (Z 57 1925) := hq; unfold f57 at hq; omega
      have b72 : (-2147483648) ≤ Z 57 1925 ∧ Z 57 1925 ≤ 2147483647 := hG.pr 57 1925
      obtain ⟨Z66, h66, hc66, hx66, hG66, hf66, b66⟩ := ct_205_56 (d := d + 0) (l := l) (D := D) (b0 := b0) (ad := ad) (Hb := Hb) (tau := tau) hx hG (show (-2147483648) ≤ x0 ∧ x0 ≤ 2147483647 by omega)
      have b73 : 0 ≤ Z66 57 1 ∧ Z66 57 1 ≤ 18 := by have hq := GI_ex hG66 57 1; replace hq : f57 (1 % 962) (Z66 57 1) := hq; unfold f57 at hq; omega
      have b74 : (-2147483648) ≤ Z66 57 1 ∧ Z66 57 1 ≤ 2147483647 := hG66.pr 57 1
      have b75 : 0 ≤ Z66 57 963 ∧ Z66 57 963 ≤ 18 := by have hq := GI_ex hG66 57 963; replace hq : f57 (963 % 962) (Z66 57 963) := hq; unfold f57 at hq; omega
      have b76 : (-2147483648) ≤ Z66 57 963 ∧ Z66 57 963 ≤ 2147483647 := hG66.pr 57 963
      have b77 : 0 ≤ Z66 57 1925 ∧ Z66 57 1925 ≤ 18 := by have hq := GI_ex hG66 57 1925; replace hq : f57 (1925 % 962) (Z66 57 1925) := hq; unfold f57 at hq; omega
      have b78 : (-2147483648) ≤ Z66 57 1925 ∧ Z66 57 1925 ≤ 2147483647 := hG66.pr 57 1925
      refine Jcv0 hx (show mx_Sn _ _ 8 (mx_callv 205 2 12 11) from sn_218 8) a56 s56 hc66 rfl rfl rfl ?_
      refine mx_J.step (sn_218 11) (fun _ _ => rfl) ?_
      exact c76 Z66 h66 (by omega) hx66 hG66 (fr_tr (M := [(57, (-1)), (62, (-1)), (64, (-1)), (65, (-1))]) fr_rf (hf66) (M1 := []) rfl rfl)
theorem ct_218_56 {l : Launch} {D : va_G} {b0 : Nat} {ad : Nat → Nat} {Hb : Heap} {tau : Nat → Int64} {d n s : Nat} {S : Nat → xS} {Z : xZ} {h : mx_H} (hx : XH n s S Z h) (hG : GI n S Z)  {x0 : Int} (p0 : 0 ≤ x0 ∧ x0 ≤ 4999) (k0 : ((0 ≤ x0 ∧ x0 ≤ 18) ∨ (20 ≤ x0 ∧ x0 ≤ 29) ∨ (1000 ≤ x0 ∧ x0 ≤ 2999 ∧ 1 ≤ (x0 - 1000) / 100 ∧ 1 ≤ x0 % 100 ∧ x0 % 100 ≤ (x0 - 1000) / 100 - 1 ∧ (x0 - 1000) / 100 ≤ 18 ∧ hv Z (Z 57 27) ((x0 - 1000) / 100) = 1) ∨ (3000 ≤ x0 ∧ x0 ≤ 4999 ∧ 1 ≤ (x0 - 3000) / 100 ∧ (x0 - 3000) / 100 ≤ 18 ∧ 1 ≤ x0 % 100 ∧ x0 % 100 ≤ 18 ∧ hv Z (Z 57 27) ((x0 - 3000) / 100) = 1 ∧ hv Z (Z 57 27) (x0 % 100) = 1))) : ∃ (Z' : xZ) (h' : mx_H), mx_Ca (tB l D b0 ad Hb tau) (d + 7) 218 [.ref 56, xI x0] h (none, h') ∧ XH n s S Z' h' ∧ GI n S Z' ∧ fr' [(57, (-1)), (62, (-1)), (64, (-1)), (65, (-1))] Z Z' ∧ ((Z' 57 1 = Z 57 1 ∧ Z' 57 963 = Z 57 963 ∧ Z' 57 1925 = Z 57 1925)) := by
  obtain ⟨r, hca, Z', h', e, q⟩ := Jmt (B := tB l D b0 ad Hb tau) (M := mt_218) (mi := 218) (as := [.ref 56, xI x0]) (d := d + 6) (ls := [some (.ref 56), some (xI x0)]) rfl rfl rfl rfl rfl rfl (cw_218_56 (l := l) (D := D) (b0 := b0) (ad := ad) (Hb := Hb) (tau := tau) (d := d) (Post := fun r => ∃ (Z' : xZ) (h' : mx_H), r = (none, h') ∧ XH n s S Z' h' ∧ GI n S Z' ∧ fr' [(57, (-1)), (62, (-1)), (64, (-1)), (65, (-1))] Z Z' ∧ ((Z' 57 1 = Z 57 1 ∧ Z' 57 963 = Z 57 963 ∧ Z' 57 1925 = Z 57 1925))) hx hG p0 k0 (fun Z' h' q1 q2 q3 q4 => ⟨Z', h', rfl, q1, q2, q3, q4⟩))
  subst e; exact ⟨Z', h', hca, q⟩
set_option maxRecDepth 100000 in
theorem cw_219_56 {l : Launch} {D : va_G} {b0 : Nat} {ad : Nat → Nat} {Hb : Heap} {tau : Nat → Int64} {d n s : Nat} {S : Nat → xS} {Z : xZ} {h : mx_H} {Post : mx_R → Prop} (hx : XH n s S Z h) (hG : GI n S Z)  {x0 : Int} (p0 : 0 ≤ x0 ∧ x0 ≤ 3) (hP : ∀ (z : Int) (Z' : xZ) (h' : mx_H), XH n s S Z' h' → GI n S Z' → fr' [(56, 22), (57, (-1)), (62, (-1)), (64, (-1)), (65, (-1))] Z Z' → 0 ≤ z ∧ z ≤ 40 ∧ (Z' 57 1 = Z 57 1 ∧ Z' 57 963 = Z 57 963 ∧ Z' 57 1925 = Z 57 1925) → Post (some (xI z), h')) : mx_J (tB l D b0 ad Hb tau) mt_219 (d + 7) 0 [some (.ref 56), some (xI x0), none] [] h Post := by
    have a56 : 56 < n := lt83 (GI_n hG) rfl
    have s56 : S 56 = .inl (12, [0, 2, 2, 2, 2, 0, 0, 0, 0, 0, 0, 0, 0, 0, 0, 2, 2, 2, 0, 2, 2, 2, 0, 0, 2, 2, 2, 2, 2, 2, 0, 0, 2, 2, 2, 2, 2, 2, 2, 2, 2, 2]) := GI_s hG 56 rfl
    have a81 : 81 < n := lt83 (GI_n hG) rfl
    have s81 : S 81 = .inr (.int, 4, 0) := GI_s hG 81 rfl
    have a82 : 82 < n := lt83 (GI_n hG) rfl
    have s82 : S 82 = .inr (.long, 160, 1) := GI_s hG 82 rfl
    refine mx_J.step (sn_219 0) (fun _ _ => rfl) ?_
    refine JcI (z := 0) (show mx_Sn _ _ 1 (mx_const (.int 0) 2) from sn_219 1) rfl ?_
    refine JputI (g := 22) hx (show mx_Sn _ _ 2 (mx_putf 1 12 22 (.int) 5) from sn_219 2) a56 s56 rfl rfl rfl rfl (fun Z1 h1 hx1 hE1 => ?_)
    have hG1 := GI_up hG hE1 (show 0 ≤ 0 ∧ 0 ≤ 2 by omega) trivial rfl
    refine JcI (z := 0) (show mx_Sn _ _ 5 (mx_const (.int 0) 6) from sn_219 5) rfl ?_
    refine mx_J.step (ls2 := [some (.ref 56), some (xI x0), some (xI 0)]) (sn_219 6) (fun _ _ => rfl) ?_
    have c7 : ∀ (m2 : Nat) (w2_2 : Int) (Z3 : xZ) (h3 : mx_H), 40 - w2_2 < (m2 : Int) → 0 ≤ w2_2 ∧ w2_2 ≤ 40 → (Z3 57 1 = Z 57 1 ∧ Z3 57 963 = Z 57 963 ∧ Z3 57 1925 = Z 57 1925) → XH n s S Z3 h3 → GI n S Z3 → fr' [(56, 22), (57, (-1)), (62, (-1)), (64, (-1)), (65, (-1))] Z1 Z3 → mx_J (tB l D b0 ad Hb tau) mt_219 (d + 7) 7 [some (.ref 56), some (xI x0), some (xI w2_2)] [] h3 Post := by
      intro m2
      induction m2 with
      | zero => intro w2_2 Z3 h3 q2 f2_0 f2_1 hx3 hG3 hf3; exact absurd q2 (by omega)
      | succ m2 ih2 =>
        intro w2_2 Z3 h3 q2 f2_0 f2_1 hx3 hG3 hf3
        have b4 : 0 ≤ Z3 57 1 ∧ Z3 57 1 ≤ 18 := by have hq := GI_ex hG3 57 1; replace hq : f57 (1 % 962) (Z3 57 1) := hq; unfold f57 at hq; omega
        have b5 : (-2147483648) ≤ Z3 57 1 ∧ Z3 57 1 ≤ 2147483647 := hG3.pr 57 1
        have b6 : 0 ≤ Z3 57 963 ∧ Z3 57 963 ≤ 18 := by have hq := GI_ex hG3 57 963; replace hq : f57 (963 % 962) (Z3 57 963) := hq; unfold f57 at hq; omega
        have b7 : (-2147483648) ≤ Z3 57 963 ∧ Z3 57 963 ≤ 2147483647 := hG3.pr 57 963
        have b8 : 0 ≤ Z3 57 1925 ∧ Z3 57 1925 ≤ 18 := by have hq := GI_ex hG3 57 1925; replace hq : f57 (1925 % 962) (Z3 57 1925) := hq; unfold f57 at hq; omega
        have b9 : (-2147483648) ≤ Z3 57 1925 ∧ Z3 57 1925 ≤ 2147483647 := hG3.pr 57 1925
        refine mx_J.step (sn_219 7) (fun _ _ => rfl) ?_
        refine mx_J.step (sn_219 8) (fun _ _ => rfl) ?_
        refine JgetR (g := 40) (b := 81) hx3 (show mx_Sn _ _ 9 (mx_getf 12 40 12) from sn_219 9) a56 s56 rfl rfl (hG3.prr 56 40 rfl) ?_
        refine mx_J.step (sn_219 12) (fun _ _ => rfl) ?_
        have b11 : 0 ≤ Z 81 x0 ∧ Z 81 x0 ≤ 40 := hG.pr 81 x0
        refine JialdI (z := Z 81 x0) hx3 (show mx_Sn _ _ 13 (mx_iald 14) from sn_219 13) a81 s81 (by omega) ((hf3 81 x0 rfl).trans (up_nk hE1 rfl)) ?_
        refine Jicmp_ge (show mx_Sn _ _ 14 (mx_icmp_ge 67 17) from sn_219 14) (by omega) (by omega) (fun q12 => ?_) (fun q12 => ?_)
        · skip
          refine mx_J.step (sn_219 67) (fun _ _ => rfl) ?_
          refine JgetR (g := 40) (b := 81) hx3 (show mx_Sn _ _ 68 (mx_getf 12 40 71) from sn_219 68) a56 s56 rfl rfl (hG3.prr 56 40 rfl) ?_
          refine mx_J.step (sn_219 71) (fun _ _ => rfl) ?_
          refine JialdI (z := Z 81 x0) hx3 (show mx_Sn _ _ 72 (mx_iald 73) from sn_219 72) a81 s81 (by omega) ((hf3 81 x0 rfl).trans (up_nk hE1 rfl)) ?_
          exact mx_J.ret (sn_219 73) (fun _ _ => rfl) (hP (Z 81 x0) Z3 h3 hx3 hG3 (fr_tr (M := [(56, 22), (57, (-1)), (62, (-1)), (64, (-1)), (65, (-1))]) (fr_tr (M := [(56, 22), (57, (-1)), (62, (-1)), (64, (-1)), (65, (-1))]) fr_rf (fr_up hE1) (M1 := []) rfl rfl) (hf3) rfl rfl) (by omega))
        · skip
          refine mx_J.step (sn_219 17) (fun _ _ => rfl) ?_
          refine mx_J.step (sn_219 18) (fun _ _ => rfl) ?_
          refine mx_J.step (sn_219 19) (fun _ _ => rfl) ?_
          refine JgetR (g := 41) (b := 82) hx3 (show mx_Sn _ _ 20 (mx_getf 12 41 23) from sn_219 20) a56 s56 rfl rfl (hG3.prr 56 41 rfl) ?_
          refine JcI (z := 40) (show mx_Sn _ _ 23 (mx_const (.int 40) 25) from sn_219 23) rfl ?_
          refine mx_J.step (sn_219 25) (fun _ _ => rfl) ?_
          refine Jimul (show mx_Sn _ _ 26 (mx_imul 27) from sn_219 26) ?_
          refine mx_J.step (sn_219 27) (fun _ _ => rfl) ?_
          refine Jiadd (show mx_Sn _ _ 28 (mx_iadd 29) from sn_219 28) ?_
          have b15 : (-9223372036854775808) ≤ Z 82 ((40 * x0) + w2_2) ∧ Z 82 ((40 * x0) + w2_2) ≤ 9223372036854775807 := hG.pr 82 ((40 * x0) + w2_2)
          refine JlaldL (z := Z 82 ((40 * x0) + w2_2)) hx3 (show mx_Sn _ _ 29 (mx_lald 30) from sn_219 29) a82 s82 (by omega) ((hf3 82 ((40 * x0) + w2_2) rfl).trans (up_nk hE1 rfl)) ?_
          have b17 := GI_st hG3 27
          have eq18 : Z3 56 18 = Z 56 18 := ((hf3 56 18 rfl).trans (up_ni hE1 (by decide)))
          have b19 : 0 ≤ Z 56 18 ∧ Z 56 18 ≤ 385 := hG.pr 56 18
          have b20 : 0 ≤ Z3 57 27 ∧ Z3 57 27 ≤ 384 := by have hq := GI_ex hG3 57 27; replace hq : f57 (27 % 962) (Z3 57 27) := hq; unfold f57 at hq; omega
          have b21 : (-2147483648) ≤ Z3 57 27 ∧ Z3 57 27 ≤ 2147483647 := hG3.pr 57 27
          have eq22 : hv Z3 (Z3 57 27) (((Z 82 ((40 * x0) + w2_2)) - 1000) / 100) = hv Z (Z3 57 27) (((Z 82 ((40 * x0) + w2_2)) - 1000) / 100) := ((hv_c (fun i => hf3 61 i rfl)).trans (hv_c (fun i => up_nk hE1 rfl)))
          have eq23 : hv Z3 (Z3 57 27) (((Z 82 ((40 * x0) + w2_2)) - 3000) / 100) = hv Z (Z3 57 27) (((Z 82 ((40 * x0) + w2_2)) - 3000) / 100) := ((hv_c (fun i => hf3 61 i rfl)).trans (hv_c (fun i => up_nk hE1 rfl)))
          have eq24 : hv Z3 (Z3 57 27) ((Z 82 ((40 * x0) + w2_2)) % 100) = hv Z (Z3 57 27) ((Z 82 ((40 * x0) + w2_2)) % 100) := ((hv_c (fun i => hf3 61 i rfl)).trans (hv_c (fun i => up_nk hE1 rfl)))
          obtain ⟨z16, hc16, b16⟩ := ct_217_56 (d := d + 3) (l := l) (D := D) (b0 := b0) (ad := ad) (Hb := Hb) (tau := tau) hx3 hG3 (show (-9223372036854775808) ≤ Z 82 ((40 * x0) + w2_2) ∧ Z 82 ((40 * x0) + w2_2) ≤ 9223372036854775807 by omega)
          refine Jcv hx3 (show mx_Sn _ _ 30 (mx_callv 217 2 12 33) from sn_219 30) a56 s56 hc16 rfl rfl rfl ?_
          refine JputI (g := 22) hx3 (show mx_Sn _ _ 33 (mx_putf 1 12 22 (.int) 36) from sn_219 33) a56 s56 rfl rfl rfl rfl (fun Z25 h25 hx25 hE25 => ?_)
          have hG25 := GI_up hG3 hE25 (show 0 ≤ z16 ∧ z16 ≤ 2 by omega) trivial rfl
          refine mx_J.step (sn_219 36) (fun _ _ => rfl) ?_
          refine JgetI (g := 22) (z := z16) hx25 (show mx_Sn _ _ 37 (mx_getf 12 22 40) from sn_219 37) a56 s56 rfl rfl (up_at hE25) ?_
          refine Jif_eq (show mx_Sn _ _ 40 (mx_if_eq 45 43) from sn_219 40) (by omega) (fun q27 => ?_) (fun q27 => ?_)
          · skip
            refine mx_J.step (sn_219 45) (fun _ _ => rfl) ?_
            refine mx_J.step (sn_219 46) (fun _ _ => rfl) ?_
            refine JgetR (g := 41) (b := 82) hx25 (show mx_Sn _ _ 47 (mx_getf 12 41 50) from sn_219 47) a56 s56 rfl rfl (hG25.prr 56 41 rfl) ?_
            refine JcI (z := 40) (show mx_Sn _ _ 50 (mx_const (.int 40) 52) from sn_219 50) rfl ?_
            refine mx_J.step (sn_219 52) (fun _ _ => rfl) ?_
            refine Jimul (show mx_Sn _ _ 53 (mx_imul 54) from sn_219 53) ?_
            refine mx_J.step (sn_219 54) (fun _ _ => rfl) ?_
            refine Jiadd (show mx_Sn _ _ 55 (mx_iadd 56) from sn_219 55) ?_
            refine JlaldL (z := Z 82 ((40 * x0) + w2_2)) hx25 (show mx_Sn _ _ 56 (mx_lald 57) from sn_219 56) a82 s82 (by omega) ((up_nk hE25 rfl).trans ((hf3 82 ((40 * x0) + w2_2) rfl).trans (up_nk hE1 rfl))) ?_
            refine Jl2i (show mx_Sn _ _ 57 (mx_l2i 58) from sn_219 57) ?_
            have eq30 : Z25 57 27 = Z3 57 27 := (up_nk hE25 rfl)
            have eq31 : hv Z25 (Z25 57 27) (((Z 82 ((40 * x0) + w2_2)) - 1000) / 100) = hv Z (Z3 57 27) (((Z 82 ((40 * x0) + w2_2)) - 1000) / 100) := by rw [(show Z25 57 27 = Z3 57 27 from (up_nk hE25 rfl))]; exact ((hv_c (fun i => up_nk hE25 rfl)).trans ((hv_c (fun i => hf3 61 i rfl)).trans (hv_c (fun i => up_nk hE1 rfl))))
            have eq32 : hv Z25 (Z3 57 27) (((Z 82 ((40 * x0) + w2_2)) - 1000) / 100) = hv Z (Z3 57 27) (((Z 82 ((40 * x0) + w2_2)) - 1000) / 100) := ((hv_c (fun i => up_nk hE25 rfl)).trans ((hv_c (fun i => hf3 61 i rfl)).trans (hv_c (fun i => up_nk hE1 rfl))))
            have eq33 : hv Z25 (Z25 57 27) (((Z 82 ((40 * x0) + w2_2)) - 3000) / 100) = hv Z (Z3 57 27) (((Z 82 ((40 * x0) + w2_2)) - 3000) / 100) := by rw [(show Z25 57 27 = Z3 57 27 from (up_nk hE25 rfl))]; exact ((hv_c (fun i => up_nk hE25 rfl)).trans ((hv_c (fun i => hf3 61 i rfl)).trans (hv_c (fun i => up_nk hE1 rfl))))
            have eq34 : hv Z25 (Z3 57 27) (((Z 82 ((40 * x0) + w2_2)) - 3000) / 100) = hv Z (Z3 57 27) (((Z 82 ((40 * x0) + w2_2)) - 3000) / 100) := ((hv_c (fun i => up_nk hE25 rfl)).trans ((hv_c (fun i => hf3 61 i rfl)).trans (hv_c (fun i => up_nk hE1 rfl))))
            have eq35 : hv Z25 (Z25 57 27) ((Z 82 ((40 * x0) + w2_2)) % 100) = hv Z (Z3 57 27) ((Z 82 ((40 * x0) + w2_2)) % 100) := by rw [(show Z25 57 27 = Z3 57 27 from (up_nk hE25 rfl))]; exact ((hv_c (fun i => up_nk hE25 rfl)).trans ((hv_c (fun i => hf3 61 i rfl)).trans (hv_c (fun i => up_nk hE1 rfl))))
            have eq36 : hv Z25 (Z3 57 27) ((Z 82 ((40 * x0) + w2_2)) % 100) = hv Z (Z3 57 27) ((Z 82 ((40 * x0) + w2_2)) % 100) := ((hv_c (fun i => up_nk hE25 rfl)).trans ((hv_c (fun i => hf3 61 i rfl)).trans (hv_c (fun i => up_nk hE1 rfl))))
            have eq37 : Z25 57 1 = Z3 57 1 := (up_nk hE25 rfl)
            have eq38 : Z25 57 963 = Z3 57 963 := (up_nk hE25 rfl)
            have eq39 : Z25 57 1925 = Z3 57 1925 := (up_nk hE25 rfl)
            obtain ⟨Z29, h29, hc29, hx29, hG29, hf29, b29⟩ := ct_218_56 (d := d + 0) (l := l) (D := D) (b0 := b0) (ad := ad) (Hb := Hb) (tau := tau) hx25 hG25 (show 0 ≤ Z 82 ((40 * x0) + w2_2) ∧ Z 82 ((40 * x0) + w2_2) ≤ 4999 by omega) (show ((0 ≤ (Z 82 ((40 * x0) + w2_2)) ∧ (Z 82 ((40 * x0) + w2_2)) ≤ 18) ∨ (20 ≤ (Z 82 ((40 * x0) + w2_2)) ∧ (Z 82 ((40 * x0) + w2_2)) ≤ 29) ∨ (1000 ≤ (Z 82 ((40 * x0) + w2_2)) ∧ (Z 82 ((40 * x0) + w2_2)) ≤ 2999 ∧ 1 ≤ ((Z 82 ((40 * x0) + w2_2)) - 1000) / 100 ∧ 1 ≤ (Z 82 ((40 * x0) + w2_2)) % 100 ∧ (Z 82 ((40 * x0) + w2_2)) % 100 ≤ ((Z 82 ((40 * x0) + w2_2)) - 1000) / 100 - 1 ∧ ((Z 82 ((40 * x0) + w2_2)) - 1000) / 100 ≤ 18 ∧ hv Z25 (Z25 57 27) (((Z 82 ((40 * x0) + w2_2)) - 1000) / 100) = 1) ∨ (3000 ≤ (Z 82 ((40 * x0) + w2_2)) ∧ (Z 82 ((40 * x0) + w2_2)) ≤ 4999 ∧ 1 ≤ ((Z 82 ((40 * x0) + w2_2)) - 3000) / 100 ∧ ((Z 82 ((40 * x0) + w2_2)) - 3000) / 100 ≤ 18 ∧ 1 ≤ (Z 82 ((40 * x0) + w2_2)) % 100 ∧ (Z 82 ((40 * x0) + w2_2)) % 100 ≤ 18 ∧ hv Z25 (Z25 57 27) (((Z 82 ((40 * x0) + w2_2)) - 3000) / 100) = 1 ∧ hv Z25 (Z25 57 27) ((Z 82 ((40 * x0) + w2_2)) % 100) = 1)) by first | omega | (simp only [eq30, eq37, eq38, eq39]; omega))
            try rw [eq30] at b29
            try rw [eq37] at b29
            try rw [eq38] at b29
            try rw [eq39] at b29
            have b40 : 0 ≤ Z29 57 1 ∧ Z29 57 1 ≤ 18 := by have hq := GI_ex hG29 57 1; replace hq : f57 (1 % 962) (Z29 57 1) := hq; unfold f57 at hq; omega
            have b41 : (-2147483648) ≤ Z29 57 1 ∧ Z29 57 1 ≤ 2147483647 := hG29.pr 57 1
            have b42 : 0 ≤ Z29 57 963 ∧ Z29 57 963 ≤ 18 := by have hq := GI_ex hG29 57 963; replace hq : f57 (963 % 962) (Z29 57 963) := hq; unfold f57 at hq; omega
            have b43 : (-2147483648) ≤ Z29 57 963 ∧ Z29 57 963 ≤ 2147483647 := hG29.pr 57 963
            have b44 : 0 ≤ Z29 57 1925 ∧ Z29 57 1925 ≤ 18 := by have hq := GI_ex hG29 57 1925; replace hq : f57 (1925 % 962) (Z29 57 1925) := hq; unfold f57 at hq; omega
            have b45 : (-2147483648) ≤ Z29 57 1925 ∧ Z29 57 1925 ≤ 2147483647 := hG29.pr 57 1925
            refine Jcv0 hx25 (show mx_Sn _ _ 58 (mx_callv 218 2 12 61) from sn_219 58) a56 s56 hc29 rfl rfl rfl ?_
            refine Jiinc (z := w2_2) (cz := 1) (ls2 := [some (.ref 56), some (xI x0), some (xI (w2_2 + 1))]) (show mx_Sn _ _ 61 (mx_iinc 2 1 64) from sn_219 61) rfl rfl rfl rfl ?_
            refine mx_J.step (sn_219 64) (fun _ _ => rfl) ?_
            exact ih2 (w2_2 + 1) Z29 h29 (by omega) (by omega) (by omega) hx29 hG29 (fr_tr (M := [(56, 22), (57, (-1)), (62, (-1)), (64, (-1)), (65, (-1))]) (fr_tr (M := [(56, 22), (57, (-1)), (62, (-1)), (64, (-1)), (65, (-1))]) (fr_tr (M := [(56, 22), (57, (-1)), (62, (-1)), (64, (-1)), (65, (-1))]) fr_rf (hf3) (M1 := []) rfl rfl) (fr_up hE25) rfl rfl) (hf29) rfl rfl)
          · skip
            refine mx_J.step (sn_219 43) (fun _ _ => rfl) ?_
            have eq46 : Z25 57 1 = Z3 57 1 := (up_nk hE25 rfl)
            have eq47 : Z25 57 963 = Z3 57 963 := (up_nk hE25 rfl)
            have eq48 : Z25 57 1925 = Z3 57 1925 := (up_nk hE25 rfl)
            have eq49 : Z25 57 1 = Z3 57 1 := (up_nk hE25 rfl)
            have eq50 : Z25 57 963 = Z3 57 963 := (up_nk hE25 rfl)
            have eq51 : Z25 57 1925 = Z3 57 1925 := (up_nk hE25 rfl)
            exact mx_J.ret (sn_219 44) (fun _ _ => rfl) (hP w2_2 Z25 h25 hx25 hG25 (fr_tr (M := [(56, 22), (57, (-1)), (62, (-1)), (64, (-1)), (65, (-1))]) (fr_tr (M := [(56, 22), (57, (-1)), (62, (-1)), (64, (-1)), (65, (-1))]) (fr_tr (M := [(56, 22), (57, (-1)), (62, (-1)), (64, (-1)), (65, (-1))]) fr_rf (fr_up hE1) (M1 := []) rfl rfl) (hf3) rfl rfl) (fr_up hE25) rfl rfl) (by omega))
    have eq52 : Z1 57 1 = Z 57 1 := (up_nk hE1 rfl)
    have b53 : 0 ≤ Z 57 1 ∧ Z 57 1 ≤ 18 := by have hq := GI_ex hG 57 1; replace hq : f57 (1 % 962) (Z 57 1) := hq; unfold f57 at hq; omega
    have b54 : (-2147483648) ≤ Z 57 1 ∧ Z 57 1 ≤ 2147483647 := hG.pr 57 1
    have eq55 : Z1 57 963 = Z 57 963 := (up_nk hE1 rfl)
    have b56 : 0 ≤ Z 57 963 ∧ Z 57 963 ≤ 18 := by have hq := GI_ex hG 57 963; replace hq : f57 (963 % 962) (Z 57 963) := hq; unfold f57 at hq; omega
    have b57 : (-2147483648) ≤ Z 57 963 ∧ Z 57 963 ≤ 2147483647 := hG.pr 57 963
    have eq58 : Z1 57 1925 = Z 57 1925 := (up_nk hE1 rfl)
    have b59 : 0 ≤ Z 57 1925 ∧ Z 57 1925 ≤ 18 := by have hq := GI_ex hG 57 1925; replace hq : f57 (1925 % 962) (Z 57 1925) := hq; unfold f57 at hq; omega
    have b60 : (-2147483648) ≤ Z 57 1925 ∧ Z 57 1925 ≤ 2147483647 := hG.pr 57 1925
    exact c7 (Int.toNat (40 - 0) + 1) 0 Z1 h1 (by omega) (by omega) (by omega) hx1 hG1 fr_rf
theorem ct_219_56 {l : Launch} {D : va_G} {b0 : Nat} {ad : Nat → Nat} {Hb : Heap} {tau : Nat → Int64} {d n s : Nat} {S : Nat → xS} {Z : xZ} {h : mx_H} (hx : XH n s S Z h) (hG : GI n S Z)  {x0 : Int} (p0 : 0 ≤ x0 ∧ x0 ≤ 3) : ∃ (z : Int) (Z' : xZ) (h' : mx_H), mx_Ca (tB l D b0 ad Hb tau) (d + 8) 219 [.ref 56, xI x0] h (some (xI z), h') ∧ XH n s S Z' h' ∧ GI n S Z' ∧ fr' [(56, 22), (57, (-1)), (62, (-1)), (64, (-1)), (65, (-1))] Z Z' ∧ (0 ≤ z ∧ z ≤ 40 ∧ (Z' 57 1 = Z 57 1 ∧ Z' 57 963 = Z 57 963 ∧ Z' 57 1925 = Z 57 1925)) := by
  obtain ⟨r, hca, z, Z', h', e, q⟩ := Jmt (B := tB l D b0 ad Hb tau) (M := mt_219) (mi := 219) (as := [.ref 56, xI x0]) (d := d + 7) (ls := [some (.ref 56), some (xI x0), none]) rfl rfl rfl rfl rfl rfl (cw_219_56 (l := l) (D := D) (b0 := b0) (ad := ad) (Hb := Hb) (tau := tau) (d := d) (Post := fun r => ∃ (z : Int) (Z' : xZ) (h' : mx_H), r = (some (xI z), h') ∧ XH n s S Z' h' ∧ GI n S Z' ∧ fr' [(56, 22), (57, (-1)), (62, (-1)), (64, (-1)), (65, (-1))] Z Z' ∧ (0 ≤ z ∧ z ≤ 40 ∧ (Z' 57 1 = Z 57 1 ∧ Z' 57 963 = Z 57 963 ∧ Z' 57 1925 = Z 57 1925))) hx hG p0 (fun z Z' h' q1 q2 q3 q4 => ⟨z, Z', h', rfl, q1, q2, q3, q4⟩))
  subst e; exact ⟨z, Z', h', hca, q⟩
