set_option maxRecDepth 100000 in
theorem cw_279_56 {l : Launch} {D : va_G} {b0 : Nat} {ad : Nat → Nat} {Hb : Heap} {tau : Nat → Int64} {d n s : Nat} {S : Nat → xS} {Z : xZ} {h : mx_H} {Post : mx_R → Prop} (hx : XH n s S Z h) (hG : GI n S Z)  {x0 x1 x2 : Int} (p0 : (-2147483648) ≤ x0 ∧ x0 ≤ 2147483647) (p1 : (-2147483648) ≤ x1 ∧ x1 ≤ 2147483647) (p2 : (-9223372036854775808) ≤ x2 ∧ x2 ≤ 9223372036854775807) (hP : ∀ (z : Int) (Z' : xZ) (h' : mx_H), XH n s S Z' h' → GI n S Z' → fr' [(56, 0), (82, (-1))] Z Z' → ((0 ≤ x0 ∧ x0 ≤ 3 ∧ ¬ Z 80 x0 = -1 ∧ 0 ≤ x1 ∧ x1 < Z 81 x0) → Z' 82 (40 * x0 + x1) = z) ∧ (∀ i : Int, (¬ (0 ≤ x0 ∧ x0 ≤ 3 ∧ ¬ Z 80 x0 = -1 ∧ 0 ≤ x1 ∧ x1 < Z 81 x0) ∨ ¬ i = 40 * x0 + x1) → Z' 82 i = Z 82 i) ∧ (-9223372036854775808) ≤ z ∧ z ≤ 9223372036854775807 ∧ (((x0 < 0 ∨ 3 < x0) → z = -2) ∧ (0 ≤ x0 → x0 ≤ 3 → (Z 80 x0 = -1 → z = -6) ∧ (¬ Z 80 x0 = -1 → ((x1 < 0 ∨ Z 81 x0 ≤ x1) → z = -7) ∧ (¬ (x1 < 0 ∨ Z 81 x0 ≤ x1) → ((Z 80 x0 = 0 → -128 ≤ z ∧ z ≤ 127 ∧ (z - x2) % 256 = 0) ∧ (Z 80 x0 = 1 → -32768 ≤ z ∧ z ≤ 32767 ∧ (z - x2) % 65536 = 0) ∧ (Z 80 x0 = 2 → -2147483648 ≤ z ∧ z ≤ 2147483647 ∧ (z - x2) % 4294967296 = 0) ∧ (¬ Z 80 x0 = 0 → ¬ Z 80 x0 = 1 → ¬ Z 80 x0 = 2 → z = x2)))))) → Post (some (xL z), h')) : mx_J (tB l D b0 ad Hb tau) mt_279 (d + 2) 0 [some (.ref 56), some (xI x0), some (xI x1), some (xL x2), none, none] [] h Post := by
    have a56 : 56 < n := lt83 (GI_n hG) rfl
    have s56 : S 56 = .inl (12, [0, 2, 2, 2, 2, 0, 0, 0, 0, 0, 0, 0, 0, 0, 0, 2, 2, 2, 0, 2, 2, 2, 0, 0, 2, 2, 2, 2, 2, 2, 0, 0, 2, 2, 2, 2, 2, 2, 2, 2, 2, 2]) := GI_s hG 56 rfl
    have a80 : 80 < n := lt83 (GI_n hG) rfl
    have s80 : S 80 = .inr (.int, 4, 0) := GI_s hG 80 rfl
    have a81 : 81 < n := lt83 (GI_n hG) rfl
    have s81 : S 81 = .inr (.int, 4, 0) := GI_s hG 81 rfl
    have a82 : 82 < n := lt83 (GI_n hG) rfl
    have s82 : S 82 = .inr (.long, 160, 1) := GI_s hG 82 rfl
    refine mx_J.step (sn_279 0) (fun _ _ => rfl) ?_
    refine JcI (z := 0) (show mx_Sn _ _ 1 (mx_const (.int 0) 2) from sn_279 1) rfl ?_
    refine JputI (g := 0) hx (show mx_Sn _ _ 2 (mx_putf 1 12 0 (.int) 5) from sn_279 2) a56 s56 rfl rfl rfl rfl (fun Z1 h1 hx1 hE1 => ?_)
    have hG1 := GI_up hG hE1 (show (-2147483648) ≤ 0 ∧ 0 ≤ 2147483647 by omega) trivial rfl
    refine mx_J.step (sn_279 5) (fun _ _ => rfl) ?_
    refine mx_J.step (sn_279 6) (fun _ _ => rfl) ?_
    have eq3 : Z1 80 x0 = Z 80 x0 := (up_nk hE1 rfl)
    have b4 : (-1) ≤ Z 80 x0 ∧ Z 80 x0 ≤ 3 := hG.pr 80 x0
    obtain ⟨z2, hc2, b2⟩ := ct_220_56 (d := d + 0) (l := l) (D := D) (b0 := b0) (ad := ad) (Hb := Hb) (tau := tau) hx1 hG1 (show (-2147483648) ≤ x0 ∧ x0 ≤ 2147483647 by omega)
    try rw [eq3] at b2
    refine Jcv hx1 (show mx_Sn _ _ 7 (mx_callv 220 2 12 10) from sn_279 7) a56 s56 hc2 rfl rfl rfl ?_
    refine mx_J.step (ls2 := [some (.ref 56), some (xI x0), some (xI x1), some (xL x2), none, some (xI z2)]) (sn_279 10) (fun _ _ => rfl) ?_
    refine mx_J.step (sn_279 12) (fun _ _ => rfl) ?_
    refine Jif_eq (show mx_Sn _ _ 14 (mx_if_eq 21 17) from sn_279 14) (by omega) (fun q5 => ?_) (fun q5 => ?_)
    · skip
      refine mx_J.step (sn_279 21) (fun _ _ => rfl) ?_
      refine Ji2l (show mx_Sn _ _ 22 (mx_i2l 23) from sn_279 22) (by omega) ?_
      refine JcL (z := 0) (show mx_Sn _ _ 23 (mx_const (.long 0) 24) from sn_279 23) rfl ?_
      refine mx_J.step (sn_279 24) (fun _ _ => rfl) ?_
      refine JgetR (g := 40) (b := 81) hx1 (show mx_Sn _ _ 25 (mx_getf 12 40 28) from sn_279 25) a56 s56 rfl rfl (hG1.prr 56 40 rfl) ?_
      refine mx_J.step (sn_279 28) (fun _ _ => rfl) ?_
      have b7 : 0 ≤ Z 81 x0 ∧ Z 81 x0 ≤ 40 := hG.pr 81 x0
      refine JialdI (z := Z 81 x0) hx1 (show mx_Sn _ _ 29 (mx_iald 30) from sn_279 29) a81 s81 (by omega) (up_nk hE1 rfl) ?_
      refine JcI (z := 1) (show mx_Sn _ _ 30 (mx_const (.int 1) 31) from sn_279 30) rfl ?_
      refine Jisub (show mx_Sn _ _ 31 (mx_isub 32) from sn_279 31) ?_
      refine Ji2l (show mx_Sn _ _ 32 (mx_i2l 33) from sn_279 32) (by omega) ?_
      obtain ⟨z8, hc8, b8⟩ := ct_154_ (d := d + 1) (l := l) (D := D) (b0 := b0) (ad := ad) (Hb := Hb) (tau := tau) hx1 hG1 (show (-9223372036854775808) ≤ x1 ∧ x1 ≤ 9223372036854775807 by omega) (show (-9223372036854775808) ≤ 0 ∧ 0 ≤ 9223372036854775807 by omega) (show (-9223372036854775808) ≤ (Z 81 x0) - 1 ∧ (Z 81 x0) - 1 ≤ 9223372036854775807 by omega)
      refine Jcs (show mx_Sn _ _ 33 (mx_calls 154 3 36) from sn_279 33) hc8 rfl rfl rfl ?_
      refine Jif_ne (show mx_Sn _ _ 36 (mx_if_ne 43 39) from sn_279 36) (by omega) (fun q9 => ?_) (fun q9 => ?_)
      · skip
        refine mx_J.step (sn_279 43) (fun _ _ => rfl) ?_
        refine JgetR (g := 41) (b := 82) hx1 (show mx_Sn _ _ 44 (mx_getf 12 41 47) from sn_279 44) a56 s56 rfl rfl (hG1.prr 56 41 rfl) ?_
        refine JcI (z := 40) (show mx_Sn _ _ 47 (mx_const (.int 40) 49) from sn_279 47) rfl ?_
        refine mx_J.step (sn_279 49) (fun _ _ => rfl) ?_
        refine Jimul (show mx_Sn _ _ 50 (mx_imul 51) from sn_279 50) ?_
        refine mx_J.step (sn_279 51) (fun _ _ => rfl) ?_
        refine Jiadd (show mx_Sn _ _ 52 (mx_iadd 53) from sn_279 52) ?_
        refine mx_J.step (sn_279 53) (fun _ _ => rfl) ?_
        refine mx_J.step (sn_279 54) (fun _ _ => rfl) ?_
        refine JgetR (g := 39) (b := 80) hx1 (show mx_Sn _ _ 55 (mx_getf 12 39 58) from sn_279 55) a56 s56 rfl rfl (hG1.prr 56 39 rfl) ?_
        refine mx_J.step (sn_279 58) (fun _ _ => rfl) ?_
        refine JialdI (z := Z 80 x0) hx1 (show mx_Sn _ _ 59 (mx_iald 60) from sn_279 59) a80 s80 (by omega) (up_nk hE1 rfl) ?_
        obtain ⟨z12, hc12, b12⟩ := ct_277_ (d := d + 1) (l := l) (D := D) (b0 := b0) (ad := ad) (Hb := Hb) (tau := tau) hx1 hG1 (show (-9223372036854775808) ≤ x2 ∧ x2 ≤ 9223372036854775807 by omega) (show (-2147483648) ≤ Z 80 x0 ∧ Z 80 x0 ≤ 2147483647 by omega)
        refine Jcs (show mx_Sn _ _ 60 (mx_calls 277 2 63) from sn_279 60) hc12 rfl rfl rfl ?_
        refine JlastL hx1 (show mx_Sn _ _ 63 (mx_last 1 64) from sn_279 63) a82 s82 rfl (by omega) (fun Z13 h13 hx13 hE13 => ?_)
        have hG13 := GI_up hG1 hE13 (show (-9223372036854775808) ≤ z12 ∧ z12 ≤ 9223372036854775807 by omega) trivial rfl
        have i0 : Z13 82 (40 * x0 + x1) = z12 := up_at hE13
        have w82 : ∀ i, Z1 82 i = Z 82 i := fun i => up_nk hE1 rfl
        refine mx_J.step (sn_279 64) (fun _ _ => rfl) ?_
        refine JgetR (g := 41) (b := 82) hx13 (show mx_Sn _ _ 65 (mx_getf 12 41 68) from sn_279 65) a56 s56 rfl rfl (hG13.prr 56 41 rfl) ?_
        refine JcI (z := 40) (show mx_Sn _ _ 68 (mx_const (.int 40) 70) from sn_279 68) rfl ?_
        refine mx_J.step (sn_279 70) (fun _ _ => rfl) ?_
        refine Jimul (show mx_Sn _ _ 71 (mx_imul 72) from sn_279 71) ?_
        refine mx_J.step (sn_279 72) (fun _ _ => rfl) ?_
        refine Jiadd (show mx_Sn _ _ 73 (mx_iadd 74) from sn_279 73) ?_
        have b15 : (-9223372036854775808) ≤ Z13 82 ((40 * x0) + x1) ∧ Z13 82 ((40 * x0) + x1) ≤ 9223372036854775807 := hG13.pr 82 ((40 * x0) + x1)
        refine JlaldL (z := Z13 82 ((40 * x0) + x1)) hx13 (show mx_Sn _ _ 74 (mx_lald 75) from sn_279 74) a82 s82 (by omega) rfl ?_
        have eq16 : Z13 80 x0 = Z 80 x0 := ((up_nk hE13 rfl).trans (up_nk hE1 rfl))
        have eq17 : Z13 81 x0 = Z 81 x0 := ((up_nk hE13 rfl).trans (up_nk hE1 rfl))
        exact mx_J.ret (sn_279 75) (fun _ _ => rfl) (hP (Z13 82 ((40 * x0) + x1)) Z13 h13 hx13 hG13 (fr_tr (M := [(56, 0), (82, (-1))]) (fr_tr (M := [(56, 0), (82, (-1))]) fr_rf (fr_up hE1) (M1 := []) rfl rfl) (fr_ua hE13) rfl rfl) ⟨(fun _ => by omega), (fun i q => (up_ni hE13 (by omega)).trans (w82 i)), by omega⟩)
      · skip
        refine JcL (z := (-7)) (show mx_Sn _ _ 39 (mx_const (.long (-7)) 42) from sn_279 39) rfl ?_
        have eq18 : Z1 80 x0 = Z 80 x0 := (up_nk hE1 rfl)
        have eq19 : Z1 81 x0 = Z 81 x0 := (up_nk hE1 rfl)
        exact mx_J.ret (sn_279 42) (fun _ _ => rfl) (hP (-7) Z1 h1 hx1 hG1 (fr_tr (M := [(56, 0), (82, (-1))]) fr_rf (fr_up hE1) (M1 := []) rfl rfl) ⟨(fun q => False.elim (by omega)), (fun i _ => (show ∀ i, Z1 82 i = Z 82 i from (fun i => (up_nk hE1 rfl))) i), by omega⟩)
    · skip
      refine mx_J.step (sn_279 17) (fun _ _ => rfl) ?_
      refine Ji2l (show mx_Sn _ _ 19 (mx_i2l 20) from sn_279 19) (by omega) ?_
      have eq20 : Z1 80 x0 = Z 80 x0 := (up_nk hE1 rfl)
      have eq21 : Z1 81 x0 = Z 81 x0 := (up_nk hE1 rfl)
      have b22 : 0 ≤ Z 81 x0 ∧ Z 81 x0 ≤ 40 := hG.pr 81 x0
      exact mx_J.ret (sn_279 20) (fun _ _ => rfl) (hP z2 Z1 h1 hx1 hG1 (fr_tr (M := [(56, 0), (82, (-1))]) fr_rf (fr_up hE1) (M1 := []) rfl rfl) ⟨(fun q => False.elim (by omega)), (fun i _ => (show ∀ i, Z1 82 i = Z 82 i from (fun i => (up_nk hE1 rfl))) i), by omega⟩)
theorem ct_279_56 {l : Launch} {D : va_G} {b0 : Nat} {ad : Nat → Nat} {Hb : Heap} {tau : Nat → Int64} {d n s : Nat} {S : Nat → xS} {Z : xZ} {h : mx_H} (hx : XH n s S Z h) (hG : GI n S Z)  {x0 x1 x2 : Int} (p0 : (-2147483648) ≤ x0 ∧ x0 ≤ 2147483647) (p1 : (-2147483648) ≤ x1 ∧ x1 ≤ 2147483647) (p2 : (-9223372036854775808) ≤ x2 ∧ x2 ≤ 9223372036854775807) : ∃ (z : Int) (Z' : xZ) (h' : mx_H), mx_Ca (tB l D b0 ad Hb tau) (d + 3) 279 [.ref 56, xI x0, xI x1, xL x2] h (some (xL z), h') ∧ XH n s S Z' h' ∧ GI n S Z' ∧ fr' [(56, 0), (82, (-1))] Z Z' ∧ (((0 ≤ x0 ∧ x0 ≤ 3 ∧ ¬ Z 80 x0 = -1 ∧ 0 ≤ x1 ∧ x1 < Z 81 x0) → Z' 82 (40 * x0 + x1) = z) ∧ (∀ i : Int, (¬ (0 ≤ x0 ∧ x0 ≤ 3 ∧ ¬ Z 80 x0 = -1 ∧ 0 ≤ x1 ∧ x1 < Z 81 x0) ∨ ¬ i = 40 * x0 + x1) → Z' 82 i = Z 82 i) ∧ (-9223372036854775808) ≤ z ∧ z ≤ 9223372036854775807 ∧ (((x0 < 0 ∨ 3 < x0) → z = -2) ∧ (0 ≤ x0 → x0 ≤ 3 → (Z 80 x0 = -1 → z = -6) ∧ (¬ Z 80 x0 = -1 → ((x1 < 0 ∨ Z 81 x0 ≤ x1) → z = -7) ∧ (¬ (x1 < 0 ∨ Z 81 x0 ≤ x1) → ((Z 80 x0 = 0 → -128 ≤ z ∧ z ≤ 127 ∧ (z - x2) % 256 = 0) ∧ (Z 80 x0 = 1 → -32768 ≤ z ∧ z ≤ 32767 ∧ (z - x2) % 65536 = 0) ∧ (Z 80 x0 = 2 → -2147483648 ≤ z ∧ z ≤ 2147483647 ∧ (z - x2) % 4294967296 = 0) ∧ (¬ Z 80 x0 = 0 → ¬ Z 80 x0 = 1 → ¬ Z 80 x0 = 2 → z = x2))))))) := by
  obtain ⟨r, hca, z, Z', h', e, q⟩ := Jmt (B := tB l D b0 ad Hb tau) (M := mt_279) (mi := 279) (as := [.ref 56, xI x0, xI x1, xL x2]) (d := d + 2) (ls := [some (.ref 56), some (xI x0), some (xI x1), some (xL x2), none, none]) rfl rfl rfl rfl rfl rfl (cw_279_56 (l := l) (D := D) (b0 := b0) (ad := ad) (Hb := Hb) (tau := tau) (d := d) (Post := fun r => ∃ (z : Int) (Z' : xZ) (h' : mx_H), r = (some (xL z), h') ∧ XH n s S Z' h' ∧ GI n S Z' ∧ fr' [(56, 0), (82, (-1))] Z Z' ∧ (((0 ≤ x0 ∧ x0 ≤ 3 ∧ ¬ Z 80 x0 = -1 ∧ 0 ≤ x1 ∧ x1 < Z 81 x0) → Z' 82 (40 * x0 + x1) = z) ∧ (∀ i : Int, (¬ (0 ≤ x0 ∧ x0 ≤ 3 ∧ ¬ Z 80 x0 = -1 ∧ 0 ≤ x1 ∧ x1 < Z 81 x0) ∨ ¬ i = 40 * x0 + x1) → Z' 82 i = Z 82 i) ∧ (-9223372036854775808) ≤ z ∧ z ≤ 9223372036854775807 ∧ (((x0 < 0 ∨ 3 < x0) → z = -2) ∧ (0 ≤ x0 → x0 ≤ 3 → (Z 80 x0 = -1 → z = -6) ∧ (¬ Z 80 x0 = -1 → ((x1 < 0 ∨ Z 81 x0 ≤ x1) → z = -7) ∧ (¬ (x1 < 0 ∨ Z 81 x0 ≤ x1) → ((Z 80 x0 = 0 → -128 ≤ z ∧ z ≤ 127 ∧ (z - x2) % 256 = 0) ∧ (Z 80 x0 = 1 → -32768 ≤ z ∧ z ≤ 32767 ∧ (z - x2) % 65536 = 0) ∧ (Z 80 x0 = 2 → -2147483648 ≤ z ∧ z ≤ 2147483647 ∧ (z - x2) % 4294967296 = 0) ∧ (¬ Z 80 x0 = 0 → ¬ Z 80 x0 = 1 → ¬ Z 80 x0 = 2 → z = x2)))))))) hx hG p0 p1 p2 (fun z Z' h' q1 q2 q3 q4 => ⟨z, Z', h', rfl, q1, q2, q3, q4⟩))
  subst e; exact ⟨z, Z', h', hca, q⟩
set_option maxRecDepth 100000 in
theorem cw_280_56 {l : Launch} {D : va_G} {b0 : Nat} {ad : Nat → Nat} {Hb : Heap} {tau : Nat → Int64} {d n s : Nat} {S : Nat → xS} {Z : xZ} {h : mx_H} {Post : mx_R → Prop} (hx : XH n s S Z h) (hG : GI n S Z)  {x0 x1 : Int} (p0 : (-2147483648) ≤ x0 ∧ x0 ≤ 2147483647) (p1 : (-2147483648) ≤ x1 ∧ x1 ≤ 2147483647) (k0 : RTB Z (Z 57 1)) (k1 : 1 ≤ Z 57 1) (hP : ∀ (z : Int) (Z' : xZ) (h' : mx_H), XH n s S Z' h' → GI n S Z' → fr' [(56, 0), (82, (-1))] Z Z' → (0 ≤ x0 → x0 ≤ 3 → 0 ≤ z → LI (hpk (Z 57 1) x1) (fun j => Z 82 (40 * x0 + j)) (fun j => Z' 82 (40 * x0 + j)) z) ∧ (∀ i : Int, (z < 0 ∨ i < 40 * x0 ∨ 40 * x0 + 40 ≤ i) → Z' 82 i = Z 82 i) ∧ (-6) ≤ z ∧ z ≤ 18 ∧ (((x0 < 0 ∨ 3 < x0) → z = -2) ∧ (0 ≤ x0 → x0 ≤ 3 → (Z 80 x0 = -1 → z = -6) ∧ (¬ Z 80 x0 = -1 → ((x1 < 0 ∨ pN (Z 57 1) ≤ x1) → z = -3) ∧ (¬ (x1 < 0 ∨ pN (Z 57 1) ≤ x1) → (hln (Z 57 1) x1 ≤ Z 81 x0 → z = hln (Z 57 1) x1) ∧ (Z 81 x0 < hln (Z 57 1) x1 → z = Z 81 x0))))) → Post (some (xI z), h')) : mx_J (tB l D b0 ad Hb tau) mt_280 (d + 2) 0 [some (.ref 56), some (xI x0), some (xI x1), none, none, none] [] h Post := by
    have a56 : 56 < n := lt83 (GI_n hG) rfl
    have s56 : S 56 = .inl (12, [0, 2, 2, 2, 2, 0, 0, 0, 0, 0, 0, 0, 0, 0, 0, 2, 2, 2, 0, 2, 2, 2, 0, 0, 2, 2, 2, 2, 2, 2, 0, 0, 2, 2, 2, 2, 2, 2, 2, 2, 2, 2]) := GI_s hG 56 rfl
    have a81 : 81 < n := lt83 (GI_n hG) rfl
    have s81 : S 81 = .inr (.int, 4, 0) := GI_s hG 81 rfl
    have a82 : 82 < n := lt83 (GI_n hG) rfl
    have s82 : S 82 = .inr (.long, 160, 1) := GI_s hG 82 rfl
    have e18 : Z 56 18 = pN (Z 57 1) := (GI_stt hG).1
    have hN9 : 1 ≤ Z 57 1 ∧ Z 57 1 ≤ 18 := ⟨k1, by have hq := GB_ex (GI_gb hG) 57 1; replace hq : f57 (1 % 962) (Z 57 1) := hq; unfold f57 at hq; omega⟩
    refine mx_J.step (sn_280 0) (fun _ _ => rfl) ?_
    refine JcI (z := 0) (show mx_Sn _ _ 1 (mx_const (.int 0) 2) from sn_280 1) rfl ?_
    refine JputI (g := 0) hx (show mx_Sn _ _ 2 (mx_putf 1 12 0 (.int) 5) from sn_280 2) a56 s56 rfl rfl rfl rfl (fun Z1 h1 hx1 hE1 => ?_)
    have hG1 := GI_up hG hE1 (show (-2147483648) ≤ 0 ∧ 0 ≤ 2147483647 by omega) trivial rfl
    refine mx_J.step (sn_280 5) (fun _ _ => rfl) ?_
    refine mx_J.step (sn_280 6) (fun _ _ => rfl) ?_
    have eq3 : Z1 80 x0 = Z 80 x0 := (up_nk hE1 rfl)
    have b4 : (-1) ≤ Z 80 x0 ∧ Z 80 x0 ≤ 3 := hG.pr 80 x0
    obtain ⟨z2, hc2, b2⟩ := ct_220_56 (d := d + 0) (l := l) (D := D) (b0 := b0) (ad := ad) (Hb := Hb) (tau := tau) hx1 hG1 (show (-2147483648) ≤ x0 ∧ x0 ≤ 2147483647 by omega)
    try rw [eq3] at b2
    refine Jcv hx1 (show mx_Sn _ _ 7 (mx_callv 220 2 12 10) from sn_280 7) a56 s56 hc2 rfl rfl rfl ?_
    refine mx_J.step (ls2 := [some (.ref 56), some (xI x0), some (xI x1), some (xI z2), none, none]) (sn_280 10) (fun _ _ => rfl) ?_
    refine mx_J.step (sn_280 11) (fun _ _ => rfl) ?_
    refine Jif_eq (show mx_Sn _ _ 12 (mx_if_eq 17 15) from sn_280 12) (by omega) (fun q5 => ?_) (fun q5 => ?_)
    · skip
      refine mx_J.step (sn_280 17) (fun _ _ => rfl) ?_
      refine Ji2l (show mx_Sn _ _ 18 (mx_i2l 19) from sn_280 18) (by omega) ?_
      refine JcL (z := 0) (show mx_Sn _ _ 19 (mx_const (.long 0) 20) from sn_280 19) rfl ?_
      refine mx_J.step (sn_280 20) (fun _ _ => rfl) ?_
      have b7 : 0 ≤ Z 56 18 ∧ Z 56 18 ≤ 385 := hG.pr 56 18
      refine JgetI (g := 18) (z := Z 56 18) hx1 (show mx_Sn _ _ 21 (mx_getf 12 18 24) from sn_280 21) a56 s56 rfl rfl (up_ni hE1 (by decide)) ?_
      refine JcI (z := 1) (show mx_Sn _ _ 24 (mx_const (.int 1) 25) from sn_280 24) rfl ?_
      refine Jisub (show mx_Sn _ _ 25 (mx_isub 26) from sn_280 25) ?_
      refine Ji2l (show mx_Sn _ _ 26 (mx_i2l 27) from sn_280 26) (by omega) ?_
      obtain ⟨z8, hc8, b8⟩ := ct_154_ (d := d + 1) (l := l) (D := D) (b0 := b0) (ad := ad) (Hb := Hb) (tau := tau) hx1 hG1 (show (-9223372036854775808) ≤ x1 ∧ x1 ≤ 9223372036854775807 by omega) (show (-9223372036854775808) ≤ 0 ∧ 0 ≤ 9223372036854775807 by omega) (show (-9223372036854775808) ≤ (Z 56 18) - 1 ∧ (Z 56 18) - 1 ≤ 9223372036854775807 by omega)
      refine Jcs (show mx_Sn _ _ 27 (mx_calls 154 3 30) from sn_280 27) hc8 rfl rfl rfl ?_
      refine Jif_ne (show mx_Sn _ _ 30 (mx_if_ne 36 33) from sn_280 30) (by omega) (fun q9 => ?_) (fun q9 => ?_)
      · skip
        have mh := mn_h (Z := Z) k0 hN9 (s := x1) (by omega) (by omega)
        have hb9 := hln_b hN9 (s := x1) (by omega) (by omega)
        refine mx_J.step (sn_280 36) (fun _ _ => rfl) ?_
        refine mx_J.step (sn_280 37) (fun _ _ => rfl) ?_
        have eq11 : mn Z1 x1 = mn Z x1 := (mn_c (fun i => up_nk hE1 rfl))
        obtain ⟨z10, hc10, b10⟩ := ct_191_56 (d := d + 0) (l := l) (D := D) (b0 := b0) (ad := ad) (Hb := Hb) (tau := tau) hx1 hG1 (show 0 ≤ x1 ∧ x1 ≤ 384 by omega)
        refine Jcv hx1 (show mx_Sn _ _ 38 (mx_callv 191 2 12 41) from sn_280 38) a56 s56 hc10 rfl rfl rfl ?_
        refine mx_J.step (sn_280 41) (fun _ _ => rfl) ?_
        refine JgetR (g := 40) (b := 81) hx1 (show mx_Sn _ _ 42 (mx_getf 12 40 45) from sn_280 42) a56 s56 rfl rfl (hG1.prr 56 40 rfl) ?_
        refine mx_J.step (sn_280 45) (fun _ _ => rfl) ?_
        have b13 : 0 ≤ Z 81 x0 ∧ Z 81 x0 ≤ 40 := hG.pr 81 x0
        refine JialdI (z := Z 81 x0) hx1 (show mx_Sn _ _ 46 (mx_iald 47) from sn_280 46) a81 s81 (by omega) (up_nk hE1 rfl) ?_
        have c64 : ∀ (k14_0 : Int), 0 ≤ k14_0 ∧ k14_0 ≤ 18 → (k14_0 ≤ 18 ∧ 0 ≤ k14_0 ∧ (hln (Z 57 1) x1 ≤ Z 81 x0 → k14_0 = hln (Z 57 1) x1) ∧ (Z 81 x0 < hln (Z 57 1) x1 → k14_0 = Z 81 x0)) → mx_J (tB l D b0 ad Hb tau) mt_280 (d + 2) 64 [some (.ref 56), some (xI x0), some (xI x1), some (xI z2), none, none] [xI k14_0] h1 Post := by
          intro k14_0 f14_0 f14_1
          have eq15 : Z1 81 x0 = Z 81 x0 := (up_nk hE1 rfl)
          refine mx_J.step (ls2 := [some (.ref 56), some (xI x0), some (xI x1), some (xI z2), some (xI k14_0), none]) (sn_280 64) (fun _ _ => rfl) ?_
          refine JcI (z := 0) (show mx_Sn _ _ 66 (mx_const (.int 0) 67) from sn_280 66) rfl ?_
          refine mx_J.step (ls2 := [some (.ref 56), some (xI x0), some (xI x1), some (xI z2), some (xI k14_0), some (xI 0)]) (sn_280 67) (fun _ _ => rfl) ?_
          have c69 : ∀ (m16 : Nat) (w16_5 : Int) (Z17 : xZ) (h17 : mx_H), 18 - w16_5 < (m16 : Int) → 0 ≤ w16_5 ∧ w16_5 ≤ 18 → LI (hpk (Z 57 1) x1) (fun j => Z 82 (40 * x0 + j)) (fun j => Z17 82 (40 * x0 + j)) w16_5 → (∀ i : Int, (i < 40 * x0 ∨ 40 * x0 + 40 ≤ i) → Z17 82 i = Z 82 i) → w16_5 ≤ k14_0 → XH n s S Z17 h17 → GI n S Z17 → fr' [(82, (-1))] Z1 Z17 → mx_J (tB l D b0 ad Hb tau) mt_280 (d + 2) 69 [some (.ref 56), some (xI x0), some (xI x1), some (xI z2), some (xI k14_0), some (xI w16_5)] [] h17 Post := by
            intro m16
            induction m16 with
            | zero => intro w16_5 Z17 h17 q16 f16_0 f16_1 f16_2 f16_3 hx17 hG17 hf17; exact absurd q16 (by omega)
            | succ m16 ih16 =>
              intro w16_5 Z17 h17 q16 f16_0 f16_1 f16_2 f16_3 hx17 hG17 hf17
              refine mx_J.step (sn_280 69) (fun _ _ => rfl) ?_
              refine mx_J.step (sn_280 71) (fun _ _ => rfl) ?_
              refine Jicmp_ge (show mx_Sn _ _ 73 (mx_icmp_ge 102 76) from sn_280 73) (by omega) (by omega) (fun q18 => ?_) (fun q18 => ?_)
              · skip
                refine mx_J.step (sn_280 102) (fun _ _ => rfl) ?_
                have eq19 : Z17 80 x0 = Z 80 x0 := ((hf17 80 x0 rfl).trans (up_nk hE1 rfl))
                have eq20 : Z17 81 x0 = Z 81 x0 := ((hf17 81 x0 rfl).trans (up_nk hE1 rfl))
                have eq21 : Z17 56 18 = Z 56 18 := ((hf17 56 18 rfl).trans (up_ni hE1 (by decide)))
                exact mx_J.ret (sn_280 104) (fun _ _ => rfl) (hP k14_0 Z17 h17 hx17 hG17 (fr_tr (M := [(56, 0), (82, (-1))]) (fr_tr (M := [(56, 0), (82, (-1))]) fr_rf (fr_up hE1) (M1 := []) rfl rfl) (hf17) rfl rfl) ⟨(fun _ _ _ => (show w16_5 = k14_0 by omega) ▸ (by assumption : LI (hpk (Z 57 1) x1) (fun j => Z 82 (40 * x0 + j)) (fun j => Z17 82 (40 * x0 + j)) w16_5)), (fun i q => (by assumption : (∀ i : Int, (i < 40 * x0 ∨ 40 * x0 + 40 ≤ i) → Z17 82 i = Z 82 i)) i (by omega)), by omega⟩)
              · skip
                refine mx_J.step (sn_280 76) (fun _ _ => rfl) ?_
                refine JgetR (g := 41) (b := 82) hx17 (show mx_Sn _ _ 77 (mx_getf 12 41 80) from sn_280 77) a56 s56 rfl rfl (hG17.prr 56 41 rfl) ?_
                refine JcI (z := 40) (show mx_Sn _ _ 80 (mx_const (.int 40) 82) from sn_280 80) rfl ?_
                refine mx_J.step (sn_280 82) (fun _ _ => rfl) ?_
                refine Jimul (show mx_Sn _ _ 83 (mx_imul 84) from sn_280 83) ?_
                refine mx_J.step (sn_280 84) (fun _ _ => rfl) ?_
                refine Jiadd (show mx_Sn _ _ 86 (mx_iadd 87) from sn_280 86) ?_
                refine mx_J.step (sn_280 87) (fun _ _ => rfl) ?_
                refine mx_J.step (sn_280 88) (fun _ _ => rfl) ?_
                refine mx_J.step (sn_280 89) (fun _ _ => rfl) ?_
                have eq24 : Z17 61 (18 * x1 + w16_5) = Z 61 (18 * x1 + w16_5) := ((hf17 61 (18 * x1 + w16_5) rfl).trans (up_nk hE1 rfl))
                have b25 : 0 ≤ Z 61 (18 * x1 + w16_5) ∧ Z 61 (18 * x1 + w16_5) ≤ 18 := hG.pr 61 (18 * x1 + w16_5)
                obtain ⟨z23, hc23, b23⟩ := ct_190_56 (d := d + 1) (l := l) (D := D) (b0 := b0) (ad := ad) (Hb := Hb) (tau := tau) hx17 hG17 (show 0 ≤ x1 ∧ x1 ≤ 384 by omega) (show 0 ≤ w16_5 ∧ w16_5 ≤ 17 by omega)
                try rw [eq24] at b23
                refine Jcv hx17 (show mx_Sn _ _ 91 (mx_callv 190 3 12 94) from sn_280 91) a56 s56 hc23 rfl rfl rfl ?_
                refine Ji2l (show mx_Sn _ _ 94 (mx_i2l 95) from sn_280 94) (by omega) ?_
                refine JlastL hx17 (show mx_Sn _ _ 95 (mx_last 1 96) from sn_280 95) a82 s82 rfl (by omega) (fun Z26 h26 hx26 hE26 => ?_)
                have hG26 := GI_up hG17 hE26 (show (-9223372036854775808) ≤ z23 ∧ z23 ≤ 9223372036854775807 by omega) trivial rfl
                have li1 : LI (hpk (Z 57 1) x1) (fun j => Z 82 (40 * x0 + j)) (fun j => Z26 82 (40 * x0 + j)) (w16_5 + 1) := li_s (by assumption) ((up_at hE26).trans (by have r9 := k0 x1 w16_5 (by omega) (by omega) (by omega) (by omega); omega)) (fun i e => up_ni hE26 (by omega))
                have z2a : (∀ i : Int, (i < 40 * x0 ∨ 40 * x0 + 40 ≤ i) → Z26 82 i = Z 82 i) := fun i q => (up_ni hE26 (by omega)).trans ((by assumption : (∀ i : Int, (i < 40 * x0 ∨ 40 * x0 + 40 ≤ i) → Z17 82 i = Z 82 i)) i q)
                refine Jiinc (z := w16_5) (cz := 1) (ls2 := [some (.ref 56), some (xI x0), some (xI x1), some (xI z2), some (xI k14_0), some (xI (w16_5 + 1))]) (show mx_Sn _ _ 96 (mx_iinc 5 1 99) from sn_280 96) rfl rfl rfl rfl ?_
                refine mx_J.step (sn_280 99) (fun _ _ => rfl) ?_
                exact ih16 (w16_5 + 1) Z26 h26 (by omega) (by omega) (li1) (z2a) (by omega) hx26 hG26 (fr_tr (M := [(82, (-1))]) (fr_tr (M := [(82, (-1))]) fr_rf (hf17) (M1 := []) rfl rfl) (fr_ua hE26) rfl rfl)
          exact c69 (Int.toNat (18 - 0) + 1) 0 Z1 h1 (by omega) (by omega) (by rw [show (fun j => Z1 82 (40 * x0 + j)) = (fun j => Z 82 (40 * x0 + j)) from funext (fun j => (show ∀ i, Z1 82 i = Z 82 i from (fun i => (up_nk hE1 rfl))) _)]; exact li_0) (fun i _ => (show ∀ i, Z1 82 i = Z 82 i from (fun i => (up_nk hE1 rfl))) i) (by omega) hx1 hG1 fr_rf
        refine Jicmp_ge (show mx_Sn _ _ 47 (mx_icmp_ge 58 50) from sn_280 47) (by omega) (by omega) (fun q27 => ?_) (fun q27 => ?_)
        · skip
          refine mx_J.step (sn_280 58) (fun _ _ => rfl) ?_
          refine JgetR (g := 40) (b := 81) hx1 (show mx_Sn _ _ 59 (mx_getf 12 40 62) from sn_280 59) a56 s56 rfl rfl (hG1.prr 56 40 rfl) ?_
          refine mx_J.step (sn_280 62) (fun _ _ => rfl) ?_
          refine JialdI (z := Z 81 x0) hx1 (show mx_Sn _ _ 63 (mx_iald 64) from sn_280 63) a81 s81 (by omega) (up_nk hE1 rfl) ?_
          have eq29 : Z1 81 x0 = Z 81 x0 := (up_nk hE1 rfl)
          exact c64 (Z 81 x0) (by omega) (by omega)
        · skip
          refine mx_J.step (sn_280 50) (fun _ _ => rfl) ?_
          refine mx_J.step (sn_280 51) (fun _ _ => rfl) ?_
          have eq31 : mn Z1 x1 = mn Z x1 := (mn_c (fun i => up_nk hE1 rfl))
          obtain ⟨z30, hc30, b30⟩ := ct_191_56 (d := d + 0) (l := l) (D := D) (b0 := b0) (ad := ad) (Hb := Hb) (tau := tau) hx1 hG1 (show 0 ≤ x1 ∧ x1 ≤ 384 by omega)
          refine Jcv hx1 (show mx_Sn _ _ 52 (mx_callv 191 2 12 55) from sn_280 52) a56 s56 hc30 rfl rfl rfl ?_
          refine mx_J.step (sn_280 55) (fun _ _ => rfl) ?_
          have eq32 : Z1 81 x0 = Z 81 x0 := (up_nk hE1 rfl)
          exact c64 z30 (by omega) (by omega)
      · skip
        refine JcI (z := (-3)) (show mx_Sn _ _ 33 (mx_const (.int (-3)) 35) from sn_280 33) rfl ?_
        have eq33 : Z1 80 x0 = Z 80 x0 := (up_nk hE1 rfl)
        have eq34 : Z1 81 x0 = Z 81 x0 := (up_nk hE1 rfl)
        have b35 : 0 ≤ Z 81 x0 ∧ Z 81 x0 ≤ 40 := hG.pr 81 x0
        have eq36 : Z1 56 18 = Z 56 18 := (up_ni hE1 (by decide))
        exact mx_J.ret (sn_280 35) (fun _ _ => rfl) (hP (-3) Z1 h1 hx1 hG1 (fr_tr (M := [(56, 0), (82, (-1))]) fr_rf (fr_up hE1) (M1 := []) rfl rfl) ⟨(fun _ _ q => absurd q (by decide)), (fun i _ => (show ∀ i, Z1 82 i = Z 82 i from (fun i => (up_nk hE1 rfl))) i), by omega⟩)
    · skip
      refine mx_J.step (sn_280 15) (fun _ _ => rfl) ?_
      have eq37 : Z1 80 x0 = Z 80 x0 := (up_nk hE1 rfl)
      have eq38 : Z1 81 x0 = Z 81 x0 := (up_nk hE1 rfl)
      have b39 : 0 ≤ Z 81 x0 ∧ Z 81 x0 ≤ 40 := hG.pr 81 x0
      have eq40 : Z1 56 18 = Z 56 18 := (up_ni hE1 (by decide))
      have b41 : 0 ≤ Z 56 18 ∧ Z 56 18 ≤ 385 := hG.pr 56 18
      exact mx_J.ret (sn_280 16) (fun _ _ => rfl) (hP z2 Z1 h1 hx1 hG1 (fr_tr (M := [(56, 0), (82, (-1))]) fr_rf (fr_up hE1) (M1 := []) rfl rfl) ⟨(fun _ _ q => absurd q (by omega)), (fun i _ => (show ∀ i, Z1 82 i = Z 82 i from (fun i => (up_nk hE1 rfl))) i), by omega⟩)
theorem ct_280_56 {l : Launch} {D : va_G} {b0 : Nat} {ad : Nat → Nat} {Hb : Heap} {tau : Nat → Int64} {d n s : Nat} {S : Nat → xS} {Z : xZ} {h : mx_H} (hx : XH n s S Z h) (hG : GI n S Z)  {x0 x1 : Int} (p0 : (-2147483648) ≤ x0 ∧ x0 ≤ 2147483647) (p1 : (-2147483648) ≤ x1 ∧ x1 ≤ 2147483647) (k0 : RTB Z (Z 57 1)) (k1 : 1 ≤ Z 57 1) : ∃ (z : Int) (Z' : xZ) (h' : mx_H), mx_Ca (tB l D b0 ad Hb tau) (d + 3) 280 [.ref 56, xI x0, xI x1] h (some (xI z), h') ∧ XH n s S Z' h' ∧ GI n S Z' ∧ fr' [(56, 0), (82, (-1))] Z Z' ∧ ((0 ≤ x0 → x0 ≤ 3 → 0 ≤ z → LI (hpk (Z 57 1) x1) (fun j => Z 82 (40 * x0 + j)) (fun j => Z' 82 (40 * x0 + j)) z) ∧ (∀ i : Int, (z < 0 ∨ i < 40 * x0 ∨ 40 * x0 + 40 ≤ i) → Z' 82 i = Z 82 i) ∧ (-6) ≤ z ∧ z ≤ 18 ∧ (((x0 < 0 ∨ 3 < x0) → z = -2) ∧ (0 ≤ x0 → x0 ≤ 3 → (Z 80 x0 = -1 → z = -6) ∧ (¬ Z 80 x0 = -1 → ((x1 < 0 ∨ pN (Z 57 1) ≤ x1) → z = -3) ∧ (¬ (x1 < 0 ∨ pN (Z 57 1) ≤ x1) → (hln (Z 57 1) x1 ≤ Z 81 x0 → z = hln (Z 57 1) x1) ∧ (Z 81 x0 < hln (Z 57 1) x1 → z = Z 81 x0)))))) := by
  obtain ⟨r, hca, z, Z', h', e, q⟩ := Jmt (B := tB l D b0 ad Hb tau) (M := mt_280) (mi := 280) (as := [.ref 56, xI x0, xI x1]) (d := d + 2) (ls := [some (.ref 56), some (xI x0), some (xI x1), none, none, none]) rfl rfl rfl rfl rfl rfl (cw_280_56 (l := l) (D := D) (b0 := b0) (ad := ad) (Hb := Hb) (tau := tau) (d := d) (Post := fun r => ∃ (z : Int) (Z' : xZ) (h' : mx_H), r = (some (xI z), h') ∧ XH n s S Z' h' ∧ GI n S Z' ∧ fr' [(56, 0), (82, (-1))] Z Z' ∧ ((0 ≤ x0 → x0 ≤ 3 → 0 ≤ z → LI (hpk (Z 57 1) x1) (fun j => Z 82 (40 * x0 + j)) (fun j => Z' 82 (40 * x0 + j)) z) ∧ (∀ i : Int, (z < 0 ∨ i < 40 * x0 ∨ 40 * x0 + 40 ≤ i) → Z' 82 i = Z 82 i) ∧ (-6) ≤ z ∧ z ≤ 18 ∧ (((x0 < 0 ∨ 3 < x0) → z = -2) ∧ (0 ≤ x0 → x0 ≤ 3 → (Z 80 x0 = -1 → z = -6) ∧ (¬ Z 80 x0 = -1 → ((x1 < 0 ∨ pN (Z 57 1) ≤ x1) → z = -3) ∧ (¬ (x1 < 0 ∨ pN (Z 57 1) ≤ x1) → (hln (Z 57 1) x1 ≤ Z 81 x0 → z = hln (Z 57 1) x1) ∧ (Z 81 x0 < hln (Z 57 1) x1 → z = Z 81 x0))))))) hx hG p0 p1 k0 k1 (fun z Z' h' q1 q2 q3 q4 => ⟨z, Z', h', rfl, q1, q2, q3, q4⟩))
  subst e; exact ⟨z, Z', h', hca, q⟩
set_option maxRecDepth 100000 in
theorem cw_283_56 {l : Launch} {D : va_G} {b0 : Nat} {ad : Nat → Nat} {Hb : Heap} {tau : Nat → Int64} {d n s : Nat} {S : Nat → xS} {Z : xZ} {h : mx_H} {Post : mx_R → Prop} (hx : XH n s S Z h) (hG : GI n S Z)  {x0 : Int} (p0 : (-2147483648) ≤ x0 ∧ x0 ≤ 2147483647) (hP : ∀ (z : Int) (Z' : xZ) (h' : mx_H), XH n s S Z' h' → GI n S Z' → fr' [(56, 0)] Z Z' → (-2147483648) ≤ z ∧ z ≤ 2147483647 → Post (some (xI z), h')) : mx_J (tB l D b0 ad Hb tau) mt_283 (d + 2) 0 [some (.ref 56), some (xI x0)] [] h Post := by
    have a56 : 56 < n := lt83 (GI_n hG) rfl
    have s56 : S 56 = .inl (12, [0, 2, 2, 2, 2, 0, 0, 0, 0, 0, 0, 0, 0, 0, 0, 2, 2, 2, 0, 2, 2, 2, 0, 0, 2, 2, 2, 2, 2, 2, 0, 0, 2, 2, 2, 2, 2, 2, 2, 2, 2, 2]) := GI_s hG 56 rfl
    have a57 : 57 < n := lt83 (GI_n hG) rfl
    have s57 : S 57 = .inr (.int, 2886, 0) := GI_s hG 57 rfl
    refine mx_J.step (sn_283 0) (fun _ _ => rfl) ?_
    refine JcI (z := 0) (show mx_Sn _ _ 1 (mx_const (.int 0) 2) from sn_283 1) rfl ?_
    refine JputI (g := 0) hx (show mx_Sn _ _ 2 (mx_putf 1 12 0 (.int) 5) from sn_283 2) a56 s56 rfl rfl rfl rfl (fun Z1 h1 hx1 hE1 => ?_)
    have hG1 := GI_up hG hE1 (show (-2147483648) ≤ 0 ∧ 0 ≤ 2147483647 by omega) trivial rfl
    refine mx_J.step (sn_283 5) (fun _ _ => rfl) ?_
    refine Jtsw (z := x0) (show mx_Sn _ _ 6 (mx_tsw 0 7 [52, 59, 71, 79, 87, 95, 103, 108] 115) from sn_283 6) (by omega) (fun q2 => ?_) (fun q2 => ?_)
    · skip
      refine JcI (z := (-1)) (show mx_Sn _ _ 115 (mx_const (.int (-1)) 116) from sn_283 115) rfl ?_
      exact mx_J.ret (sn_283 116) (fun _ _ => rfl) (hP (-1) Z1 h1 hx1 hG1 (fr_tr (M := [(56, 0)]) fr_rf (fr_up hE1) (M1 := []) rfl rfl) (by omega))
    · skip
      have e2 : x0 = 0 ∨ x0 = 1 ∨ x0 = 2 ∨ x0 = 3 ∨ x0 = 4 ∨ x0 = 5 ∨ x0 = 6 ∨ x0 = 7 := by omega
      rcases e2 with e2 | e2 | e2 | e2 | e2 | e2 | e2 | e2
      · refine ⟨52, by rw [e2]; rfl, ?_⟩
        refine mx_J.step (sn_283 52) (fun _ _ => rfl) ?_
        refine JgetR (g := 1) (b := 57) hx1 (show mx_Sn _ _ 53 (mx_getf 12 1 56) from sn_283 53) a56 s56 rfl rfl (hG1.prr 56 1 rfl) ?_
        refine JcI (z := 1) (show mx_Sn _ _ 56 (mx_const (.int 1) 57) from sn_283 56) rfl ?_
        have b4 : 0 ≤ Z 57 1 ∧ Z 57 1 ≤ 18 := by have hq := GI_ex hG 57 1; replace hq : f57 (1 % 962) (Z 57 1) := hq; unfold f57 at hq; omega
        have b5 : (-2147483648) ≤ Z 57 1 ∧ Z 57 1 ≤ 2147483647 := hG.pr 57 1
        refine JialdI (z := Z 57 1) hx1 (show mx_Sn _ _ 57 (mx_iald 58) from sn_283 57) a57 s57 (by omega) (up_nk hE1 rfl) ?_
        exact mx_J.ret (sn_283 58) (fun _ _ => rfl) (hP (Z 57 1) Z1 h1 hx1 hG1 (fr_tr (M := [(56, 0)]) fr_rf (fr_up hE1) (M1 := []) rfl rfl) (by omega))
      · refine ⟨59, by rw [e2]; rfl, ?_⟩
        refine mx_J.step (sn_283 59) (fun _ _ => rfl) ?_
        refine mx_J.step (sn_283 60) (fun _ _ => rfl) ?_
        refine JgetR (g := 1) (b := 57) hx1 (show mx_Sn _ _ 61 (mx_getf 12 1 64) from sn_283 61) a56 s56 rfl rfl (hG1.prr 56 1 rfl) ?_
        refine JcI (z := 27) (show mx_Sn _ _ 64 (mx_const (.int 27) 66) from sn_283 64) rfl ?_
        have b7 := GI_st hG 27
        have b8 : 0 ≤ Z 56 18 ∧ Z 56 18 ≤ 385 := hG.pr 56 18
        have b9 : 0 ≤ Z 57 27 ∧ Z 57 27 ≤ 384 := by have hq := GI_ex hG 57 27; replace hq : f57 (27 % 962) (Z 57 27) := hq; unfold f57 at hq; omega
        have b10 : (-2147483648) ≤ Z 57 27 ∧ Z 57 27 ≤ 2147483647 := hG.pr 57 27
        refine JialdI (z := Z 57 27) hx1 (show mx_Sn _ _ 66 (mx_iald 67) from sn_283 66) a57 s57 (by omega) (up_nk hE1 rfl) ?_
        have eq12 : mn Z1 (Z 57 27) = mn Z (Z 57 27) := (mn_c (fun i => up_nk hE1 rfl))
        obtain ⟨z11, hc11, b11⟩ := ct_191_56 (d := d + 0) (l := l) (D := D) (b0 := b0) (ad := ad) (Hb := Hb) (tau := tau) hx1 hG1 (show 0 ≤ Z 57 27 ∧ Z 57 27 ≤ 384 by omega)
        refine Jcv hx1 (show mx_Sn _ _ 67 (mx_callv 191 2 12 70) from sn_283 67) a56 s56 hc11 rfl rfl rfl ?_
        exact mx_J.ret (sn_283 70) (fun _ _ => rfl) (hP z11 Z1 h1 hx1 hG1 (fr_tr (M := [(56, 0)]) fr_rf (fr_up hE1) (M1 := []) rfl rfl) (by omega))
      · refine ⟨71, by rw [e2]; rfl, ?_⟩
        refine mx_J.step (sn_283 71) (fun _ _ => rfl) ?_
        refine JgetR (g := 1) (b := 57) hx1 (show mx_Sn _ _ 72 (mx_getf 12 1 75) from sn_283 72) a56 s56 rfl rfl (hG1.prr 56 1 rfl) ?_
        refine JcI (z := 27) (show mx_Sn _ _ 75 (mx_const (.int 27) 77) from sn_283 75) rfl ?_
        have b14 := GI_st hG 27
        have b15 : 0 ≤ Z 56 18 ∧ Z 56 18 ≤ 385 := hG.pr 56 18
        have b16 : 0 ≤ Z 57 27 ∧ Z 57 27 ≤ 384 := by have hq := GI_ex hG 57 27; replace hq : f57 (27 % 962) (Z 57 27) := hq; unfold f57 at hq; omega
        have b17 : (-2147483648) ≤ Z 57 27 ∧ Z 57 27 ≤ 2147483647 := hG.pr 57 27
        refine JialdI (z := Z 57 27) hx1 (show mx_Sn _ _ 77 (mx_iald 78) from sn_283 77) a57 s57 (by omega) (up_nk hE1 rfl) ?_
        exact mx_J.ret (sn_283 78) (fun _ _ => rfl) (hP (Z 57 27) Z1 h1 hx1 hG1 (fr_tr (M := [(56, 0)]) fr_rf (fr_up hE1) (M1 := []) rfl rfl) (by omega))
      · refine ⟨79, by rw [e2]; rfl, ?_⟩
        refine mx_J.step (sn_283 79) (fun _ _ => rfl) ?_
        refine JgetR (g := 1) (b := 57) hx1 (show mx_Sn _ _ 80 (mx_getf 12 1 83) from sn_283 80) a56 s56 rfl rfl (hG1.prr 56 1 rfl) ?_
        refine JcI (z := 28) (show mx_Sn _ _ 83 (mx_const (.int 28) 85) from sn_283 83) rfl ?_
        have b19 : 0 ≤ Z 57 28 ∧ Z 57 28 ≤ 9 := by have hq := GI_ex hG 57 28; replace hq : f57 (28 % 962) (Z 57 28) := hq; unfold f57 at hq; omega
        have b20 : (-2147483648) ≤ Z 57 28 ∧ Z 57 28 ≤ 2147483647 := hG.pr 57 28
        refine JialdI (z := Z 57 28) hx1 (show mx_Sn _ _ 85 (mx_iald 86) from sn_283 85) a57 s57 (by omega) (up_nk hE1 rfl) ?_
        exact mx_J.ret (sn_283 86) (fun _ _ => rfl) (hP (Z 57 28) Z1 h1 hx1 hG1 (fr_tr (M := [(56, 0)]) fr_rf (fr_up hE1) (M1 := []) rfl rfl) (by omega))
      · refine ⟨87, by rw [e2]; rfl, ?_⟩
        refine mx_J.step (sn_283 87) (fun _ _ => rfl) ?_
        refine JgetR (g := 1) (b := 57) hx1 (show mx_Sn _ _ 88 (mx_getf 12 1 91) from sn_283 88) a56 s56 rfl rfl (hG1.prr 56 1 rfl) ?_
        refine JcI (z := 29) (show mx_Sn _ _ 91 (mx_const (.int 29) 93) from sn_283 91) rfl ?_
        have b22 : (-2147483648) ≤ Z 57 29 ∧ Z 57 29 ≤ 2147483647 := hG.pr 57 29
        refine JialdI (z := Z 57 29) hx1 (show mx_Sn _ _ 93 (mx_iald 94) from sn_283 93) a57 s57 (by omega) (up_nk hE1 rfl) ?_
        exact mx_J.ret (sn_283 94) (fun _ _ => rfl) (hP (Z 57 29) Z1 h1 hx1 hG1 (fr_tr (M := [(56, 0)]) fr_rf (fr_up hE1) (M1 := []) rfl rfl) (by omega))
      · refine ⟨95, by rw [e2]; rfl, ?_⟩
        refine mx_J.step (sn_283 95) (fun _ _ => rfl) ?_
        refine JgetR (g := 1) (b := 57) hx1 (show mx_Sn _ _ 96 (mx_getf 12 1 99) from sn_283 96) a56 s56 rfl rfl (hG1.prr 56 1 rfl) ?_
        refine JcI (z := 30) (show mx_Sn _ _ 99 (mx_const (.int 30) 101) from sn_283 99) rfl ?_
        have b24 : 0 ≤ Z 57 30 ∧ Z 57 30 ≤ 10 := by have hq := GI_ex hG 57 30; replace hq : f57 (30 % 962) (Z 57 30) := hq; unfold f57 at hq; omega
        have b25 : (-2147483648) ≤ Z 57 30 ∧ Z 57 30 ≤ 2147483647 := hG.pr 57 30
        refine JialdI (z := Z 57 30) hx1 (show mx_Sn _ _ 101 (mx_iald 102) from sn_283 101) a57 s57 (by omega) (up_nk hE1 rfl) ?_
        exact mx_J.ret (sn_283 102) (fun _ _ => rfl) (hP (Z 57 30) Z1 h1 hx1 hG1 (fr_tr (M := [(56, 0)]) fr_rf (fr_up hE1) (M1 := []) rfl rfl) (by omega))
      · refine ⟨103, by rw [e2]; rfl, ?_⟩
        refine mx_J.step (sn_283 103) (fun _ _ => rfl) ?_
        have b27 : 0 ≤ Z 56 5 ∧ Z 56 5 ≤ 900 := hG.pr 56 5
        refine JgetI (g := 5) (z := Z 56 5) hx1 (show mx_Sn _ _ 104 (mx_getf 12 5 107) from sn_283 104) a56 s56 rfl rfl (up_ni hE1 (by decide)) ?_
        exact mx_J.ret (sn_283 107) (fun _ _ => rfl) (hP (Z 56 5) Z1 h1 hx1 hG1 (fr_tr (M := [(56, 0)]) fr_rf (fr_up hE1) (M1 := []) rfl rfl) (by omega))
      · refine ⟨108, by rw [e2]; rfl, ?_⟩
        refine mx_J.step (sn_283 108) (fun _ _ => rfl) ?_
        refine JgetR (g := 1) (b := 57) hx1 (show mx_Sn _ _ 109 (mx_getf 12 1 112) from sn_283 109) a56 s56 rfl rfl (hG1.prr 56 1 rfl) ?_
        refine JcI (z := 0) (show mx_Sn _ _ 112 (mx_const (.int 0) 113) from sn_283 112) rfl ?_
        have b29 : (-2147483648) ≤ Z 57 0 ∧ Z 57 0 ≤ 2147483647 := hG.pr 57 0
        refine JialdI (z := Z 57 0) hx1 (show mx_Sn _ _ 113 (mx_iald 114) from sn_283 113) a57 s57 (by omega) (up_nk hE1 rfl) ?_
        exact mx_J.ret (sn_283 114) (fun _ _ => rfl) (hP (Z 57 0) Z1 h1 hx1 hG1 (fr_tr (M := [(56, 0)]) fr_rf (fr_up hE1) (M1 := []) rfl rfl) (by omega))
theorem ct_283_56 {l : Launch} {D : va_G} {b0 : Nat} {ad : Nat → Nat} {Hb : Heap} {tau : Nat → Int64} {d n s : Nat} {S : Nat → xS} {Z : xZ} {h : mx_H} (hx : XH n s S Z h) (hG : GI n S Z)  {x0 : Int} (p0 : (-2147483648) ≤ x0 ∧ x0 ≤ 2147483647) : ∃ (z : Int) (Z' : xZ) (h' : mx_H), mx_Ca (tB l D b0 ad Hb tau) (d + 3) 283 [.ref 56, xI x0] h (some (xI z), h') ∧ XH n s S Z' h' ∧ GI n S Z' ∧ fr' [(56, 0)] Z Z' ∧ ((-2147483648) ≤ z ∧ z ≤ 2147483647) := by
  obtain ⟨r, hca, z, Z', h', e, q⟩ := Jmt (B := tB l D b0 ad Hb tau) (M := mt_283) (mi := 283) (as := [.ref 56, xI x0]) (d := d + 2) (ls := [some (.ref 56), some (xI x0)]) rfl rfl rfl rfl rfl rfl (cw_283_56 (l := l) (D := D) (b0 := b0) (ad := ad) (Hb := Hb) (tau := tau) (d := d) (Post := fun r => ∃ (z : Int) (Z' : xZ) (h' : mx_H), r = (some (xI z), h') ∧ XH n s S Z' h' ∧ GI n S Z' ∧ fr' [(56, 0)] Z Z' ∧ ((-2147483648) ≤ z ∧ z ≤ 2147483647)) hx hG p0 (fun z Z' h' q1 q2 q3 q4 => ⟨z, Z', h', rfl, q1, q2, q3, q4⟩))
  subst e; exact ⟨z, Z', h', hca, q⟩
set_option maxRecDepth 100000 in
theorem cw_223_56_i6 {l : Launch} {D : va_G} {b0 : Nat} {ad : Nat → Nat} {Hb : Heap} {tau : Nat → Int64} {d n s : Nat} {S : Nat → xS} {Z : xZ} {h : mx_H} {Post : mx_R → Prop} (hx : XH n s S Z h) (hG : GI n S Z)   (hP : ∀ (z : Int) (Z' : xZ) (h' : mx_H), XH n s S Z' h' → GI n S Z' → fr' [(56, 23)] Z Z' → 0 ≤ z ∧ z ≤ 5 → Post (some (xI z), h')) : mx_J (tB l D b0 ad Hb tau) mt_223 (d + 0) 0 [some (.ref 56), some (xI 6)] [] h Post := by
    have a56 : 56 < n := lt83 (GI_n hG) rfl
    have s56 : S 56 = .inl (12, [0, 2, 2, 2, 2, 0, 0, 0, 0, 0, 0, 0, 0, 0, 0, 2, 2, 2, 0, 2, 2, 2, 0, 0, 2, 2, 2, 2, 2, 2, 0, 0, 2, 2, 2, 2, 2, 2, 2, 2, 2, 2]) := GI_s hG 56 rfl
    refine mx_J.step (sn_223 0) (fun _ _ => rfl) ?_
    refine JcI (z := 1103515245) (show mx_Sn _ _ 1 (mx_const (.int 1103515245) 4) from sn_223 1) rfl ?_
    refine mx_J.step (sn_223 4) (fun _ _ => rfl) ?_
    have b2 : (-2147483648) ≤ Z 56 23 ∧ Z 56 23 ≤ 2147483647 := hG.pr 56 23
    refine JgetI (g := 23) (z := Z 56 23) hx (show mx_Sn _ _ 5 (mx_getf 12 23 8) from sn_223 5) a56 s56 rfl rfl rfl ?_
    refine JimulN (show mx_Sn _ _ 8 (mx_imul 9) from sn_223 8) (fun y3 hy3 hq3 => ?_)
    refine JcI (z := 12345) (show mx_Sn _ _ 9 (mx_const (.int 12345) 12) from sn_223 9) rfl ?_
    refine JiaddN (show mx_Sn _ _ 12 (mx_iadd 13) from sn_223 12) (fun y4 hy4 hq4 => ?_)
    refine JputI (g := 23) hx (show mx_Sn _ _ 13 (mx_putf 1 12 23 (.int) 16) from sn_223 13) a56 s56 rfl rfl rfl rfl (fun Z5 h5 hx5 hE5 => ?_)
    have hG5 := GI_up hG hE5 (show (-2147483648) ≤ y4 ∧ y4 ≤ 2147483647 by omega) trivial rfl
    refine mx_J.step (sn_223 16) (fun _ _ => rfl) ?_
    refine JgetI (g := 23) (z := y4) hx5 (show mx_Sn _ _ 17 (mx_getf 12 23 20) from sn_223 17) a56 s56 rfl rfl (up_at hE5) ?_
    refine JcI (z := 16) (show mx_Sn _ _ 20 (mx_const (.int 16) 22) from sn_223 20) rfl ?_
    refine Jiushr16 (show mx_Sn _ _ 22 (mx_iushr 23) from sn_223 22) (fun y7 hy7 => ?_)
    refine mx_J.step (sn_223 23) (fun _ _ => rfl) ?_
    refine Jirem (show mx_Sn _ _ 24 (mx_irem 25) from sn_223 24) (by omega) (by omega) ?_
    exact mx_J.ret (sn_223 25) (fun _ _ => rfl) (hP (y7 % 6) Z5 h5 hx5 hG5 (fr_tr (M := [(56, 23)]) fr_rf (fr_up hE5) (M1 := []) rfl rfl) (by omega))
theorem ct_223_56_i6 {l : Launch} {D : va_G} {b0 : Nat} {ad : Nat → Nat} {Hb : Heap} {tau : Nat → Int64} {d n s : Nat} {S : Nat → xS} {Z : xZ} {h : mx_H} (hx : XH n s S Z h) (hG : GI n S Z)   : ∃ (z : Int) (Z' : xZ) (h' : mx_H), mx_Ca (tB l D b0 ad Hb tau) (d + 1) 223 [.ref 56, xI 6] h (some (xI z), h') ∧ XH n s S Z' h' ∧ GI n S Z' ∧ fr' [(56, 23)] Z Z' ∧ (0 ≤ z ∧ z ≤ 5) := by
  obtain ⟨r, hca, z, Z', h', e, q⟩ := Jmt (B := tB l D b0 ad Hb tau) (M := mt_223) (mi := 223) (as := [.ref 56, xI 6]) (d := d + 0) (ls := [some (.ref 56), some (xI 6)]) rfl rfl rfl rfl rfl rfl (cw_223_56_i6 (l := l) (D := D) (b0 := b0) (ad := ad) (Hb := Hb) (tau := tau) (d := d) (Post := fun r => ∃ (z : Int) (Z' : xZ) (h' : mx_H), r = (some (xI z), h') ∧ XH n s S Z' h' ∧ GI n S Z' ∧ fr' [(56, 23)] Z Z' ∧ (0 ≤ z ∧ z ≤ 5)) hx hG  (fun z Z' h' q1 q2 q3 q4 => ⟨z, Z', h', rfl, q1, q2, q3, q4⟩))
  subst e; exact ⟨z, Z', h', hca, q⟩
set_option maxRecDepth 100000 in
theorem cw_223_56_i8 {l : Launch} {D : va_G} {b0 : Nat} {ad : Nat → Nat} {Hb : Heap} {tau : Nat → Int64} {d n s : Nat} {S : Nat → xS} {Z : xZ} {h : mx_H} {Post : mx_R → Prop} (hx : XH n s S Z h) (hG : GI n S Z)   (hP : ∀ (z : Int) (Z' : xZ) (h' : mx_H), XH n s S Z' h' → GI n S Z' → fr' [(56, 23)] Z Z' → 0 ≤ z ∧ z ≤ 7 → Post (some (xI z), h')) : mx_J (tB l D b0 ad Hb tau) mt_223 (d + 0) 0 [some (.ref 56), some (xI 8)] [] h Post := by
    have a56 : 56 < n := lt83 (GI_n hG) rfl
    have s56 : S 56 = .inl (12, [0, 2, 2, 2, 2, 0, 0, 0, 0, 0, 0, 0, 0, 0, 0, 2, 2, 2, 0, 2, 2, 2, 0, 0, 2, 2, 2, 2, 2, 2, 0, 0, 2, 2, 2, 2, 2, 2, 2, 2, 2, 2]) := GI_s hG 56 rfl
    refine mx_J.step (sn_223 0) (fun _ _ => rfl) ?_
    refine JcI (z := 1103515245) (show mx_Sn _ _ 1 (mx_const (.int 1103515245) 4) from sn_223 1) rfl ?_
    refine mx_J.step (sn_223 4) (fun _ _ => rfl) ?_
    have b2 : (-2147483648) ≤ Z 56 23 ∧ Z 56 23 ≤ 2147483647 := hG.pr 56 23
    refine JgetI (g := 23) (z := Z 56 23) hx (show mx_Sn _ _ 5 (mx_getf 12 23 8) from sn_223 5) a56 s56 rfl rfl rfl ?_
    refine JimulN (show mx_Sn _ _ 8 (mx_imul 9) from sn_223 8) (fun y3 hy3 hq3 => ?_)
    refine JcI (z := 12345) (show mx_Sn _ _ 9 (mx_const (.int 12345) 12) from sn_223 9) rfl ?_
    refine JiaddN (show mx_Sn _ _ 12 (mx_iadd 13) from sn_223 12) (fun y4 hy4 hq4 => ?_)
    refine JputI (g := 23) hx (show mx_Sn _ _ 13 (mx_putf 1 12 23 (.int) 16) from sn_223 13) a56 s56 rfl rfl rfl rfl (fun Z5 h5 hx5 hE5 => ?_)
    have hG5 := GI_up hG hE5 (show (-2147483648) ≤ y4 ∧ y4 ≤ 2147483647 by omega) trivial rfl
    refine mx_J.step (sn_223 16) (fun _ _ => rfl) ?_
    refine JgetI (g := 23) (z := y4) hx5 (show mx_Sn _ _ 17 (mx_getf 12 23 20) from sn_223 17) a56 s56 rfl rfl (up_at hE5) ?_
    refine JcI (z := 16) (show mx_Sn _ _ 20 (mx_const (.int 16) 22) from sn_223 20) rfl ?_
    refine Jiushr16 (show mx_Sn _ _ 22 (mx_iushr 23) from sn_223 22) (fun y7 hy7 => ?_)
    refine mx_J.step (sn_223 23) (fun _ _ => rfl) ?_
    refine Jirem (show mx_Sn _ _ 24 (mx_irem 25) from sn_223 24) (by omega) (by omega) ?_
    exact mx_J.ret (sn_223 25) (fun _ _ => rfl) (hP (y7 % 8) Z5 h5 hx5 hG5 (fr_tr (M := [(56, 23)]) fr_rf (fr_up hE5) (M1 := []) rfl rfl) (by omega))
theorem ct_223_56_i8 {l : Launch} {D : va_G} {b0 : Nat} {ad : Nat → Nat} {Hb : Heap} {tau : Nat → Int64} {d n s : Nat} {S : Nat → xS} {Z : xZ} {h : mx_H} (hx : XH n s S Z h) (hG : GI n S Z)   : ∃ (z : Int) (Z' : xZ) (h' : mx_H), mx_Ca (tB l D b0 ad Hb tau) (d + 1) 223 [.ref 56, xI 8] h (some (xI z), h') ∧ XH n s S Z' h' ∧ GI n S Z' ∧ fr' [(56, 23)] Z Z' ∧ (0 ≤ z ∧ z ≤ 7) := by
  obtain ⟨r, hca, z, Z', h', e, q⟩ := Jmt (B := tB l D b0 ad Hb tau) (M := mt_223) (mi := 223) (as := [.ref 56, xI 8]) (d := d + 0) (ls := [some (.ref 56), some (xI 8)]) rfl rfl rfl rfl rfl rfl (cw_223_56_i8 (l := l) (D := D) (b0 := b0) (ad := ad) (Hb := Hb) (tau := tau) (d := d) (Post := fun r => ∃ (z : Int) (Z' : xZ) (h' : mx_H), r = (some (xI z), h') ∧ XH n s S Z' h' ∧ GI n S Z' ∧ fr' [(56, 23)] Z Z' ∧ (0 ≤ z ∧ z ≤ 7)) hx hG  (fun z Z' h' q1 q2 q3 q4 => ⟨z, Z', h', rfl, q1, q2, q3, q4⟩))
  subst e; exact ⟨z, Z', h', hca, q⟩
set_option maxRecDepth 100000 in
theorem cw_223_56_i10 {l : Launch} {D : va_G} {b0 : Nat} {ad : Nat → Nat} {Hb : Heap} {tau : Nat → Int64} {d n s : Nat} {S : Nat → xS} {Z : xZ} {h : mx_H} {Post : mx_R → Prop} (hx : XH n s S Z h) (hG : GI n S Z)   (hP : ∀ (z : Int) (Z' : xZ) (h' : mx_H), XH n s S Z' h' → GI n S Z' → fr' [(56, 23)] Z Z' → 0 ≤ z ∧ z ≤ 9 → Post (some (xI z), h')) : mx_J (tB l D b0 ad Hb tau) mt_223 (d + 0) 0 [some (.ref 56), some (xI 10)] [] h Post := by
    have a56 : 56 < n := lt83 (GI_n hG) rfl
    have s56 : S 56 = .inl (12, [0, 2, 2, 2, 2, 0, 0, 0, 0, 0, 0, 0, 0, 0, 0, 2, 2, 2, 0, 2, 2, 2, 0, 0, 2, 2, 2, 2, 2, 2, 0, 0, 2, 2, 2, 2, 2, 2, 2, 2, 2, 2]) := GI_s hG 56 rfl
    refine mx_J.step (sn_223 0) (fun _ _ => rfl) ?_
    refine JcI (z := 1103515245) (show mx_Sn _ _ 1 (mx_const (.int 1103515245) 4) from sn_223 1) rfl ?_
    refine mx_J.step (sn_223 4) (fun _ _ => rfl) ?_
    have b2 : (-2147483648) ≤ Z 56 23 ∧ Z 56 23 ≤ 2147483647 := hG.pr 56 23
    refine JgetI (g := 23) (z := Z 56 23) hx (show mx_Sn _ _ 5 (mx_getf 12 23 8) from sn_223 5) a56 s56 rfl rfl rfl ?_
    refine JimulN (show mx_Sn _ _ 8 (mx_imul 9) from sn_223 8) (fun y3 hy3 hq3 => ?_)
    refine JcI (z := 12345) (show mx_Sn _ _ 9 (mx_const (.int 12345) 12) from sn_223 9) rfl ?_
    refine JiaddN (show mx_Sn _ _ 12 (mx_iadd 13) from sn_223 12) (fun y4 hy4 hq4 => ?_)
    refine JputI (g := 23) hx (show mx_Sn _ _ 13 (mx_putf 1 12 23 (.int) 16) from sn_223 13) a56 s56 rfl rfl rfl rfl (fun Z5 h5 hx5 hE5 => ?_)
    have hG5 := GI_up hG hE5 (show (-2147483648) ≤ y4 ∧ y4 ≤ 2147483647 by omega) trivial rfl
    refine mx_J.step (sn_223 16) (fun _ _ => rfl) ?_
    refine JgetI (g := 23) (z := y4) hx5 (show mx_Sn _ _ 17 (mx_getf 12 23 20) from sn_223 17) a56 s56 rfl rfl (up_at hE5) ?_
    refine JcI (z := 16) (show mx_Sn _ _ 20 (mx_const (.int 16) 22) from sn_223 20) rfl ?_
    refine Jiushr16 (show mx_Sn _ _ 22 (mx_iushr 23) from sn_223 22) (fun y7 hy7 => ?_)
    refine mx_J.step (sn_223 23) (fun _ _ => rfl) ?_
    refine Jirem (show mx_Sn _ _ 24 (mx_irem 25) from sn_223 24) (by omega) (by omega) ?_
    exact mx_J.ret (sn_223 25) (fun _ _ => rfl) (hP (y7 % 10) Z5 h5 hx5 hG5 (fr_tr (M := [(56, 23)]) fr_rf (fr_up hE5) (M1 := []) rfl rfl) (by omega))
theorem ct_223_56_i10 {l : Launch} {D : va_G} {b0 : Nat} {ad : Nat → Nat} {Hb : Heap} {tau : Nat → Int64} {d n s : Nat} {S : Nat → xS} {Z : xZ} {h : mx_H} (hx : XH n s S Z h) (hG : GI n S Z)   : ∃ (z : Int) (Z' : xZ) (h' : mx_H), mx_Ca (tB l D b0 ad Hb tau) (d + 1) 223 [.ref 56, xI 10] h (some (xI z), h') ∧ XH n s S Z' h' ∧ GI n S Z' ∧ fr' [(56, 23)] Z Z' ∧ (0 ≤ z ∧ z ≤ 9) := by
  obtain ⟨r, hca, z, Z', h', e, q⟩ := Jmt (B := tB l D b0 ad Hb tau) (M := mt_223) (mi := 223) (as := [.ref 56, xI 10]) (d := d + 0) (ls := [some (.ref 56), some (xI 10)]) rfl rfl rfl rfl rfl rfl (cw_223_56_i10 (l := l) (D := D) (b0 := b0) (ad := ad) (Hb := Hb) (tau := tau) (d := d) (Post := fun r => ∃ (z : Int) (Z' : xZ) (h' : mx_H), r = (some (xI z), h') ∧ XH n s S Z' h' ∧ GI n S Z' ∧ fr' [(56, 23)] Z Z' ∧ (0 ≤ z ∧ z ≤ 9)) hx hG  (fun z Z' h' q1 q2 q3 q4 => ⟨z, Z', h', rfl, q1, q2, q3, q4⟩))
  subst e; exact ⟨z, Z', h', hca, q⟩
set_option maxRecDepth 100000 in
theorem cw_224_56 {l : Launch} {D : va_G} {b0 : Nat} {ad : Nat → Nat} {Hb : Heap} {tau : Nat → Int64} {d n s : Nat} {S : Nat → xS} {Z : xZ} {h : mx_H} {Post : mx_R → Prop} (hx : XH n s S Z h) (hG : GI n S Z)   (hP : ∀ (z : Int) (Z' : xZ) (h' : mx_H), XH n s S Z' h' → GI n S Z' → fr' [(56, 23)] Z Z' → 0 ≤ z ∧ z ≤ 3505 → Post (some (xI z), h')) : mx_J (tB l D b0 ad Hb tau) mt_224 (d + 1) 0 [some (.ref 56), none, none] [] h Post := by
    have a56 : 56 < n := lt83 (GI_n hG) rfl
    have s56 : S 56 = .inl (12, [0, 2, 2, 2, 2, 0, 0, 0, 0, 0, 0, 0, 0, 0, 0, 2, 2, 2, 0, 2, 2, 2, 0, 0, 2, 2, 2, 2, 2, 2, 0, 0, 2, 2, 2, 2, 2, 2, 2, 2, 2, 2]) := GI_s hG 56 rfl
    refine mx_J.step (sn_224 0) (fun _ _ => rfl) ?_
    refine JcI (z := 6) (show mx_Sn _ _ 1 (mx_const (.int 6) 3) from sn_224 1) rfl ?_
    obtain ⟨z1, Z1, h1, hc1, hx1, hG1, hf1, b1⟩ := ct_223_56_i6 (d := d + 0) (l := l) (D := D) (b0 := b0) (ad := ad) (Hb := Hb) (tau := tau) hx hG 
    refine Jcv hx (show mx_Sn _ _ 3 (mx_callv 223 2 12 6) from sn_224 3) a56 s56 hc1 rfl rfl rfl ?_
    refine mx_J.step (ls2 := [some (.ref 56), some (xI z1), none]) (sn_224 6) (fun _ _ => rfl) ?_
    refine mx_J.step (sn_224 7) (fun _ _ => rfl) ?_
    refine JcI (z := 5) (show mx_Sn _ _ 8 (mx_const (.int 5) 9) from sn_224 8) rfl ?_
    refine Jicmp_ge (show mx_Sn _ _ 9 (mx_icmp_ge 45 12) from sn_224 9) (by omega) (by omega) (fun q2 => ?_) (fun q2 => ?_)
    · skip
      refine mx_J.step (sn_224 45) (fun _ _ => rfl) ?_
      refine JcI (z := 6) (show mx_Sn _ _ 46 (mx_const (.int 6) 48) from sn_224 46) rfl ?_
      obtain ⟨z3, Z3, h3, hc3, hx3, hG3, hf3, b3⟩ := ct_223_56_i6 (d := d + 0) (l := l) (D := D) (b0 := b0) (ad := ad) (Hb := Hb) (tau := tau) hx1 hG1 
      refine Jcv hx1 (show mx_Sn _ _ 48 (mx_callv 223 2 12 51) from sn_224 48) a56 s56 hc3 rfl rfl rfl ?_
      refine mx_J.step (ls2 := [some (.ref 56), some (xI z1), some (xI z3)]) (sn_224 51) (fun _ _ => rfl) ?_
      refine JcI (z := 3000) (show mx_Sn _ _ 52 (mx_const (.int 3000) 55) from sn_224 52) rfl ?_
      refine JcI (z := 100) (show mx_Sn _ _ 55 (mx_const (.int 100) 57) from sn_224 55) rfl ?_
      refine mx_J.step (sn_224 57) (fun _ _ => rfl) ?_
      refine Jimul (show mx_Sn _ _ 58 (mx_imul 59) from sn_224 58) ?_
      refine Jiadd (show mx_Sn _ _ 59 (mx_iadd 60) from sn_224 59) ?_
      refine mx_J.step (sn_224 60) (fun _ _ => rfl) ?_
      refine JcI (z := 6) (show mx_Sn _ _ 61 (mx_const (.int 6) 63) from sn_224 61) rfl ?_
      obtain ⟨z4, Z4, h4, hc4, hx4, hG4, hf4, b4⟩ := ct_223_56_i6 (d := d + 0) (l := l) (D := D) (b0 := b0) (ad := ad) (Hb := Hb) (tau := tau) hx3 hG3 
      refine Jcv hx3 (show mx_Sn _ _ 63 (mx_callv 223 2 12 66) from sn_224 63) a56 s56 hc4 rfl rfl rfl ?_
      refine Jiadd (show mx_Sn _ _ 66 (mx_iadd 67) from sn_224 66) ?_
      exact mx_J.ret (sn_224 67) (fun _ _ => rfl) (hP ((3000 + (100 * z3)) + z4) Z4 h4 hx4 hG4 (fr_tr (M := [(56, 23)]) (fr_tr (M := [(56, 23)]) (fr_tr (M := [(56, 23)]) fr_rf (hf1) (M1 := []) rfl rfl) (hf3) rfl rfl) (hf4) rfl rfl) (by omega))
    · skip
      refine mx_J.step (sn_224 12) (fun _ _ => rfl) ?_
      refine JcI (z := 3) (show mx_Sn _ _ 13 (mx_const (.int 3) 14) from sn_224 13) rfl ?_
      have c44 : ∀ (k5_0 : Int) (Z6 : xZ) (h6 : mx_H), 0 ≤ k5_0 ∧ k5_0 ≤ 29 → XH n s S Z6 h6 → GI n S Z6 → fr' [(56, 23)] Z1 Z6 → mx_J (tB l D b0 ad Hb tau) mt_224 (d + 1) 44 [some (.ref 56), some (xI z1), none] [xI k5_0] h6 Post := by
        intro k5_0 Z6 h6 f5_0 hx6 hG6 hf6
        exact mx_J.ret (sn_224 44) (fun _ _ => rfl) (hP k5_0 Z6 h6 hx6 hG6 (fr_tr (M := [(56, 23)]) (fr_tr (M := [(56, 23)]) fr_rf (hf1) (M1 := []) rfl rfl) (hf6) rfl rfl) (by omega))
      refine Jicmp_ge (show mx_Sn _ _ 14 (mx_icmp_ge 21 17) from sn_224 14) (by omega) (by omega) (fun q7 => ?_) (fun q7 => ?_)
      · skip
        refine mx_J.step (sn_224 21) (fun _ _ => rfl) ?_
        refine JcI (z := 3) (show mx_Sn _ _ 22 (mx_const (.int 3) 23) from sn_224 22) rfl ?_
        refine Jicmp_ne (show mx_Sn _ _ 23 (mx_icmp_ne 35 26) from sn_224 23) (by omega) (by omega) (fun q8 => ?_) (fun q8 => ?_)
        · skip
          refine JcI (z := 20) (show mx_Sn _ _ 35 (mx_const (.int 20) 37) from sn_224 35) rfl ?_
          refine mx_J.step (sn_224 37) (fun _ _ => rfl) ?_
          refine JcI (z := 10) (show mx_Sn _ _ 38 (mx_const (.int 10) 40) from sn_224 38) rfl ?_
          obtain ⟨z9, Z9, h9, hc9, hx9, hG9, hf9, b9⟩ := ct_223_56_i10 (d := d + 0) (l := l) (D := D) (b0 := b0) (ad := ad) (Hb := Hb) (tau := tau) hx1 hG1 
          refine Jcv hx1 (show mx_Sn _ _ 40 (mx_callv 223 2 12 43) from sn_224 40) a56 s56 hc9 rfl rfl rfl ?_
          refine Jiadd (show mx_Sn _ _ 43 (mx_iadd 44) from sn_224 43) ?_
          exact c44 (20 + z9) Z9 h9 (by omega) hx9 hG9 (fr_tr (M := [(56, 23)]) fr_rf (hf9) (M1 := []) rfl rfl)
        · skip
          refine mx_J.step (sn_224 26) (fun _ _ => rfl) ?_
          refine JcI (z := 8) (show mx_Sn _ _ 27 (mx_const (.int 8) 29) from sn_224 27) rfl ?_
          obtain ⟨z10, Z10, h10, hc10, hx10, hG10, hf10, b10⟩ := ct_223_56_i8 (d := d + 0) (l := l) (D := D) (b0 := b0) (ad := ad) (Hb := Hb) (tau := tau) hx1 hG1 
          refine Jcv hx1 (show mx_Sn _ _ 29 (mx_callv 223 2 12 32) from sn_224 29) a56 s56 hc10 rfl rfl rfl ?_
          refine mx_J.step (sn_224 32) (fun _ _ => rfl) ?_
          exact c44 z10 Z10 h10 (by omega) hx10 hG10 (fr_tr (M := [(56, 23)]) fr_rf (hf10) (M1 := []) rfl rfl)
      · skip
        refine JcI (z := 0) (show mx_Sn _ _ 17 (mx_const (.int 0) 18) from sn_224 17) rfl ?_
        refine mx_J.step (sn_224 18) (fun _ _ => rfl) ?_
        exact c44 0 Z1 h1 (by omega) hx1 hG1 fr_rf
theorem ct_224_56 {l : Launch} {D : va_G} {b0 : Nat} {ad : Nat → Nat} {Hb : Heap} {tau : Nat → Int64} {d n s : Nat} {S : Nat → xS} {Z : xZ} {h : mx_H} (hx : XH n s S Z h) (hG : GI n S Z)   : ∃ (z : Int) (Z' : xZ) (h' : mx_H), mx_Ca (tB l D b0 ad Hb tau) (d + 2) 224 [.ref 56] h (some (xI z), h') ∧ XH n s S Z' h' ∧ GI n S Z' ∧ fr' [(56, 23)] Z Z' ∧ (0 ≤ z ∧ z ≤ 3505) := by
  obtain ⟨r, hca, z, Z', h', e, q⟩ := Jmt (B := tB l D b0 ad Hb tau) (M := mt_224) (mi := 224) (as := [.ref 56]) (d := d + 1) (ls := [some (.ref 56), none, none]) rfl rfl rfl rfl rfl rfl (cw_224_56 (l := l) (D := D) (b0 := b0) (ad := ad) (Hb := Hb) (tau := tau) (d := d) (Post := fun r => ∃ (z : Int) (Z' : xZ) (h' : mx_H), r = (some (xI z), h') ∧ XH n s S Z' h' ∧ GI n S Z' ∧ fr' [(56, 23)] Z Z' ∧ (0 ≤ z ∧ z ≤ 3505)) hx hG  (fun z Z' h' q1 q2 q3 q4 => ⟨z, Z', h', rfl, q1, q2, q3, q4⟩))
  subst e; exact ⟨z, Z', h', hca, q⟩
set_option maxRecDepth 100000 in
theorem cw_193_ {l : Launch} {D : va_G} {b0 : Nat} {ad : Nat → Nat} {Hb : Heap} {tau : Nat → Int64} {d n s : Nat} {S : Nat → xS} {Z : xZ} {h : mx_H} {Post : mx_R → Prop} (hx : XH n s S Z h) (hG : GI n S Z)  {x0 x1 x2 : Int} (p0 : (-2147483648) ≤ x0 ∧ x0 ≤ 2147483647) (p1 : (-2147483648) ≤ x1 ∧ x1 ≤ 2147483647) (p2 : (-2147483648) ≤ x2 ∧ x2 ≤ 2147483647) (hP : ∀ z : Int, (-2147483648) ≤ z ∧ z ≤ 2147483647 → Post (some (xI z), h)) : mx_J (tB l D b0 ad Hb tau) mt_193 (d + 0) 0 [some (xI x0), some (xI x1), some (xI x2), none, none] [] h Post := by
    refine mx_J.step (sn_193 0) (fun _ _ => rfl) ?_
    refine Jtsw (z := x0) (show mx_Sn _ _ 1 (mx_tsw 3003 3008 [40, 51, 62, 81, 73, 77] 81) from sn_193 1) (by omega) (fun q1 => ?_) (fun q1 => ?_)
    · skip
      refine mx_J.step (sn_193 81) (fun _ _ => rfl) ?_
      refine JcI (z := 3000) (show mx_Sn _ _ 82 (mx_const (.int 3000) 85) from sn_193 82) rfl ?_
      have c116 : ∀ (k2_0 : Int), (-9223372036854775808) ≤ k2_0 ∧ k2_0 ≤ 9223372036854775807 → mx_J (tB l D b0 ad Hb tau) mt_193 (d + 0) 116 [some (xI x0), some (xI x1), some (xI x2), none, none] [xL k2_0] h Post := by
        intro k2_0 f2_0
        refine mx_J.step (ls2 := [some (xI x0), some (xI x1), some (xI x2), some (xL k2_0), none]) (sn_193 116) (fun _ _ => rfl) ?_
        refine mx_J.step (sn_193 117) (fun _ _ => rfl) ?_
        refine JcL (z := 1000000) (show mx_Sn _ _ 118 (mx_const (.long 1000000) 121) from sn_193 118) rfl ?_
        have c146 : ∀ (k3_0 : Int), (-1000000) ≤ k3_0 ∧ k3_0 ≤ 1000000 → mx_J (tB l D b0 ad Hb tau) mt_193 (d + 0) 146 [some (xI x0), some (xI x1), some (xI x2), some (xL k2_0), none] [xL k3_0] h Post := by
          intro k3_0 f3_0
          refine Jl2i (show mx_Sn _ _ 146 (mx_l2i 147) from sn_193 146) ?_
          exact mx_J.ret (sn_193 147) (fun _ _ => rfl) (hP k3_0 (by omega))
        refine Jlif_le (show mx_Sn _ _ 121 (mx_lif_le 131 125) from sn_193 121) (by omega) (by omega) (fun q4 => ?_) (fun q4 => ?_)
        · skip
          refine mx_J.step (sn_193 131) (fun _ _ => rfl) ?_
          refine JcL (z := (-1000000)) (show mx_Sn _ _ 132 (mx_const (.long (-1000000)) 135) from sn_193 132) rfl ?_
          refine Jlif_ge (show mx_Sn _ _ 135 (mx_lif_ge 145 139) from sn_193 135) (by omega) (by omega) (fun q5 => ?_) (fun q5 => ?_)
          · skip
            refine mx_J.step (sn_193 145) (fun _ _ => rfl) ?_
            exact c146 k2_0 (by omega)
          · skip
            refine JcL (z := (-1000000)) (show mx_Sn _ _ 139 (mx_const (.long (-1000000)) 142) from sn_193 139) rfl ?_
            refine mx_J.step (sn_193 142) (fun _ _ => rfl) ?_
            exact c146 (-1000000) (by omega)
        · skip
          refine JcL (z := 1000000) (show mx_Sn _ _ 125 (mx_const (.long 1000000) 128) from sn_193 125) rfl ?_
          refine mx_J.step (sn_193 128) (fun _ _ => rfl) ?_
          exact c146 1000000 (by omega)
      refine Jicmp_ne (show mx_Sn _ _ 85 (mx_icmp_ne 96 88) from sn_193 85) (by omega) (by omega) (fun q6 => ?_) (fun q6 => ?_)
      · skip
        refine mx_J.step (sn_193 96) (fun _ _ => rfl) ?_
        refine JcI (z := 3001) (show mx_Sn _ _ 97 (mx_const (.int 3001) 100) from sn_193 97) rfl ?_
        refine Jicmp_ne (show mx_Sn _ _ 100 (mx_icmp_ne 111 103) from sn_193 100) (by omega) (by omega) (fun q7 => ?_) (fun q7 => ?_)
        · skip
          refine mx_J.step (sn_193 111) (fun _ _ => rfl) ?_
          refine Ji2l (show mx_Sn _ _ 112 (mx_i2l 113) from sn_193 112) (by omega) ?_
          refine mx_J.step (sn_193 113) (fun _ _ => rfl) ?_
          refine Ji2l (show mx_Sn _ _ 114 (mx_i2l 115) from sn_193 114) (by omega) ?_
          refine JlmulN (show mx_Sn _ _ 115 (mx_lmul 116) from sn_193 115) (fun y8 hy8 hq8 => ?_)
          exact c116 y8 (by omega)
        · skip
          refine mx_J.step (sn_193 103) (fun _ _ => rfl) ?_
          refine Ji2l (show mx_Sn _ _ 104 (mx_i2l 105) from sn_193 104) (by omega) ?_
          refine mx_J.step (sn_193 105) (fun _ _ => rfl) ?_
          refine Ji2l (show mx_Sn _ _ 106 (mx_i2l 107) from sn_193 106) (by omega) ?_
          refine Jlsub (show mx_Sn _ _ 107 (mx_lsub 108) from sn_193 107) ?_
          refine mx_J.step (sn_193 108) (fun _ _ => rfl) ?_
          exact c116 (x1 - x2) (by omega)
      · skip
        refine mx_J.step (sn_193 88) (fun _ _ => rfl) ?_
        refine Ji2l (show mx_Sn _ _ 89 (mx_i2l 90) from sn_193 89) (by omega) ?_
        refine mx_J.step (sn_193 90) (fun _ _ => rfl) ?_
        refine Ji2l (show mx_Sn _ _ 91 (mx_i2l 92) from sn_193 91) (by omega) ?_
        refine Jladd (show mx_Sn _ _ 92 (mx_ladd 93) from sn_193 92) ?_
        refine mx_J.step (sn_193 93) (fun _ _ => rfl) ?_
        exact c116 (x1 + x2) (by omega)
    · skip
      have e1 : x0 = 3003 ∨ x0 = 3004 ∨ x0 = 3005 ∨ x0 = 3006 ∨ x0 = 3007 ∨ x0 = 3008 := by omega
      rcases e1 with e1 | e1 | e1 | e1 | e1 | e1
      · refine ⟨40, by rw [e1]; rfl, ?_⟩
        refine mx_J.step (sn_193 40) (fun _ _ => rfl) ?_
        refine mx_J.step (sn_193 41) (fun _ _ => rfl) ?_
        have c50 : ∀ (k9_0 : Int), 0 ≤ k9_0 ∧ k9_0 ≤ 1 → mx_J (tB l D b0 ad Hb tau) mt_193 (d + 0) 50 [some (xI x0), some (xI x1), some (xI x2), none, none] [xI k9_0] h Post := by
          intro k9_0 f9_0
          exact mx_J.ret (sn_193 50) (fun _ _ => rfl) (hP k9_0 (by omega))
        refine Jicmp_ne (show mx_Sn _ _ 42 (mx_icmp_ne 49 45) from sn_193 42) (by omega) (by omega) (fun q10 => ?_) (fun q10 => ?_)
        · skip
          refine JcI (z := 0) (show mx_Sn _ _ 49 (mx_const (.int 0) 50) from sn_193 49) rfl ?_
          exact c50 0 (by omega)
        · skip
          refine JcI (z := 1) (show mx_Sn _ _ 45 (mx_const (.int 1) 46) from sn_193 45) rfl ?_
          refine mx_J.step (sn_193 46) (fun _ _ => rfl) ?_
          exact c50 1 (by omega)
      · refine ⟨51, by rw [e1]; rfl, ?_⟩
        refine mx_J.step (sn_193 51) (fun _ _ => rfl) ?_
        refine mx_J.step (sn_193 52) (fun _ _ => rfl) ?_
        have c61 : ∀ (k11_0 : Int), 0 ≤ k11_0 ∧ k11_0 ≤ 1 → mx_J (tB l D b0 ad Hb tau) mt_193 (d + 0) 61 [some (xI x0), some (xI x1), some (xI x2), none, none] [xI k11_0] h Post := by
          intro k11_0 f11_0
          exact mx_J.ret (sn_193 61) (fun _ _ => rfl) (hP k11_0 (by omega))
        refine Jicmp_ge (show mx_Sn _ _ 53 (mx_icmp_ge 60 56) from sn_193 53) (by omega) (by omega) (fun q12 => ?_) (fun q12 => ?_)
        · skip
          refine JcI (z := 0) (show mx_Sn _ _ 60 (mx_const (.int 0) 61) from sn_193 60) rfl ?_
          exact c61 0 (by omega)
        · skip
          refine JcI (z := 1) (show mx_Sn _ _ 56 (mx_const (.int 1) 57) from sn_193 56) rfl ?_
          refine mx_J.step (sn_193 57) (fun _ _ => rfl) ?_
          exact c61 1 (by omega)
      · refine ⟨62, by rw [e1]; rfl, ?_⟩
        refine mx_J.step (sn_193 62) (fun _ _ => rfl) ?_
        refine mx_J.step (sn_193 63) (fun _ _ => rfl) ?_
        have c72 : ∀ (k13_0 : Int), 0 ≤ k13_0 ∧ k13_0 ≤ 1 → mx_J (tB l D b0 ad Hb tau) mt_193 (d + 0) 72 [some (xI x0), some (xI x1), some (xI x2), none, none] [xI k13_0] h Post := by
          intro k13_0 f13_0
          exact mx_J.ret (sn_193 72) (fun _ _ => rfl) (hP k13_0 (by omega))
        refine Jicmp_le (show mx_Sn _ _ 64 (mx_icmp_le 71 67) from sn_193 64) (by omega) (by omega) (fun q14 => ?_) (fun q14 => ?_)
        · skip
          refine JcI (z := 0) (show mx_Sn _ _ 71 (mx_const (.int 0) 72) from sn_193 71) rfl ?_
          exact c72 0 (by omega)
        · skip
          refine JcI (z := 1) (show mx_Sn _ _ 67 (mx_const (.int 1) 68) from sn_193 67) rfl ?_
          refine mx_J.step (sn_193 68) (fun _ _ => rfl) ?_
          exact c72 1 (by omega)
      · refine ⟨81, by rw [e1]; rfl, ?_⟩
        refine mx_J.step (sn_193 81) (fun _ _ => rfl) ?_
        refine JcI (z := 3000) (show mx_Sn _ _ 82 (mx_const (.int 3000) 85) from sn_193 82) rfl ?_
        have c116 : ∀ (k15_0 : Int), (-9223372036854775808) ≤ k15_0 ∧ k15_0 ≤ 9223372036854775807 → mx_J (tB l D b0 ad Hb tau) mt_193 (d + 0) 116 [some (xI x0), some (xI x1), some (xI x2), none, none] [xL k15_0] h Post := by
          intro k15_0 f15_0
          refine mx_J.step (ls2 := [some (xI x0), some (xI x1), some (xI x2), some (xL k15_0), none]) (sn_193 116) (fun _ _ => rfl) ?_
          refine mx_J.step (sn_193 117) (fun _ _ => rfl) ?_
          refine JcL (z := 1000000) (show mx_Sn _ _ 118 (mx_const (.long 1000000) 121) from sn_193 118) rfl ?_
          have c146 : ∀ (k16_0 : Int), (-1000000) ≤ k16_0 ∧ k16_0 ≤ 1000000 → mx_J (tB l D b0 ad Hb tau) mt_193 (d + 0) 146 [some (xI x0), some (xI x1), some (xI x2), some (xL k15_0), none] [xL k16_0] h Post := by
            intro k16_0 f16_0
            refine Jl2i (show mx_Sn _ _ 146 (mx_l2i 147) from sn_193 146) ?_
            exact mx_J.ret (sn_193 147) (fun _ _ => rfl) (hP k16_0 (by omega))
          refine Jlif_le (show mx_Sn _ _ 121 (mx_lif_le 131 125) from sn_193 121) (by omega) (by omega) (fun q17 => ?_) (fun q17 => ?_)
          · skip
            refine mx_J.step (sn_193 131) (fun _ _ => rfl) ?_
            refine JcL (z := (-1000000)) (show mx_Sn _ _ 132 (mx_const (.long (-1000000)) 135) from sn_193 132) rfl ?_
            refine Jlif_ge (show mx_Sn _ _ 135 (mx_lif_ge 145 139) from sn_193 135) (by omega) (by omega) (fun q18 => ?_) (fun q18 => ?_)
            · skip
              refine mx_J.step (sn_193 145) (fun _ _ => rfl) ?_
              exact c146 k15_0 (by omega)
            · skip
              refine JcL (z := (-1000000)) (show mx_Sn _ _ 139 (mx_const (.long (-1000000)) 142) from sn_193 139) rfl ?_
              refine mx_J.step (sn_193 142) (fun _ _ => rfl) ?_
              exact c146 (-1000000) (by omega)
          · skip
            refine JcL (z := 1000000) (show mx_Sn _ _ 125 (mx_const (.long 1000000) 128) from sn_193 125) rfl ?_
            refine mx_J.step (sn_193 128) (fun _ _ => rfl) ?_
            exact c146 1000000 (by omega)
        refine Jicmp_ne (show mx_Sn _ _ 85 (mx_icmp_ne 96 88) from sn_193 85) (by omega) (by omega) (fun q19 => ?_) (fun q19 => ?_)
        · skip
          refine mx_J.step (sn_193 96) (fun _ _ => rfl) ?_
          refine JcI (z := 3001) (show mx_Sn _ _ 97 (mx_const (.int 3001) 100) from sn_193 97) rfl ?_
          refine Jicmp_ne (show mx_Sn _ _ 100 (mx_icmp_ne 111 103) from sn_193 100) (by omega) (by omega) (fun q20 => ?_) (fun q20 => ?_)
          · skip
            refine mx_J.step (sn_193 111) (fun _ _ => rfl) ?_
            refine Ji2l (show mx_Sn _ _ 112 (mx_i2l 113) from sn_193 112) (by omega) ?_
            refine mx_J.step (sn_193 113) (fun _ _ => rfl) ?_
            refine Ji2l (show mx_Sn _ _ 114 (mx_i2l 115) from sn_193 114) (by omega) ?_
            refine JlmulN (show mx_Sn _ _ 115 (mx_lmul 116) from sn_193 115) (fun y21 hy21 hq21 => ?_)
            exact c116 y21 (by omega)
          · skip
            refine mx_J.step (sn_193 103) (fun _ _ => rfl) ?_
            refine Ji2l (show mx_Sn _ _ 104 (mx_i2l 105) from sn_193 104) (by omega) ?_
            refine mx_J.step (sn_193 105) (fun _ _ => rfl) ?_
            refine Ji2l (show mx_Sn _ _ 106 (mx_i2l 107) from sn_193 106) (by omega) ?_
            refine Jlsub (show mx_Sn _ _ 107 (mx_lsub 108) from sn_193 107) ?_
            refine mx_J.step (sn_193 108) (fun _ _ => rfl) ?_
            exact c116 (x1 - x2) (by omega)
        · skip
          refine mx_J.step (sn_193 88) (fun _ _ => rfl) ?_
          refine Ji2l (show mx_Sn _ _ 89 (mx_i2l 90) from sn_193 89) (by omega) ?_
          refine mx_J.step (sn_193 90) (fun _ _ => rfl) ?_
          refine Ji2l (show mx_Sn _ _ 91 (mx_i2l 92) from sn_193 91) (by omega) ?_
          refine Jladd (show mx_Sn _ _ 92 (mx_ladd 93) from sn_193 92) ?_
          refine mx_J.step (sn_193 93) (fun _ _ => rfl) ?_
          exact c116 (x1 + x2) (by omega)
      · refine ⟨73, by rw [e1]; rfl, ?_⟩
        refine mx_J.step (sn_193 73) (fun _ _ => rfl) ?_
        refine mx_J.step (sn_193 74) (fun _ _ => rfl) ?_
        refine JiandX (show mx_Sn _ _ 75 (mx_iand 76) from sn_193 75) (fun y22 hy22 => ?_)
        exact mx_J.ret (sn_193 76) (fun _ _ => rfl) (hP y22 (by omega))
      · refine ⟨77, by rw [e1]; rfl, ?_⟩
        refine mx_J.step (sn_193 77) (fun _ _ => rfl) ?_
        refine mx_J.step (sn_193 78) (fun _ _ => rfl) ?_
        refine JiorX (show mx_Sn _ _ 79 (mx_ior 80) from sn_193 79) (fun y23 hy23 => ?_)
        exact mx_J.ret (sn_193 80) (fun _ _ => rfl) (hP y23 (by omega))
theorem ct_193_ {l : Launch} {D : va_G} {b0 : Nat} {ad : Nat → Nat} {Hb : Heap} {tau : Nat → Int64} {d n s : Nat} {S : Nat → xS} {Z : xZ} {h : mx_H} (hx : XH n s S Z h) (hG : GI n S Z)  {x0 x1 x2 : Int} (p0 : (-2147483648) ≤ x0 ∧ x0 ≤ 2147483647) (p1 : (-2147483648) ≤ x1 ∧ x1 ≤ 2147483647) (p2 : (-2147483648) ≤ x2 ∧ x2 ≤ 2147483647) : ∃ z : Int, mx_Ca (tB l D b0 ad Hb tau) (d + 1) 193 [xI x0, xI x1, xI x2] h (some (xI z), h) ∧ ((-2147483648) ≤ z ∧ z ≤ 2147483647) := by
  obtain ⟨r, hca, z, e, hp⟩ := Jmt (B := tB l D b0 ad Hb tau) (M := mt_193) (mi := 193) (as := [xI x0, xI x1, xI x2]) (d := d + 0) (ls := [some (xI x0), some (xI x1), some (xI x2), none, none]) rfl rfl rfl rfl rfl rfl (cw_193_ (l := l) (D := D) (b0 := b0) (ad := ad) (Hb := Hb) (tau := tau) (d := d) (Post := fun r => ∃ z : Int, r = (some (xI z), h) ∧ ((-2147483648) ≤ z ∧ z ≤ 2147483647)) hx hG p0 p1 p2 (fun z hz => ⟨z, rfl, hz⟩))
  subst e; exact ⟨z, hca, hp⟩
set_option maxRecDepth 100000 in
theorem cw_194_56_i0 {l : Launch} {D : va_G} {b0 : Nat} {ad : Nat → Nat} {Hb : Heap} {tau : Nat → Int64} {d n s : Nat} {S : Nat → xS} {Z : xZ} {h : mx_H} {Post : mx_R → Prop} (hx : XH n s S Z h) (hG : GI n S Z)   (k0 : Z 57 21 = 1) (hP : ∀ (z : Int) (Z' : xZ) (h' : mx_H), XH n s S Z' h' → GI n S Z' → fr' [(64, (-1))] Z Z' → (-2147483648) ≤ z ∧ z ≤ 2147483647 → Post (some (xI z), h')) : mx_J (tB l D b0 ad Hb tau) mt_194 (d + 1) 0 [some (.ref 56), some (xI 0), none, none, none] [] h Post := by
    have a56 : 56 < n := lt83 (GI_n hG) rfl
    have s56 : S 56 = .inl (12, [0, 2, 2, 2, 2, 0, 0, 0, 0, 0, 0, 0, 0, 0, 0, 2, 2, 2, 0, 2, 2, 2, 0, 0, 2, 2, 2, 2, 2, 2, 0, 0, 2, 2, 2, 2, 2, 2, 2, 2, 2, 2]) := GI_s hG 56 rfl
    have a57 : 57 < n := lt83 (GI_n hG) rfl
    have s57 : S 57 = .inr (.int, 2886, 0) := GI_s hG 57 rfl
    have a64 : 64 < n := lt83 (GI_n hG) rfl
    have s64 : S 64 = .inr (.int, 900, 0) := GI_s hG 64 rfl
    have a65 : 65 < n := lt83 (GI_n hG) rfl
    have s65 : S 65 = .inr (.int, 5, 0) := GI_s hG 65 rfl
    refine JcI (z := 0) (show mx_Sn _ _ 0 (mx_const (.int 0) 1) from sn_194 0) rfl ?_
    refine mx_J.step (ls2 := [some (.ref 56), some (xI 0), some (xI 0), none, none]) (sn_194 1) (fun _ _ => rfl) ?_
    refine JcI (z := 0) (show mx_Sn _ _ 2 (mx_const (.int 0) 3) from sn_194 2) rfl ?_
    refine mx_J.step (ls2 := [some (.ref 56), some (xI 0), some (xI 0), some (xI 0), none]) (sn_194 3) (fun _ _ => rfl) ?_
    have c4 : ∀ (m1 : Nat) (w1_2 : Int) (w1_3 : Int) (u1_4 : Option Value) (Z2 : xZ) (h2 : mx_H), 900 - w1_3 < (m1 : Int) → 0 ≤ w1_2 ∧ w1_2 ≤ 900 → 0 ≤ w1_3 ∧ w1_3 ≤ 900 → (w1_2 = dp Z 0 w1_3 ∧ 0 ≤ w1_2 ∧ w1_2 ≤ w1_3 ∧ 0 ≤ w1_3) → XH n s S Z2 h2 → GI n S Z2 → fr' [(64, (-1))] Z Z2 → mx_J (tB l D b0 ad Hb tau) mt_194 (d + 1) 4 [some (.ref 56), some (xI 0), some (xI w1_2), some (xI w1_3), u1_4] [] h2 Post := by
      intro m1
      induction m1 with
      | zero => intro w1_2 w1_3 u1_4 Z2 h2 q1 f1_0 f1_1 f1_2 hx2 hG2 hf2; exact absurd q1 (by omega)
      | succ m1 ih1 =>
        intro w1_2 w1_3 u1_4 Z2 h2 q1 f1_0 f1_1 f1_2 hx2 hG2 hf2
        have wm := WF_m0 (GI_wf hG) k0
        refine mx_J.step (sn_194 4) (fun _ _ => rfl) ?_
        refine mx_J.step (sn_194 5) (fun _ _ => rfl) ?_
        refine JgetR (g := 1) (b := 57) hx2 (show mx_Sn _ _ 6 (mx_getf 12 1 9) from sn_194 6) a56 s56 rfl rfl (hG2.prr 56 1 rfl) ?_
        refine JcI (z := 25) (show mx_Sn _ _ 9 (mx_const (.int 25) 11) from sn_194 9) rfl ?_
        refine mx_J.step (sn_194 11) (fun _ _ => rfl) ?_
        refine JiaddE (r := 25) (show mx_Sn _ _ 12 (mx_iadd 13) from sn_194 12) (by decide) ?_
        have b4 : 0 ≤ Z 57 25 ∧ Z 57 25 ≤ 900 := by have hq := GI_ex hG 57 25; replace hq : f57 (25 % 962) (Z 57 25) := hq; unfold f57 at hq; omega
        have b5 : (-2147483648) ≤ Z 57 25 ∧ Z 57 25 ≤ 2147483647 := hG.pr 57 25
        refine JialdI (z := Z 57 25) hx2 (show mx_Sn _ _ 13 (mx_iald 14) from sn_194 13) a57 s57 (by omega) (hf2 57 25 rfl) ?_
        refine Jicmp_ge (show mx_Sn _ _ 14 (mx_icmp_ge 198 17) from sn_194 14) (by omega) (by omega) (fun q6 => ?_) (fun q6 => ?_)
        · skip
          refine mx_J.step (sn_194 198) (fun _ _ => rfl) ?_
          refine JgetR (g := 19) (b := 64) hx2 (show mx_Sn _ _ 199 (mx_getf 12 19 202) from sn_194 199) a56 s56 rfl rfl (hG2.prr 56 19 rfl) ?_
          refine JcI (z := 0) (show mx_Sn _ _ 202 (mx_const (.int 0) 203) from sn_194 202) rfl ?_
          have b8 : (-2147483648) ≤ Z2 64 0 ∧ Z2 64 0 ≤ 2147483647 := hG2.pr 64 0
          refine JialdI (z := Z2 64 0) hx2 (show mx_Sn _ _ 203 (mx_iald 204) from sn_194 203) a64 s64 (by omega) rfl ?_
          have eq9 : Z2 57 21 = Z 57 21 := (hf2 57 21 rfl)
          have b10 : 0 ≤ Z 57 21 ∧ Z 57 21 ≤ 1 := by have hq := GI_ex hG 57 21; replace hq : f57 (21 % 962) (Z 57 21) := hq; unfold f57 at hq; omega
          have b11 : (-2147483648) ≤ Z 57 21 ∧ Z 57 21 ≤ 2147483647 := hG.pr 57 21
          exact mx_J.ret (sn_194 204) (fun _ _ => rfl) (hP (Z2 64 0) Z2 h2 hx2 hG2 (fr_tr (M := [(64, (-1))]) fr_rf (hf2) (M1 := []) rfl rfl) (by omega))
        · skip
          refine mx_J.step (sn_194 17) (fun _ _ => rfl) ?_
          refine JgetR (g := 1) (b := 57) hx2 (show mx_Sn _ _ 18 (mx_getf 12 1 21) from sn_194 18) a56 s56 rfl rfl (hG2.prr 56 1 rfl) ?_
          refine JcI (z := 62) (show mx_Sn _ _ 21 (mx_const (.int 62) 23) from sn_194 21) rfl ?_
          refine mx_J.step (sn_194 23) (fun _ _ => rfl) ?_
          refine JgetR (g := 1) (b := 57) hx2 (show mx_Sn _ _ 24 (mx_getf 12 1 27) from sn_194 24) a56 s56 rfl rfl (hG2.prr 56 1 rfl) ?_
          refine JcI (z := 23) (show mx_Sn _ _ 27 (mx_const (.int 23) 29) from sn_194 27) rfl ?_
          refine mx_J.step (sn_194 29) (fun _ _ => rfl) ?_
          refine JiaddE (r := 23) (show mx_Sn _ _ 30 (mx_iadd 31) from sn_194 30) (by decide) ?_
          have b14 : 0 ≤ Z 57 23 ∧ Z 57 23 ≤ 900 := by have hq := GI_ex hG 57 23; replace hq : f57 (23 % 962) (Z 57 23) := hq; unfold f57 at hq; omega
          have b15 : (-2147483648) ≤ Z 57 23 ∧ Z 57 23 ≤ 2147483647 := hG.pr 57 23
          refine JialdI (z := Z 57 23) hx2 (show mx_Sn _ _ 31 (mx_iald 32) from sn_194 31) a57 s57 (by omega) (hf2 57 23 rfl) ?_
          refine Jiadd (show mx_Sn _ _ 32 (mx_iadd 33) from sn_194 32) ?_
          refine mx_J.step (sn_194 33) (fun _ _ => rfl) ?_
          refine Jiadd (show mx_Sn _ _ 34 (mx_iadd 35) from sn_194 34) ?_
          have b16 := GI_st hG ((62 + (Z 57 23)) + w1_3)
          have b17 : 0 ≤ Z 56 18 ∧ Z 56 18 ≤ 385 := hG.pr 56 18
          have b18 : f57 (((62 + (Z 57 23)) + w1_3) % 962) (Z 57 ((62 + (Z 57 23)) + w1_3)) := GI_ex hG 57 ((62 + (Z 57 23)) + w1_3)
          have b19 : (-2147483648) ≤ Z 57 ((62 + (Z 57 23)) + w1_3) ∧ Z 57 ((62 + (Z 57 23)) + w1_3) ≤ 2147483647 := hG.pr 57 ((62 + (Z 57 23)) + w1_3)
          refine JialdI (z := Z 57 ((62 + (Z 57 23)) + w1_3)) hx2 (show mx_Sn _ _ 35 (mx_iald 36) from sn_194 35) a57 s57 (by omega) (hf2 57 ((62 + (Z 57 23)) + w1_3) rfl) ?_
          refine mx_J.step (ls2 := [some (.ref 56), some (xI 0), some (xI w1_2), some (xI w1_3), some (xI (Z 57 ((62 + (Z 57 23)) + w1_3)))]) (sn_194 36) (fun _ _ => rfl) ?_
          have wl := WF_l0 (GI_wf hG) (k := w1_3) k0 (by omega)
          refine mx_J.step (sn_194 38) (fun _ _ => rfl) ?_
          refine JcI (z := 3000) (show mx_Sn _ _ 40 (mx_const (.int 3000) 43) from sn_194 40) rfl ?_
          have c192 : ∀ (w20_2 : Int) (Z21 : xZ) (h21 : mx_H), 0 ≤ w20_2 ∧ w20_2 ≤ 900 → (w20_2 = dp Z 0 (w1_3 + 1) ∧ 0 ≤ w20_2 ∧ w20_2 ≤ w1_3 + 1) → XH n s S Z21 h21 → GI n S Z21 → fr' [(64, (-1))] Z2 Z21 → mx_J (tB l D b0 ad Hb tau) mt_194 (d + 1) 192 [some (.ref 56), some (xI 0), some (xI w20_2), some (xI w1_3), some (xI (Z 57 ((62 + (Z 57 23)) + w1_3)))] [] h21 Post := by
            intro w20_2 Z21 h21 f20_0 f20_1 hx21 hG21 hf21
            refine Jiinc (z := w1_3) (cz := 1) (ls2 := [some (.ref 56), some (xI 0), some (xI w20_2), some (xI (w1_3 + 1)), some (xI (Z 57 ((62 + (Z 57 23)) + w1_3)))]) (show mx_Sn _ _ 192 (mx_iinc 3 1 195) from sn_194 192) rfl rfl rfl rfl ?_
            refine mx_J.step (sn_194 195) (fun _ _ => rfl) ?_
            exact ih1 w20_2 (w1_3 + 1) (some (xI (Z 57 ((62 + (Z 57 23)) + w1_3)))) Z21 h21 (by omega) (by omega) (by omega) (by first | exact ⟨dp_00.symm, by omega, by omega, by omega⟩ | omega) hx21 hG21 (fr_tr (M := [(64, (-1))]) (fr_tr (M := [(64, (-1))]) fr_rf (hf2) (M1 := []) rfl rfl) (hf21) rfl rfl)
          refine Jicmp_ge (show mx_Sn _ _ 43 (mx_icmp_ge 82 46) from sn_194 43) (by omega) (by omega) (fun q22 => ?_) (fun q22 => ?_)
          · skip
            refine mx_J.step (sn_194 82) (fun _ _ => rfl) ?_
            refine JcI (z := 3006) (show mx_Sn _ _ 84 (mx_const (.int 3006) 87) from sn_194 84) rfl ?_
            refine Jicmp_ne (show mx_Sn _ _ 87 (mx_icmp_ne 111 90) from sn_194 87) (by omega) (by omega) (fun q23 => ?_) (fun q23 => ?_)
            · skip
              refine mx_J.step (sn_194 111) (fun _ _ => rfl) ?_
              refine JcI (z := 3009) (show mx_Sn _ _ 113 (mx_const (.int 3009) 116) from sn_194 113) rfl ?_
              refine Jicmp_ne (show mx_Sn _ _ 116 (mx_icmp_ne 162 119) from sn_194 116) (by omega) (by omega) (fun q24 => ?_) (fun q24 => ?_)
              · skip
                refine Jiinc (z := w1_2) (cz := (-1)) (ls2 := [some (.ref 56), some (xI 0), some (xI (w1_2 + (-1))), some (xI w1_3), some (xI (Z 57 ((62 + (Z 57 23)) + w1_3)))]) (show mx_Sn _ _ 162 (mx_iinc 2 (-1) 165) from sn_194 162) rfl rfl rfl rfl ?_
                refine mx_J.step (sn_194 165) (fun _ _ => rfl) ?_
                refine JgetR (g := 19) (b := 64) hx2 (show mx_Sn _ _ 166 (mx_getf 12 19 169) from sn_194 166) a56 s56 rfl rfl (hG2.prr 56 19 rfl) ?_
                refine mx_J.step (sn_194 169) (fun _ _ => rfl) ?_
                refine JcI (z := 1) (show mx_Sn _ _ 170 (mx_const (.int 1) 171) from sn_194 170) rfl ?_
                refine Jisub (show mx_Sn _ _ 171 (mx_isub 172) from sn_194 171) ?_
                refine mx_J.step (sn_194 172) (fun _ _ => rfl) ?_
                refine mx_J.step (sn_194 174) (fun _ _ => rfl) ?_
                refine JgetR (g := 19) (b := 64) hx2 (show mx_Sn _ _ 175 (mx_getf 12 19 178) from sn_194 175) a56 s56 rfl rfl (hG2.prr 56 19 rfl) ?_
                refine mx_J.step (sn_194 178) (fun _ _ => rfl) ?_
                refine JcI (z := 1) (show mx_Sn _ _ 179 (mx_const (.int 1) 180) from sn_194 179) rfl ?_
                refine Jisub (show mx_Sn _ _ 180 (mx_isub 181) from sn_194 180) ?_
                have b27 : (-2147483648) ≤ Z2 64 ((w1_2 + (-1)) - 1) ∧ Z2 64 ((w1_2 + (-1)) - 1) ≤ 2147483647 := hG2.pr 64 ((w1_2 + (-1)) - 1)
                refine JialdI (z := Z2 64 ((w1_2 + (-1)) - 1)) hx2 (show mx_Sn _ _ 181 (mx_iald 182) from sn_194 181) a64 s64 (by omega) rfl ?_
                refine mx_J.step (sn_194 182) (fun _ _ => rfl) ?_
                refine JgetR (g := 19) (b := 64) hx2 (show mx_Sn _ _ 183 (mx_getf 12 19 186) from sn_194 183) a56 s56 rfl rfl (hG2.prr 56 19 rfl) ?_
                refine mx_J.step (sn_194 186) (fun _ _ => rfl) ?_
                have b29 : (-2147483648) ≤ Z2 64 (w1_2 + (-1)) ∧ Z2 64 (w1_2 + (-1)) ≤ 2147483647 := hG2.pr 64 (w1_2 + (-1))
                refine JialdI (z := Z2 64 (w1_2 + (-1))) hx2 (show mx_Sn _ _ 187 (mx_iald 188) from sn_194 187) a64 s64 (by omega) rfl ?_
                obtain ⟨z30, hc30, b30⟩ := ct_193_ (d := d + 0) (l := l) (D := D) (b0 := b0) (ad := ad) (Hb := Hb) (tau := tau) hx2 hG2 (show (-2147483648) ≤ Z 57 ((62 + (Z 57 23)) + w1_3) ∧ Z 57 ((62 + (Z 57 23)) + w1_3) ≤ 2147483647 by omega) (show (-2147483648) ≤ Z2 64 ((w1_2 + (-1)) - 1) ∧ Z2 64 ((w1_2 + (-1)) - 1) ≤ 2147483647 by omega) (show (-2147483648) ≤ Z2 64 (w1_2 + (-1)) ∧ Z2 64 (w1_2 + (-1)) ≤ 2147483647 by omega)
                refine Jcs (show mx_Sn _ _ 188 (mx_calls 193 3 191) from sn_194 188) hc30 rfl rfl rfl ?_
                refine JiastI hx2 (show mx_Sn _ _ 191 (mx_iast 1 192) from sn_194 191) a64 s64 rfl (by omega) (fun Z31 h31 hx31 hE31 => ?_)
                have hG31 := GI_up hG2 hE31 (show (-2147483648) ≤ z30 ∧ z30 ≤ 2147483647 by omega) trivial rfl
                exact c192 (w1_2 + (-1)) Z31 h31 (by omega) (by omega) hx31 hG31 (fr_tr (M := [(64, (-1))]) fr_rf (fr_ua hE31) (M1 := []) rfl rfl)
              · skip
                refine Jiinc (z := w1_2) (cz := (-2)) (ls2 := [some (.ref 56), some (xI 0), some (xI (w1_2 + (-2))), some (xI w1_3), some (xI (Z 57 ((62 + (Z 57 23)) + w1_3)))]) (show mx_Sn _ _ 119 (mx_iinc 2 (-2) 122) from sn_194 119) rfl rfl rfl rfl ?_
                refine mx_J.step (sn_194 122) (fun _ _ => rfl) ?_
                refine JgetR (g := 19) (b := 64) hx2 (show mx_Sn _ _ 123 (mx_getf 12 19 126) from sn_194 123) a56 s56 rfl rfl (hG2.prr 56 19 rfl) ?_
                refine mx_J.step (sn_194 126) (fun _ _ => rfl) ?_
                refine JcI (z := 1) (show mx_Sn _ _ 127 (mx_const (.int 1) 128) from sn_194 127) rfl ?_
                refine Jisub (show mx_Sn _ _ 128 (mx_isub 129) from sn_194 128) ?_
                refine mx_J.step (sn_194 129) (fun _ _ => rfl) ?_
                refine JgetR (g := 19) (b := 64) hx2 (show mx_Sn _ _ 130 (mx_getf 12 19 133) from sn_194 130) a56 s56 rfl rfl (hG2.prr 56 19 rfl) ?_
                refine mx_J.step (sn_194 133) (fun _ _ => rfl) ?_
                refine JcI (z := 1) (show mx_Sn _ _ 134 (mx_const (.int 1) 135) from sn_194 134) rfl ?_
                refine Jisub (show mx_Sn _ _ 135 (mx_isub 136) from sn_194 135) ?_
                have b34 : (-2147483648) ≤ Z2 64 ((w1_2 + (-2)) - 1) ∧ Z2 64 ((w1_2 + (-2)) - 1) ≤ 2147483647 := hG2.pr 64 ((w1_2 + (-2)) - 1)
                refine JialdI (z := Z2 64 ((w1_2 + (-2)) - 1)) hx2 (show mx_Sn _ _ 136 (mx_iald 137) from sn_194 136) a64 s64 (by omega) rfl ?_
                refine JcI (z := 1) (show mx_Sn _ _ 137 (mx_const (.int 1) 138) from sn_194 137) rfl ?_
                have c158 : ∀ (k35_2 : Int), (-2147483648) ≤ k35_2 ∧ k35_2 ≤ 2147483647 → mx_J (tB l D b0 ad Hb tau) mt_194 (d + 1) 158 [some (.ref 56), some (xI 0), some (xI (w1_2 + (-2))), some (xI w1_3), some (xI (Z 57 ((62 + (Z 57 23)) + w1_3)))] [xI k35_2, xI ((w1_2 + (-2)) - 1), .ref 64] h2 Post := by
                  intro k35_2 f35_0
                  refine JiastI hx2 (show mx_Sn _ _ 158 (mx_iast 1 159) from sn_194 158) a64 s64 rfl (by omega) (fun Z36 h36 hx36 hE36 => ?_)
                  have hG36 := GI_up hG2 hE36 (show (-2147483648) ≤ k35_2 ∧ k35_2 ≤ 2147483647 by omega) trivial rfl
                  refine mx_J.step (sn_194 159) (fun _ _ => rfl) ?_
                  exact c192 (w1_2 + (-2)) Z36 h36 (by omega) (by omega) hx36 hG36 (fr_tr (M := [(64, (-1))]) fr_rf (fr_ua hE36) (M1 := []) rfl rfl)
                refine Jicmp_ne (show mx_Sn _ _ 138 (mx_icmp_ne 150 141) from sn_194 138) (by omega) (by omega) (fun q37 => ?_) (fun q37 => ?_)
                · skip
                  refine mx_J.step (sn_194 150) (fun _ _ => rfl) ?_
                  refine JgetR (g := 19) (b := 64) hx2 (show mx_Sn _ _ 151 (mx_getf 12 19 154) from sn_194 151) a56 s56 rfl rfl (hG2.prr 56 19 rfl) ?_
                  refine mx_J.step (sn_194 154) (fun _ _ => rfl) ?_
                  refine JcI (z := 1) (show mx_Sn _ _ 155 (mx_const (.int 1) 156) from sn_194 155) rfl ?_
                  refine Jiadd (show mx_Sn _ _ 156 (mx_iadd 157) from sn_194 156) ?_
                  have b39 : (-2147483648) ≤ Z2 64 ((w1_2 + (-2)) + 1) ∧ Z2 64 ((w1_2 + (-2)) + 1) ≤ 2147483647 := hG2.pr 64 ((w1_2 + (-2)) + 1)
                  refine JialdI (z := Z2 64 ((w1_2 + (-2)) + 1)) hx2 (show mx_Sn _ _ 157 (mx_iald 158) from sn_194 157) a64 s64 (by omega) rfl ?_
                  exact c158 (Z2 64 ((w1_2 + (-2)) + 1)) (by omega)
                · skip
                  refine mx_J.step (sn_194 141) (fun _ _ => rfl) ?_
                  refine JgetR (g := 19) (b := 64) hx2 (show mx_Sn _ _ 142 (mx_getf 12 19 145) from sn_194 142) a56 s56 rfl rfl (hG2.prr 56 19 rfl) ?_
                  refine mx_J.step (sn_194 145) (fun _ _ => rfl) ?_
                  have b41 : (-2147483648) ≤ Z2 64 (w1_2 + (-2)) ∧ Z2 64 (w1_2 + (-2)) ≤ 2147483647 := hG2.pr 64 (w1_2 + (-2))
                  refine JialdI (z := Z2 64 (w1_2 + (-2))) hx2 (show mx_Sn _ _ 146 (mx_iald 147) from sn_194 146) a64 s64 (by omega) rfl ?_
                  refine mx_J.step (sn_194 147) (fun _ _ => rfl) ?_
                  exact c158 (Z2 64 (w1_2 + (-2))) (by omega)
            · skip
              refine mx_J.step (sn_194 90) (fun _ _ => rfl) ?_
              refine JgetR (g := 19) (b := 64) hx2 (show mx_Sn _ _ 91 (mx_getf 12 19 94) from sn_194 91) a56 s56 rfl rfl (hG2.prr 56 19 rfl) ?_
              refine mx_J.step (sn_194 94) (fun _ _ => rfl) ?_
              refine JcI (z := 1) (show mx_Sn _ _ 95 (mx_const (.int 1) 96) from sn_194 95) rfl ?_
              refine Jisub (show mx_Sn _ _ 96 (mx_isub 97) from sn_194 96) ?_
              refine JcI (z := 1) (show mx_Sn _ _ 97 (mx_const (.int 1) 98) from sn_194 97) rfl ?_
              refine mx_J.step (sn_194 98) (fun _ _ => rfl) ?_
              refine JgetR (g := 19) (b := 64) hx2 (show mx_Sn _ _ 99 (mx_getf 12 19 102) from sn_194 99) a56 s56 rfl rfl (hG2.prr 56 19 rfl) ?_
              refine mx_J.step (sn_194 102) (fun _ _ => rfl) ?_
              refine JcI (z := 1) (show mx_Sn _ _ 103 (mx_const (.int 1) 104) from sn_194 103) rfl ?_
              refine Jisub (show mx_Sn _ _ 104 (mx_isub 105) from sn_194 104) ?_
              have b44 : (-2147483648) ≤ Z2 64 (w1_2 - 1) ∧ Z2 64 (w1_2 - 1) ≤ 2147483647 := hG2.pr 64 (w1_2 - 1)
              refine JialdI (z := Z2 64 (w1_2 - 1)) hx2 (show mx_Sn _ _ 105 (mx_iald 106) from sn_194 105) a64 s64 (by omega) rfl ?_
              refine JisubN (show mx_Sn _ _ 106 (mx_isub 107) from sn_194 106) (fun y45 hy45 hq45 => ?_)
              refine JiastI hx2 (show mx_Sn _ _ 107 (mx_iast 1 108) from sn_194 107) a64 s64 rfl (by omega) (fun Z46 h46 hx46 hE46 => ?_)
              have hG46 := GI_up hG2 hE46 (show (-2147483648) ≤ y45 ∧ y45 ≤ 2147483647 by omega) trivial rfl
              refine mx_J.step (sn_194 108) (fun _ _ => rfl) ?_
              exact c192 w1_2 Z46 h46 (by omega) (by omega) hx46 hG46 (fr_tr (M := [(64, (-1))]) fr_rf (fr_ua hE46) (M1 := []) rfl rfl)
          · skip
            refine mx_J.step (sn_194 46) (fun _ _ => rfl) ?_
            refine JgetR (g := 19) (b := 64) hx2 (show mx_Sn _ _ 47 (mx_getf 12 19 50) from sn_194 47) a56 s56 rfl rfl (hG2.prr 56 19 rfl) ?_
            refine mx_J.step (sn_194 50) (fun _ _ => rfl) ?_
            refine mx_J.step (sn_194 51) (fun _ _ => rfl) ?_
            refine JcI (z := 1000) (show mx_Sn _ _ 53 (mx_const (.int 1000) 56) from sn_194 53) rfl ?_
            have c75 : ∀ (k48_2 : Int), (-2147483648) ≤ k48_2 ∧ k48_2 ≤ 2147483647 → mx_J (tB l D b0 ad Hb tau) mt_194 (d + 1) 75 [some (.ref 56), some (xI 0), some (xI w1_2), some (xI w1_3), some (xI (Z 57 ((62 + (Z 57 23)) + w1_3)))] [xI k48_2, xI w1_2, .ref 64] h2 Post := by
              intro k48_2 f48_0
              refine JiastI hx2 (show mx_Sn _ _ 75 (mx_iast 1 76) from sn_194 75) a64 s64 rfl (by omega) (fun Z49 h49 hx49 hE49 => ?_)
              have hG49 := GI_up hG2 hE49 (show (-2147483648) ≤ k48_2 ∧ k48_2 ≤ 2147483647 by omega) trivial rfl
              refine Jiinc (z := w1_2) (cz := 1) (ls2 := [some (.ref 56), some (xI 0), some (xI (w1_2 + 1)), some (xI w1_3), some (xI (Z 57 ((62 + (Z 57 23)) + w1_3)))]) (show mx_Sn _ _ 76 (mx_iinc 2 1 79) from sn_194 76) rfl rfl rfl rfl ?_
              refine mx_J.step (sn_194 79) (fun _ _ => rfl) ?_
              exact c192 (w1_2 + 1) Z49 h49 (by omega) (by omega) hx49 hG49 (fr_tr (M := [(64, (-1))]) fr_rf (fr_ua hE49) (M1 := []) rfl rfl)
            refine Jicmp_ge (show mx_Sn _ _ 56 (mx_icmp_ge 64 59) from sn_194 56) (by omega) (by omega) (fun q50 => ?_) (fun q50 => ?_)
            · skip
              refine mx_J.step (sn_194 64) (fun _ _ => rfl) ?_
              refine JgetR (g := 20) (b := 65) hx2 (show mx_Sn _ _ 65 (mx_getf 12 20 68) from sn_194 65) a56 s56 rfl rfl (hG2.prr 56 20 rfl) ?_
              refine mx_J.step (sn_194 68) (fun _ _ => rfl) ?_
              refine JcI (z := 1000) (show mx_Sn _ _ 70 (mx_const (.int 1000) 73) from sn_194 70) rfl ?_
              refine Jisub (show mx_Sn _ _ 73 (mx_isub 74) from sn_194 73) ?_
              have b52 : (-2147483648) ≤ Z 65 ((Z 57 ((62 + (Z 57 23)) + w1_3)) - 1000) ∧ Z 65 ((Z 57 ((62 + (Z 57 23)) + w1_3)) - 1000) ≤ 2147483647 := hG.pr 65 ((Z 57 ((62 + (Z 57 23)) + w1_3)) - 1000)
              refine JialdI (z := Z 65 ((Z 57 ((62 + (Z 57 23)) + w1_3)) - 1000)) hx2 (show mx_Sn _ _ 74 (mx_iald 75) from sn_194 74) a65 s65 (by omega) (hf2 65 ((Z 57 ((62 + (Z 57 23)) + w1_3)) - 1000) rfl) ?_
              exact c75 (Z 65 ((Z 57 ((62 + (Z 57 23)) + w1_3)) - 1000)) (by omega)
            · skip
              refine mx_J.step (sn_194 59) (fun _ _ => rfl) ?_
              refine mx_J.step (sn_194 61) (fun _ _ => rfl) ?_
              exact c75 (Z 57 ((62 + (Z 57 23)) + w1_3)) (by omega)
    exact c4 (Int.toNat (900 - 0) + 1) 0 0 none Z h (by omega) (by omega) (by omega) (by first | exact ⟨dp_00.symm, by omega, by omega, by omega⟩ | omega) hx hG fr_rf
theorem ct_194_56_i0 {l : Launch} {D : va_G} {b0 : Nat} {ad : Nat → Nat} {Hb : Heap} {tau : Nat → Int64} {d n s : Nat} {S : Nat → xS} {Z : xZ} {h : mx_H} (hx : XH n s S Z h) (hG : GI n S Z)   (k0 : Z 57 21 = 1) : ∃ (z : Int) (Z' : xZ) (h' : mx_H), mx_Ca (tB l D b0 ad Hb tau) (d + 2) 194 [.ref 56, xI 0] h (some (xI z), h') ∧ XH n s S Z' h' ∧ GI n S Z' ∧ fr' [(64, (-1))] Z Z' ∧ ((-2147483648) ≤ z ∧ z ≤ 2147483647) := by
  obtain ⟨r, hca, z, Z', h', e, q⟩ := Jmt (B := tB l D b0 ad Hb tau) (M := mt_194) (mi := 194) (as := [.ref 56, xI 0]) (d := d + 1) (ls := [some (.ref 56), some (xI 0), none, none, none]) rfl rfl rfl rfl rfl rfl (cw_194_56_i0 (l := l) (D := D) (b0 := b0) (ad := ad) (Hb := Hb) (tau := tau) (d := d) (Post := fun r => ∃ (z : Int) (Z' : xZ) (h' : mx_H), r = (some (xI z), h') ∧ XH n s S Z' h' ∧ GI n S Z' ∧ fr' [(64, (-1))] Z Z' ∧ ((-2147483648) ≤ z ∧ z ≤ 2147483647)) hx hG k0 (fun z Z' h' q1 q2 q3 q4 => ⟨z, Z', h', rfl, q1, q2, q3, q4⟩))
  subst e; exact ⟨z, Z', h', hca, q⟩
