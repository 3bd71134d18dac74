set_option maxRecDepth 100000 in
theorem cw_131_1_i0 {l : Launch} {D : va_G} {b0 : Nat} {ad : Nat → Nat} {Hb : Heap} {tau : Nat → Int64} {d n s : Nat} {S : Nat → xS} {Z : xZ} {h : mx_H} {Post : mx_R → Prop} (hx : XH n s S Z h) (hG : GI n S Z)   (hP : ∀ (z : Int) (Z' : xZ) (h' : mx_H), XH n s S Z' h' → GI n S Z' → fr' [(52, 0), (52, 1), (52, 2), (52, 3), (52, 4), (52, 5)] Z Z' → 0 ≤ z ∧ z ≤ 0 ∧ ((((0 : Int) < 0 ∨ 1 < (0 : Int)) → z = -2) ∧ (¬ ((0 : Int) < 0 ∨ 1 < (0 : Int)) → z = 0) ∧ (¬ (0 : Int) = 0 → Z' 52 5 = Z 52 5) ∧ (¬ (0 : Int) = 1 → Z' 54 5 = Z 54 5) ∧ ((0 : Int) = 0 → Z' 52 5 = 1) ∧ ((0 : Int) = 1 → Z' 54 5 = 1)) → Post (some (xI z), h')) : mx_J (tB l D b0 ad Hb tau) mt_131 (d + 1) 0 [some (.ref 1), some (xI 0)] [] h Post := by
    have a1 : 1 < n := lt83 (GI_n hG) rfl
    have s1 : S 1 = .inl (11, [2, 0, 0, 0, 2, 2, 2, 2, 2, 2, 2, 2, 2, 2, 2, 2, 2]) := GI_s hG 1 rfl
    have a35 : 35 < n := lt83 (GI_n hG) rfl
    have s35 : S 35 = .inr ((.object "TitheHeap$Moment"), 2, 2) := GI_s hG 35 rfl
    have a52 : 52 < n := lt83 (GI_n hG) rfl
    have s52 : S 52 = .inl (5, [2, 0, 0, 0, 0, 0]) := GI_s hG 52 rfl
    refine mx_J.step (sn_131 0) (fun _ _ => rfl) ?_
    refine Jif_lt (show mx_Sn _ _ 1 (mx_if_lt 9 4) from sn_131 1) (by omega) (fun q1 => ?_) (fun q1 => ?_)
    · skip
      exfalso; omega
    · skip
      refine mx_J.step (sn_131 4) (fun _ _ => rfl) ?_
      refine JcI (z := 2) (show mx_Sn _ _ 5 (mx_const (.int 2) 6) from sn_131 5) rfl ?_
      refine Jicmp_lt (show mx_Sn _ _ 6 (mx_icmp_lt 12 9) from sn_131 6) (by omega) (by omega) (fun q2 => ?_) (fun q2 => ?_)
      · skip
        refine mx_J.step (sn_131 12) (fun _ _ => rfl) ?_
        refine JgetR (g := 11) (b := 35) hx (show mx_Sn _ _ 13 (mx_getf 11 11 16) from sn_131 13) a1 s1 rfl rfl (hG.prr 1 11 rfl) ?_
        refine mx_J.step (sn_131 16) (fun _ _ => rfl) ?_
        refine JaaldR (i := 0) (b := 52) hx (show mx_Sn _ _ 17 (mx_aald 18) from sn_131 17) a35 s35 (by omega) (show Z 35 0 = 52 by have hq := GI_ex hG 35 0; replace hq : ((0 : Int) ≤ 0 → (0 : Int) ≤ 1 → (Z 35 0) = 52 + 2 * 0) := hq; omega) ?_
        refine mx_J.step (sn_131 18) (fun _ _ => rfl) ?_
        refine JgetR (g := 12) (b := 36) hx (show mx_Sn _ _ 19 (mx_getf 11 12 22) from sn_131 19) a1 s1 rfl rfl (hG.prr 1 12 rfl) ?_
        obtain ⟨Z5, h5, hc5, hx5, hG5, hf5⟩ := ct_33_52_36 (d := d + 0) (l := l) (D := D) (b0 := b0) (ad := ad) (Hb := Hb) (tau := tau) hx hG 
        refine Jcv0 hx (show mx_Sn _ _ 22 (mx_callv 33 2 5 25) from sn_131 22) a52 s52 hc5 rfl rfl rfl ?_
        refine mx_J.step (sn_131 25) (fun _ _ => rfl) ?_
        refine JgetR (g := 11) (b := 35) hx5 (show mx_Sn _ _ 26 (mx_getf 11 11 29) from sn_131 26) a1 s1 rfl rfl (hG5.prr 1 11 rfl) ?_
        refine mx_J.step (sn_131 29) (fun _ _ => rfl) ?_
        refine JaaldR (i := 0) (b := 52) hx5 (show mx_Sn _ _ 30 (mx_aald 31) from sn_131 30) a35 s35 (by omega) (show Z5 35 0 = 52 by have hq := GI_ex hG5 35 0; replace hq : ((0 : Int) ≤ 0 → (0 : Int) ≤ 1 → (Z5 35 0) = 52 + 2 * 0) := hq; omega) ?_
        refine JcI (z := 1) (show mx_Sn _ _ 31 (mx_const (.int 1) 32) from sn_131 31) rfl ?_
        refine JputI (g := 5) hx5 (show mx_Sn _ _ 32 (mx_putf 1 5 5 (.boolean) 35) from sn_131 32) a52 s52 rfl rfl (fit_z (by omega)) rfl (fun Z7 h7 hx7 hE7 => ?_)
        have hG7 := GI_up hG5 hE7 (show 0 ≤ 1 ∧ 1 ≤ 1 by omega) trivial rfl
        refine JcI (z := 0) (show mx_Sn _ _ 35 (mx_const (.int 0) 36) from sn_131 35) rfl ?_
        have eq8 : Z7 52 5 = 1 := (up_at hE7)
        have eq9 : Z7 54 5 = Z 54 5 := ((up_nk hE7 rfl).trans (hf5 54 5 rfl))
        have b10 : 0 ≤ Z 54 5 ∧ Z 54 5 ≤ 1 := hG.pr 54 5
        have eq11 : Z7 52 5 = 1 := (up_at hE7)
        have eq12 : Z7 54 5 = Z 54 5 := ((up_nk hE7 rfl).trans (hf5 54 5 rfl))
        have b13 : 0 ≤ Z 54 5 ∧ Z 54 5 ≤ 1 := hG.pr 54 5
        exact mx_J.ret (sn_131 36) (fun _ _ => rfl) (hP 0 Z7 h7 hx7 hG7 (fr_tr (M := [(52, 0), (52, 1), (52, 2), (52, 3), (52, 4), (52, 5)]) (fr_tr (M := [(52, 0), (52, 1), (52, 2), (52, 3), (52, 4), (52, 5)]) fr_rf (hf5) (M1 := []) rfl rfl) (fr_up hE7) rfl rfl) (by omega))
      · skip
        exfalso; omega
theorem ct_131_1_i0 {l : Launch} {D : va_G} {b0 : Nat} {ad : Nat → Nat} {Hb : Heap} {tau : Nat → Int64} {d n s : Nat} {S : Nat → xS} {Z : xZ} {h : mx_H} (hx : XH n s S Z h) (hG : GI n S Z)   : ∃ (z : Int) (Z' : xZ) (h' : mx_H), mx_Ca (tB l D b0 ad Hb tau) (d + 2) 131 [.ref 1, xI 0] h (some (xI z), h') ∧ XH n s S Z' h' ∧ GI n S Z' ∧ fr' [(52, 0), (52, 1), (52, 2), (52, 3), (52, 4), (52, 5)] Z Z' ∧ (0 ≤ z ∧ z ≤ 0 ∧ ((((0 : Int) < 0 ∨ 1 < (0 : Int)) → z = -2) ∧ (¬ ((0 : Int) < 0 ∨ 1 < (0 : Int)) → z = 0) ∧ (¬ (0 : Int) = 0 → Z' 52 5 = Z 52 5) ∧ (¬ (0 : Int) = 1 → Z' 54 5 = Z 54 5) ∧ ((0 : Int) = 0 → Z' 52 5 = 1) ∧ ((0 : Int) = 1 → Z' 54 5 = 1))) := by
  obtain ⟨r, hca, z, Z', h', e, q⟩ := Jmt (B := tB l D b0 ad Hb tau) (M := mt_131) (mi := 131) (as := [.ref 1, xI 0]) (d := d + 1) (ls := [some (.ref 1), some (xI 0)]) rfl rfl rfl rfl rfl rfl (cw_131_1_i0 (l := l) (D := D) (b0 := b0) (ad := ad) (Hb := Hb) (tau := tau) (d := d) (Post := fun r => ∃ (z : Int) (Z' : xZ) (h' : mx_H), r = (some (xI z), h') ∧ XH n s S Z' h' ∧ GI n S Z' ∧ fr' [(52, 0), (52, 1), (52, 2), (52, 3), (52, 4), (52, 5)] Z Z' ∧ (0 ≤ z ∧ z ≤ 0 ∧ ((((0 : Int) < 0 ∨ 1 < (0 : Int)) → z = -2) ∧ (¬ ((0 : Int) < 0 ∨ 1 < (0 : Int)) → z = 0) ∧ (¬ (0 : Int) = 0 → Z' 52 5 = Z 52 5) ∧ (¬ (0 : Int) = 1 → Z' 54 5 = Z 54 5) ∧ ((0 : Int) = 0 → Z' 52 5 = 1) ∧ ((0 : Int) = 1 → Z' 54 5 = 1)))) hx hG  (fun z Z' h' q1 q2 q3 q4 => ⟨z, Z', h', rfl, q1, q2, q3, q4⟩))
  subst e; exact ⟨z, Z', h', hca, q⟩
set_option maxRecDepth 100000 in
theorem cw_131_1_i1 {l : Launch} {D : va_G} {b0 : Nat} {ad : Nat → Nat} {Hb : Heap} {tau : Nat → Int64} {d n s : Nat} {S : Nat → xS} {Z : xZ} {h : mx_H} {Post : mx_R → Prop} (hx : XH n s S Z h) (hG : GI n S Z)   (hP : ∀ (z : Int) (Z' : xZ) (h' : mx_H), XH n s S Z' h' → GI n S Z' → fr' [(54, 0), (54, 1), (54, 2), (54, 3), (54, 4), (54, 5)] Z Z' → 0 ≤ z ∧ z ≤ 0 ∧ ((((1 : Int) < 0 ∨ 1 < (1 : Int)) → z = -2) ∧ (¬ ((1 : Int) < 0 ∨ 1 < (1 : Int)) → z = 0) ∧ (¬ (1 : Int) = 0 → Z' 52 5 = Z 52 5) ∧ (¬ (1 : Int) = 1 → Z' 54 5 = Z 54 5) ∧ ((1 : Int) = 0 → Z' 52 5 = 1) ∧ ((1 : Int) = 1 → Z' 54 5 = 1)) → Post (some (xI z), h')) : mx_J (tB l D b0 ad Hb tau) mt_131 (d + 1) 0 [some (.ref 1), some (xI 1)] [] h Post := by
    have a1 : 1 < n := lt83 (GI_n hG) rfl
    have s1 : S 1 = .inl (11, [2, 0, 0, 0, 2, 2, 2, 2, 2, 2, 2, 2, 2, 2, 2, 2, 2]) := GI_s hG 1 rfl
    have a35 : 35 < n := lt83 (GI_n hG) rfl
    have s35 : S 35 = .inr ((.object "TitheHeap$Moment"), 2, 2) := GI_s hG 35 rfl
    have a54 : 54 < n := lt83 (GI_n hG) rfl
    have s54 : S 54 = .inl (5, [2, 0, 0, 0, 0, 0]) := GI_s hG 54 rfl
    refine mx_J.step (sn_131 0) (fun _ _ => rfl) ?_
    refine Jif_lt (show mx_Sn _ _ 1 (mx_if_lt 9 4) from sn_131 1) (by omega) (fun q1 => ?_) (fun q1 => ?_)
    · skip
      exfalso; omega
    · skip
      refine mx_J.step (sn_131 4) (fun _ _ => rfl) ?_
      refine JcI (z := 2) (show mx_Sn _ _ 5 (mx_const (.int 2) 6) from sn_131 5) rfl ?_
      refine Jicmp_lt (show mx_Sn _ _ 6 (mx_icmp_lt 12 9) from sn_131 6) (by omega) (by omega) (fun q2 => ?_) (fun q2 => ?_)
      · skip
        refine mx_J.step (sn_131 12) (fun _ _ => rfl) ?_
        refine JgetR (g := 11) (b := 35) hx (show mx_Sn _ _ 13 (mx_getf 11 11 16) from sn_131 13) a1 s1 rfl rfl (hG.prr 1 11 rfl) ?_
        refine mx_J.step (sn_131 16) (fun _ _ => rfl) ?_
        refine JaaldR (i := 1) (b := 54) hx (show mx_Sn _ _ 17 (mx_aald 18) from sn_131 17) a35 s35 (by omega) (show Z 35 1 = 54 by have hq := GI_ex hG 35 1; replace hq : ((0 : Int) ≤ 1 → (1 : Int) ≤ 1 → (Z 35 1) = 52 + 2 * 1) := hq; omega) ?_
        refine mx_J.step (sn_131 18) (fun _ _ => rfl) ?_
        refine JgetR (g := 12) (b := 36) hx (show mx_Sn _ _ 19 (mx_getf 11 12 22) from sn_131 19) a1 s1 rfl rfl (hG.prr 1 12 rfl) ?_
        obtain ⟨Z5, h5, hc5, hx5, hG5, hf5⟩ := ct_33_54_36 (d := d + 0) (l := l) (D := D) (b0 := b0) (ad := ad) (Hb := Hb) (tau := tau) hx hG 
        refine Jcv0 hx (show mx_Sn _ _ 22 (mx_callv 33 2 5 25) from sn_131 22) a54 s54 hc5 rfl rfl rfl ?_
        refine mx_J.step (sn_131 25) (fun _ _ => rfl) ?_
        refine JgetR (g := 11) (b := 35) hx5 (show mx_Sn _ _ 26 (mx_getf 11 11 29) from sn_131 26) a1 s1 rfl rfl (hG5.prr 1 11 rfl) ?_
        refine mx_J.step (sn_131 29) (fun _ _ => rfl) ?_
        refine JaaldR (i := 1) (b := 54) hx5 (show mx_Sn _ _ 30 (mx_aald 31) from sn_131 30) a35 s35 (by omega) (show Z5 35 1 = 54 by have hq := GI_ex hG5 35 1; replace hq : ((0 : Int) ≤ 1 → (1 : Int) ≤ 1 → (Z5 35 1) = 52 + 2 * 1) := hq; omega) ?_
        refine JcI (z := 1) (show mx_Sn _ _ 31 (mx_const (.int 1) 32) from sn_131 31) rfl ?_
        refine JputI (g := 5) hx5 (show mx_Sn _ _ 32 (mx_putf 1 5 5 (.boolean) 35) from sn_131 32) a54 s54 rfl rfl (fit_z (by omega)) rfl (fun Z7 h7 hx7 hE7 => ?_)
        have hG7 := GI_up hG5 hE7 (show 0 ≤ 1 ∧ 1 ≤ 1 by omega) trivial rfl
        refine JcI (z := 0) (show mx_Sn _ _ 35 (mx_const (.int 0) 36) from sn_131 35) rfl ?_
        have eq8 : Z7 52 5 = Z 52 5 := ((up_nk hE7 rfl).trans (hf5 52 5 rfl))
        have b9 : 0 ≤ Z 52 5 ∧ Z 52 5 ≤ 1 := hG.pr 52 5
        have eq10 : Z7 54 5 = 1 := (up_at hE7)
        have eq11 : Z7 52 5 = Z 52 5 := ((up_nk hE7 rfl).trans (hf5 52 5 rfl))
        have b12 : 0 ≤ Z 52 5 ∧ Z 52 5 ≤ 1 := hG.pr 52 5
        have eq13 : Z7 54 5 = 1 := (up_at hE7)
        exact mx_J.ret (sn_131 36) (fun _ _ => rfl) (hP 0 Z7 h7 hx7 hG7 (fr_tr (M := [(54, 0), (54, 1), (54, 2), (54, 3), (54, 4), (54, 5)]) (fr_tr (M := [(54, 0), (54, 1), (54, 2), (54, 3), (54, 4), (54, 5)]) fr_rf (hf5) (M1 := []) rfl rfl) (fr_up hE7) rfl rfl) (by omega))
      · skip
        exfalso; omega
theorem ct_131_1_i1 {l : Launch} {D : va_G} {b0 : Nat} {ad : Nat → Nat} {Hb : Heap} {tau : Nat → Int64} {d n s : Nat} {S : Nat → xS} {Z : xZ} {h : mx_H} (hx : XH n s S Z h) (hG : GI n S Z)   : ∃ (z : Int) (Z' : xZ) (h' : mx_H), mx_Ca (tB l D b0 ad Hb tau) (d + 2) 131 [.ref 1, xI 1] h (some (xI z), h') ∧ XH n s S Z' h' ∧ GI n S Z' ∧ fr' [(54, 0), (54, 1), (54, 2), (54, 3), (54, 4), (54, 5)] Z Z' ∧ (0 ≤ z ∧ z ≤ 0 ∧ ((((1 : Int) < 0 ∨ 1 < (1 : Int)) → z = -2) ∧ (¬ ((1 : Int) < 0 ∨ 1 < (1 : Int)) → z = 0) ∧ (¬ (1 : Int) = 0 → Z' 52 5 = Z 52 5) ∧ (¬ (1 : Int) = 1 → Z' 54 5 = Z 54 5) ∧ ((1 : Int) = 0 → Z' 52 5 = 1) ∧ ((1 : Int) = 1 → Z' 54 5 = 1))) := by
  obtain ⟨r, hca, z, Z', h', e, q⟩ := Jmt (B := tB l D b0 ad Hb tau) (M := mt_131) (mi := 131) (as := [.ref 1, xI 1]) (d := d + 1) (ls := [some (.ref 1), some (xI 1)]) rfl rfl rfl rfl rfl rfl (cw_131_1_i1 (l := l) (D := D) (b0 := b0) (ad := ad) (Hb := Hb) (tau := tau) (d := d) (Post := fun r => ∃ (z : Int) (Z' : xZ) (h' : mx_H), r = (some (xI z), h') ∧ XH n s S Z' h' ∧ GI n S Z' ∧ fr' [(54, 0), (54, 1), (54, 2), (54, 3), (54, 4), (54, 5)] Z Z' ∧ (0 ≤ z ∧ z ≤ 0 ∧ ((((1 : Int) < 0 ∨ 1 < (1 : Int)) → z = -2) ∧ (¬ ((1 : Int) < 0 ∨ 1 < (1 : Int)) → z = 0) ∧ (¬ (1 : Int) = 0 → Z' 52 5 = Z 52 5) ∧ (¬ (1 : Int) = 1 → Z' 54 5 = Z 54 5) ∧ ((1 : Int) = 0 → Z' 52 5 = 1) ∧ ((1 : Int) = 1 → Z' 54 5 = 1)))) hx hG  (fun z Z' h' q1 q2 q3 q4 => ⟨z, Z', h', rfl, q1, q2, q3, q4⟩))
  subst e; exact ⟨z, Z', h', hca, q⟩
set_option maxRecDepth 100000 in
theorem cw_131_1_n {l : Launch} {D : va_G} {b0 : Nat} {ad : Nat → Nat} {Hb : Heap} {tau : Nat → Int64} {d n s : Nat} {S : Nat → xS} {Z : xZ} {h : mx_H} {Post : mx_R → Prop} (hx : XH n s S Z h) (hG : GI n S Z)  {x0 : Int} (p0 : (-2147483648) ≤ x0 ∧ x0 ≤ (-1)) (hP : ∀ z : Int, (-2) ≤ z ∧ z ≤ (-2) ∧ (((x0 < 0 ∨ 1 < x0) → z = -2) ∧ (¬ (x0 < 0 ∨ 1 < x0) → z = 0) ∧ (¬ x0 = 0 → Z 52 5 = Z 52 5) ∧ (¬ x0 = 1 → Z 54 5 = Z 54 5) ∧ (x0 = 0 → Z 52 5 = 1) ∧ (x0 = 1 → Z 54 5 = 1)) → Post (some (xI z), h)) : mx_J (tB l D b0 ad Hb tau) mt_131 (d + 0) 0 [some (.ref 1), some (xI x0)] [] h Post := by
    refine mx_J.step (sn_131 0) (fun _ _ => rfl) ?_
    refine Jif_lt (show mx_Sn _ _ 1 (mx_if_lt 9 4) from sn_131 1) (by omega) (fun q1 => ?_) (fun q1 => ?_)
    · skip
      refine JcI (z := (-2)) (show mx_Sn _ _ 9 (mx_const (.int (-2)) 11) from sn_131 9) rfl ?_
      have b2 : 0 ≤ Z 52 5 ∧ Z 52 5 ≤ 1 := hG.pr 52 5
      have b3 : 0 ≤ Z 54 5 ∧ Z 54 5 ≤ 1 := hG.pr 54 5
      have b4 : 0 ≤ Z 52 5 ∧ Z 52 5 ≤ 1 := hG.pr 52 5
      have b5 : 0 ≤ Z 54 5 ∧ Z 54 5 ≤ 1 := hG.pr 54 5
      exact mx_J.ret (sn_131 11) (fun _ _ => rfl) (hP (-2) (by omega))
    · skip
      exfalso; omega
theorem ct_131_1_n {l : Launch} {D : va_G} {b0 : Nat} {ad : Nat → Nat} {Hb : Heap} {tau : Nat → Int64} {d n s : Nat} {S : Nat → xS} {Z : xZ} {h : mx_H} (hx : XH n s S Z h) (hG : GI n S Z)  {x0 : Int} (p0 : (-2147483648) ≤ x0 ∧ x0 ≤ (-1)) : ∃ z : Int, mx_Ca (tB l D b0 ad Hb tau) (d + 1) 131 [.ref 1, xI x0] h (some (xI z), h) ∧ ((-2) ≤ z ∧ z ≤ (-2) ∧ (((x0 < 0 ∨ 1 < x0) → z = -2) ∧ (¬ (x0 < 0 ∨ 1 < x0) → z = 0) ∧ (¬ x0 = 0 → Z 52 5 = Z 52 5) ∧ (¬ x0 = 1 → Z 54 5 = Z 54 5) ∧ (x0 = 0 → Z 52 5 = 1) ∧ (x0 = 1 → Z 54 5 = 1))) := by
  obtain ⟨r, hca, z, e, hp⟩ := Jmt (B := tB l D b0 ad Hb tau) (M := mt_131) (mi := 131) (as := [.ref 1, xI x0]) (d := d + 0) (ls := [some (.ref 1), some (xI x0)]) rfl rfl rfl rfl rfl rfl (cw_131_1_n (l := l) (D := D) (b0 := b0) (ad := ad) (Hb := Hb) (tau := tau) (d := d) (Post := fun r => ∃ z : Int, r = (some (xI z), h) ∧ ((-2) ≤ z ∧ z ≤ (-2) ∧ (((x0 < 0 ∨ 1 < x0) → z = -2) ∧ (¬ (x0 < 0 ∨ 1 < x0) → z = 0) ∧ (¬ x0 = 0 → Z 52 5 = Z 52 5) ∧ (¬ x0 = 1 → Z 54 5 = Z 54 5) ∧ (x0 = 0 → Z 52 5 = 1) ∧ (x0 = 1 → Z 54 5 = 1)))) hx hG p0 (fun z hz => ⟨z, rfl, hz⟩))
  subst e; exact ⟨z, hca, hp⟩
set_option maxRecDepth 100000 in
theorem cw_131_1_p {l : Launch} {D : va_G} {b0 : Nat} {ad : Nat → Nat} {Hb : Heap} {tau : Nat → Int64} {d n s : Nat} {S : Nat → xS} {Z : xZ} {h : mx_H} {Post : mx_R → Prop} (hx : XH n s S Z h) (hG : GI n S Z)  {x0 : Int} (p0 : 2 ≤ x0 ∧ x0 ≤ 2147483647) (hP : ∀ z : Int, (-2) ≤ z ∧ z ≤ (-2) ∧ (((x0 < 0 ∨ 1 < x0) → z = -2) ∧ (¬ (x0 < 0 ∨ 1 < x0) → z = 0) ∧ (¬ x0 = 0 → Z 52 5 = Z 52 5) ∧ (¬ x0 = 1 → Z 54 5 = Z 54 5) ∧ (x0 = 0 → Z 52 5 = 1) ∧ (x0 = 1 → Z 54 5 = 1)) → Post (some (xI z), h)) : mx_J (tB l D b0 ad Hb tau) mt_131 (d + 0) 0 [some (.ref 1), some (xI x0)] [] h Post := by
    refine mx_J.step (sn_131 0) (fun _ _ => rfl) ?_
    have c9 : (x0 < 0 ∨ 1 < x0) → mx_J (tB l D b0 ad Hb tau) mt_131 (d + 0) 9 [some (.ref 1), some (xI x0)] [] h Post := by
      intro f1_0
      refine JcI (z := (-2)) (show mx_Sn _ _ 9 (mx_const (.int (-2)) 11) from sn_131 9) rfl ?_
      have b2 : 0 ≤ Z 52 5 ∧ Z 52 5 ≤ 1 := hG.pr 52 5
      have b3 : 0 ≤ Z 54 5 ∧ Z 54 5 ≤ 1 := hG.pr 54 5
      have b4 : 0 ≤ Z 52 5 ∧ Z 52 5 ≤ 1 := hG.pr 52 5
      have b5 : 0 ≤ Z 54 5 ∧ Z 54 5 ≤ 1 := hG.pr 54 5
      exact mx_J.ret (sn_131 11) (fun _ _ => rfl) (hP (-2) (by omega))
    refine Jif_lt (show mx_Sn _ _ 1 (mx_if_lt 9 4) from sn_131 1) (by omega) (fun q6 => ?_) (fun q6 => ?_)
    · skip
      exact c9 (by omega)
    · skip
      refine mx_J.step (sn_131 4) (fun _ _ => rfl) ?_
      refine JcI (z := 2) (show mx_Sn _ _ 5 (mx_const (.int 2) 6) from sn_131 5) rfl ?_
      refine Jicmp_lt (show mx_Sn _ _ 6 (mx_icmp_lt 12 9) from sn_131 6) (by omega) (by omega) (fun q7 => ?_) (fun q7 => ?_)
      · skip
        exfalso; omega
      · skip
        exact c9 (by omega)
theorem ct_131_1_p {l : Launch} {D : va_G} {b0 : Nat} {ad : Nat → Nat} {Hb : Heap} {tau : Nat → Int64} {d n s : Nat} {S : Nat → xS} {Z : xZ} {h : mx_H} (hx : XH n s S Z h) (hG : GI n S Z)  {x0 : Int} (p0 : 2 ≤ x0 ∧ x0 ≤ 2147483647) : ∃ z : Int, mx_Ca (tB l D b0 ad Hb tau) (d + 1) 131 [.ref 1, xI x0] h (some (xI z), h) ∧ ((-2) ≤ z ∧ z ≤ (-2) ∧ (((x0 < 0 ∨ 1 < x0) → z = -2) ∧ (¬ (x0 < 0 ∨ 1 < x0) → z = 0) ∧ (¬ x0 = 0 → Z 52 5 = Z 52 5) ∧ (¬ x0 = 1 → Z 54 5 = Z 54 5) ∧ (x0 = 0 → Z 52 5 = 1) ∧ (x0 = 1 → Z 54 5 = 1))) := by
  obtain ⟨r, hca, z, e, hp⟩ := Jmt (B := tB l D b0 ad Hb tau) (M := mt_131) (mi := 131) (as := [.ref 1, xI x0]) (d := d + 0) (ls := [some (.ref 1), some (xI x0)]) rfl rfl rfl rfl rfl rfl (cw_131_1_p (l := l) (D := D) (b0 := b0) (ad := ad) (Hb := Hb) (tau := tau) (d := d) (Post := fun r => ∃ z : Int, r = (some (xI z), h) ∧ ((-2) ≤ z ∧ z ≤ (-2) ∧ (((x0 < 0 ∨ 1 < x0) → z = -2) ∧ (¬ (x0 < 0 ∨ 1 < x0) → z = 0) ∧ (¬ x0 = 0 → Z 52 5 = Z 52 5) ∧ (¬ x0 = 1 → Z 54 5 = Z 54 5) ∧ (x0 = 0 → Z 52 5 = 1) ∧ (x0 = 1 → Z 54 5 = 1)))) hx hG p0 (fun z hz => ⟨z, rfl, hz⟩))
  subst e; exact ⟨z, hca, hp⟩
theorem ct_131_1 {l : Launch} {D : va_G} {b0 : Nat} {ad : Nat → Nat} {Hb : Heap} {tau : Nat → Int64} {d n s : Nat} {S : Nat → xS} {Z : xZ} {h : mx_H} (hx : XH n s S Z h) (hG : GI n S Z) {x0 : Int} (p0 : (-2147483648) ≤ x0 ∧ x0 ≤ 2147483647) : ∃ (z : Int) (Z' : xZ) (h' : mx_H), mx_Ca (tB l D b0 ad Hb tau) (d + 2) 131 [.ref 1, xI x0] h (some (xI z), h') ∧ XH n s S Z' h' ∧ GI n S Z' ∧ fr' [(52, 0), (52, 1), (52, 2), (52, 3), (52, 4), (52, 5), (54, 0), (54, 1), (54, 2), (54, 3), (54, 4), (54, 5)] Z Z' ∧ ((-2) ≤ z ∧ z ≤ 0 ∧ (((x0 < 0 ∨ 1 < x0) → z = -2) ∧ (¬ (x0 < 0 ∨ 1 < x0) → z = 0) ∧ (¬ x0 = 0 → Z' 52 5 = Z 52 5) ∧ (¬ x0 = 1 → Z' 54 5 = Z 54 5) ∧ (x0 = 0 → Z' 52 5 = 1) ∧ (x0 = 1 → Z' 54 5 = 1))) := by
  have hc : x0 = 0 ∨ x0 = 1 ∨ ((-2147483648) ≤ x0 ∧ x0 ≤ (-1)) ∨ (2 ≤ x0 ∧ x0 ≤ 2147483647) := by omega
  rcases hc with hc | hc | hc | hc
  · subst hc
    obtain ⟨z, Z', h', hca, q1, q2, q3, b⟩ := ct_131_1_i0 (d := d + 0) (l := l) (D := D) (b0 := b0) (ad := ad) (Hb := Hb) (tau := tau) hx hG 
    exact ⟨z, Z', h', hca, q1, q2, fr_tr (M1 := []) fr_rf q3 rfl rfl, ⟨Int.le_trans (by decide) b.1, Int.le_trans b.2.1 (by decide), b.2.2⟩⟩
  · subst hc
    obtain ⟨z, Z', h', hca, q1, q2, q3, b⟩ := ct_131_1_i1 (d := d + 0) (l := l) (D := D) (b0 := b0) (ad := ad) (Hb := Hb) (tau := tau) hx hG 
    exact ⟨z, Z', h', hca, q1, q2, fr_tr (M1 := []) fr_rf q3 rfl rfl, ⟨Int.le_trans (by decide) b.1, Int.le_trans b.2.1 (by decide), b.2.2⟩⟩
  · skip
    obtain ⟨z, hca, b⟩ := ct_131_1_n (d := d + 1) (l := l) (D := D) (b0 := b0) (ad := ad) (Hb := Hb) (tau := tau) hx hG hc
    exact ⟨z, Z, h, hca, hx, hG, fr_rf, ⟨Int.le_trans (by decide) b.1, Int.le_trans b.2.1 (by decide), b.2.2⟩⟩
  · skip
    obtain ⟨z, hca, b⟩ := ct_131_1_p (d := d + 1) (l := l) (D := D) (b0 := b0) (ad := ad) (Hb := Hb) (tau := tau) hx hG hc
    exact ⟨z, Z, h, hca, hx, hG, fr_rf, ⟨Int.le_trans (by decide) b.1, Int.le_trans b.2.1 (by decide), b.2.2⟩⟩
set_option maxRecDepth 100000 in
theorem cw_132_1_i0 {l : Launch} {D : va_G} {b0 : Nat} {ad : Nat → Nat} {Hb : Heap} {tau : Nat → Int64} {d n s : Nat} {S : Nat → xS} {Z : xZ} {h : mx_H} {Post : mx_R → Prop} (hx : XH n s S Z h) (hG : GI n S Z)   (hP : ∀ (z : Int) (Z' : xZ) (h' : mx_H), XH n s S Z' h' → GI n S Z' → fr' [(7, 4), (7, 5), (9, (-1)), (10, (-1)), (11, (-1)), (12, 1), (12, 2), (17, (-1)), (36, 0), (36, 1), (36, 2), (36, 3), (36, 4), (40, 1)] Z Z' → (-5) ≤ z ∧ z ≤ 0 ∧ ((((0 : Int) < 0 ∨ 1 < (0 : Int)) → z = -2) ∧ ((0 : Int) = 0 → (Z 52 5 = 0 → z = -5) ∧ (¬ Z 52 5 = 0 → z = 0)) ∧ ((0 : Int) = 1 → (Z 54 5 = 0 → z = -5) ∧ (¬ Z 54 5 = 0 → z = 0))) → Post (some (xI z), h')) : mx_J (tB l D b0 ad Hb tau) mt_132 (d + 4) 0 [some (.ref 1), some (xI 0)] [] h Post := by
    have a1 : 1 < n := lt83 (GI_n hG) rfl
    have s1 : S 1 = .inl (11, [2, 0, 0, 0, 2, 2, 2, 2, 2, 2, 2, 2, 2, 2, 2, 2, 2]) := GI_s hG 1 rfl
    have a35 : 35 < n := lt83 (GI_n hG) rfl
    have s35 : S 35 = .inr ((.object "TitheHeap$Moment"), 2, 2) := GI_s hG 35 rfl
    have a36 : 36 < n := lt83 (GI_n hG) rfl
    have s36 : S 36 = .inl (5, [2, 0, 0, 0, 0, 0]) := GI_s hG 36 rfl
    have a52 : 52 < n := lt83 (GI_n hG) rfl
    have s52 : S 52 = .inl (5, [2, 0, 0, 0, 0, 0]) := GI_s hG 52 rfl
    refine mx_J.step (sn_132 0) (fun _ _ => rfl) ?_
    refine Jif_lt (show mx_Sn _ _ 1 (mx_if_lt 9 4) from sn_132 1) (by omega) (fun q1 => ?_) (fun q1 => ?_)
    · skip
      exfalso; omega
    · skip
      refine mx_J.step (sn_132 4) (fun _ _ => rfl) ?_
      refine JcI (z := 2) (show mx_Sn _ _ 5 (mx_const (.int 2) 6) from sn_132 5) rfl ?_
      refine Jicmp_lt (show mx_Sn _ _ 6 (mx_icmp_lt 12 9) from sn_132 6) (by omega) (by omega) (fun q2 => ?_) (fun q2 => ?_)
      · skip
        refine mx_J.step (sn_132 12) (fun _ _ => rfl) ?_
        refine JgetR (g := 11) (b := 35) hx (show mx_Sn _ _ 13 (mx_getf 11 11 16) from sn_132 13) a1 s1 rfl rfl (hG.prr 1 11 rfl) ?_
        refine mx_J.step (sn_132 16) (fun _ _ => rfl) ?_
        refine JaaldR (i := 0) (b := 52) hx (show mx_Sn _ _ 17 (mx_aald 18) from sn_132 17) a35 s35 (by omega) (show Z 35 0 = 52 by have hq := GI_ex hG 35 0; replace hq : ((0 : Int) ≤ 0 → (0 : Int) ≤ 1 → (Z 35 0) = 52 + 2 * 0) := hq; omega) ?_
        have b5 : 0 ≤ Z 52 5 ∧ Z 52 5 ≤ 1 := hG.pr 52 5
        refine JgetI (g := 5) (z := Z 52 5) hx (show mx_Sn _ _ 18 (mx_getf 5 5 21) from sn_132 18) a52 s52 rfl rfl rfl ?_
        refine Jif_ne (show mx_Sn _ _ 21 (mx_if_ne 27 24) from sn_132 21) (by omega) (fun q6 => ?_) (fun q6 => ?_)
        · skip
          refine mx_J.step (sn_132 27) (fun _ _ => rfl) ?_
          refine JgetR (g := 12) (b := 36) hx (show mx_Sn _ _ 28 (mx_getf 11 12 31) from sn_132 28) a1 s1 rfl rfl (hG.prr 1 12 rfl) ?_
          refine mx_J.step (sn_132 31) (fun _ _ => rfl) ?_
          refine JgetR (g := 11) (b := 35) hx (show mx_Sn _ _ 32 (mx_getf 11 11 35) from sn_132 32) a1 s1 rfl rfl (hG.prr 1 11 rfl) ?_
          refine mx_J.step (sn_132 35) (fun _ _ => rfl) ?_
          refine JaaldR (i := 0) (b := 52) hx (show mx_Sn _ _ 36 (mx_aald 37) from sn_132 36) a35 s35 (by omega) (show Z 35 0 = 52 by have hq := GI_ex hG 35 0; replace hq : ((0 : Int) ≤ 0 → (0 : Int) ≤ 1 → (Z 35 0) = 52 + 2 * 0) := hq; omega) ?_
          obtain ⟨Z9, h9, hc9, hx9, hG9, hf9⟩ := ct_33_36_52 (d := d + 3) (l := l) (D := D) (b0 := b0) (ad := ad) (Hb := Hb) (tau := tau) hx hG 
          refine Jcv0 hx (show mx_Sn _ _ 37 (mx_callv 33 2 5 40) from sn_132 37) a36 s36 hc9 rfl rfl rfl ?_
          refine mx_J.step (sn_132 40) (fun _ _ => rfl) ?_
          obtain ⟨Z10, h10, hc10, hx10, hG10, hf10⟩ := ct_135_1 (d := d + 0) (l := l) (D := D) (b0 := b0) (ad := ad) (Hb := Hb) (tau := tau) hx9 hG9 
          refine Jcv0 hx9 (show mx_Sn _ _ 41 (mx_callv 135 1 11 44) from sn_132 41) a1 s1 hc10 rfl rfl rfl ?_
          refine JcI (z := 0) (show mx_Sn _ _ 44 (mx_const (.int 0) 45) from sn_132 44) rfl ?_
          have eq11 : Z10 52 5 = Z 52 5 := ((hf10 52 5 rfl).trans (hf9 52 5 rfl))
          have b12 : 0 ≤ Z 52 5 ∧ Z 52 5 ≤ 1 := hG.pr 52 5
          have eq13 : Z10 54 5 = Z 54 5 := ((hf10 54 5 rfl).trans (hf9 54 5 rfl))
          have b14 : 0 ≤ Z 54 5 ∧ Z 54 5 ≤ 1 := hG.pr 54 5
          exact mx_J.ret (sn_132 45) (fun _ _ => rfl) (hP 0 Z10 h10 hx10 hG10 (fr_tr (M := [(7, 4), (7, 5), (9, (-1)), (10, (-1)), (11, (-1)), (12, 1), (12, 2), (17, (-1)), (36, 0), (36, 1), (36, 2), (36, 3), (36, 4), (40, 1)]) (fr_tr (M := [(7, 4), (7, 5), (9, (-1)), (10, (-1)), (11, (-1)), (12, 1), (12, 2), (17, (-1)), (36, 0), (36, 1), (36, 2), (36, 3), (36, 4), (40, 1)]) fr_rf (hf9) (M1 := []) rfl rfl) (hf10) rfl rfl) (by omega))
        · skip
          refine JcI (z := (-5)) (show mx_Sn _ _ 24 (mx_const (.int (-5)) 26) from sn_132 24) rfl ?_
          have b15 : 0 ≤ Z 52 5 ∧ Z 52 5 ≤ 1 := hG.pr 52 5
          have b16 : 0 ≤ Z 54 5 ∧ Z 54 5 ≤ 1 := hG.pr 54 5
          exact mx_J.ret (sn_132 26) (fun _ _ => rfl) (hP (-5) Z h hx hG fr_rf (by omega))
      · skip
        exfalso; omega
theorem ct_132_1_i0 {l : Launch} {D : va_G} {b0 : Nat} {ad : Nat → Nat} {Hb : Heap} {tau : Nat → Int64} {d n s : Nat} {S : Nat → xS} {Z : xZ} {h : mx_H} (hx : XH n s S Z h) (hG : GI n S Z)   : ∃ (z : Int) (Z' : xZ) (h' : mx_H), mx_Ca (tB l D b0 ad Hb tau) (d + 5) 132 [.ref 1, xI 0] h (some (xI z), h') ∧ XH n s S Z' h' ∧ GI n S Z' ∧ fr' [(7, 4), (7, 5), (9, (-1)), (10, (-1)), (11, (-1)), (12, 1), (12, 2), (17, (-1)), (36, 0), (36, 1), (36, 2), (36, 3), (36, 4), (40, 1)] Z Z' ∧ ((-5) ≤ z ∧ z ≤ 0 ∧ ((((0 : Int) < 0 ∨ 1 < (0 : Int)) → z = -2) ∧ ((0 : Int) = 0 → (Z 52 5 = 0 → z = -5) ∧ (¬ Z 52 5 = 0 → z = 0)) ∧ ((0 : Int) = 1 → (Z 54 5 = 0 → z = -5) ∧ (¬ Z 54 5 = 0 → z = 0)))) := by
  obtain ⟨r, hca, z, Z', h', e, q⟩ := Jmt (B := tB l D b0 ad Hb tau) (M := mt_132) (mi := 132) (as := [.ref 1, xI 0]) (d := d + 4) (ls := [some (.ref 1), some (xI 0)]) rfl rfl rfl rfl rfl rfl (cw_132_1_i0 (l := l) (D := D) (b0 := b0) (ad := ad) (Hb := Hb) (tau := tau) (d := d) (Post := fun r => ∃ (z : Int) (Z' : xZ) (h' : mx_H), r = (some (xI z), h') ∧ XH n s S Z' h' ∧ GI n S Z' ∧ fr' [(7, 4), (7, 5), (9, (-1)), (10, (-1)), (11, (-1)), (12, 1), (12, 2), (17, (-1)), (36, 0), (36, 1), (36, 2), (36, 3), (36, 4), (40, 1)] Z Z' ∧ ((-5) ≤ z ∧ z ≤ 0 ∧ ((((0 : Int) < 0 ∨ 1 < (0 : Int)) → z = -2) ∧ ((0 : Int) = 0 → (Z 52 5 = 0 → z = -5) ∧ (¬ Z 52 5 = 0 → z = 0)) ∧ ((0 : Int) = 1 → (Z 54 5 = 0 → z = -5) ∧ (¬ Z 54 5 = 0 → z = 0))))) hx hG  (fun z Z' h' q1 q2 q3 q4 => ⟨z, Z', h', rfl, q1, q2, q3, q4⟩))
  subst e; exact ⟨z, Z', h', hca, q⟩
set_option maxRecDepth 100000 in
theorem cw_132_1_i1 {l : Launch} {D : va_G} {b0 : Nat} {ad : Nat → Nat} {Hb : Heap} {tau : Nat → Int64} {d n s : Nat} {S : Nat → xS} {Z : xZ} {h : mx_H} {Post : mx_R → Prop} (hx : XH n s S Z h) (hG : GI n S Z)   (hP : ∀ (z : Int) (Z' : xZ) (h' : mx_H), XH n s S Z' h' → GI n S Z' → fr' [(7, 4), (7, 5), (9, (-1)), (10, (-1)), (11, (-1)), (12, 1), (12, 2), (17, (-1)), (36, 0), (36, 1), (36, 2), (36, 3), (36, 4), (40, 1)] Z Z' → (-5) ≤ z ∧ z ≤ 0 ∧ ((((1 : Int) < 0 ∨ 1 < (1 : Int)) → z = -2) ∧ ((1 : Int) = 0 → (Z 52 5 = 0 → z = -5) ∧ (¬ Z 52 5 = 0 → z = 0)) ∧ ((1 : Int) = 1 → (Z 54 5 = 0 → z = -5) ∧ (¬ Z 54 5 = 0 → z = 0))) → Post (some (xI z), h')) : mx_J (tB l D b0 ad Hb tau) mt_132 (d + 4) 0 [some (.ref 1), some (xI 1)] [] h Post := by
    have a1 : 1 < n := lt83 (GI_n hG) rfl
    have s1 : S 1 = .inl (11, [2, 0, 0, 0, 2, 2, 2, 2, 2, 2, 2, 2, 2, 2, 2, 2, 2]) := GI_s hG 1 rfl
    have a35 : 35 < n := lt83 (GI_n hG) rfl
    have s35 : S 35 = .inr ((.object "TitheHeap$Moment"), 2, 2) := GI_s hG 35 rfl
    have a36 : 36 < n := lt83 (GI_n hG) rfl
    have s36 : S 36 = .inl (5, [2, 0, 0, 0, 0, 0]) := GI_s hG 36 rfl
    have a54 : 54 < n := lt83 (GI_n hG) rfl
    have s54 : S 54 = .inl (5, [2, 0, 0, 0, 0, 0]) := GI_s hG 54 rfl
    refine mx_J.step (sn_132 0) (fun _ _ => rfl) ?_
    refine Jif_lt (show mx_Sn _ _ 1 (mx_if_lt 9 4) from sn_132 1) (by omega) (fun q1 => ?_) (fun q1 => ?_)
    · skip
      exfalso; omega
    · skip
      refine mx_J.step (sn_132 4) (fun _ _ => rfl) ?_
      refine JcI (z := 2) (show mx_Sn _ _ 5 (mx_const (.int 2) 6) from sn_132 5) rfl ?_
      refine Jicmp_lt (show mx_Sn _ _ 6 (mx_icmp_lt 12 9) from sn_132 6) (by omega) (by omega) (fun q2 => ?_) (fun q2 => ?_)
      · skip
        refine mx_J.step (sn_132 12) (fun _ _ => rfl) ?_
        refine JgetR (g := 11) (b := 35) hx (show mx_Sn _ _ 13 (mx_getf 11 11 16) from sn_132 13) a1 s1 rfl rfl (hG.prr 1 11 rfl) ?_
        refine mx_J.step (sn_132 16) (fun _ _ => rfl) ?_
        refine JaaldR (i := 1) (b := 54) hx (show mx_Sn _ _ 17 (mx_aald 18) from sn_132 17) a35 s35 (by omega) (show Z 35 1 = 54 by have hq := GI_ex hG 35 1; replace hq : ((0 : Int) ≤ 1 → (1 : Int) ≤ 1 → (Z 35 1) = 52 + 2 * 1) := hq; omega) ?_
        have b5 : 0 ≤ Z 54 5 ∧ Z 54 5 ≤ 1 := hG.pr 54 5
        refine JgetI (g := 5) (z := Z 54 5) hx (show mx_Sn _ _ 18 (mx_getf 5 5 21) from sn_132 18) a54 s54 rfl rfl rfl ?_
        refine Jif_ne (show mx_Sn _ _ 21 (mx_if_ne 27 24) from sn_132 21) (by omega) (fun q6 => ?_) (fun q6 => ?_)
        · skip
          refine mx_J.step (sn_132 27) (fun _ _ => rfl) ?_
          refine JgetR (g := 12) (b := 36) hx (show mx_Sn _ _ 28 (mx_getf 11 12 31) from sn_132 28) a1 s1 rfl rfl (hG.prr 1 12 rfl) ?_
          refine mx_J.step (sn_132 31) (fun _ _ => rfl) ?_
          refine JgetR (g := 11) (b := 35) hx (show mx_Sn _ _ 32 (mx_getf 11 11 35) from sn_132 32) a1 s1 rfl rfl (hG.prr 1 11 rfl) ?_
          refine mx_J.step (sn_132 35) (fun _ _ => rfl) ?_
          refine JaaldR (i := 1) (b := 54) hx (show mx_Sn _ _ 36 (mx_aald 37) from sn_132 36) a35 s35 (by omega) (show Z 35 1 = 54 by have hq := GI_ex hG 35 1; replace hq : ((0 : Int) ≤ 1 → (1 : Int) ≤ 1 → (Z 35 1) = 52 + 2 * 1) := hq; omega) ?_
          obtain ⟨Z9, h9, hc9, hx9, hG9, hf9⟩ := ct_33_36_54 (d := d + 3) (l := l) (D := D) (b0 := b0) (ad := ad) (Hb := Hb) (tau := tau) hx hG 
          refine Jcv0 hx (show mx_Sn _ _ 37 (mx_callv 33 2 5 40) from sn_132 37) a36 s36 hc9 rfl rfl rfl ?_
          refine mx_J.step (sn_132 40) (fun _ _ => rfl) ?_
          obtain ⟨Z10, h10, hc10, hx10, hG10, hf10⟩ := ct_135_1 (d := d + 0) (l := l) (D := D) (b0 := b0) (ad := ad) (Hb := Hb) (tau := tau) hx9 hG9 
          refine Jcv0 hx9 (show mx_Sn _ _ 41 (mx_callv 135 1 11 44) from sn_132 41) a1 s1 hc10 rfl rfl rfl ?_
          refine JcI (z := 0) (show mx_Sn _ _ 44 (mx_const (.int 0) 45) from sn_132 44) rfl ?_
          have eq11 : Z10 52 5 = Z 52 5 := ((hf10 52 5 rfl).trans (hf9 52 5 rfl))
          have b12 : 0 ≤ Z 52 5 ∧ Z 52 5 ≤ 1 := hG.pr 52 5
          have eq13 : Z10 54 5 = Z 54 5 := ((hf10 54 5 rfl).trans (hf9 54 5 rfl))
          have b14 : 0 ≤ Z 54 5 ∧ Z 54 5 ≤ 1 := hG.pr 54 5
          exact mx_J.ret (sn_132 45) (fun _ _ => rfl) (hP 0 Z10 h10 hx10 hG10 (fr_tr (M := [(7, 4), (7, 5), (9, (-1)), (10, (-1)), (11, (-1)), (12, 1), (12, 2), (17, (-1)), (36, 0), (36, 1), (36, 2), (36, 3), (36, 4), (40, 1)]) (fr_tr (M := [(7, 4), (7, 5), (9, (-1)), (10, (-1)), (11, (-1)), (12, 1), (12, 2), (17, (-1)), (36, 0), (36, 1), (36, 2), (36, 3), (36, 4), (40, 1)]) fr_rf (hf9) (M1 := []) rfl rfl) (hf10) rfl rfl) (by omega))
        · skip
          refine JcI (z := (-5)) (show mx_Sn _ _ 24 (mx_const (.int (-5)) 26) from sn_132 24) rfl ?_
          have b15 : 0 ≤ Z 52 5 ∧ Z 52 5 ≤ 1 := hG.pr 52 5
          have b16 : 0 ≤ Z 54 5 ∧ Z 54 5 ≤ 1 := hG.pr 54 5
          exact mx_J.ret (sn_132 26) (fun _ _ => rfl) (hP (-5) Z h hx hG fr_rf (by omega))
      · skip
        exfalso; omega
theorem ct_132_1_i1 {l : Launch} {D : va_G} {b0 : Nat} {ad : Nat → Nat} {Hb : Heap} {tau : Nat → Int64} {d n s : Nat} {S : Nat → xS} {Z : xZ} {h : mx_H} (hx : XH n s S Z h) (hG : GI n S Z)   : ∃ (z : Int) (Z' : xZ) (h' : mx_H), mx_Ca (tB l D b0 ad Hb tau) (d + 5) 132 [.ref 1, xI 1] h (some (xI z), h') ∧ XH n s S Z' h' ∧ GI n S Z' ∧ fr' [(7, 4), (7, 5), (9, (-1)), (10, (-1)), (11, (-1)), (12, 1), (12, 2), (17, (-1)), (36, 0), (36, 1), (36, 2), (36, 3), (36, 4), (40, 1)] Z Z' ∧ ((-5) ≤ z ∧ z ≤ 0 ∧ ((((1 : Int) < 0 ∨ 1 < (1 : Int)) → z = -2) ∧ ((1 : Int) = 0 → (Z 52 5 = 0 → z = -5) ∧ (¬ Z 52 5 = 0 → z = 0)) ∧ ((1 : Int) = 1 → (Z 54 5 = 0 → z = -5) ∧ (¬ Z 54 5 = 0 → z = 0)))) := by
  obtain ⟨r, hca, z, Z', h', e, q⟩ := Jmt (B := tB l D b0 ad Hb tau) (M := mt_132) (mi := 132) (as := [.ref 1, xI 1]) (d := d + 4) (ls := [some (.ref 1), some (xI 1)]) rfl rfl rfl rfl rfl rfl (cw_132_1_i1 (l := l) (D := D) (b0 := b0) (ad := ad) (Hb := Hb) (tau := tau) (d := d) (Post := fun r => ∃ (z : Int) (Z' : xZ) (h' : mx_H), r = (some (xI z), h') ∧ XH n s S Z' h' ∧ GI n S Z' ∧ fr' [(7, 4), (7, 5), (9, (-1)), (10, (-1)), (11, (-1)), (12, 1), (12, 2), (17, (-1)), (36, 0), (36, 1), (36, 2), (36, 3), (36, 4), (40, 1)] Z Z' ∧ ((-5) ≤ z ∧ z ≤ 0 ∧ ((((1 : Int) < 0 ∨ 1 < (1 : Int)) → z = -2) ∧ ((1 : Int) = 0 → (Z 52 5 = 0 → z = -5) ∧ (¬ Z 52 5 = 0 → z = 0)) ∧ ((1 : Int) = 1 → (Z 54 5 = 0 → z = -5) ∧ (¬ Z 54 5 = 0 → z = 0))))) hx hG  (fun z Z' h' q1 q2 q3 q4 => ⟨z, Z', h', rfl, q1, q2, q3, q4⟩))
  subst e; exact ⟨z, Z', h', hca, q⟩
set_option maxRecDepth 100000 in
theorem cw_132_1_n {l : Launch} {D : va_G} {b0 : Nat} {ad : Nat → Nat} {Hb : Heap} {tau : Nat → Int64} {d n s : Nat} {S : Nat → xS} {Z : xZ} {h : mx_H} {Post : mx_R → Prop} (hx : XH n s S Z h) (hG : GI n S Z)  {x0 : Int} (p0 : (-2147483648) ≤ x0 ∧ x0 ≤ (-1)) (hP : ∀ z : Int, (-2) ≤ z ∧ z ≤ (-2) ∧ (((x0 < 0 ∨ 1 < x0) → z = -2) ∧ (x0 = 0 → (Z 52 5 = 0 → z = -5) ∧ (¬ Z 52 5 = 0 → z = 0)) ∧ (x0 = 1 → (Z 54 5 = 0 → z = -5) ∧ (¬ Z 54 5 = 0 → z = 0))) → Post (some (xI z), h)) : mx_J (tB l D b0 ad Hb tau) mt_132 (d + 0) 0 [some (.ref 1), some (xI x0)] [] h Post := by
    refine mx_J.step (sn_132 0) (fun _ _ => rfl) ?_
    refine Jif_lt (show mx_Sn _ _ 1 (mx_if_lt 9 4) from sn_132 1) (by omega) (fun q1 => ?_) (fun q1 => ?_)
    · skip
      refine JcI (z := (-2)) (show mx_Sn _ _ 9 (mx_const (.int (-2)) 11) from sn_132 9) rfl ?_
      have b2 : 0 ≤ Z 52 5 ∧ Z 52 5 ≤ 1 := hG.pr 52 5
      have b3 : 0 ≤ Z 54 5 ∧ Z 54 5 ≤ 1 := hG.pr 54 5
      exact mx_J.ret (sn_132 11) (fun _ _ => rfl) (hP (-2) (by omega))
    · skip
      exfalso; omega
theorem ct_132_1_n {l : Launch} {D : va_G} {b0 : Nat} {ad : Nat → Nat} {Hb : Heap} {tau : Nat → Int64} {d n s : Nat} {S : Nat → xS} {Z : xZ} {h : mx_H} (hx : XH n s S Z h) (hG : GI n S Z)  {x0 : Int} (p0 : (-2147483648) ≤ x0 ∧ x0 ≤ (-1)) : ∃ z : Int, mx_Ca (tB l D b0 ad Hb tau) (d + 1) 132 [.ref 1, xI x0] h (some (xI z), h) ∧ ((-2) ≤ z ∧ z ≤ (-2) ∧ (((x0 < 0 ∨ 1 < x0) → z = -2) ∧ (x0 = 0 → (Z 52 5 = 0 → z = -5) ∧ (¬ Z 52 5 = 0 → z = 0)) ∧ (x0 = 1 → (Z 54 5 = 0 → z = -5) ∧ (¬ Z 54 5 = 0 → z = 0)))) := by
  obtain ⟨r, hca, z, e, hp⟩ := Jmt (B := tB l D b0 ad Hb tau) (M := mt_132) (mi := 132) (as := [.ref 1, xI x0]) (d := d + 0) (ls := [some (.ref 1), some (xI x0)]) rfl rfl rfl rfl rfl rfl (cw_132_1_n (l := l) (D := D) (b0 := b0) (ad := ad) (Hb := Hb) (tau := tau) (d := d) (Post := fun r => ∃ z : Int, r = (some (xI z), h) ∧ ((-2) ≤ z ∧ z ≤ (-2) ∧ (((x0 < 0 ∨ 1 < x0) → z = -2) ∧ (x0 = 0 → (Z 52 5 = 0 → z = -5) ∧ (¬ Z 52 5 = 0 → z = 0)) ∧ (x0 = 1 → (Z 54 5 = 0 → z = -5) ∧ (¬ Z 54 5 = 0 → z = 0))))) hx hG p0 (fun z hz => ⟨z, rfl, hz⟩))
  subst e; exact ⟨z, hca, hp⟩
set_option maxRecDepth 100000 in
theorem cw_132_1_p {l : Launch} {D : va_G} {b0 : Nat} {ad : Nat → Nat} {Hb : Heap} {tau : Nat → Int64} {d n s : Nat} {S : Nat → xS} {Z : xZ} {h : mx_H} {Post : mx_R → Prop} (hx : XH n s S Z h) (hG : GI n S Z)  {x0 : Int} (p0 : 2 ≤ x0 ∧ x0 ≤ 2147483647) (hP : ∀ z : Int, (-2) ≤ z ∧ z ≤ (-2) ∧ (((x0 < 0 ∨ 1 < x0) → z = -2) ∧ (x0 = 0 → (Z 52 5 = 0 → z = -5) ∧ (¬ Z 52 5 = 0 → z = 0)) ∧ (x0 = 1 → (Z 54 5 = 0 → z = -5) ∧ (¬ Z 54 5 = 0 → z = 0))) → Post (some (xI z), h)) : mx_J (tB l D b0 ad Hb tau) mt_132 (d + 0) 0 [some (.ref 1), some (xI x0)] [] h Post := by
    refine mx_J.step (sn_132 0) (fun _ _ => rfl) ?_
    have c9 : (x0 < 0 ∨ 1 < x0) → mx_J (tB l D b0 ad Hb tau) mt_132 (d + 0) 9 [some (.ref 1), some (xI x0)] [] h Post := by
      intro f1_0
      refine JcI (z := (-2)) (show mx_Sn _ _ 9 (mx_const (.int (-2)) 11) from sn_132 9) rfl ?_
      have b2 : 0 ≤ Z 52 5 ∧ Z 52 5 ≤ 1 := hG.pr 52 5
      have b3 : 0 ≤ Z 54 5 ∧ Z 54 5 ≤ 1 := hG.pr 54 5
      exact mx_J.ret (sn_132 11) (fun _ _ => rfl) (hP (-2) (by omega))
    refine Jif_lt (show mx_Sn _ _ 1 (mx_if_lt 9 4) from sn_132 1) (by omega) (fun q4 => ?_) (fun q4 => ?_)
    · skip
      exact c9 (by omega)
    · skip
      refine mx_J.step (sn_132 4) (fun _ _ => rfl) ?_
      refine JcI (z := 2) (show mx_Sn _ _ 5 (mx_const (.int 2) 6) from sn_132 5) rfl ?_
      refine Jicmp_lt (show mx_Sn _ _ 6 (mx_icmp_lt 12 9) from sn_132 6) (by omega) (by omega) (fun q5 => ?_) (fun q5 => ?_)
      · skip
        exfalso; omega
      · skip
        exact c9 (by omega)
theorem ct_132_1_p {l : Launch} {D : va_G} {b0 : Nat} {ad : Nat → Nat} {Hb : Heap} {tau : Nat → Int64} {d n s : Nat} {S : Nat → xS} {Z : xZ} {h : mx_H} (hx : XH n s S Z h) (hG : GI n S Z)  {x0 : Int} (p0 : 2 ≤ x0 ∧ x0 ≤ 2147483647) : ∃ z : Int, mx_Ca (tB l D b0 ad Hb tau) (d + 1) 132 [.ref 1, xI x0] h (some (xI z), h) ∧ ((-2) ≤ z ∧ z ≤ (-2) ∧ (((x0 < 0 ∨ 1 < x0) → z = -2) ∧ (x0 = 0 → (Z 52 5 = 0 → z = -5) ∧ (¬ Z 52 5 = 0 → z = 0)) ∧ (x0 = 1 → (Z 54 5 = 0 → z = -5) ∧ (¬ Z 54 5 = 0 → z = 0)))) := by
  obtain ⟨r, hca, z, e, hp⟩ := Jmt (B := tB l D b0 ad Hb tau) (M := mt_132) (mi := 132) (as := [.ref 1, xI x0]) (d := d + 0) (ls := [some (.ref 1), some (xI x0)]) rfl rfl rfl rfl rfl rfl (cw_132_1_p (l := l) (D := D) (b0 := b0) (ad := ad) (Hb := Hb) (tau := tau) (d := d) (Post := fun r => ∃ z : Int, r = (some (xI z), h) ∧ ((-2) ≤ z ∧ z ≤ (-2) ∧ (((x0 < 0 ∨ 1 < x0) → z = -2) ∧ (x0 = 0 → (Z 52 5 = 0 → z = -5) ∧ (¬ Z 52 5 = 0 → z = 0)) ∧ (x0 = 1 → (Z 54 5 = 0 → z = -5) ∧ (¬ Z 54 5 = 0 → z = 0))))) hx hG p0 (fun z hz => ⟨z, rfl, hz⟩))
  subst e; exact ⟨z, hca, hp⟩
theorem ct_132_1 {l : Launch} {D : va_G} {b0 : Nat} {ad : Nat → Nat} {Hb : Heap} {tau : Nat → Int64} {d n s : Nat} {S : Nat → xS} {Z : xZ} {h : mx_H} (hx : XH n s S Z h) (hG : GI n S Z) {x0 : Int} (p0 : (-2147483648) ≤ x0 ∧ x0 ≤ 2147483647) : ∃ (z : Int) (Z' : xZ) (h' : mx_H), mx_Ca (tB l D b0 ad Hb tau) (d + 5) 132 [.ref 1, xI x0] h (some (xI z), h') ∧ XH n s S Z' h' ∧ GI n S Z' ∧ fr' [(7, 4), (7, 5), (9, (-1)), (10, (-1)), (11, (-1)), (12, 1), (12, 2), (17, (-1)), (36, 0), (36, 1), (36, 2), (36, 3), (36, 4), (40, 1)] Z Z' ∧ ((-5) ≤ z ∧ z ≤ 0 ∧ (((x0 < 0 ∨ 1 < x0) → z = -2) ∧ (x0 = 0 → (Z 52 5 = 0 → z = -5) ∧ (¬ Z 52 5 = 0 → z = 0)) ∧ (x0 = 1 → (Z 54 5 = 0 → z = -5) ∧ (¬ Z 54 5 = 0 → z = 0)))) := by
  have hc : x0 = 0 ∨ x0 = 1 ∨ ((-2147483648) ≤ x0 ∧ x0 ≤ (-1)) ∨ (2 ≤ x0 ∧ x0 ≤ 2147483647) := by omega
  rcases hc with hc | hc | hc | hc
  · subst hc
    obtain ⟨z, Z', h', hca, q1, q2, q3, b⟩ := ct_132_1_i0 (d := d + 0) (l := l) (D := D) (b0 := b0) (ad := ad) (Hb := Hb) (tau := tau) hx hG 
    exact ⟨z, Z', h', hca, q1, q2, fr_tr (M1 := []) fr_rf q3 rfl rfl, ⟨Int.le_trans (by decide) b.1, Int.le_trans b.2.1 (by decide), b.2.2⟩⟩
  · subst hc
    obtain ⟨z, Z', h', hca, q1, q2, q3, b⟩ := ct_132_1_i1 (d := d + 0) (l := l) (D := D) (b0 := b0) (ad := ad) (Hb := Hb) (tau := tau) hx hG 
    exact ⟨z, Z', h', hca, q1, q2, fr_tr (M1 := []) fr_rf q3 rfl rfl, ⟨Int.le_trans (by decide) b.1, Int.le_trans b.2.1 (by decide), b.2.2⟩⟩
  · skip
    obtain ⟨z, hca, b⟩ := ct_132_1_n (d := d + 4) (l := l) (D := D) (b0 := b0) (ad := ad) (Hb := Hb) (tau := tau) hx hG hc
    exact ⟨z, Z, h, hca, hx, hG, fr_rf, ⟨Int.le_trans (by decide) b.1, Int.le_trans b.2.1 (by decide), b.2.2⟩⟩
  · skip
    obtain ⟨z, hca, b⟩ := ct_132_1_p (d := d + 4) (l := l) (D := D) (b0 := b0) (ad := ad) (Hb := Hb) (tau := tau) hx hG hc
    exact ⟨z, Z, h, hca, hx, hG, fr_rf, ⟨Int.le_trans (by decide) b.1, Int.le_trans b.2.1 (by decide), b.2.2⟩⟩
set_option maxRecDepth 100000 in
theorem cw_128_1_i0 {l : Launch} {D : va_G} {b0 : Nat} {ad : Nat → Nat} {Hb : Heap} {tau : Nat → Int64} {d n s : Nat} {S : Nat → xS} {Z : xZ} {h : mx_H} {Post : mx_R → Prop} (hx : XH n s S Z h) (hG : GI n S Z)  {x1 x2 : Int} (p1 : (-2147483648) ≤ x1 ∧ x1 ≤ 2147483647) (p2 : (-2147483648) ≤ x2 ∧ x2 ≤ 2147483647) (hP : ∀ (z : Int) (Z' : xZ) (h' : mx_H), XH n s S Z' h' → GI n S Z' → fr' [(44, 1), (44, 2), (44, 3), (45, (-1))] Z Z' → (-3) ≤ z ∧ z ≤ 0 ∧ (((((0 : Int) < 0 ∨ 3 < (0 : Int) ∨ x1 < 0 ∨ 3 < x1) → z = -2) ∧ (¬ ((0 : Int) < 0 ∨ 3 < (0 : Int) ∨ x1 < 0 ∨ 3 < x1) → (x2 < 0 ∨ 40 < x2) → z = -3) ∧ (¬ ((0 : Int) < 0 ∨ 3 < (0 : Int) ∨ x1 < 0 ∨ 3 < x1) → ¬ (x2 < 0 ∨ 40 < x2) → z = 0)) ∧ ((((0 : Int) < 0 ∨ 3 < (0 : Int) ∨ x1 < 0 ∨ 3 < x1) ∨ (x2 < 0 ∨ 40 < x2) ∨ ¬ (0 : Int) = 0) → Z' 44 1 = Z 44 1 ∧ Z' 44 2 = Z 44 2 ∧ Z' 44 3 = Z 44 3) ∧ (¬ ((0 : Int) < 0 ∨ 3 < (0 : Int) ∨ x1 < 0 ∨ 3 < x1) → ¬ (x2 < 0 ∨ 40 < x2) → (0 : Int) = 0 → Z' 44 1 = x1 ∧ Z' 44 2 = x2 ∧ Z' 44 3 = 0) ∧ ((((0 : Int) < 0 ∨ 3 < (0 : Int) ∨ x1 < 0 ∨ 3 < x1) ∨ (x2 < 0 ∨ 40 < x2) ∨ ¬ (0 : Int) = 1) → Z' 46 1 = Z 46 1 ∧ Z' 46 2 = Z 46 2 ∧ Z' 46 3 = Z 46 3) ∧ (¬ ((0 : Int) < 0 ∨ 3 < (0 : Int) ∨ x1 < 0 ∨ 3 < x1) → ¬ (x2 < 0 ∨ 40 < x2) → (0 : Int) = 1 → Z' 46 1 = x1 ∧ Z' 46 2 = x2 ∧ Z' 46 3 = 0) ∧ ((((0 : Int) < 0 ∨ 3 < (0 : Int) ∨ x1 < 0 ∨ 3 < x1) ∨ (x2 < 0 ∨ 40 < x2) ∨ ¬ (0 : Int) = 2) → Z' 48 1 = Z 48 1 ∧ Z' 48 2 = Z 48 2 ∧ Z' 48 3 = Z 48 3) ∧ (¬ ((0 : Int) < 0 ∨ 3 < (0 : Int) ∨ x1 < 0 ∨ 3 < x1) → ¬ (x2 < 0 ∨ 40 < x2) → (0 : Int) = 2 → Z' 48 1 = x1 ∧ Z' 48 2 = x2 ∧ Z' 48 3 = 0) ∧ ((((0 : Int) < 0 ∨ 3 < (0 : Int) ∨ x1 < 0 ∨ 3 < x1) ∨ (x2 < 0 ∨ 40 < x2) ∨ ¬ (0 : Int) = 3) → Z' 50 1 = Z 50 1 ∧ Z' 50 2 = Z 50 2 ∧ Z' 50 3 = Z 50 3) ∧ (¬ ((0 : Int) < 0 ∨ 3 < (0 : Int) ∨ x1 < 0 ∨ 3 < x1) → ¬ (x2 < 0 ∨ 40 < x2) → (0 : Int) = 3 → Z' 50 1 = x1 ∧ Z' 50 2 = x2 ∧ Z' 50 3 = 0)) → Post (some (xI z), h')) : mx_J (tB l D b0 ad Hb tau) mt_128 (d + 2) 0 [some (.ref 1), some (xI 0), some (xI x1), some (xI x2)] [] h Post := by
    have a1 : 1 < n := lt83 (GI_n hG) rfl
    have s1 : S 1 = .inl (11, [2, 0, 0, 0, 2, 2, 2, 2, 2, 2, 2, 2, 2, 2, 2, 2, 2]) := GI_s hG 1 rfl
    have a34 : 34 < n := lt83 (GI_n hG) rfl
    have s34 : S 34 = .inr ((.object "TitheHeap$Tray"), 4, 2) := GI_s hG 34 rfl
    have a44 : 44 < n := lt83 (GI_n hG) rfl
    have s44 : S 44 = .inl (10, [2, 0, 0, 0]) := GI_s hG 44 rfl
    refine mx_J.step (sn_128 0) (fun _ _ => rfl) ?_
    refine mx_J.step (sn_128 1) (fun _ _ => rfl) ?_
    obtain ⟨z1, hc1, b1⟩ := ct_144_1_y (d := d + 1) (l := l) (D := D) (b0 := b0) (ad := ad) (Hb := Hb) (tau := tau) hx hG (show 0 ≤ 0 ∧ 0 ≤ 3 by omega)
    refine Jcv hx (show mx_Sn _ _ 2 (mx_callv 144 2 11 5) from sn_128 2) a1 s1 hc1 rfl rfl rfl ?_
    have c17 : (0 < 0 ∨ 3 < 0 ∨ x1 < 0 ∨ 3 < x1) → mx_J (tB l D b0 ad Hb tau) mt_128 (d + 2) 17 [some (.ref 1), some (xI 0), some (xI x1), some (xI x2)] [] h Post := by
      intro f2_0
      refine JcI (z := (-2)) (show mx_Sn _ _ 17 (mx_const (.int (-2)) 19) from sn_128 17) rfl ?_
      have b3 : 0 ≤ Z 44 1 ∧ Z 44 1 ≤ 3 := hG.pr 44 1
      have b4 : 0 ≤ Z 44 2 ∧ Z 44 2 ≤ 40 := hG.pr 44 2
      have b5 : 0 ≤ Z 44 3 ∧ Z 44 3 ≤ 1 := hG.pr 44 3
      have b6 : 0 ≤ Z 46 1 ∧ Z 46 1 ≤ 3 := hG.pr 46 1
      have b7 : 0 ≤ Z 46 2 ∧ Z 46 2 ≤ 40 := hG.pr 46 2
      have b8 : 0 ≤ Z 46 3 ∧ Z 46 3 ≤ 1 := hG.pr 46 3
      have b9 : 0 ≤ Z 48 1 ∧ Z 48 1 ≤ 3 := hG.pr 48 1
      have b10 : 0 ≤ Z 48 2 ∧ Z 48 2 ≤ 40 := hG.pr 48 2
      have b11 : 0 ≤ Z 48 3 ∧ Z 48 3 ≤ 1 := hG.pr 48 3
      have b12 : 0 ≤ Z 50 1 ∧ Z 50 1 ≤ 3 := hG.pr 50 1
      have b13 : 0 ≤ Z 50 2 ∧ Z 50 2 ≤ 40 := hG.pr 50 2
      have b14 : 0 ≤ Z 50 3 ∧ Z 50 3 ≤ 1 := hG.pr 50 3
      have b15 : 0 ≤ Z 44 1 ∧ Z 44 1 ≤ 3 := hG.pr 44 1
      have b16 : 0 ≤ Z 44 2 ∧ Z 44 2 ≤ 40 := hG.pr 44 2
      have b17 : 0 ≤ Z 44 3 ∧ Z 44 3 ≤ 1 := hG.pr 44 3
      have b18 : 0 ≤ Z 46 1 ∧ Z 46 1 ≤ 3 := hG.pr 46 1
      have b19 : 0 ≤ Z 46 2 ∧ Z 46 2 ≤ 40 := hG.pr 46 2
      have b20 : 0 ≤ Z 46 3 ∧ Z 46 3 ≤ 1 := hG.pr 46 3
      have b21 : 0 ≤ Z 48 1 ∧ Z 48 1 ≤ 3 := hG.pr 48 1
      have b22 : 0 ≤ Z 48 2 ∧ Z 48 2 ≤ 40 := hG.pr 48 2
      have b23 : 0 ≤ Z 48 3 ∧ Z 48 3 ≤ 1 := hG.pr 48 3
      have b24 : 0 ≤ Z 50 1 ∧ Z 50 1 ≤ 3 := hG.pr 50 1
      have b25 : 0 ≤ Z 50 2 ∧ Z 50 2 ≤ 40 := hG.pr 50 2
      have b26 : 0 ≤ Z 50 3 ∧ Z 50 3 ≤ 1 := hG.pr 50 3
      exact mx_J.ret (sn_128 19) (fun _ _ => rfl) (hP (-2) Z h hx hG fr_rf (by omega))
    refine Jif_ne (show mx_Sn _ _ 5 (mx_if_ne 17 8) from sn_128 5) (by omega) (fun q27 => ?_) (fun q27 => ?_)
    · skip
      exact c17 (by omega)
    · skip
      refine mx_J.step (sn_128 8) (fun _ _ => rfl) ?_
      refine Jif_lt (show mx_Sn _ _ 9 (mx_if_lt 17 12) from sn_128 9) (by omega) (fun q28 => ?_) (fun q28 => ?_)
      · skip
        exact c17 (by omega)
      · skip
        refine mx_J.step (sn_128 12) (fun _ _ => rfl) ?_
        refine JcI (z := 3) (show mx_Sn _ _ 13 (mx_const (.int 3) 14) from sn_128 13) rfl ?_
        refine Jicmp_le (show mx_Sn _ _ 14 (mx_icmp_le 20 17) from sn_128 14) (by omega) (by omega) (fun q29 => ?_) (fun q29 => ?_)
        · skip
          refine mx_J.step (sn_128 20) (fun _ _ => rfl) ?_
          have c30 : (x2 < 0 ∨ 40 < x2) → mx_J (tB l D b0 ad Hb tau) mt_128 (d + 2) 30 [some (.ref 1), some (xI 0), some (xI x1), some (xI x2)] [] h Post := by
            intro f30_0
            refine JcI (z := (-3)) (show mx_Sn _ _ 30 (mx_const (.int (-3)) 32) from sn_128 30) rfl ?_
            have b31 : 0 ≤ Z 44 1 ∧ Z 44 1 ≤ 3 := hG.pr 44 1
            have b32 : 0 ≤ Z 44 2 ∧ Z 44 2 ≤ 40 := hG.pr 44 2
            have b33 : 0 ≤ Z 44 3 ∧ Z 44 3 ≤ 1 := hG.pr 44 3
            have b34 : 0 ≤ Z 46 1 ∧ Z 46 1 ≤ 3 := hG.pr 46 1
            have b35 : 0 ≤ Z 46 2 ∧ Z 46 2 ≤ 40 := hG.pr 46 2
            have b36 : 0 ≤ Z 46 3 ∧ Z 46 3 ≤ 1 := hG.pr 46 3
            have b37 : 0 ≤ Z 48 1 ∧ Z 48 1 ≤ 3 := hG.pr 48 1
            have b38 : 0 ≤ Z 48 2 ∧ Z 48 2 ≤ 40 := hG.pr 48 2
            have b39 : 0 ≤ Z 48 3 ∧ Z 48 3 ≤ 1 := hG.pr 48 3
            have b40 : 0 ≤ Z 50 1 ∧ Z 50 1 ≤ 3 := hG.pr 50 1
            have b41 : 0 ≤ Z 50 2 ∧ Z 50 2 ≤ 40 := hG.pr 50 2
            have b42 : 0 ≤ Z 50 3 ∧ Z 50 3 ≤ 1 := hG.pr 50 3
            have b43 : 0 ≤ Z 44 1 ∧ Z 44 1 ≤ 3 := hG.pr 44 1
            have b44 : 0 ≤ Z 44 2 ∧ Z 44 2 ≤ 40 := hG.pr 44 2
            have b45 : 0 ≤ Z 44 3 ∧ Z 44 3 ≤ 1 := hG.pr 44 3
            have b46 : 0 ≤ Z 46 1 ∧ Z 46 1 ≤ 3 := hG.pr 46 1
            have b47 : 0 ≤ Z 46 2 ∧ Z 46 2 ≤ 40 := hG.pr 46 2
            have b48 : 0 ≤ Z 46 3 ∧ Z 46 3 ≤ 1 := hG.pr 46 3
            have b49 : 0 ≤ Z 48 1 ∧ Z 48 1 ≤ 3 := hG.pr 48 1
            have b50 : 0 ≤ Z 48 2 ∧ Z 48 2 ≤ 40 := hG.pr 48 2
            have b51 : 0 ≤ Z 48 3 ∧ Z 48 3 ≤ 1 := hG.pr 48 3
            have b52 : 0 ≤ Z 50 1 ∧ Z 50 1 ≤ 3 := hG.pr 50 1
            have b53 : 0 ≤ Z 50 2 ∧ Z 50 2 ≤ 40 := hG.pr 50 2
            have b54 : 0 ≤ Z 50 3 ∧ Z 50 3 ≤ 1 := hG.pr 50 3
            exact mx_J.ret (sn_128 32) (fun _ _ => rfl) (hP (-3) Z h hx hG fr_rf (by omega))
          refine Jif_lt (show mx_Sn _ _ 21 (mx_if_lt 30 24) from sn_128 21) (by omega) (fun q55 => ?_) (fun q55 => ?_)
          · skip
            exact c30 (by omega)
          · skip
            refine mx_J.step (sn_128 24) (fun _ _ => rfl) ?_
            refine JcI (z := 40) (show mx_Sn _ _ 25 (mx_const (.int 40) 27) from sn_128 25) rfl ?_
            refine Jicmp_le (show mx_Sn _ _ 27 (mx_icmp_le 33 30) from sn_128 27) (by omega) (by omega) (fun q56 => ?_) (fun q56 => ?_)
            · skip
              refine mx_J.step (sn_128 33) (fun _ _ => rfl) ?_
              refine JgetR (g := 10) (b := 34) hx (show mx_Sn _ _ 34 (mx_getf 11 10 37) from sn_128 34) a1 s1 rfl rfl (hG.prr 1 10 rfl) ?_
              refine mx_J.step (sn_128 37) (fun _ _ => rfl) ?_
              refine JaaldR (i := 0) (b := 44) hx (show mx_Sn _ _ 38 (mx_aald 39) from sn_128 38) a34 s34 (by omega) (show Z 34 0 = 44 by have hq := GI_ex hG 34 0; replace hq : ((0 : Int) ≤ 0 → (0 : Int) ≤ 3 → (Z 34 0) = 44 + 2 * 0) := hq; omega) ?_
              refine mx_J.step (sn_128 39) (fun _ _ => rfl) ?_
              refine mx_J.step (sn_128 40) (fun _ _ => rfl) ?_
              obtain ⟨Z58, h58, hc58, hx58, hG58, hf58, b58⟩ := ct_83_44 (d := d + 0) (l := l) (D := D) (b0 := b0) (ad := ad) (Hb := Hb) (tau := tau) hx hG (show 0 ≤ x1 ∧ x1 ≤ 3 by omega) (show 0 ≤ x2 ∧ x2 ≤ 40 by omega)
              have b59 : 0 ≤ Z58 44 1 ∧ Z58 44 1 ≤ 3 := hG58.pr 44 1
              have b60 : 0 ≤ Z58 44 2 ∧ Z58 44 2 ≤ 40 := hG58.pr 44 2
              have b61 : 0 ≤ Z58 44 3 ∧ Z58 44 3 ≤ 1 := hG58.pr 44 3
              refine Jcv0 hx (show mx_Sn _ _ 41 (mx_callv 83 3 10 44) from sn_128 41) a44 s44 hc58 rfl rfl rfl ?_
              refine JcI (z := 0) (show mx_Sn _ _ 44 (mx_const (.int 0) 45) from sn_128 44) rfl ?_
              have b62 : 0 ≤ Z58 44 1 ∧ Z58 44 1 ≤ 3 := hG58.pr 44 1
              have b63 : 0 ≤ Z58 44 2 ∧ Z58 44 2 ≤ 40 := hG58.pr 44 2
              have b64 : 0 ≤ Z58 44 3 ∧ Z58 44 3 ≤ 1 := hG58.pr 44 3
              have eq65 : Z58 46 1 = Z 46 1 := (hf58 46 1 rfl)
              have b66 : 0 ≤ Z 46 1 ∧ Z 46 1 ≤ 3 := hG.pr 46 1
              have eq67 : Z58 46 2 = Z 46 2 := (hf58 46 2 rfl)
              have b68 : 0 ≤ Z 46 2 ∧ Z 46 2 ≤ 40 := hG.pr 46 2
              have eq69 : Z58 46 3 = Z 46 3 := (hf58 46 3 rfl)
              have b70 : 0 ≤ Z 46 3 ∧ Z 46 3 ≤ 1 := hG.pr 46 3
              have eq71 : Z58 48 1 = Z 48 1 := (hf58 48 1 rfl)
              have b72 : 0 ≤ Z 48 1 ∧ Z 48 1 ≤ 3 := hG.pr 48 1
              have eq73 : Z58 48 2 = Z 48 2 := (hf58 48 2 rfl)
              have b74 : 0 ≤ Z 48 2 ∧ Z 48 2 ≤ 40 := hG.pr 48 2
              have eq75 : Z58 48 3 = Z 48 3 := (hf58 48 3 rfl)
              have b76 : 0 ≤ Z 48 3 ∧ Z 48 3 ≤ 1 := hG.pr 48 3
              have eq77 : Z58 50 1 = Z 50 1 := (hf58 50 1 rfl)
              have b78 : 0 ≤ Z 50 1 ∧ Z 50 1 ≤ 3 := hG.pr 50 1
              have eq79 : Z58 50 2 = Z 50 2 := (hf58 50 2 rfl)
              have b80 : 0 ≤ Z 50 2 ∧ Z 50 2 ≤ 40 := hG.pr 50 2
              have eq81 : Z58 50 3 = Z 50 3 := (hf58 50 3 rfl)
              have b82 : 0 ≤ Z 50 3 ∧ Z 50 3 ≤ 1 := hG.pr 50 3
              have b83 : 0 ≤ Z58 44 1 ∧ Z58 44 1 ≤ 3 := hG58.pr 44 1
              have b84 : 0 ≤ Z58 44 2 ∧ Z58 44 2 ≤ 40 := hG58.pr 44 2
              have b85 : 0 ≤ Z58 44 3 ∧ Z58 44 3 ≤ 1 := hG58.pr 44 3
              have eq86 : Z58 46 1 = Z 46 1 := (hf58 46 1 rfl)
              have b87 : 0 ≤ Z 46 1 ∧ Z 46 1 ≤ 3 := hG.pr 46 1
              have eq88 : Z58 46 2 = Z 46 2 := (hf58 46 2 rfl)
              have b89 : 0 ≤ Z 46 2 ∧ Z 46 2 ≤ 40 := hG.pr 46 2
              have eq90 : Z58 46 3 = Z 46 3 := (hf58 46 3 rfl)
              have b91 : 0 ≤ Z 46 3 ∧ Z 46 3 ≤ 1 := hG.pr 46 3
              have eq92 : Z58 48 1 = Z 48 1 := (hf58 48 1 rfl)
              have b93 : 0 ≤ Z 48 1 ∧ Z 48 1 ≤ 3 := hG.pr 48 1
              have eq94 : Z58 48 2 = Z 48 2 := (hf58 48 2 rfl)
              have b95 : 0 ≤ Z 48 2 ∧ Z 48 2 ≤ 40 := hG.pr 48 2
              have eq96 : Z58 48 3 = Z 48 3 := (hf58 48 3 rfl)
              have b97 : 0 ≤ Z 48 3 ∧ Z 48 3 ≤ 1 := hG.pr 48 3
              have eq98 : Z58 50 1 = Z 50 1 := (hf58 50 1 rfl)
              have b99 : 0 ≤ Z 50 1 ∧ Z 50 1 ≤ 3 := hG.pr 50 1
              have eq100 : Z58 50 2 = Z 50 2 := (hf58 50 2 rfl)
              have b101 : 0 ≤ Z 50 2 ∧ Z 50 2 ≤ 40 := hG.pr 50 2
              have eq102 : Z58 50 3 = Z 50 3 := (hf58 50 3 rfl)
              have b103 : 0 ≤ Z 50 3 ∧ Z 50 3 ≤ 1 := hG.pr 50 3
              exact mx_J.ret (sn_128 45) (fun _ _ => rfl) (hP 0 Z58 h58 hx58 hG58 (fr_tr (M := [(44, 1), (44, 2), (44, 3), (45, (-1))]) fr_rf (hf58) (M1 := []) rfl rfl) (by omega))
            · skip
              exact c30 (by omega)
        · skip
          exact c17 (by omega)
theorem ct_128_1_i0 {l : Launch} {D : va_G} {b0 : Nat} {ad : Nat → Nat} {Hb : Heap} {tau : Nat → Int64} {d n s : Nat} {S : Nat → xS} {Z : xZ} {h : mx_H} (hx : XH n s S Z h) (hG : GI n S Z)  {x1 x2 : Int} (p1 : (-2147483648) ≤ x1 ∧ x1 ≤ 2147483647) (p2 : (-2147483648) ≤ x2 ∧ x2 ≤ 2147483647) : ∃ (z : Int) (Z' : xZ) (h' : mx_H), mx_Ca (tB l D b0 ad Hb tau) (d + 3) 128 [.ref 1, xI 0, xI x1, xI x2] h (some (xI z), h') ∧ XH n s S Z' h' ∧ GI n S Z' ∧ fr' [(44, 1), (44, 2), (44, 3), (45, (-1))] Z Z' ∧ ((-3) ≤ z ∧ z ≤ 0 ∧ (((((0 : Int) < 0 ∨ 3 < (0 : Int) ∨ x1 < 0 ∨ 3 < x1) → z = -2) ∧ (¬ ((0 : Int) < 0 ∨ 3 < (0 : Int) ∨ x1 < 0 ∨ 3 < x1) → (x2 < 0 ∨ 40 < x2) → z = -3) ∧ (¬ ((0 : Int) < 0 ∨ 3 < (0 : Int) ∨ x1 < 0 ∨ 3 < x1) → ¬ (x2 < 0 ∨ 40 < x2) → z = 0)) ∧ ((((0 : Int) < 0 ∨ 3 < (0 : Int) ∨ x1 < 0 ∨ 3 < x1) ∨ (x2 < 0 ∨ 40 < x2) ∨ ¬ (0 : Int) = 0) → Z' 44 1 = Z 44 1 ∧ Z' 44 2 = Z 44 2 ∧ Z' 44 3 = Z 44 3) ∧ (¬ ((0 : Int) < 0 ∨ 3 < (0 : Int) ∨ x1 < 0 ∨ 3 < x1) → ¬ (x2 < 0 ∨ 40 < x2) → (0 : Int) = 0 → Z' 44 1 = x1 ∧ Z' 44 2 = x2 ∧ Z' 44 3 = 0) ∧ ((((0 : Int) < 0 ∨ 3 < (0 : Int) ∨ x1 < 0 ∨ 3 < x1) ∨ (x2 < 0 ∨ 40 < x2) ∨ ¬ (0 : Int) = 1) → Z' 46 1 = Z 46 1 ∧ Z' 46 2 = Z 46 2 ∧ Z' 46 3 = Z 46 3) ∧ (¬ ((0 : Int) < 0 ∨ 3 < (0 : Int) ∨ x1 < 0 ∨ 3 < x1) → ¬ (x2 < 0 ∨ 40 < x2) → (0 : Int) = 1 → Z' 46 1 = x1 ∧ Z' 46 2 = x2 ∧ Z' 46 3 = 0) ∧ ((((0 : Int) < 0 ∨ 3 < (0 : Int) ∨ x1 < 0 ∨ 3 < x1) ∨ (x2 < 0 ∨ 40 < x2) ∨ ¬ (0 : Int) = 2) → Z' 48 1 = Z 48 1 ∧ Z' 48 2 = Z 48 2 ∧ Z' 48 3 = Z 48 3) ∧ (¬ ((0 : Int) < 0 ∨ 3 < (0 : Int) ∨ x1 < 0 ∨ 3 < x1) → ¬ (x2 < 0 ∨ 40 < x2) → (0 : Int) = 2 → Z' 48 1 = x1 ∧ Z' 48 2 = x2 ∧ Z' 48 3 = 0) ∧ ((((0 : Int) < 0 ∨ 3 < (0 : Int) ∨ x1 < 0 ∨ 3 < x1) ∨ (x2 < 0 ∨ 40 < x2) ∨ ¬ (0 : Int) = 3) → Z' 50 1 = Z 50 1 ∧ Z' 50 2 = Z 50 2 ∧ Z' 50 3 = Z 50 3) ∧ (¬ ((0 : Int) < 0 ∨ 3 < (0 : Int) ∨ x1 < 0 ∨ 3 < x1) → ¬ (x2 < 0 ∨ 40 < x2) → (0 : Int) = 3 → Z' 50 1 = x1 ∧ Z' 50 2 = x2 ∧ Z' 50 3 = 0))) := by
  obtain ⟨r, hca, z, Z', h', e, q⟩ := Jmt (B := tB l D b0 ad Hb tau) (M := mt_128) (mi := 128) (as := [.ref 1, xI 0, xI x1, xI x2]) (d := d + 2) (ls := [some (.ref 1), some (xI 0), some (xI x1), some (xI x2)]) rfl rfl rfl rfl rfl rfl (cw_128_1_i0 (l := l) (D := D) (b0 := b0) (ad := ad) (Hb := Hb) (tau := tau) (d := d) (Post := fun r => ∃ (z : Int) (Z' : xZ) (h' : mx_H), r = (some (xI z), h') ∧ XH n s S Z' h' ∧ GI n S Z' ∧ fr' [(44, 1), (44, 2), (44, 3), (45, (-1))] Z Z' ∧ ((-3) ≤ z ∧ z ≤ 0 ∧ (((((0 : Int) < 0 ∨ 3 < (0 : Int) ∨ x1 < 0 ∨ 3 < x1) → z = -2) ∧ (¬ ((0 : Int) < 0 ∨ 3 < (0 : Int) ∨ x1 < 0 ∨ 3 < x1) → (x2 < 0 ∨ 40 < x2) → z = -3) ∧ (¬ ((0 : Int) < 0 ∨ 3 < (0 : Int) ∨ x1 < 0 ∨ 3 < x1) → ¬ (x2 < 0 ∨ 40 < x2) → z = 0)) ∧ ((((0 : Int) < 0 ∨ 3 < (0 : Int) ∨ x1 < 0 ∨ 3 < x1) ∨ (x2 < 0 ∨ 40 < x2) ∨ ¬ (0 : Int) = 0) → Z' 44 1 = Z 44 1 ∧ Z' 44 2 = Z 44 2 ∧ Z' 44 3 = Z 44 3) ∧ (¬ ((0 : Int) < 0 ∨ 3 < (0 : Int) ∨ x1 < 0 ∨ 3 < x1) → ¬ (x2 < 0 ∨ 40 < x2) → (0 : Int) = 0 → Z' 44 1 = x1 ∧ Z' 44 2 = x2 ∧ Z' 44 3 = 0) ∧ ((((0 : Int) < 0 ∨ 3 < (0 : Int) ∨ x1 < 0 ∨ 3 < x1) ∨ (x2 < 0 ∨ 40 < x2) ∨ ¬ (0 : Int) = 1) → Z' 46 1 = Z 46 1 ∧ Z' 46 2 = Z 46 2 ∧ Z' 46 3 = Z 46 3) ∧ (¬ ((0 : Int) < 0 ∨ 3 < (0 : Int) ∨ x1 < 0 ∨ 3 < x1) → ¬ (x2 < 0 ∨ 40 < x2) → (0 : Int) = 1 → Z' 46 1 = x1 ∧ Z' 46 2 = x2 ∧ Z' 46 3 = 0) ∧ ((((0 : Int) < 0 ∨ 3 < (0 : Int) ∨ x1 < 0 ∨ 3 < x1) ∨ (x2 < 0 ∨ 40 < x2) ∨ ¬ (0 : Int) = 2) → Z' 48 1 = Z 48 1 ∧ Z' 48 2 = Z 48 2 ∧ Z' 48 3 = Z 48 3) ∧ (¬ ((0 : Int) < 0 ∨ 3 < (0 : Int) ∨ x1 < 0 ∨ 3 < x1) → ¬ (x2 < 0 ∨ 40 < x2) → (0 : Int) = 2 → Z' 48 1 = x1 ∧ Z' 48 2 = x2 ∧ Z' 48 3 = 0) ∧ ((((0 : Int) < 0 ∨ 3 < (0 : Int) ∨ x1 < 0 ∨ 3 < x1) ∨ (x2 < 0 ∨ 40 < x2) ∨ ¬ (0 : Int) = 3) → Z' 50 1 = Z 50 1 ∧ Z' 50 2 = Z 50 2 ∧ Z' 50 3 = Z 50 3) ∧ (¬ ((0 : Int) < 0 ∨ 3 < (0 : Int) ∨ x1 < 0 ∨ 3 < x1) → ¬ (x2 < 0 ∨ 40 < x2) → (0 : Int) = 3 → Z' 50 1 = x1 ∧ Z' 50 2 = x2 ∧ Z' 50 3 = 0)))) hx hG p1 p2 (fun z Z' h' q1 q2 q3 q4 => ⟨z, Z', h', rfl, q1, q2, q3, q4⟩))
  subst e; exact ⟨z, Z', h', hca, q⟩
set_option maxRecDepth 100000 in
theorem cw_128_1_n {l : Launch} {D : va_G} {b0 : Nat} {ad : Nat → Nat} {Hb : Heap} {tau : Nat → Int64} {d n s : Nat} {S : Nat → xS} {Z : xZ} {h : mx_H} {Post : mx_R → Prop} (hx : XH n s S Z h) (hG : GI n S Z)  {x0 x1 x2 : Int} (p0 : (-2147483648) ≤ x0 ∧ x0 ≤ (-1)) (p1 : (-2147483648) ≤ x1 ∧ x1 ≤ 2147483647) (p2 : (-2147483648) ≤ x2 ∧ x2 ≤ 2147483647) (hP : ∀ z : Int, (-2) ≤ z ∧ z ≤ (-2) ∧ ((((x0 < 0 ∨ 3 < x0 ∨ x1 < 0 ∨ 3 < x1) → z = -2) ∧ (¬ (x0 < 0 ∨ 3 < x0 ∨ x1 < 0 ∨ 3 < x1) → (x2 < 0 ∨ 40 < x2) → z = -3) ∧ (¬ (x0 < 0 ∨ 3 < x0 ∨ x1 < 0 ∨ 3 < x1) → ¬ (x2 < 0 ∨ 40 < x2) → z = 0)) ∧ (((x0 < 0 ∨ 3 < x0 ∨ x1 < 0 ∨ 3 < x1) ∨ (x2 < 0 ∨ 40 < x2) ∨ ¬ x0 = 0) → Z 44 1 = Z 44 1 ∧ Z 44 2 = Z 44 2 ∧ Z 44 3 = Z 44 3) ∧ (¬ (x0 < 0 ∨ 3 < x0 ∨ x1 < 0 ∨ 3 < x1) → ¬ (x2 < 0 ∨ 40 < x2) → x0 = 0 → Z 44 1 = x1 ∧ Z 44 2 = x2 ∧ Z 44 3 = 0) ∧ (((x0 < 0 ∨ 3 < x0 ∨ x1 < 0 ∨ 3 < x1) ∨ (x2 < 0 ∨ 40 < x2) ∨ ¬ x0 = 1) → Z 46 1 = Z 46 1 ∧ Z 46 2 = Z 46 2 ∧ Z 46 3 = Z 46 3) ∧ (¬ (x0 < 0 ∨ 3 < x0 ∨ x1 < 0 ∨ 3 < x1) → ¬ (x2 < 0 ∨ 40 < x2) → x0 = 1 → Z 46 1 = x1 ∧ Z 46 2 = x2 ∧ Z 46 3 = 0) ∧ (((x0 < 0 ∨ 3 < x0 ∨ x1 < 0 ∨ 3 < x1) ∨ (x2 < 0 ∨ 40 < x2) ∨ ¬ x0 = 2) → Z 48 1 = Z 48 1 ∧ Z 48 2 = Z 48 2 ∧ Z 48 3 = Z 48 3) ∧ (¬ (x0 < 0 ∨ 3 < x0 ∨ x1 < 0 ∨ 3 < x1) → ¬ (x2 < 0 ∨ 40 < x2) → x0 = 2 → Z 48 1 = x1 ∧ Z 48 2 = x2 ∧ Z 48 3 = 0) ∧ (((x0 < 0 ∨ 3 < x0 ∨ x1 < 0 ∨ 3 < x1) ∨ (x2 < 0 ∨ 40 < x2) ∨ ¬ x0 = 3) → Z 50 1 = Z 50 1 ∧ Z 50 2 = Z 50 2 ∧ Z 50 3 = Z 50 3) ∧ (¬ (x0 < 0 ∨ 3 < x0 ∨ x1 < 0 ∨ 3 < x1) → ¬ (x2 < 0 ∨ 40 < x2) → x0 = 3 → Z 50 1 = x1 ∧ Z 50 2 = x2 ∧ Z 50 3 = 0)) → Post (some (xI z), h)) : mx_J (tB l D b0 ad Hb tau) mt_128 (d + 1) 0 [some (.ref 1), some (xI x0), some (xI x1), some (xI x2)] [] h Post := by
    have a1 : 1 < n := lt83 (GI_n hG) rfl
    have s1 : S 1 = .inl (11, [2, 0, 0, 0, 2, 2, 2, 2, 2, 2, 2, 2, 2, 2, 2, 2, 2]) := GI_s hG 1 rfl
    refine mx_J.step (sn_128 0) (fun _ _ => rfl) ?_
    refine mx_J.step (sn_128 1) (fun _ _ => rfl) ?_
    obtain ⟨z1, hc1, b1⟩ := ct_144_1_n (d := d + 0) (l := l) (D := D) (b0 := b0) (ad := ad) (Hb := Hb) (tau := tau) hx hG (show (-2147483648) ≤ x0 ∧ x0 ≤ (-1) by omega)
    refine Jcv hx (show mx_Sn _ _ 2 (mx_callv 144 2 11 5) from sn_128 2) a1 s1 hc1 rfl rfl rfl ?_
    refine Jif_ne (show mx_Sn _ _ 5 (mx_if_ne 17 8) from sn_128 5) (by omega) (fun q2 => ?_) (fun q2 => ?_)
    · skip
      refine JcI (z := (-2)) (show mx_Sn _ _ 17 (mx_const (.int (-2)) 19) from sn_128 17) rfl ?_
      have b3 : 0 ≤ Z 44 1 ∧ Z 44 1 ≤ 3 := hG.pr 44 1
      have b4 : 0 ≤ Z 44 2 ∧ Z 44 2 ≤ 40 := hG.pr 44 2
      have b5 : 0 ≤ Z 44 3 ∧ Z 44 3 ≤ 1 := hG.pr 44 3
      have b6 : 0 ≤ Z 46 1 ∧ Z 46 1 ≤ 3 := hG.pr 46 1
      have b7 : 0 ≤ Z 46 2 ∧ Z 46 2 ≤ 40 := hG.pr 46 2
      have b8 : 0 ≤ Z 46 3 ∧ Z 46 3 ≤ 1 := hG.pr 46 3
      have b9 : 0 ≤ Z 48 1 ∧ Z 48 1 ≤ 3 := hG.pr 48 1
      have b10 : 0 ≤ Z 48 2 ∧ Z 48 2 ≤ 40 := hG.pr 48 2
      have b11 : 0 ≤ Z 48 3 ∧ Z 48 3 ≤ 1 := hG.pr 48 3
      have b12 : 0 ≤ Z 50 1 ∧ Z 50 1 ≤ 3 := hG.pr 50 1
      have b13 : 0 ≤ Z 50 2 ∧ Z 50 2 ≤ 40 := hG.pr 50 2
      have b14 : 0 ≤ Z 50 3 ∧ Z 50 3 ≤ 1 := hG.pr 50 3
      have b15 : 0 ≤ Z 44 1 ∧ Z 44 1 ≤ 3 := hG.pr 44 1
      have b16 : 0 ≤ Z 44 2 ∧ Z 44 2 ≤ 40 := hG.pr 44 2
      have b17 : 0 ≤ Z 44 3 ∧ Z 44 3 ≤ 1 := hG.pr 44 3
      have b18 : 0 ≤ Z 46 1 ∧ Z 46 1 ≤ 3 := hG.pr 46 1
      have b19 : 0 ≤ Z 46 2 ∧ Z 46 2 ≤ 40 := hG.pr 46 2
      have b20 : 0 ≤ Z 46 3 ∧ Z 46 3 ≤ 1 := hG.pr 46 3
      have b21 : 0 ≤ Z 48 1 ∧ Z 48 1 ≤ 3 := hG.pr 48 1
      have b22 : 0 ≤ Z 48 2 ∧ Z 48 2 ≤ 40 := hG.pr 48 2
      have b23 : 0 ≤ Z 48 3 ∧ Z 48 3 ≤ 1 := hG.pr 48 3
      have b24 : 0 ≤ Z 50 1 ∧ Z 50 1 ≤ 3 := hG.pr 50 1
      have b25 : 0 ≤ Z 50 2 ∧ Z 50 2 ≤ 40 := hG.pr 50 2
      have b26 : 0 ≤ Z 50 3 ∧ Z 50 3 ≤ 1 := hG.pr 50 3
      exact mx_J.ret (sn_128 19) (fun _ _ => rfl) (hP (-2) (by omega))
    · skip
      exfalso; omega
theorem ct_128_1_n {l : Launch} {D : va_G} {b0 : Nat} {ad : Nat → Nat} {Hb : Heap} {tau : Nat → Int64} {d n s : Nat} {S : Nat → xS} {Z : xZ} {h : mx_H} (hx : XH n s S Z h) (hG : GI n S Z)  {x0 x1 x2 : Int} (p0 : (-2147483648) ≤ x0 ∧ x0 ≤ (-1)) (p1 : (-2147483648) ≤ x1 ∧ x1 ≤ 2147483647) (p2 : (-2147483648) ≤ x2 ∧ x2 ≤ 2147483647) : ∃ z : Int, mx_Ca (tB l D b0 ad Hb tau) (d + 2) 128 [.ref 1, xI x0, xI x1, xI x2] h (some (xI z), h) ∧ ((-2) ≤ z ∧ z ≤ (-2) ∧ ((((x0 < 0 ∨ 3 < x0 ∨ x1 < 0 ∨ 3 < x1) → z = -2) ∧ (¬ (x0 < 0 ∨ 3 < x0 ∨ x1 < 0 ∨ 3 < x1) → (x2 < 0 ∨ 40 < x2) → z = -3) ∧ (¬ (x0 < 0 ∨ 3 < x0 ∨ x1 < 0 ∨ 3 < x1) → ¬ (x2 < 0 ∨ 40 < x2) → z = 0)) ∧ (((x0 < 0 ∨ 3 < x0 ∨ x1 < 0 ∨ 3 < x1) ∨ (x2 < 0 ∨ 40 < x2) ∨ ¬ x0 = 0) → Z 44 1 = Z 44 1 ∧ Z 44 2 = Z 44 2 ∧ Z 44 3 = Z 44 3) ∧ (¬ (x0 < 0 ∨ 3 < x0 ∨ x1 < 0 ∨ 3 < x1) → ¬ (x2 < 0 ∨ 40 < x2) → x0 = 0 → Z 44 1 = x1 ∧ Z 44 2 = x2 ∧ Z 44 3 = 0) ∧ (((x0 < 0 ∨ 3 < x0 ∨ x1 < 0 ∨ 3 < x1) ∨ (x2 < 0 ∨ 40 < x2) ∨ ¬ x0 = 1) → Z 46 1 = Z 46 1 ∧ Z 46 2 = Z 46 2 ∧ Z 46 3 = Z 46 3) ∧ (¬ (x0 < 0 ∨ 3 < x0 ∨ x1 < 0 ∨ 3 < x1) → ¬ (x2 < 0 ∨ 40 < x2) → x0 = 1 → Z 46 1 = x1 ∧ Z 46 2 = x2 ∧ Z 46 3 = 0) ∧ (((x0 < 0 ∨ 3 < x0 ∨ x1 < 0 ∨ 3 < x1) ∨ (x2 < 0 ∨ 40 < x2) ∨ ¬ x0 = 2) → Z 48 1 = Z 48 1 ∧ Z 48 2 = Z 48 2 ∧ Z 48 3 = Z 48 3) ∧ (¬ (x0 < 0 ∨ 3 < x0 ∨ x1 < 0 ∨ 3 < x1) → ¬ (x2 < 0 ∨ 40 < x2) → x0 = 2 → Z 48 1 = x1 ∧ Z 48 2 = x2 ∧ Z 48 3 = 0) ∧ (((x0 < 0 ∨ 3 < x0 ∨ x1 < 0 ∨ 3 < x1) ∨ (x2 < 0 ∨ 40 < x2) ∨ ¬ x0 = 3) → Z 50 1 = Z 50 1 ∧ Z 50 2 = Z 50 2 ∧ Z 50 3 = Z 50 3) ∧ (¬ (x0 < 0 ∨ 3 < x0 ∨ x1 < 0 ∨ 3 < x1) → ¬ (x2 < 0 ∨ 40 < x2) → x0 = 3 → Z 50 1 = x1 ∧ Z 50 2 = x2 ∧ Z 50 3 = 0))) := by
  obtain ⟨r, hca, z, e, hp⟩ := Jmt (B := tB l D b0 ad Hb tau) (M := mt_128) (mi := 128) (as := [.ref 1, xI x0, xI x1, xI x2]) (d := d + 1) (ls := [some (.ref 1), some (xI x0), some (xI x1), some (xI x2)]) rfl rfl rfl rfl rfl rfl (cw_128_1_n (l := l) (D := D) (b0 := b0) (ad := ad) (Hb := Hb) (tau := tau) (d := d) (Post := fun r => ∃ z : Int, r = (some (xI z), h) ∧ ((-2) ≤ z ∧ z ≤ (-2) ∧ ((((x0 < 0 ∨ 3 < x0 ∨ x1 < 0 ∨ 3 < x1) → z = -2) ∧ (¬ (x0 < 0 ∨ 3 < x0 ∨ x1 < 0 ∨ 3 < x1) → (x2 < 0 ∨ 40 < x2) → z = -3) ∧ (¬ (x0 < 0 ∨ 3 < x0 ∨ x1 < 0 ∨ 3 < x1) → ¬ (x2 < 0 ∨ 40 < x2) → z = 0)) ∧ (((x0 < 0 ∨ 3 < x0 ∨ x1 < 0 ∨ 3 < x1) ∨ (x2 < 0 ∨ 40 < x2) ∨ ¬ x0 = 0) → Z 44 1 = Z 44 1 ∧ Z 44 2 = Z 44 2 ∧ Z 44 3 = Z 44 3) ∧ (¬ (x0 < 0 ∨ 3 < x0 ∨ x1 < 0 ∨ 3 < x1) → ¬ (x2 < 0 ∨ 40 < x2) → x0 = 0 → Z 44 1 = x1 ∧ Z 44 2 = x2 ∧ Z 44 3 = 0) ∧ (((x0 < 0 ∨ 3 < x0 ∨ x1 < 0 ∨ 3 < x1) ∨ (x2 < 0 ∨ 40 < x2) ∨ ¬ x0 = 1) → Z 46 1 = Z 46 1 ∧ Z 46 2 = Z 46 2 ∧ Z 46 3 = Z 46 3) ∧ (¬ (x0 < 0 ∨ 3 < x0 ∨ x1 < 0 ∨ 3 < x1) → ¬ (x2 < 0 ∨ 40 < x2) → x0 = 1 → Z 46 1 = x1 ∧ Z 46 2 = x2 ∧ Z 46 3 = 0) ∧ (((x0 < 0 ∨ 3 < x0 ∨ x1 < 0 ∨ 3 < x1) ∨ (x2 < 0 ∨ 40 < x2) ∨ ¬ x0 = 2) → Z 48 1 = Z 48 1 ∧ Z 48 2 = Z 48 2 ∧ Z 48 3 = Z 48 3) ∧ (¬ (x0 < 0 ∨ 3 < x0 ∨ x1 < 0 ∨ 3 < x1) → ¬ (x2 < 0 ∨ 40 < x2) → x0 = 2 → Z 48 1 = x1 ∧ Z 48 2 = x2 ∧ Z 48 3 = 0) ∧ (((x0 < 0 ∨ 3 < x0 ∨ x1 < 0 ∨ 3 < x1) ∨ (x2 < 0 ∨ 40 < x2) ∨ ¬ x0 = 3) → Z 50 1 = Z 50 1 ∧ Z 50 2 = Z 50 2 ∧ Z 50 3 = Z 50 3) ∧ (¬ (x0 < 0 ∨ 3 < x0 ∨ x1 < 0 ∨ 3 < x1) → ¬ (x2 < 0 ∨ 40 < x2) → x0 = 3 → Z 50 1 = x1 ∧ Z 50 2 = x2 ∧ Z 50 3 = 0)))) hx hG p0 p1 p2 (fun z hz => ⟨z, rfl, hz⟩))
  subst e; exact ⟨z, hca, hp⟩
theorem ct_128_1 {l : Launch} {D : va_G} {b0 : Nat} {ad : Nat → Nat} {Hb : Heap} {tau : Nat → Int64} {d n s : Nat} {S : Nat → xS} {Z : xZ} {h : mx_H} (hx : XH n s S Z h) (hG : GI n S Z) {x0 x1 x2 : Int} (p0 : (-2147483648) ≤ x0 ∧ x0 ≤ 2147483647) (p1 : (-2147483648) ≤ x1 ∧ x1 ≤ 2147483647) (p2 : (-2147483648) ≤ x2 ∧ x2 ≤ 2147483647) : ∃ (z : Int) (Z' : xZ) (h' : mx_H), mx_Ca (tB l D b0 ad Hb tau) (d + 3) 128 [.ref 1, xI x0, xI x1, xI x2] h (some (xI z), h') ∧ XH n s S Z' h' ∧ GI n S Z' ∧ fr' [(44, 1), (44, 2), (44, 3), (45, (-1)), (46, 1), (46, 2), (46, 3), (47, (-1)), (48, 1), (48, 2), (48, 3), (49, (-1)), (50, 1), (50, 2), (50, 3), (51, (-1))] Z Z' ∧ ((-3) ≤ z ∧ z ≤ 0 ∧ ((((x0 < 0 ∨ 3 < x0 ∨ x1 < 0 ∨ 3 < x1) → z = -2) ∧ (¬ (x0 < 0 ∨ 3 < x0 ∨ x1 < 0 ∨ 3 < x1) → (x2 < 0 ∨ 40 < x2) → z = -3) ∧ (¬ (x0 < 0 ∨ 3 < x0 ∨ x1 < 0 ∨ 3 < x1) → ¬ (x2 < 0 ∨ 40 < x2) → z = 0)) ∧ (((x0 < 0 ∨ 3 < x0 ∨ x1 < 0 ∨ 3 < x1) ∨ (x2 < 0 ∨ 40 < x2) ∨ ¬ x0 = 0) → Z' 44 1 = Z 44 1 ∧ Z' 44 2 = Z 44 2 ∧ Z' 44 3 = Z 44 3) ∧ (¬ (x0 < 0 ∨ 3 < x0 ∨ x1 < 0 ∨ 3 < x1) → ¬ (x2 < 0 ∨ 40 < x2) → x0 = 0 → Z' 44 1 = x1 ∧ Z' 44 2 = x2 ∧ Z' 44 3 = 0) ∧ (((x0 < 0 ∨ 3 < x0 ∨ x1 < 0 ∨ 3 < x1) ∨ (x2 < 0 ∨ 40 < x2) ∨ ¬ x0 = 1) → Z' 46 1 = Z 46 1 ∧ Z' 46 2 = Z 46 2 ∧ Z' 46 3 = Z 46 3) ∧ (¬ (x0 < 0 ∨ 3 < x0 ∨ x1 < 0 ∨ 3 < x1) → ¬ (x2 < 0 ∨ 40 < x2) → x0 = 1 → Z' 46 1 = x1 ∧ Z' 46 2 = x2 ∧ Z' 46 3 = 0) ∧ (((x0 < 0 ∨ 3 < x0 ∨ x1 < 0 ∨ 3 < x1) ∨ (x2 < 0 ∨ 40 < x2) ∨ ¬ x0 = 2) → Z' 48 1 = Z 48 1 ∧ Z' 48 2 = Z 48 2 ∧ Z' 48 3 = Z 48 3) ∧ (¬ (x0 < 0 ∨ 3 < x0 ∨ x1 < 0 ∨ 3 < x1) → ¬ (x2 < 0 ∨ 40 < x2) → x0 = 2 → Z' 48 1 = x1 ∧ Z' 48 2 = x2 ∧ Z' 48 3 = 0) ∧ (((x0 < 0 ∨ 3 < x0 ∨ x1 < 0 ∨ 3 < x1) ∨ (x2 < 0 ∨ 40 < x2) ∨ ¬ x0 = 3) → Z' 50 1 = Z 50 1 ∧ Z' 50 2 = Z 50 2 ∧ Z' 50 3 = Z 50 3) ∧ (¬ (x0 < 0 ∨ 3 < x0 ∨ x1 < 0 ∨ 3 < x1) → ¬ (x2 < 0 ∨ 40 < x2) → x0 = 3 → Z' 50 1 = x1 ∧ Z' 50 2 = x2 ∧ Z' 50 3 = 0))) := by
  have hc : x0 = 0 ∨ x0 = 1 ∨ x0 = 2 ∨ x0 = 3 ∨ ((-2147483648) ≤ x0 ∧ x0 ≤ (-1)) ∨ (4 ≤ x0 ∧ x0 ≤ 2147483647) := by omega
  rcases hc with hc | hc | hc | hc | hc | hc
  · subst hc
    obtain ⟨z, Z', h', hca, q1, q2, q3, b⟩ := ct_128_1_i0 (d := d + 0) (l := l) (D := D) (b0 := b0) (ad := ad) (Hb := Hb) (tau := tau) hx hG p1 p2
    exact ⟨z, Z', h', hca, q1, q2, fr_tr (M1 := []) fr_rf q3 rfl rfl, ⟨Int.le_trans (by decide) b.1, Int.le_trans b.2.1 (by decide), b.2.2⟩⟩
  · subst hc
    obtain ⟨z, Z', h', hca, q1, q2, q3, b⟩ := ct_128_1_i1 (d := d + 0) (l := l) (D := D) (b0 := b0) (ad := ad) (Hb := Hb) (tau := tau) hx hG p1 p2
    exact ⟨z, Z', h', hca, q1, q2, fr_tr (M1 := []) fr_rf q3 rfl rfl, ⟨Int.le_trans (by decide) b.1, Int.le_trans b.2.1 (by decide), b.2.2⟩⟩
  · subst hc
    obtain ⟨z, Z', h', hca, q1, q2, q3, b⟩ := ct_128_1_i2 (d := d + 0) (l := l) (D := D) (b0 := b0) (ad := ad) (Hb := Hb) (tau := tau) hx hG p1 p2
    exact ⟨z, Z', h', hca, q1, q2, fr_tr (M1 := []) fr_rf q3 rfl rfl, ⟨Int.le_trans (by decide) b.1, Int.le_trans b.2.1 (by decide), b.2.2⟩⟩
  · subst hc
    obtain ⟨z, Z', h', hca, q1, q2, q3, b⟩ := ct_128_1_i3 (d := d + 0) (l := l) (D := D) (b0 := b0) (ad := ad) (Hb := Hb) (tau := tau) hx hG p1 p2
    exact ⟨z, Z', h', hca, q1, q2, fr_tr (M1 := []) fr_rf q3 rfl rfl, ⟨Int.le_trans (by decide) b.1, Int.le_trans b.2.1 (by decide), b.2.2⟩⟩
  · skip
    obtain ⟨z, hca, b⟩ := ct_128_1_n (d := d + 1) (l := l) (D := D) (b0 := b0) (ad := ad) (Hb := Hb) (tau := tau) hx hG hc p1 p2
    exact ⟨z, Z, h, hca, hx, hG, fr_rf, ⟨Int.le_trans (by decide) b.1, Int.le_trans b.2.1 (by decide), b.2.2⟩⟩
  · skip
    obtain ⟨z, hca, b⟩ := ct_128_1_p (d := d + 1) (l := l) (D := D) (b0 := b0) (ad := ad) (Hb := Hb) (tau := tau) hx hG hc p1 p2
    exact ⟨z, Z, h, hca, hx, hG, fr_rf, ⟨Int.le_trans (by decide) b.1, Int.le_trans b.2.1 (by decide), b.2.2⟩⟩
set_option maxRecDepth 100000 in
theorem cw_129_1_i3 {l : Launch} {D : va_G} {b0 : Nat} {ad : Nat → Nat} {Hb : Heap} {tau : Nat → Int64} {d n s : Nat} {S : Nat → xS} {Z : xZ} {h : mx_H} {Post : mx_R → Prop} (hx : XH n s S Z h) (hG : GI n S Z)  {x1 x2 : Int} (p1 : (-2147483648) ≤ x1 ∧ x1 ≤ 2147483647) (p2 : (-9223372036854775808) ≤ x2 ∧ x2 ≤ 9223372036854775807) (hP : ∀ (z : Int) (Z' : xZ) (h' : mx_H), XH n s S Z' h' → GI n S Z' → fr' [(51, (-1))] Z Z' → (-9223372036854775808) ≤ z ∧ z ≤ 9223372036854775807 ∧ ((((3 : Int) < 0 ∨ 3 < (3 : Int)) → z = -2) ∧ ((3 : Int) = 0 → (Z 44 3 = 1 → z = -6) ∧ (Z 44 3 = 0 → ((x1 < 0 ∨ Z 44 2 ≤ x1) → z = -7) ∧ (¬ (x1 < 0 ∨ Z 44 2 ≤ x1) → ((Z 44 1 = 0 → -128 ≤ z ∧ z ≤ 127 ∧ (z - x2) % 256 = 0) ∧ (Z 44 1 = 1 → -32768 ≤ z ∧ z ≤ 32767 ∧ (z - x2) % 65536 = 0) ∧ (Z 44 1 = 2 → -2147483648 ≤ z ∧ z ≤ 2147483647 ∧ (z - x2) % 4294967296 = 0) ∧ (¬ Z 44 1 = 0 → ¬ Z 44 1 = 1 → ¬ Z 44 1 = 2 → z = x2))))) ∧ ((3 : Int) = 1 → (Z 46 3 = 1 → z = -6) ∧ (Z 46 3 = 0 → ((x1 < 0 ∨ Z 46 2 ≤ x1) → z = -7) ∧ (¬ (x1 < 0 ∨ Z 46 2 ≤ x1) → ((Z 46 1 = 0 → -128 ≤ z ∧ z ≤ 127 ∧ (z - x2) % 256 = 0) ∧ (Z 46 1 = 1 → -32768 ≤ z ∧ z ≤ 32767 ∧ (z - x2) % 65536 = 0) ∧ (Z 46 1 = 2 → -2147483648 ≤ z ∧ z ≤ 2147483647 ∧ (z - x2) % 4294967296 = 0) ∧ (¬ Z 46 1 = 0 → ¬ Z 46 1 = 1 → ¬ Z 46 1 = 2 → z = x2))))) ∧ ((3 : Int) = 2 → (Z 48 3 = 1 → z = -6) ∧ (Z 48 3 = 0 → ((x1 < 0 ∨ Z 48 2 ≤ x1) → z = -7) ∧ (¬ (x1 < 0 ∨ Z 48 2 ≤ x1) → ((Z 48 1 = 0 → -128 ≤ z ∧ z ≤ 127 ∧ (z - x2) % 256 = 0) ∧ (Z 48 1 = 1 → -32768 ≤ z ∧ z ≤ 32767 ∧ (z - x2) % 65536 = 0) ∧ (Z 48 1 = 2 → -2147483648 ≤ z ∧ z ≤ 2147483647 ∧ (z - x2) % 4294967296 = 0) ∧ (¬ Z 48 1 = 0 → ¬ Z 48 1 = 1 → ¬ Z 48 1 = 2 → z = x2))))) ∧ ((3 : Int) = 3 → (Z 50 3 = 1 → z = -6) ∧ (Z 50 3 = 0 → ((x1 < 0 ∨ Z 50 2 ≤ x1) → z = -7) ∧ (¬ (x1 < 0 ∨ Z 50 2 ≤ x1) → ((Z 50 1 = 0 → -128 ≤ z ∧ z ≤ 127 ∧ (z - x2) % 256 = 0) ∧ (Z 50 1 = 1 → -32768 ≤ z ∧ z ≤ 32767 ∧ (z - x2) % 65536 = 0) ∧ (Z 50 1 = 2 → -2147483648 ≤ z ∧ z ≤ 2147483647 ∧ (z - x2) % 4294967296 = 0) ∧ (¬ Z 50 1 = 0 → ¬ Z 50 1 = 1 → ¬ Z 50 1 = 2 → z = x2)))))) → Post (some (xL z), h')) : mx_J (tB l D b0 ad Hb tau) mt_129 (d + 1) 0 [some (.ref 1), some (xI 3), some (xI x1), some (xL x2), none] [] h Post := by
    have a1 : 1 < n := lt83 (GI_n hG) rfl
    have s1 : S 1 = .inl (11, [2, 0, 0, 0, 2, 2, 2, 2, 2, 2, 2, 2, 2, 2, 2, 2, 2]) := GI_s hG 1 rfl
    have a34 : 34 < n := lt83 (GI_n hG) rfl
    have s34 : S 34 = .inr ((.object "TitheHeap$Tray"), 4, 2) := GI_s hG 34 rfl
    have a50 : 50 < n := lt83 (GI_n hG) rfl
    have s50 : S 50 = .inl (10, [2, 0, 0, 0]) := GI_s hG 50 rfl
    refine mx_J.step (sn_129 0) (fun _ _ => rfl) ?_
    refine mx_J.step (sn_129 1) (fun _ _ => rfl) ?_
    obtain ⟨z1, hc1, b1⟩ := ct_144_1_y (d := d + 0) (l := l) (D := D) (b0 := b0) (ad := ad) (Hb := Hb) (tau := tau) hx hG (show 0 ≤ 3 ∧ 3 ≤ 3 by omega)
    refine Jcv hx (show mx_Sn _ _ 2 (mx_callv 144 2 11 5) from sn_129 2) a1 s1 hc1 rfl rfl rfl ?_
    refine Jif_eq (show mx_Sn _ _ 5 (mx_if_eq 12 8) from sn_129 5) (by omega) (fun q2 => ?_) (fun q2 => ?_)
    · skip
      refine mx_J.step (sn_129 12) (fun _ _ => rfl) ?_
      refine JgetR (g := 10) (b := 34) hx (show mx_Sn _ _ 13 (mx_getf 11 10 16) from sn_129 13) a1 s1 rfl rfl (hG.prr 1 10 rfl) ?_
      refine mx_J.step (sn_129 16) (fun _ _ => rfl) ?_
      refine JaaldR (i := 3) (b := 50) hx (show mx_Sn _ _ 17 (mx_aald 18) from sn_129 17) a34 s34 (by omega) (show Z 34 3 = 50 by have hq := GI_ex hG 34 3; replace hq : ((0 : Int) ≤ 3 → (3 : Int) ≤ 3 → (Z 34 3) = 44 + 2 * 3) := hq; omega) ?_
      have b5 : 0 ≤ Z 50 3 ∧ Z 50 3 ≤ 1 := hG.pr 50 3
      refine JgetI (g := 3) (z := Z 50 3) hx (show mx_Sn _ _ 18 (mx_getf 10 3 21) from sn_129 18) a50 s50 rfl rfl rfl ?_
      refine Jif_eq (show mx_Sn _ _ 21 (mx_if_eq 28 24) from sn_129 21) (by omega) (fun q6 => ?_) (fun q6 => ?_)
      · skip
        refine mx_J.step (sn_129 28) (fun _ _ => rfl) ?_
        have c45 : (x1 < 0 ∨ Z 50 2 ≤ x1) → mx_J (tB l D b0 ad Hb tau) mt_129 (d + 1) 45 [some (.ref 1), some (xI 3), some (xI x1), some (xL x2), none] [] h Post := by
          intro f7_0
          refine JcL (z := (-7)) (show mx_Sn _ _ 45 (mx_const (.long (-7)) 48) from sn_129 45) rfl ?_
          have b8 : 0 ≤ Z 44 1 ∧ Z 44 1 ≤ 3 := hG.pr 44 1
          have b9 : 0 ≤ Z 44 2 ∧ Z 44 2 ≤ 40 := hG.pr 44 2
          have b10 : 0 ≤ Z 44 3 ∧ Z 44 3 ≤ 1 := hG.pr 44 3
          have b11 : 0 ≤ Z 46 1 ∧ Z 46 1 ≤ 3 := hG.pr 46 1
          have b12 : 0 ≤ Z 46 2 ∧ Z 46 2 ≤ 40 := hG.pr 46 2
          have b13 : 0 ≤ Z 46 3 ∧ Z 46 3 ≤ 1 := hG.pr 46 3
          have b14 : 0 ≤ Z 48 1 ∧ Z 48 1 ≤ 3 := hG.pr 48 1
          have b15 : 0 ≤ Z 48 2 ∧ Z 48 2 ≤ 40 := hG.pr 48 2
          have b16 : 0 ≤ Z 48 3 ∧ Z 48 3 ≤ 1 := hG.pr 48 3
          have b17 : 0 ≤ Z 50 1 ∧ Z 50 1 ≤ 3 := hG.pr 50 1
          have b18 : 0 ≤ Z 50 2 ∧ Z 50 2 ≤ 40 := hG.pr 50 2
          have b19 : 0 ≤ Z 50 3 ∧ Z 50 3 ≤ 1 := hG.pr 50 3
          exact mx_J.ret (sn_129 48) (fun _ _ => rfl) (hP (-7) Z h hx hG fr_rf (by omega))
        refine Jif_lt (show mx_Sn _ _ 29 (mx_if_lt 45 32) from sn_129 29) (by omega) (fun q20 => ?_) (fun q20 => ?_)
        · skip
          exact c45 (by omega)
        · skip
          refine mx_J.step (sn_129 32) (fun _ _ => rfl) ?_
          refine mx_J.step (sn_129 33) (fun _ _ => rfl) ?_
          refine JgetR (g := 10) (b := 34) hx (show mx_Sn _ _ 34 (mx_getf 11 10 37) from sn_129 34) a1 s1 rfl rfl (hG.prr 1 10 rfl) ?_
          refine mx_J.step (sn_129 37) (fun _ _ => rfl) ?_
          refine JaaldR (i := 3) (b := 50) hx (show mx_Sn _ _ 38 (mx_aald 39) from sn_129 38) a34 s34 (by omega) (show Z 34 3 = 50 by have hq := GI_ex hG 34 3; replace hq : ((0 : Int) ≤ 3 → (3 : Int) ≤ 3 → (Z 34 3) = 44 + 2 * 3) := hq; omega) ?_
          have b23 : 0 ≤ Z 50 2 ∧ Z 50 2 ≤ 40 := hG.pr 50 2
          refine JgetI (g := 2) (z := Z 50 2) hx (show mx_Sn _ _ 39 (mx_getf 10 2 42) from sn_129 39) a50 s50 rfl rfl rfl ?_
          refine Jicmp_lt (show mx_Sn _ _ 42 (mx_icmp_lt 49 45) from sn_129 42) (by omega) (by omega) (fun q24 => ?_) (fun q24 => ?_)
          · skip
            refine mx_J.step (sn_129 49) (fun _ _ => rfl) ?_
            refine JgetR (g := 10) (b := 34) hx (show mx_Sn _ _ 50 (mx_getf 11 10 53) from sn_129 50) a1 s1 rfl rfl (hG.prr 1 10 rfl) ?_
            refine mx_J.step (sn_129 53) (fun _ _ => rfl) ?_
            refine JaaldR (i := 3) (b := 50) hx (show mx_Sn _ _ 54 (mx_aald 55) from sn_129 54) a34 s34 (by omega) (show Z 34 3 = 50 by have hq := GI_ex hG 34 3; replace hq : ((0 : Int) ≤ 3 → (3 : Int) ≤ 3 → (Z 34 3) = 44 + 2 * 3) := hq; omega) ?_
            refine mx_J.step (sn_129 55) (fun _ _ => rfl) ?_
            refine mx_J.step (sn_129 56) (fun _ _ => rfl) ?_
            have b27 : 0 ≤ Z 50 1 ∧ Z 50 1 ≤ 3 := hG.pr 50 1
            obtain ⟨Z26, h26, hc26, hx26, hG26, hf26, b26⟩ := ct_84_50 (d := d + 0) (l := l) (D := D) (b0 := b0) (ad := ad) (Hb := Hb) (tau := tau) hx hG (show (-2147483648) ≤ x1 ∧ x1 ≤ 2147483647 by omega) (show (-9223372036854775808) ≤ x2 ∧ x2 ≤ 9223372036854775807 by omega)
            have b28 : (-9223372036854775808) ≤ Z26 51 x1 ∧ Z26 51 x1 ≤ 9223372036854775807 := hG26.pr 51 x1
            refine Jcv0 hx (show mx_Sn _ _ 57 (mx_callv 84 3 10 60) from sn_129 57) a50 s50 hc26 rfl rfl rfl ?_
            refine mx_J.step (sn_129 60) (fun _ _ => rfl) ?_
            refine JgetR (g := 10) (b := 34) hx26 (show mx_Sn _ _ 61 (mx_getf 11 10 64) from sn_129 61) a1 s1 rfl rfl (hG26.prr 1 10 rfl) ?_
            refine mx_J.step (sn_129 64) (fun _ _ => rfl) ?_
            refine JaaldR (i := 3) (b := 50) hx26 (show mx_Sn _ _ 65 (mx_aald 66) from sn_129 65) a34 s34 (by omega) (show Z26 34 3 = 50 by have hq := GI_ex hG26 34 3; replace hq : ((0 : Int) ≤ 3 → (3 : Int) ≤ 3 → (Z26 34 3) = 44 + 2 * 3) := hq; omega) ?_
            refine mx_J.step (sn_129 66) (fun _ _ => rfl) ?_
            have b31 : (-9223372036854775808) ≤ Z26 51 x1 ∧ Z26 51 x1 ≤ 9223372036854775807 := hG26.pr 51 x1
            obtain ⟨z30, hc30, b30⟩ := ct_85_50 (d := d + 0) (l := l) (D := D) (b0 := b0) (ad := ad) (Hb := Hb) (tau := tau) hx26 hG26 (show (-2147483648) ≤ x1 ∧ x1 ≤ 2147483647 by omega)
            refine Jcv hx26 (show mx_Sn _ _ 67 (mx_callv 85 2 10 70) from sn_129 67) a50 s50 hc30 rfl rfl rfl ?_
            have eq32 : Z26 44 1 = Z 44 1 := (hf26 44 1 rfl)
            have b33 : 0 ≤ Z 44 1 ∧ Z 44 1 ≤ 3 := hG.pr 44 1
            have eq34 : Z26 44 2 = Z 44 2 := (hf26 44 2 rfl)
            have b35 : 0 ≤ Z 44 2 ∧ Z 44 2 ≤ 40 := hG.pr 44 2
            have eq36 : Z26 44 3 = Z 44 3 := (hf26 44 3 rfl)
            have b37 : 0 ≤ Z 44 3 ∧ Z 44 3 ≤ 1 := hG.pr 44 3
            have eq38 : Z26 46 1 = Z 46 1 := (hf26 46 1 rfl)
            have b39 : 0 ≤ Z 46 1 ∧ Z 46 1 ≤ 3 := hG.pr 46 1
            have eq40 : Z26 46 2 = Z 46 2 := (hf26 46 2 rfl)
            have b41 : 0 ≤ Z 46 2 ∧ Z 46 2 ≤ 40 := hG.pr 46 2
            have eq42 : Z26 46 3 = Z 46 3 := (hf26 46 3 rfl)
            have b43 : 0 ≤ Z 46 3 ∧ Z 46 3 ≤ 1 := hG.pr 46 3
            have eq44 : Z26 48 1 = Z 48 1 := (hf26 48 1 rfl)
            have b45 : 0 ≤ Z 48 1 ∧ Z 48 1 ≤ 3 := hG.pr 48 1
            have eq46 : Z26 48 2 = Z 48 2 := (hf26 48 2 rfl)
            have b47 : 0 ≤ Z 48 2 ∧ Z 48 2 ≤ 40 := hG.pr 48 2
            have eq48 : Z26 48 3 = Z 48 3 := (hf26 48 3 rfl)
            have b49 : 0 ≤ Z 48 3 ∧ Z 48 3 ≤ 1 := hG.pr 48 3
            have eq50 : Z26 50 1 = Z 50 1 := (hf26 50 1 rfl)
            have b51 : 0 ≤ Z 50 1 ∧ Z 50 1 ≤ 3 := hG.pr 50 1
            have eq52 : Z26 50 2 = Z 50 2 := (hf26 50 2 rfl)
            have b53 : 0 ≤ Z 50 2 ∧ Z 50 2 ≤ 40 := hG.pr 50 2
            have eq54 : Z26 50 3 = Z 50 3 := (hf26 50 3 rfl)
            have b55 : 0 ≤ Z 50 3 ∧ Z 50 3 ≤ 1 := hG.pr 50 3
            exact mx_J.ret (sn_129 70) (fun _ _ => rfl) (hP z30 Z26 h26 hx26 hG26 (fr_tr (M := [(51, (-1))]) fr_rf (hf26) (M1 := []) rfl rfl) (by omega))
          · skip
            exact c45 (by omega)
      · skip
        refine JcL (z := (-6)) (show mx_Sn _ _ 24 (mx_const (.long (-6)) 27) from sn_129 24) rfl ?_
        have b56 : 0 ≤ Z 44 1 ∧ Z 44 1 ≤ 3 := hG.pr 44 1
        have b57 : 0 ≤ Z 44 2 ∧ Z 44 2 ≤ 40 := hG.pr 44 2
        have b58 : 0 ≤ Z 44 3 ∧ Z 44 3 ≤ 1 := hG.pr 44 3
        have b59 : 0 ≤ Z 46 1 ∧ Z 46 1 ≤ 3 := hG.pr 46 1
        have b60 : 0 ≤ Z 46 2 ∧ Z 46 2 ≤ 40 := hG.pr 46 2
        have b61 : 0 ≤ Z 46 3 ∧ Z 46 3 ≤ 1 := hG.pr 46 3
        have b62 : 0 ≤ Z 48 1 ∧ Z 48 1 ≤ 3 := hG.pr 48 1
        have b63 : 0 ≤ Z 48 2 ∧ Z 48 2 ≤ 40 := hG.pr 48 2
        have b64 : 0 ≤ Z 48 3 ∧ Z 48 3 ≤ 1 := hG.pr 48 3
        have b65 : 0 ≤ Z 50 1 ∧ Z 50 1 ≤ 3 := hG.pr 50 1
        have b66 : 0 ≤ Z 50 2 ∧ Z 50 2 ≤ 40 := hG.pr 50 2
        have b67 : 0 ≤ Z 50 3 ∧ Z 50 3 ≤ 1 := hG.pr 50 3
        exact mx_J.ret (sn_129 27) (fun _ _ => rfl) (hP (-6) Z h hx hG fr_rf (by omega))
    · skip
      exfalso; omega
theorem ct_129_1_i3 {l : Launch} {D : va_G} {b0 : Nat} {ad : Nat → Nat} {Hb : Heap} {tau : Nat → Int64} {d n s : Nat} {S : Nat → xS} {Z : xZ} {h : mx_H} (hx : XH n s S Z h) (hG : GI n S Z)  {x1 x2 : Int} (p1 : (-2147483648) ≤ x1 ∧ x1 ≤ 2147483647) (p2 : (-9223372036854775808) ≤ x2 ∧ x2 ≤ 9223372036854775807) : ∃ (z : Int) (Z' : xZ) (h' : mx_H), mx_Ca (tB l D b0 ad Hb tau) (d + 2) 129 [.ref 1, xI 3, xI x1, xL x2] h (some (xL z), h') ∧ XH n s S Z' h' ∧ GI n S Z' ∧ fr' [(51, (-1))] Z Z' ∧ ((-9223372036854775808) ≤ z ∧ z ≤ 9223372036854775807 ∧ ((((3 : Int) < 0 ∨ 3 < (3 : Int)) → z = -2) ∧ ((3 : Int) = 0 → (Z 44 3 = 1 → z = -6) ∧ (Z 44 3 = 0 → ((x1 < 0 ∨ Z 44 2 ≤ x1) → z = -7) ∧ (¬ (x1 < 0 ∨ Z 44 2 ≤ x1) → ((Z 44 1 = 0 → -128 ≤ z ∧ z ≤ 127 ∧ (z - x2) % 256 = 0) ∧ (Z 44 1 = 1 → -32768 ≤ z ∧ z ≤ 32767 ∧ (z - x2) % 65536 = 0) ∧ (Z 44 1 = 2 → -2147483648 ≤ z ∧ z ≤ 2147483647 ∧ (z - x2) % 4294967296 = 0) ∧ (¬ Z 44 1 = 0 → ¬ Z 44 1 = 1 → ¬ Z 44 1 = 2 → z = x2))))) ∧ ((3 : Int) = 1 → (Z 46 3 = 1 → z = -6) ∧ (Z 46 3 = 0 → ((x1 < 0 ∨ Z 46 2 ≤ x1) → z = -7) ∧ (¬ (x1 < 0 ∨ Z 46 2 ≤ x1) → ((Z 46 1 = 0 → -128 ≤ z ∧ z ≤ 127 ∧ (z - x2) % 256 = 0) ∧ (Z 46 1 = 1 → -32768 ≤ z ∧ z ≤ 32767 ∧ (z - x2) % 65536 = 0) ∧ (Z 46 1 = 2 → -2147483648 ≤ z ∧ z ≤ 2147483647 ∧ (z - x2) % 4294967296 = 0) ∧ (¬ Z 46 1 = 0 → ¬ Z 46 1 = 1 → ¬ Z 46 1 = 2 → z = x2))))) ∧ ((3 : Int) = 2 → (Z 48 3 = 1 → z = -6) ∧ (Z 48 3 = 0 → ((x1 < 0 ∨ Z 48 2 ≤ x1) → z = -7) ∧ (¬ (x1 < 0 ∨ Z 48 2 ≤ x1) → ((Z 48 1 = 0 → -128 ≤ z ∧ z ≤ 127 ∧ (z - x2) % 256 = 0) ∧ (Z 48 1 = 1 → -32768 ≤ z ∧ z ≤ 32767 ∧ (z - x2) % 65536 = 0) ∧ (Z 48 1 = 2 → -2147483648 ≤ z ∧ z ≤ 2147483647 ∧ (z - x2) % 4294967296 = 0) ∧ (¬ Z 48 1 = 0 → ¬ Z 48 1 = 1 → ¬ Z 48 1 = 2 → z = x2))))) ∧ ((3 : Int) = 3 → (Z 50 3 = 1 → z = -6) ∧ (Z 50 3 = 0 → ((x1 < 0 ∨ Z 50 2 ≤ x1) → z = -7) ∧ (¬ (x1 < 0 ∨ Z 50 2 ≤ x1) → ((Z 50 1 = 0 → -128 ≤ z ∧ z ≤ 127 ∧ (z - x2) % 256 = 0) ∧ (Z 50 1 = 1 → -32768 ≤ z ∧ z ≤ 32767 ∧ (z - x2) % 65536 = 0) ∧ (Z 50 1 = 2 → -2147483648 ≤ z ∧ z ≤ 2147483647 ∧ (z - x2) % 4294967296 = 0) ∧ (¬ Z 50 1 = 0 → ¬ Z 50 1 = 1 → ¬ Z 50 1 = 2 → z = x2))))))) := by
  obtain ⟨r, hca, z, Z', h', e, q⟩ := Jmt (B := tB l D b0 ad Hb tau) (M := mt_129) (mi := 129) (as := [.ref 1, xI 3, xI x1, xL x2]) (d := d + 1) (ls := [some (.ref 1), some (xI 3), some (xI x1), some (xL x2), none]) rfl rfl rfl rfl rfl rfl (cw_129_1_i3 (l := l) (D := D) (b0 := b0) (ad := ad) (Hb := Hb) (tau := tau) (d := d) (Post := fun r => ∃ (z : Int) (Z' : xZ) (h' : mx_H), r = (some (xL z), h') ∧ XH n s S Z' h' ∧ GI n S Z' ∧ fr' [(51, (-1))] Z Z' ∧ ((-9223372036854775808) ≤ z ∧ z ≤ 9223372036854775807 ∧ ((((3 : Int) < 0 ∨ 3 < (3 : Int)) → z = -2) ∧ ((3 : Int) = 0 → (Z 44 3 = 1 → z = -6) ∧ (Z 44 3 = 0 → ((x1 < 0 ∨ Z 44 2 ≤ x1) → z = -7) ∧ (¬ (x1 < 0 ∨ Z 44 2 ≤ x1) → ((Z 44 1 = 0 → -128 ≤ z ∧ z ≤ 127 ∧ (z - x2) % 256 = 0) ∧ (Z 44 1 = 1 → -32768 ≤ z ∧ z ≤ 32767 ∧ (z - x2) % 65536 = 0) ∧ (Z 44 1 = 2 → -2147483648 ≤ z ∧ z ≤ 2147483647 ∧ (z - x2) % 4294967296 = 0) ∧ (¬ Z 44 1 = 0 → ¬ Z 44 1 = 1 → ¬ Z 44 1 = 2 → z = x2))))) ∧ ((3 : Int) = 1 → (Z 46 3 = 1 → z = -6) ∧ (Z 46 3 = 0 → ((x1 < 0 ∨ Z 46 2 ≤ x1) → z = -7) ∧ (¬ (x1 < 0 ∨ Z 46 2 ≤ x1) → ((Z 46 1 = 0 → -128 ≤ z ∧ z ≤ 127 ∧ (z - x2) % 256 = 0) ∧ (Z 46 1 = 1 → -32768 ≤ z ∧ z ≤ 32767 ∧ (z - x2) % 65536 = 0) ∧ (Z 46 1 = 2 → -2147483648 ≤ z ∧ z ≤ 2147483647 ∧ (z - x2) % 4294967296 = 0) ∧ (¬ Z 46 1 = 0 → ¬ Z 46 1 = 1 → ¬ Z 46 1 = 2 → z = x2))))) ∧ ((3 : Int) = 2 → (Z 48 3 = 1 → z = -6) ∧ (Z 48 3 = 0 → ((x1 < 0 ∨ Z 48 2 ≤ x1) → z = -7) ∧ (¬ (x1 < 0 ∨ Z 48 2 ≤ x1) → ((Z 48 1 = 0 → -128 ≤ z ∧ z ≤ 127 ∧ (z - x2) % 256 = 0) ∧ (Z 48 1 = 1 → -32768 ≤ z ∧ z ≤ 32767 ∧ (z - x2) % 65536 = 0) ∧ (Z 48 1 = 2 → -2147483648 ≤ z ∧ z ≤ 2147483647 ∧ (z - x2) % 4294967296 = 0) ∧ (¬ Z 48 1 = 0 → ¬ Z 48 1 = 1 → ¬ Z 48 1 = 2 → z = x2))))) ∧ ((3 : Int) = 3 → (Z 50 3 = 1 → z = -6) ∧ (Z 50 3 = 0 → ((x1 < 0 ∨ Z 50 2 ≤ x1) → z = -7) ∧ (¬ (x1 < 0 ∨ Z 50 2 ≤ x1) → ((Z 50 1 = 0 → -128 ≤ z ∧ z ≤ 127 ∧ (z - x2) % 256 = 0) ∧ (Z 50 1 = 1 → -32768 ≤ z ∧ z ≤ 32767 ∧ (z - x2) % 65536 = 0) ∧ (Z 50 1 = 2 → -2147483648 ≤ z ∧ z ≤ 2147483647 ∧ (z - x2) % 4294967296 = 0) ∧ (¬ Z 50 1 = 0 → ¬ Z 50 1 = 1 → ¬ Z 50 1 = 2 → z = x2)))))))) hx hG p1 p2 (fun z Z' h' q1 q2 q3 q4 => ⟨z, Z', h', rfl, q1, q2, q3, q4⟩))
  subst e; exact ⟨z, Z', h', hca, q⟩
set_option maxRecDepth 100000 in
theorem cw_129_1_p {l : Launch} {D : va_G} {b0 : Nat} {ad : Nat → Nat} {Hb : Heap} {tau : Nat → Int64} {d n s : Nat} {S : Nat → xS} {Z : xZ} {h : mx_H} {Post : mx_R → Prop} (hx : XH n s S Z h) (hG : GI n S Z)  {x0 x1 x2 : Int} (p0 : 4 ≤ x0 ∧ x0 ≤ 2147483647) (p1 : (-2147483648) ≤ x1 ∧ x1 ≤ 2147483647) (p2 : (-9223372036854775808) ≤ x2 ∧ x2 ≤ 9223372036854775807) (hP : ∀ z : Int, (-2) ≤ z ∧ z ≤ (-2) ∧ (((x0 < 0 ∨ 3 < x0) → z = -2) ∧ (x0 = 0 → (Z 44 3 = 1 → z = -6) ∧ (Z 44 3 = 0 → ((x1 < 0 ∨ Z 44 2 ≤ x1) → z = -7) ∧ (¬ (x1 < 0 ∨ Z 44 2 ≤ x1) → ((Z 44 1 = 0 → -128 ≤ z ∧ z ≤ 127 ∧ (z - x2) % 256 = 0) ∧ (Z 44 1 = 1 → -32768 ≤ z ∧ z ≤ 32767 ∧ (z - x2) % 65536 = 0) ∧ (Z 44 1 = 2 → -2147483648 ≤ z ∧ z ≤ 2147483647 ∧ (z - x2) % 4294967296 = 0) ∧ (¬ Z 44 1 = 0 → ¬ Z 44 1 = 1 → ¬ Z 44 1 = 2 → z = x2))))) ∧ (x0 = 1 → (Z 46 3 = 1 → z = -6) ∧ (Z 46 3 = 0 → ((x1 < 0 ∨ Z 46 2 ≤ x1) → z = -7) ∧ (¬ (x1 < 0 ∨ Z 46 2 ≤ x1) → ((Z 46 1 = 0 → -128 ≤ z ∧ z ≤ 127 ∧ (z - x2) % 256 = 0) ∧ (Z 46 1 = 1 → -32768 ≤ z ∧ z ≤ 32767 ∧ (z - x2) % 65536 = 0) ∧ (Z 46 1 = 2 → -2147483648 ≤ z ∧ z ≤ 2147483647 ∧ (z - x2) % 4294967296 = 0) ∧ (¬ Z 46 1 = 0 → ¬ Z 46 1 = 1 → ¬ Z 46 1 = 2 → z = x2))))) ∧ (x0 = 2 → (Z 48 3 = 1 → z = -6) ∧ (Z 48 3 = 0 → ((x1 < 0 ∨ Z 48 2 ≤ x1) → z = -7) ∧ (¬ (x1 < 0 ∨ Z 48 2 ≤ x1) → ((Z 48 1 = 0 → -128 ≤ z ∧ z ≤ 127 ∧ (z - x2) % 256 = 0) ∧ (Z 48 1 = 1 → -32768 ≤ z ∧ z ≤ 32767 ∧ (z - x2) % 65536 = 0) ∧ (Z 48 1 = 2 → -2147483648 ≤ z ∧ z ≤ 2147483647 ∧ (z - x2) % 4294967296 = 0) ∧ (¬ Z 48 1 = 0 → ¬ Z 48 1 = 1 → ¬ Z 48 1 = 2 → z = x2))))) ∧ (x0 = 3 → (Z 50 3 = 1 → z = -6) ∧ (Z 50 3 = 0 → ((x1 < 0 ∨ Z 50 2 ≤ x1) → z = -7) ∧ (¬ (x1 < 0 ∨ Z 50 2 ≤ x1) → ((Z 50 1 = 0 → -128 ≤ z ∧ z ≤ 127 ∧ (z - x2) % 256 = 0) ∧ (Z 50 1 = 1 → -32768 ≤ z ∧ z ≤ 32767 ∧ (z - x2) % 65536 = 0) ∧ (Z 50 1 = 2 → -2147483648 ≤ z ∧ z ≤ 2147483647 ∧ (z - x2) % 4294967296 = 0) ∧ (¬ Z 50 1 = 0 → ¬ Z 50 1 = 1 → ¬ Z 50 1 = 2 → z = x2)))))) → Post (some (xL z), h)) : mx_J (tB l D b0 ad Hb tau) mt_129 (d + 1) 0 [some (.ref 1), some (xI x0), some (xI x1), some (xL x2), none] [] h Post := by
    have a1 : 1 < n := lt83 (GI_n hG) rfl
    have s1 : S 1 = .inl (11, [2, 0, 0, 0, 2, 2, 2, 2, 2, 2, 2, 2, 2, 2, 2, 2, 2]) := GI_s hG 1 rfl
    refine mx_J.step (sn_129 0) (fun _ _ => rfl) ?_
    refine mx_J.step (sn_129 1) (fun _ _ => rfl) ?_
    obtain ⟨z1, hc1, b1⟩ := ct_144_1_p (d := d + 0) (l := l) (D := D) (b0 := b0) (ad := ad) (Hb := Hb) (tau := tau) hx hG (show 4 ≤ x0 ∧ x0 ≤ 2147483647 by omega)
    refine Jcv hx (show mx_Sn _ _ 2 (mx_callv 144 2 11 5) from sn_129 2) a1 s1 hc1 rfl rfl rfl ?_
    refine Jif_eq (show mx_Sn _ _ 5 (mx_if_eq 12 8) from sn_129 5) (by omega) (fun q2 => ?_) (fun q2 => ?_)
    · skip
      exfalso; omega
    · skip
      refine JcL (z := (-2)) (show mx_Sn _ _ 8 (mx_const (.long (-2)) 11) from sn_129 8) rfl ?_
      have b3 : 0 ≤ Z 44 1 ∧ Z 44 1 ≤ 3 := hG.pr 44 1
      have b4 : 0 ≤ Z 44 2 ∧ Z 44 2 ≤ 40 := hG.pr 44 2
      have b5 : 0 ≤ Z 44 3 ∧ Z 44 3 ≤ 1 := hG.pr 44 3
      have b6 : 0 ≤ Z 46 1 ∧ Z 46 1 ≤ 3 := hG.pr 46 1
      have b7 : 0 ≤ Z 46 2 ∧ Z 46 2 ≤ 40 := hG.pr 46 2
      have b8 : 0 ≤ Z 46 3 ∧ Z 46 3 ≤ 1 := hG.pr 46 3
      have b9 : 0 ≤ Z 48 1 ∧ Z 48 1 ≤ 3 := hG.pr 48 1
      have b10 : 0 ≤ Z 48 2 ∧ Z 48 2 ≤ 40 := hG.pr 48 2
      have b11 : 0 ≤ Z 48 3 ∧ Z 48 3 ≤ 1 := hG.pr 48 3
      have b12 : 0 ≤ Z 50 1 ∧ Z 50 1 ≤ 3 := hG.pr 50 1
      have b13 : 0 ≤ Z 50 2 ∧ Z 50 2 ≤ 40 := hG.pr 50 2
      have b14 : 0 ≤ Z 50 3 ∧ Z 50 3 ≤ 1 := hG.pr 50 3
      exact mx_J.ret (sn_129 11) (fun _ _ => rfl) (hP (-2) (by omega))
theorem ct_129_1_p {l : Launch} {D : va_G} {b0 : Nat} {ad : Nat → Nat} {Hb : Heap} {tau : Nat → Int64} {d n s : Nat} {S : Nat → xS} {Z : xZ} {h : mx_H} (hx : XH n s S Z h) (hG : GI n S Z)  {x0 x1 x2 : Int} (p0 : 4 ≤ x0 ∧ x0 ≤ 2147483647) (p1 : (-2147483648) ≤ x1 ∧ x1 ≤ 2147483647) (p2 : (-9223372036854775808) ≤ x2 ∧ x2 ≤ 9223372036854775807) : ∃ z : Int, mx_Ca (tB l D b0 ad Hb tau) (d + 2) 129 [.ref 1, xI x0, xI x1, xL x2] h (some (xL z), h) ∧ ((-2) ≤ z ∧ z ≤ (-2) ∧ (((x0 < 0 ∨ 3 < x0) → z = -2) ∧ (x0 = 0 → (Z 44 3 = 1 → z = -6) ∧ (Z 44 3 = 0 → ((x1 < 0 ∨ Z 44 2 ≤ x1) → z = -7) ∧ (¬ (x1 < 0 ∨ Z 44 2 ≤ x1) → ((Z 44 1 = 0 → -128 ≤ z ∧ z ≤ 127 ∧ (z - x2) % 256 = 0) ∧ (Z 44 1 = 1 → -32768 ≤ z ∧ z ≤ 32767 ∧ (z - x2) % 65536 = 0) ∧ (Z 44 1 = 2 → -2147483648 ≤ z ∧ z ≤ 2147483647 ∧ (z - x2) % 4294967296 = 0) ∧ (¬ Z 44 1 = 0 → ¬ Z 44 1 = 1 → ¬ Z 44 1 = 2 → z = x2))))) ∧ (x0 = 1 → (Z 46 3 = 1 → z = -6) ∧ (Z 46 3 = 0 → ((x1 < 0 ∨ Z 46 2 ≤ x1) → z = -7) ∧ (¬ (x1 < 0 ∨ Z 46 2 ≤ x1) → ((Z 46 1 = 0 → -128 ≤ z ∧ z ≤ 127 ∧ (z - x2) % 256 = 0) ∧ (Z 46 1 = 1 → -32768 ≤ z ∧ z ≤ 32767 ∧ (z - x2) % 65536 = 0) ∧ (Z 46 1 = 2 → -2147483648 ≤ z ∧ z ≤ 2147483647 ∧ (z - x2) % 4294967296 = 0) ∧ (¬ Z 46 1 = 0 → ¬ Z 46 1 = 1 → ¬ Z 46 1 = 2 → z = x2))))) ∧ (x0 = 2 → (Z 48 3 = 1 → z = -6) ∧ (Z 48 3 = 0 → ((x1 < 0 ∨ Z 48 2 ≤ x1) → z = -7) ∧ (¬ (x1 < 0 ∨ Z 48 2 ≤ x1) → ((Z 48 1 = 0 → -128 ≤ z ∧ z ≤ 127 ∧ (z - x2) % 256 = 0) ∧ (Z 48 1 = 1 → -32768 ≤ z ∧ z ≤ 32767 ∧ (z - x2) % 65536 = 0) ∧ (Z 48 1 = 2 → -2147483648 ≤ z ∧ z ≤ 2147483647 ∧ (z - x2) % 4294967296 = 0) ∧ (¬ Z 48 1 = 0 → ¬ Z 48 1 = 1 → ¬ Z 48 1 = 2 → z = x2))))) ∧ (x0 = 3 → (Z 50 3 = 1 → z = -6) ∧ (Z 50 3 = 0 → ((x1 < 0 ∨ Z 50 2 ≤ x1) → z = -7) ∧ (¬ (x1 < 0 ∨ Z 50 2 ≤ x1) → ((Z 50 1 = 0 → -128 ≤ z ∧ z ≤ 127 ∧ (z - x2) % 256 = 0) ∧ (Z 50 1 = 1 → -32768 ≤ z ∧ z ≤ 32767 ∧ (z - x2) % 65536 = 0) ∧ (Z 50 1 = 2 → -2147483648 ≤ z ∧ z ≤ 2147483647 ∧ (z - x2) % 4294967296 = 0) ∧ (¬ Z 50 1 = 0 → ¬ Z 50 1 = 1 → ¬ Z 50 1 = 2 → z = x2))))))) := by
  obtain ⟨r, hca, z, e, hp⟩ := Jmt (B := tB l D b0 ad Hb tau) (M := mt_129) (mi := 129) (as := [.ref 1, xI x0, xI x1, xL x2]) (d := d + 1) (ls := [some (.ref 1), some (xI x0), some (xI x1), some (xL x2), none]) rfl rfl rfl rfl rfl rfl (cw_129_1_p (l := l) (D := D) (b0 := b0) (ad := ad) (Hb := Hb) (tau := tau) (d := d) (Post := fun r => ∃ z : Int, r = (some (xL z), h) ∧ ((-2) ≤ z ∧ z ≤ (-2) ∧ (((x0 < 0 ∨ 3 < x0) → z = -2) ∧ (x0 = 0 → (Z 44 3 = 1 → z = -6) ∧ (Z 44 3 = 0 → ((x1 < 0 ∨ Z 44 2 ≤ x1) → z = -7) ∧ (¬ (x1 < 0 ∨ Z 44 2 ≤ x1) → ((Z 44 1 = 0 → -128 ≤ z ∧ z ≤ 127 ∧ (z - x2) % 256 = 0) ∧ (Z 44 1 = 1 → -32768 ≤ z ∧ z ≤ 32767 ∧ (z - x2) % 65536 = 0) ∧ (Z 44 1 = 2 → -2147483648 ≤ z ∧ z ≤ 2147483647 ∧ (z - x2) % 4294967296 = 0) ∧ (¬ Z 44 1 = 0 → ¬ Z 44 1 = 1 → ¬ Z 44 1 = 2 → z = x2))))) ∧ (x0 = 1 → (Z 46 3 = 1 → z = -6) ∧ (Z 46 3 = 0 → ((x1 < 0 ∨ Z 46 2 ≤ x1) → z = -7) ∧ (¬ (x1 < 0 ∨ Z 46 2 ≤ x1) → ((Z 46 1 = 0 → -128 ≤ z ∧ z ≤ 127 ∧ (z - x2) % 256 = 0) ∧ (Z 46 1 = 1 → -32768 ≤ z ∧ z ≤ 32767 ∧ (z - x2) % 65536 = 0) ∧ (Z 46 1 = 2 → -2147483648 ≤ z ∧ z ≤ 2147483647 ∧ (z - x2) % 4294967296 = 0) ∧ (¬ Z 46 1 = 0 → ¬ Z 46 1 = 1 → ¬ Z 46 1 = 2 → z = x2))))) ∧ (x0 = 2 → (Z 48 3 = 1 → z = -6) ∧ (Z 48 3 = 0 → ((x1 < 0 ∨ Z 48 2 ≤ x1) → z = -7) ∧ (¬ (x1 < 0 ∨ Z 48 2 ≤ x1) → ((Z 48 1 = 0 → -128 ≤ z ∧ z ≤ 127 ∧ (z - x2) % 256 = 0) ∧ (Z 48 1 = 1 → -32768 ≤ z ∧ z ≤ 32767 ∧ (z - x2) % 65536 = 0) ∧ (Z 48 1 = 2 → -2147483648 ≤ z ∧ z ≤ 2147483647 ∧ (z - x2) % 4294967296 = 0) ∧ (¬ Z 48 1 = 0 → ¬ Z 48 1 = 1 → ¬ Z 48 1 = 2 → z = x2))))) ∧ (x0 = 3 → (Z 50 3 = 1 → z = -6) ∧ (Z 50 3 = 0 → ((x1 < 0 ∨ Z 50 2 ≤ x1) → z = -7) ∧ (¬ (x1 < 0 ∨ Z 50 2 ≤ x1) → ((Z 50 1 = 0 → -128 ≤ z ∧ z ≤ 127 ∧ (z - x2) % 256 = 0) ∧ (Z 50 1 = 1 → -32768 ≤ z ∧ z ≤ 32767 ∧ (z - x2) % 65536 = 0) ∧ (Z 50 1 = 2 → -2147483648 ≤ z ∧ z ≤ 2147483647 ∧ (z - x2) % 4294967296 = 0) ∧ (¬ Z 50 1 = 0 → ¬ Z 50 1 = 1 → ¬ Z 50 1 = 2 → z = x2)))))))) hx hG p0 p1 p2 (fun z hz => ⟨z, rfl, hz⟩))
  subst e; exact ⟨z, hca, hp⟩
theorem ct_129_1 {l : Launch} {D : va_G} {b0 : Nat} {ad : Nat → Nat} {Hb : Heap} {tau : Nat → Int64} {d n s : Nat} {S : Nat → xS} {Z : xZ} {h : mx_H} (hx : XH n s S Z h) (hG : GI n S Z) {x0 x1 x2 : Int} (p0 : (-2147483648) ≤ x0 ∧ x0 ≤ 2147483647) (p1 : (-2147483648) ≤ x1 ∧ x1 ≤ 2147483647) (p2 : (-9223372036854775808) ≤ x2 ∧ x2 ≤ 9223372036854775807) : ∃ (z : Int) (Z' : xZ) (h' : mx_H), mx_Ca (tB l D b0 ad Hb tau) (d + 2) 129 [.ref 1, xI x0, xI x1, xL x2] h (some (xL z), h') ∧ XH n s S Z' h' ∧ GI n S Z' ∧ fr' [(45, (-1)), (47, (-1)), (49, (-1)), (51, (-1))] Z Z' ∧ ((-9223372036854775808) ≤ z ∧ z ≤ 9223372036854775807 ∧ (((x0 < 0 ∨ 3 < x0) → z = -2) ∧ (x0 = 0 → (Z 44 3 = 1 → z = -6) ∧ (Z 44 3 = 0 → ((x1 < 0 ∨ Z 44 2 ≤ x1) → z = -7) ∧ (¬ (x1 < 0 ∨ Z 44 2 ≤ x1) → ((Z 44 1 = 0 → -128 ≤ z ∧ z ≤ 127 ∧ (z - x2) % 256 = 0) ∧ (Z 44 1 = 1 → -32768 ≤ z ∧ z ≤ 32767 ∧ (z - x2) % 65536 = 0) ∧ (Z 44 1 = 2 → -2147483648 ≤ z ∧ z ≤ 2147483647 ∧ (z - x2) % 4294967296 = 0) ∧ (¬ Z 44 1 = 0 → ¬ Z 44 1 = 1 → ¬ Z 44 1 = 2 → z = x2))))) ∧ (x0 = 1 → (Z 46 3 = 1 → z = -6) ∧ (Z 46 3 = 0 → ((x1 < 0 ∨ Z 46 2 ≤ x1) → z = -7) ∧ (¬ (x1 < 0 ∨ Z 46 2 ≤ x1) → ((Z 46 1 = 0 → -128 ≤ z ∧ z ≤ 127 ∧ (z - x2) % 256 = 0) ∧ (Z 46 1 = 1 → -32768 ≤ z ∧ z ≤ 32767 ∧ (z - x2) % 65536 = 0) ∧ (Z 46 1 = 2 → -2147483648 ≤ z ∧ z ≤ 2147483647 ∧ (z - x2) % 4294967296 = 0) ∧ (¬ Z 46 1 = 0 → ¬ Z 46 1 = 1 → ¬ Z 46 1 = 2 → z = x2))))) ∧ (x0 = 2 → (Z 48 3 = 1 → z = -6) ∧ (Z 48 3 = 0 → ((x1 < 0 ∨ Z 48 2 ≤ x1) → z = -7) ∧ (¬ (x1 < 0 ∨ Z 48 2 ≤ x1) → ((Z 48 1 = 0 → -128 ≤ z ∧ z ≤ 127 ∧ (z - x2) % 256 = 0) ∧ (Z 48 1 = 1 → -32768 ≤ z ∧ z ≤ 32767 ∧ (z - x2) % 65536 = 0) ∧ (Z 48 1 = 2 → -2147483648 ≤ z ∧ z ≤ 2147483647 ∧ (z - x2) % 4294967296 = 0) ∧ (¬ Z 48 1 = 0 → ¬ Z 48 1 = 1 → ¬ Z 48 1 = 2 → z = x2))))) ∧ (x0 = 3 → (Z 50 3 = 1 → z = -6) ∧ (Z 50 3 = 0 → ((x1 < 0 ∨ Z 50 2 ≤ x1) → z = -7) ∧ (¬ (x1 < 0 ∨ Z 50 2 ≤ x1) → ((Z 50 1 = 0 → -128 ≤ z ∧ z ≤ 127 ∧ (z - x2) % 256 = 0) ∧ (Z 50 1 = 1 → -32768 ≤ z ∧ z ≤ 32767 ∧ (z - x2) % 65536 = 0) ∧ (Z 50 1 = 2 → -2147483648 ≤ z ∧ z ≤ 2147483647 ∧ (z - x2) % 4294967296 = 0) ∧ (¬ Z 50 1 = 0 → ¬ Z 50 1 = 1 → ¬ Z 50 1 = 2 → z = x2))))))) := by
  have hc : x0 = 0 ∨ x0 = 1 ∨ x0 = 2 ∨ x0 = 3 ∨ ((-2147483648) ≤ x0 ∧ x0 ≤ (-1)) ∨ (4 ≤ x0 ∧ x0 ≤ 2147483647) := by omega
  rcases hc with hc | hc | hc | hc | hc | hc
  · subst hc
    obtain ⟨z, Z', h', hca, q1, q2, q3, b⟩ := ct_129_1_i0 (d := d + 0) (l := l) (D := D) (b0 := b0) (ad := ad) (Hb := Hb) (tau := tau) hx hG p1 p2
    exact ⟨z, Z', h', hca, q1, q2, fr_tr (M1 := []) fr_rf q3 rfl rfl, ⟨Int.le_trans (by decide) b.1, Int.le_trans b.2.1 (by decide), b.2.2⟩⟩
  · subst hc
    obtain ⟨z, Z', h', hca, q1, q2, q3, b⟩ := ct_129_1_i1 (d := d + 0) (l := l) (D := D) (b0 := b0) (ad := ad) (Hb := Hb) (tau := tau) hx hG p1 p2
    exact ⟨z, Z', h', hca, q1, q2, fr_tr (M1 := []) fr_rf q3 rfl rfl, ⟨Int.le_trans (by decide) b.1, Int.le_trans b.2.1 (by decide), b.2.2⟩⟩
  · subst hc
    obtain ⟨z, Z', h', hca, q1, q2, q3, b⟩ := ct_129_1_i2 (d := d + 0) (l := l) (D := D) (b0 := b0) (ad := ad) (Hb := Hb) (tau := tau) hx hG p1 p2
    exact ⟨z, Z', h', hca, q1, q2, fr_tr (M1 := []) fr_rf q3 rfl rfl, ⟨Int.le_trans (by decide) b.1, Int.le_trans b.2.1 (by decide), b.2.2⟩⟩
  · subst hc
    obtain ⟨z, Z', h', hca, q1, q2, q3, b⟩ := ct_129_1_i3 (d := d + 0) (l := l) (D := D) (b0 := b0) (ad := ad) (Hb := Hb) (tau := tau) hx hG p1 p2
    exact ⟨z, Z', h', hca, q1, q2, fr_tr (M1 := []) fr_rf q3 rfl rfl, ⟨Int.le_trans (by decide) b.1, Int.le_trans b.2.1 (by decide), b.2.2⟩⟩
  · skip
    obtain ⟨z, hca, b⟩ := ct_129_1_n (d := d + 0) (l := l) (D := D) (b0 := b0) (ad := ad) (Hb := Hb) (tau := tau) hx hG hc p1 p2
    exact ⟨z, Z, h, hca, hx, hG, fr_rf, ⟨Int.le_trans (by decide) b.1, Int.le_trans b.2.1 (by decide), b.2.2⟩⟩
  · skip
    obtain ⟨z, hca, b⟩ := ct_129_1_p (d := d + 0) (l := l) (D := D) (b0 := b0) (ad := ad) (Hb := Hb) (tau := tau) hx hG hc p1 p2
    exact ⟨z, Z, h, hca, hx, hG, fr_rf, ⟨Int.le_trans (by decide) b.1, Int.le_trans b.2.1 (by decide), b.2.2⟩⟩
