set_option maxRecDepth 100000 in
theorem cw_118_1_i0 {l : Launch} {D : va_G} {b0 : Nat} {ad : Nat → Nat} {Hb : Heap} {tau : Nat → Int64} {d n s : Nat} {S : Nat → xS} {Z : xZ} {h : mx_H} {Post : mx_R → Prop} (hx : XH n s S Z h) (hG : GI n S Z)   (hP : ∀ (z : Int) (Z' : xZ) (h' : mx_H), XH n s S Z' h' → GI n S Z' → fr' [(14, (-1)), (16, (-1)), (17, (-1)), (18, (-1)), (19, (-1)), (33, (-1))] Z Z' → (-9223372036854775808) ≤ z ∧ z ≤ 9223372036854775807 → Post (some (xL z), h')) : mx_J (tB l D b0 ad Hb tau) mt_118 (d + 6) 0 [some (.ref 1), some (xI 0), none] [] h Post := by
    have a1 : 1 < n := lt83 (GI_n hG) rfl
    have s1 : S 1 = .inl (11, [2, 0, 0, 0, 2, 2, 2, 2, 2, 2, 2, 2, 2, 2, 2, 2, 2]) := GI_s hG 1 rfl
    have a32 : 32 < n := lt83 (GI_n hG) rfl
    have s32 : S 32 = .inl (9, [2, 2, 2]) := GI_s hG 32 rfl
    have a34 : 34 < n := lt83 (GI_n hG) rfl
    have s34 : S 34 = .inr ((.object "TitheHeap$Tray"), 4, 2) := GI_s hG 34 rfl
    have a44 : 44 < n := lt83 (GI_n hG) rfl
    have s44 : S 44 = .inl (10, [2, 0, 0, 0]) := GI_s hG 44 rfl
    refine mx_J.step (sn_118 0) (fun _ _ => rfl) ?_
    refine mx_J.step (sn_118 1) (fun _ _ => rfl) ?_
    refine JcI (z := (-1)) (show mx_Sn _ _ 2 (mx_const (.int (-1)) 3) from sn_118 2) rfl ?_
    refine JcI (z := 0) (show mx_Sn _ _ 3 (mx_const (.int 0) 4) from sn_118 3) rfl ?_
    obtain ⟨z1, hc1, b1⟩ := ct_146_1_i0 (d := d + 4) (l := l) (D := D) (b0 := b0) (ad := ad) (Hb := Hb) (tau := tau) hx hG (show (-1) ≤ (-1) ∧ (-1) ≤ 1 by omega) (show (-2147483648) ≤ 0 ∧ 0 ≤ 2147483647 by omega)
    refine Jcv hx (show mx_Sn _ _ 4 (mx_callv 146 4 11 7) from sn_118 4) a1 s1 hc1 rfl rfl rfl ?_
    refine mx_J.step (ls2 := [some (.ref 1), some (xI 0), some (xI z1)]) (sn_118 7) (fun _ _ => rfl) ?_
    refine mx_J.step (sn_118 8) (fun _ _ => rfl) ?_
    refine Jif_ge (show mx_Sn _ _ 9 (mx_if_ge 15 12) from sn_118 9) (by omega) (fun q2 => ?_) (fun q2 => ?_)
    · skip
      refine mx_J.step (sn_118 15) (fun _ _ => rfl) ?_
      refine mx_J.step (sn_118 16) (fun _ _ => rfl) ?_
      refine JgetR (g := 10) (b := 34) hx (show mx_Sn _ _ 17 (mx_getf 11 10 20) from sn_118 17) a1 s1 rfl rfl (hG.prr 1 10 rfl) ?_
      refine mx_J.step (sn_118 20) (fun _ _ => rfl) ?_
      refine JaaldR (i := 0) (b := 44) hx (show mx_Sn _ _ 21 (mx_aald 22) from sn_118 21) a34 s34 (by omega) (show Z 34 0 = 44 by have hq := GI_ex hG 34 0; replace hq : ((0 : Int) ≤ 0 → (0 : Int) ≤ 3 → (Z 34 0) = 44 + 2 * 0) := hq; omega) ?_
      obtain ⟨Z4, h4, hc4, hx4, hG4, hf4⟩ := ct_147_1_44 (d := d + 0) (l := l) (D := D) (b0 := b0) (ad := ad) (Hb := Hb) (tau := tau) hx hG 
      refine Jcv0 hx (show mx_Sn _ _ 22 (mx_callv 147 2 11 25) from sn_118 22) a1 s1 hc4 rfl rfl rfl ?_
      refine mx_J.step (sn_118 25) (fun _ _ => rfl) ?_
      refine JgetR (g := 9) (b := 32) hx4 (show mx_Sn _ _ 26 (mx_getf 11 9 29) from sn_118 26) a1 s1 rfl rfl (hG4.prr 1 9 rfl) ?_
      refine mx_J.step (sn_118 29) (fun _ _ => rfl) ?_
      refine JgetR (g := 10) (b := 34) hx4 (show mx_Sn _ _ 30 (mx_getf 11 10 33) from sn_118 30) a1 s1 rfl rfl (hG4.prr 1 10 rfl) ?_
      refine mx_J.step (sn_118 33) (fun _ _ => rfl) ?_
      refine JaaldR (i := 0) (b := 44) hx4 (show mx_Sn _ _ 34 (mx_aald 35) from sn_118 34) a34 s34 (by omega) (show Z4 34 0 = 44 by have hq := GI_ex hG4 34 0; replace hq : ((0 : Int) ≤ 0 → (0 : Int) ≤ 3 → (Z4 34 0) = 44 + 2 * 0) := hq; omega) ?_
      have b8 : 0 ≤ Z 44 2 ∧ Z 44 2 ≤ 40 := hG.pr 44 2
      refine JgetI (g := 2) (z := Z 44 2) hx4 (show mx_Sn _ _ 35 (mx_getf 10 2 38) from sn_118 35) a44 s44 rfl rfl (hf4 44 2 rfl) ?_
      refine JcI (z := 1) (show mx_Sn _ _ 38 (mx_const (.int 1) 39) from sn_118 38) rfl ?_
      refine JcI (z := 18) (show mx_Sn _ _ 39 (mx_const (.int 18) 41) from sn_118 39) rfl ?_
      obtain ⟨z9, hc9, b9⟩ := ct_75_32 (d := d + 4) (l := l) (D := D) (b0 := b0) (ad := ad) (Hb := Hb) (tau := tau) hx4 hG4 (show 0 ≤ Z 44 2 ∧ Z 44 2 ≤ 9 by omega) (show 1 ≤ 1 ∧ 1 ≤ 18 by omega) (show 1 ≤ 18 ∧ 18 ≤ 18 by omega)
      refine Jcv hx4 (show mx_Sn _ _ 41 (mx_callv 75 4 9 44) from sn_118 41) a32 s32 hc9 rfl rfl rfl ?_
      exact mx_J.ret (sn_118 44) (fun _ _ => rfl) (hP z9 Z4 h4 hx4 hG4 (fr_tr (M := [(14, (-1)), (16, (-1)), (17, (-1)), (18, (-1)), (19, (-1)), (33, (-1))]) fr_rf (hf4) (M1 := []) rfl rfl) (by omega))
    · skip
      refine mx_J.step (sn_118 12) (fun _ _ => rfl) ?_
      refine Ji2l (show mx_Sn _ _ 13 (mx_i2l 14) from sn_118 13) (by omega) ?_
      exact mx_J.ret (sn_118 14) (fun _ _ => rfl) (hP z1 Z h hx hG fr_rf (by omega))
theorem ct_118_1_i0 {l : Launch} {D : va_G} {b0 : Nat} {ad : Nat → Nat} {Hb : Heap} {tau : Nat → Int64} {d n s : Nat} {S : Nat → xS} {Z : xZ} {h : mx_H} (hx : XH n s S Z h) (hG : GI n S Z)   : ∃ (z : Int) (Z' : xZ) (h' : mx_H), mx_Ca (tB l D b0 ad Hb tau) (d + 7) 118 [.ref 1, xI 0] h (some (xL z), h') ∧ XH n s S Z' h' ∧ GI n S Z' ∧ fr' [(14, (-1)), (16, (-1)), (17, (-1)), (18, (-1)), (19, (-1)), (33, (-1))] Z Z' ∧ ((-9223372036854775808) ≤ z ∧ z ≤ 9223372036854775807) := by
  obtain ⟨r, hca, z, Z', h', e, q⟩ := Jmt (B := tB l D b0 ad Hb tau) (M := mt_118) (mi := 118) (as := [.ref 1, xI 0]) (d := d + 6) (ls := [some (.ref 1), some (xI 0), none]) rfl rfl rfl rfl rfl rfl (cw_118_1_i0 (l := l) (D := D) (b0 := b0) (ad := ad) (Hb := Hb) (tau := tau) (d := d) (Post := fun r => ∃ (z : Int) (Z' : xZ) (h' : mx_H), r = (some (xL z), h') ∧ XH n s S Z' h' ∧ GI n S Z' ∧ fr' [(14, (-1)), (16, (-1)), (17, (-1)), (18, (-1)), (19, (-1)), (33, (-1))] Z Z' ∧ ((-9223372036854775808) ≤ z ∧ z ≤ 9223372036854775807)) hx hG  (fun z Z' h' q1 q2 q3 q4 => ⟨z, Z', h', rfl, q1, q2, q3, q4⟩))
  subst e; exact ⟨z, Z', h', hca, q⟩
set_option maxRecDepth 100000 in
theorem cw_118_1_i1 {l : Launch} {D : va_G} {b0 : Nat} {ad : Nat → Nat} {Hb : Heap} {tau : Nat → Int64} {d n s : Nat} {S : Nat → xS} {Z : xZ} {h : mx_H} {Post : mx_R → Prop} (hx : XH n s S Z h) (hG : GI n S Z)   (hP : ∀ (z : Int) (Z' : xZ) (h' : mx_H), XH n s S Z' h' → GI n S Z' → fr' [(14, (-1)), (16, (-1)), (17, (-1)), (18, (-1)), (19, (-1)), (33, (-1))] Z Z' → (-9223372036854775808) ≤ z ∧ z ≤ 9223372036854775807 → Post (some (xL z), h')) : mx_J (tB l D b0 ad Hb tau) mt_118 (d + 6) 0 [some (.ref 1), some (xI 1), none] [] h Post := by
    have a1 : 1 < n := lt83 (GI_n hG) rfl
    have s1 : S 1 = .inl (11, [2, 0, 0, 0, 2, 2, 2, 2, 2, 2, 2, 2, 2, 2, 2, 2, 2]) := GI_s hG 1 rfl
    have a32 : 32 < n := lt83 (GI_n hG) rfl
    have s32 : S 32 = .inl (9, [2, 2, 2]) := GI_s hG 32 rfl
    have a34 : 34 < n := lt83 (GI_n hG) rfl
    have s34 : S 34 = .inr ((.object "TitheHeap$Tray"), 4, 2) := GI_s hG 34 rfl
    have a46 : 46 < n := lt83 (GI_n hG) rfl
    have s46 : S 46 = .inl (10, [2, 0, 0, 0]) := GI_s hG 46 rfl
    refine mx_J.step (sn_118 0) (fun _ _ => rfl) ?_
    refine mx_J.step (sn_118 1) (fun _ _ => rfl) ?_
    refine JcI (z := (-1)) (show mx_Sn _ _ 2 (mx_const (.int (-1)) 3) from sn_118 2) rfl ?_
    refine JcI (z := 0) (show mx_Sn _ _ 3 (mx_const (.int 0) 4) from sn_118 3) rfl ?_
    obtain ⟨z1, hc1, b1⟩ := ct_146_1_i1 (d := d + 4) (l := l) (D := D) (b0 := b0) (ad := ad) (Hb := Hb) (tau := tau) hx hG (show (-1) ≤ (-1) ∧ (-1) ≤ 1 by omega) (show (-2147483648) ≤ 0 ∧ 0 ≤ 2147483647 by omega)
    refine Jcv hx (show mx_Sn _ _ 4 (mx_callv 146 4 11 7) from sn_118 4) a1 s1 hc1 rfl rfl rfl ?_
    refine mx_J.step (ls2 := [some (.ref 1), some (xI 1), some (xI z1)]) (sn_118 7) (fun _ _ => rfl) ?_
    refine mx_J.step (sn_118 8) (fun _ _ => rfl) ?_
    refine Jif_ge (show mx_Sn _ _ 9 (mx_if_ge 15 12) from sn_118 9) (by omega) (fun q2 => ?_) (fun q2 => ?_)
    · skip
      refine mx_J.step (sn_118 15) (fun _ _ => rfl) ?_
      refine mx_J.step (sn_118 16) (fun _ _ => rfl) ?_
      refine JgetR (g := 10) (b := 34) hx (show mx_Sn _ _ 17 (mx_getf 11 10 20) from sn_118 17) a1 s1 rfl rfl (hG.prr 1 10 rfl) ?_
      refine mx_J.step (sn_118 20) (fun _ _ => rfl) ?_
      refine JaaldR (i := 1) (b := 46) hx (show mx_Sn _ _ 21 (mx_aald 22) from sn_118 21) a34 s34 (by omega) (show Z 34 1 = 46 by have hq := GI_ex hG 34 1; replace hq : ((0 : Int) ≤ 1 → (1 : Int) ≤ 3 → (Z 34 1) = 44 + 2 * 1) := hq; omega) ?_
      obtain ⟨Z4, h4, hc4, hx4, hG4, hf4⟩ := ct_147_1_46 (d := d + 0) (l := l) (D := D) (b0 := b0) (ad := ad) (Hb := Hb) (tau := tau) hx hG 
      refine Jcv0 hx (show mx_Sn _ _ 22 (mx_callv 147 2 11 25) from sn_118 22) a1 s1 hc4 rfl rfl rfl ?_
      refine mx_J.step (sn_118 25) (fun _ _ => rfl) ?_
      refine JgetR (g := 9) (b := 32) hx4 (show mx_Sn _ _ 26 (mx_getf 11 9 29) from sn_118 26) a1 s1 rfl rfl (hG4.prr 1 9 rfl) ?_
      refine mx_J.step (sn_118 29) (fun _ _ => rfl) ?_
      refine JgetR (g := 10) (b := 34) hx4 (show mx_Sn _ _ 30 (mx_getf 11 10 33) from sn_118 30) a1 s1 rfl rfl (hG4.prr 1 10 rfl) ?_
      refine mx_J.step (sn_118 33) (fun _ _ => rfl) ?_
      refine JaaldR (i := 1) (b := 46) hx4 (show mx_Sn _ _ 34 (mx_aald 35) from sn_118 34) a34 s34 (by omega) (show Z4 34 1 = 46 by have hq := GI_ex hG4 34 1; replace hq : ((0 : Int) ≤ 1 → (1 : Int) ≤ 3 → (Z4 34 1) = 44 + 2 * 1) := hq; omega) ?_
      have b8 : 0 ≤ Z 46 2 ∧ Z 46 2 ≤ 40 := hG.pr 46 2
      refine JgetI (g := 2) (z := Z 46 2) hx4 (show mx_Sn _ _ 35 (mx_getf 10 2 38) from sn_118 35) a46 s46 rfl rfl (hf4 46 2 rfl) ?_
      refine JcI (z := 1) (show mx_Sn _ _ 38 (mx_const (.int 1) 39) from sn_118 38) rfl ?_
      refine JcI (z := 18) (show mx_Sn _ _ 39 (mx_const (.int 18) 41) from sn_118 39) rfl ?_
      obtain ⟨z9, hc9, b9⟩ := ct_75_32 (d := d + 4) (l := l) (D := D) (b0 := b0) (ad := ad) (Hb := Hb) (tau := tau) hx4 hG4 (show 0 ≤ Z 46 2 ∧ Z 46 2 ≤ 9 by omega) (show 1 ≤ 1 ∧ 1 ≤ 18 by omega) (show 1 ≤ 18 ∧ 18 ≤ 18 by omega)
      refine Jcv hx4 (show mx_Sn _ _ 41 (mx_callv 75 4 9 44) from sn_118 41) a32 s32 hc9 rfl rfl rfl ?_
      exact mx_J.ret (sn_118 44) (fun _ _ => rfl) (hP z9 Z4 h4 hx4 hG4 (fr_tr (M := [(14, (-1)), (16, (-1)), (17, (-1)), (18, (-1)), (19, (-1)), (33, (-1))]) fr_rf (hf4) (M1 := []) rfl rfl) (by omega))
    · skip
      refine mx_J.step (sn_118 12) (fun _ _ => rfl) ?_
      refine Ji2l (show mx_Sn _ _ 13 (mx_i2l 14) from sn_118 13) (by omega) ?_
      exact mx_J.ret (sn_118 14) (fun _ _ => rfl) (hP z1 Z h hx hG fr_rf (by omega))
theorem ct_118_1_i1 {l : Launch} {D : va_G} {b0 : Nat} {ad : Nat → Nat} {Hb : Heap} {tau : Nat → Int64} {d n s : Nat} {S : Nat → xS} {Z : xZ} {h : mx_H} (hx : XH n s S Z h) (hG : GI n S Z)   : ∃ (z : Int) (Z' : xZ) (h' : mx_H), mx_Ca (tB l D b0 ad Hb tau) (d + 7) 118 [.ref 1, xI 1] h (some (xL z), h') ∧ XH n s S Z' h' ∧ GI n S Z' ∧ fr' [(14, (-1)), (16, (-1)), (17, (-1)), (18, (-1)), (19, (-1)), (33, (-1))] Z Z' ∧ ((-9223372036854775808) ≤ z ∧ z ≤ 9223372036854775807) := by
  obtain ⟨r, hca, z, Z', h', e, q⟩ := Jmt (B := tB l D b0 ad Hb tau) (M := mt_118) (mi := 118) (as := [.ref 1, xI 1]) (d := d + 6) (ls := [some (.ref 1), some (xI 1), none]) rfl rfl rfl rfl rfl rfl (cw_118_1_i1 (l := l) (D := D) (b0 := b0) (ad := ad) (Hb := Hb) (tau := tau) (d := d) (Post := fun r => ∃ (z : Int) (Z' : xZ) (h' : mx_H), r = (some (xL z), h') ∧ XH n s S Z' h' ∧ GI n S Z' ∧ fr' [(14, (-1)), (16, (-1)), (17, (-1)), (18, (-1)), (19, (-1)), (33, (-1))] Z Z' ∧ ((-9223372036854775808) ≤ z ∧ z ≤ 9223372036854775807)) hx hG  (fun z Z' h' q1 q2 q3 q4 => ⟨z, Z', h', rfl, q1, q2, q3, q4⟩))
  subst e; exact ⟨z, Z', h', hca, q⟩
set_option maxRecDepth 100000 in
theorem cw_118_1_i2 {l : Launch} {D : va_G} {b0 : Nat} {ad : Nat → Nat} {Hb : Heap} {tau : Nat → Int64} {d n s : Nat} {S : Nat → xS} {Z : xZ} {h : mx_H} {Post : mx_R → Prop} (hx : XH n s S Z h) (hG : GI n S Z)   (hP : ∀ (z : Int) (Z' : xZ) (h' : mx_H), XH n s S Z' h' → GI n S Z' → fr' [(14, (-1)), (16, (-1)), (17, (-1)), (18, (-1)), (19, (-1)), (33, (-1))] Z Z' → (-9223372036854775808) ≤ z ∧ z ≤ 9223372036854775807 → Post (some (xL z), h')) : mx_J (tB l D b0 ad Hb tau) mt_118 (d + 6) 0 [some (.ref 1), some (xI 2), none] [] h Post := by
    have a1 : 1 < n := lt83 (GI_n hG) rfl
    have s1 : S 1 = .inl (11, [2, 0, 0, 0, 2, 2, 2, 2, 2, 2, 2, 2, 2, 2, 2, 2, 2]) := GI_s hG 1 rfl
    have a32 : 32 < n := lt83 (GI_n hG) rfl
    have s32 : S 32 = .inl (9, [2, 2, 2]) := GI_s hG 32 rfl
    have a34 : 34 < n := lt83 (GI_n hG) rfl
    have s34 : S 34 = .inr ((.object "TitheHeap$Tray"), 4, 2) := GI_s hG 34 rfl
    have a48 : 48 < n := lt83 (GI_n hG) rfl
    have s48 : S 48 = .inl (10, [2, 0, 0, 0]) := GI_s hG 48 rfl
    refine mx_J.step (sn_118 0) (fun _ _ => rfl) ?_
    refine mx_J.step (sn_118 1) (fun _ _ => rfl) ?_
    refine JcI (z := (-1)) (show mx_Sn _ _ 2 (mx_const (.int (-1)) 3) from sn_118 2) rfl ?_
    refine JcI (z := 0) (show mx_Sn _ _ 3 (mx_const (.int 0) 4) from sn_118 3) rfl ?_
    obtain ⟨z1, hc1, b1⟩ := ct_146_1_i2 (d := d + 4) (l := l) (D := D) (b0 := b0) (ad := ad) (Hb := Hb) (tau := tau) hx hG (show (-1) ≤ (-1) ∧ (-1) ≤ 1 by omega) (show (-2147483648) ≤ 0 ∧ 0 ≤ 2147483647 by omega)
    refine Jcv hx (show mx_Sn _ _ 4 (mx_callv 146 4 11 7) from sn_118 4) a1 s1 hc1 rfl rfl rfl ?_
    refine mx_J.step (ls2 := [some (.ref 1), some (xI 2), some (xI z1)]) (sn_118 7) (fun _ _ => rfl) ?_
    refine mx_J.step (sn_118 8) (fun _ _ => rfl) ?_
    refine Jif_ge (show mx_Sn _ _ 9 (mx_if_ge 15 12) from sn_118 9) (by omega) (fun q2 => ?_) (fun q2 => ?_)
    · skip
      refine mx_J.step (sn_118 15) (fun _ _ => rfl) ?_
      refine mx_J.step (sn_118 16) (fun _ _ => rfl) ?_
      refine JgetR (g := 10) (b := 34) hx (show mx_Sn _ _ 17 (mx_getf 11 10 20) from sn_118 17) a1 s1 rfl rfl (hG.prr 1 10 rfl) ?_
      refine mx_J.step (sn_118 20) (fun _ _ => rfl) ?_
      refine JaaldR (i := 2) (b := 48) hx (show mx_Sn _ _ 21 (mx_aald 22) from sn_118 21) a34 s34 (by omega) (show Z 34 2 = 48 by have hq := GI_ex hG 34 2; replace hq : ((0 : Int) ≤ 2 → (2 : Int) ≤ 3 → (Z 34 2) = 44 + 2 * 2) := hq; omega) ?_
      obtain ⟨Z4, h4, hc4, hx4, hG4, hf4⟩ := ct_147_1_48 (d := d + 0) (l := l) (D := D) (b0 := b0) (ad := ad) (Hb := Hb) (tau := tau) hx hG 
      refine Jcv0 hx (show mx_Sn _ _ 22 (mx_callv 147 2 11 25) from sn_118 22) a1 s1 hc4 rfl rfl rfl ?_
      refine mx_J.step (sn_118 25) (fun _ _ => rfl) ?_
      refine JgetR (g := 9) (b := 32) hx4 (show mx_Sn _ _ 26 (mx_getf 11 9 29) from sn_118 26) a1 s1 rfl rfl (hG4.prr 1 9 rfl) ?_
      refine mx_J.step (sn_118 29) (fun _ _ => rfl) ?_
      refine JgetR (g := 10) (b := 34) hx4 (show mx_Sn _ _ 30 (mx_getf 11 10 33) from sn_118 30) a1 s1 rfl rfl (hG4.prr 1 10 rfl) ?_
      refine mx_J.step (sn_118 33) (fun _ _ => rfl) ?_
      refine JaaldR (i := 2) (b := 48) hx4 (show mx_Sn _ _ 34 (mx_aald 35) from sn_118 34) a34 s34 (by omega) (show Z4 34 2 = 48 by have hq := GI_ex hG4 34 2; replace hq : ((0 : Int) ≤ 2 → (2 : Int) ≤ 3 → (Z4 34 2) = 44 + 2 * 2) := hq; omega) ?_
      have b8 : 0 ≤ Z 48 2 ∧ Z 48 2 ≤ 40 := hG.pr 48 2
      refine JgetI (g := 2) (z := Z 48 2) hx4 (show mx_Sn _ _ 35 (mx_getf 10 2 38) from sn_118 35) a48 s48 rfl rfl (hf4 48 2 rfl) ?_
      refine JcI (z := 1) (show mx_Sn _ _ 38 (mx_const (.int 1) 39) from sn_118 38) rfl ?_
      refine JcI (z := 18) (show mx_Sn _ _ 39 (mx_const (.int 18) 41) from sn_118 39) rfl ?_
      obtain ⟨z9, hc9, b9⟩ := ct_75_32 (d := d + 4) (l := l) (D := D) (b0 := b0) (ad := ad) (Hb := Hb) (tau := tau) hx4 hG4 (show 0 ≤ Z 48 2 ∧ Z 48 2 ≤ 9 by omega) (show 1 ≤ 1 ∧ 1 ≤ 18 by omega) (show 1 ≤ 18 ∧ 18 ≤ 18 by omega)
      refine Jcv hx4 (show mx_Sn _ _ 41 (mx_callv 75 4 9 44) from sn_118 41) a32 s32 hc9 rfl rfl rfl ?_
      exact mx_J.ret (sn_118 44) (fun _ _ => rfl) (hP z9 Z4 h4 hx4 hG4 (fr_tr (M := [(14, (-1)), (16, (-1)), (17, (-1)), (18, (-1)), (19, (-1)), (33, (-1))]) fr_rf (hf4) (M1 := []) rfl rfl) (by omega))
    · skip
      refine mx_J.step (sn_118 12) (fun _ _ => rfl) ?_
      refine Ji2l (show mx_Sn _ _ 13 (mx_i2l 14) from sn_118 13) (by omega) ?_
      exact mx_J.ret (sn_118 14) (fun _ _ => rfl) (hP z1 Z h hx hG fr_rf (by omega))
theorem ct_118_1_i2 {l : Launch} {D : va_G} {b0 : Nat} {ad : Nat → Nat} {Hb : Heap} {tau : Nat → Int64} {d n s : Nat} {S : Nat → xS} {Z : xZ} {h : mx_H} (hx : XH n s S Z h) (hG : GI n S Z)   : ∃ (z : Int) (Z' : xZ) (h' : mx_H), mx_Ca (tB l D b0 ad Hb tau) (d + 7) 118 [.ref 1, xI 2] h (some (xL z), h') ∧ XH n s S Z' h' ∧ GI n S Z' ∧ fr' [(14, (-1)), (16, (-1)), (17, (-1)), (18, (-1)), (19, (-1)), (33, (-1))] Z Z' ∧ ((-9223372036854775808) ≤ z ∧ z ≤ 9223372036854775807) := by
  obtain ⟨r, hca, z, Z', h', e, q⟩ := Jmt (B := tB l D b0 ad Hb tau) (M := mt_118) (mi := 118) (as := [.ref 1, xI 2]) (d := d + 6) (ls := [some (.ref 1), some (xI 2), none]) rfl rfl rfl rfl rfl rfl (cw_118_1_i2 (l := l) (D := D) (b0 := b0) (ad := ad) (Hb := Hb) (tau := tau) (d := d) (Post := fun r => ∃ (z : Int) (Z' : xZ) (h' : mx_H), r = (some (xL z), h') ∧ XH n s S Z' h' ∧ GI n S Z' ∧ fr' [(14, (-1)), (16, (-1)), (17, (-1)), (18, (-1)), (19, (-1)), (33, (-1))] Z Z' ∧ ((-9223372036854775808) ≤ z ∧ z ≤ 9223372036854775807)) hx hG  (fun z Z' h' q1 q2 q3 q4 => ⟨z, Z', h', rfl, q1, q2, q3, q4⟩))
  subst e; exact ⟨z, Z', h', hca, q⟩
set_option maxRecDepth 100000 in
theorem cw_118_1_i3 {l : Launch} {D : va_G} {b0 : Nat} {ad : Nat → Nat} {Hb : Heap} {tau : Nat → Int64} {d n s : Nat} {S : Nat → xS} {Z : xZ} {h : mx_H} {Post : mx_R → Prop} (hx : XH n s S Z h) (hG : GI n S Z)   (hP : ∀ (z : Int) (Z' : xZ) (h' : mx_H), XH n s S Z' h' → GI n S Z' → fr' [(14, (-1)), (16, (-1)), (17, (-1)), (18, (-1)), (19, (-1)), (33, (-1))] Z Z' → (-9223372036854775808) ≤ z ∧ z ≤ 9223372036854775807 → Post (some (xL z), h')) : mx_J (tB l D b0 ad Hb tau) mt_118 (d + 6) 0 [some (.ref 1), some (xI 3), none] [] h Post := by
    have a1 : 1 < n := lt83 (GI_n hG) rfl
    have s1 : S 1 = .inl (11, [2, 0, 0, 0, 2, 2, 2, 2, 2, 2, 2, 2, 2, 2, 2, 2, 2]) := GI_s hG 1 rfl
    have a32 : 32 < n := lt83 (GI_n hG) rfl
    have s32 : S 32 = .inl (9, [2, 2, 2]) := GI_s hG 32 rfl
    have a34 : 34 < n := lt83 (GI_n hG) rfl
    have s34 : S 34 = .inr ((.object "TitheHeap$Tray"), 4, 2) := GI_s hG 34 rfl
    have a50 : 50 < n := lt83 (GI_n hG) rfl
    have s50 : S 50 = .inl (10, [2, 0, 0, 0]) := GI_s hG 50 rfl
    refine mx_J.step (sn_118 0) (fun _ _ => rfl) ?_
    refine mx_J.step (sn_118 1) (fun _ _ => rfl) ?_
    refine JcI (z := (-1)) (show mx_Sn _ _ 2 (mx_const (.int (-1)) 3) from sn_118 2) rfl ?_
    refine JcI (z := 0) (show mx_Sn _ _ 3 (mx_const (.int 0) 4) from sn_118 3) rfl ?_
    obtain ⟨z1, hc1, b1⟩ := ct_146_1_i3 (d := d + 4) (l := l) (D := D) (b0 := b0) (ad := ad) (Hb := Hb) (tau := tau) hx hG (show (-1) ≤ (-1) ∧ (-1) ≤ 1 by omega) (show (-2147483648) ≤ 0 ∧ 0 ≤ 2147483647 by omega)
    refine Jcv hx (show mx_Sn _ _ 4 (mx_callv 146 4 11 7) from sn_118 4) a1 s1 hc1 rfl rfl rfl ?_
    refine mx_J.step (ls2 := [some (.ref 1), some (xI 3), some (xI z1)]) (sn_118 7) (fun _ _ => rfl) ?_
    refine mx_J.step (sn_118 8) (fun _ _ => rfl) ?_
    refine Jif_ge (show mx_Sn _ _ 9 (mx_if_ge 15 12) from sn_118 9) (by omega) (fun q2 => ?_) (fun q2 => ?_)
    · skip
      refine mx_J.step (sn_118 15) (fun _ _ => rfl) ?_
      refine mx_J.step (sn_118 16) (fun _ _ => rfl) ?_
      refine JgetR (g := 10) (b := 34) hx (show mx_Sn _ _ 17 (mx_getf 11 10 20) from sn_118 17) a1 s1 rfl rfl (hG.prr 1 10 rfl) ?_
      refine mx_J.step (sn_118 20) (fun _ _ => rfl) ?_
      refine JaaldR (i := 3) (b := 50) hx (show mx_Sn _ _ 21 (mx_aald 22) from sn_118 21) a34 s34 (by omega) (show Z 34 3 = 50 by have hq := GI_ex hG 34 3; replace hq : ((0 : Int) ≤ 3 → (3 : Int) ≤ 3 → (Z 34 3) = 44 + 2 * 3) := hq; omega) ?_
      obtain ⟨Z4, h4, hc4, hx4, hG4, hf4⟩ := ct_147_1_50 (d := d + 0) (l := l) (D := D) (b0 := b0) (ad := ad) (Hb := Hb) (tau := tau) hx hG 
      refine Jcv0 hx (show mx_Sn _ _ 22 (mx_callv 147 2 11 25) from sn_118 22) a1 s1 hc4 rfl rfl rfl ?_
      refine mx_J.step (sn_118 25) (fun _ _ => rfl) ?_
      refine JgetR (g := 9) (b := 32) hx4 (show mx_Sn _ _ 26 (mx_getf 11 9 29) from sn_118 26) a1 s1 rfl rfl (hG4.prr 1 9 rfl) ?_
      refine mx_J.step (sn_118 29) (fun _ _ => rfl) ?_
      refine JgetR (g := 10) (b := 34) hx4 (show mx_Sn _ _ 30 (mx_getf 11 10 33) from sn_118 30) a1 s1 rfl rfl (hG4.prr 1 10 rfl) ?_
      refine mx_J.step (sn_118 33) (fun _ _ => rfl) ?_
      refine JaaldR (i := 3) (b := 50) hx4 (show mx_Sn _ _ 34 (mx_aald 35) from sn_118 34) a34 s34 (by omega) (show Z4 34 3 = 50 by have hq := GI_ex hG4 34 3; replace hq : ((0 : Int) ≤ 3 → (3 : Int) ≤ 3 → (Z4 34 3) = 44 + 2 * 3) := hq; omega) ?_
      have b8 : 0 ≤ Z 50 2 ∧ Z 50 2 ≤ 40 := hG.pr 50 2
      refine JgetI (g := 2) (z := Z 50 2) hx4 (show mx_Sn _ _ 35 (mx_getf 10 2 38) from sn_118 35) a50 s50 rfl rfl (hf4 50 2 rfl) ?_
      refine JcI (z := 1) (show mx_Sn _ _ 38 (mx_const (.int 1) 39) from sn_118 38) rfl ?_
      refine JcI (z := 18) (show mx_Sn _ _ 39 (mx_const (.int 18) 41) from sn_118 39) rfl ?_
      obtain ⟨z9, hc9, b9⟩ := ct_75_32 (d := d + 4) (l := l) (D := D) (b0 := b0) (ad := ad) (Hb := Hb) (tau := tau) hx4 hG4 (show 0 ≤ Z 50 2 ∧ Z 50 2 ≤ 9 by omega) (show 1 ≤ 1 ∧ 1 ≤ 18 by omega) (show 1 ≤ 18 ∧ 18 ≤ 18 by omega)
      refine Jcv hx4 (show mx_Sn _ _ 41 (mx_callv 75 4 9 44) from sn_118 41) a32 s32 hc9 rfl rfl rfl ?_
      exact mx_J.ret (sn_118 44) (fun _ _ => rfl) (hP z9 Z4 h4 hx4 hG4 (fr_tr (M := [(14, (-1)), (16, (-1)), (17, (-1)), (18, (-1)), (19, (-1)), (33, (-1))]) fr_rf (hf4) (M1 := []) rfl rfl) (by omega))
    · skip
      refine mx_J.step (sn_118 12) (fun _ _ => rfl) ?_
      refine Ji2l (show mx_Sn _ _ 13 (mx_i2l 14) from sn_118 13) (by omega) ?_
      exact mx_J.ret (sn_118 14) (fun _ _ => rfl) (hP z1 Z h hx hG fr_rf (by omega))
theorem ct_118_1_i3 {l : Launch} {D : va_G} {b0 : Nat} {ad : Nat → Nat} {Hb : Heap} {tau : Nat → Int64} {d n s : Nat} {S : Nat → xS} {Z : xZ} {h : mx_H} (hx : XH n s S Z h) (hG : GI n S Z)   : ∃ (z : Int) (Z' : xZ) (h' : mx_H), mx_Ca (tB l D b0 ad Hb tau) (d + 7) 118 [.ref 1, xI 3] h (some (xL z), h') ∧ XH n s S Z' h' ∧ GI n S Z' ∧ fr' [(14, (-1)), (16, (-1)), (17, (-1)), (18, (-1)), (19, (-1)), (33, (-1))] Z Z' ∧ ((-9223372036854775808) ≤ z ∧ z ≤ 9223372036854775807) := by
  obtain ⟨r, hca, z, Z', h', e, q⟩ := Jmt (B := tB l D b0 ad Hb tau) (M := mt_118) (mi := 118) (as := [.ref 1, xI 3]) (d := d + 6) (ls := [some (.ref 1), some (xI 3), none]) rfl rfl rfl rfl rfl rfl (cw_118_1_i3 (l := l) (D := D) (b0 := b0) (ad := ad) (Hb := Hb) (tau := tau) (d := d) (Post := fun r => ∃ (z : Int) (Z' : xZ) (h' : mx_H), r = (some (xL z), h') ∧ XH n s S Z' h' ∧ GI n S Z' ∧ fr' [(14, (-1)), (16, (-1)), (17, (-1)), (18, (-1)), (19, (-1)), (33, (-1))] Z Z' ∧ ((-9223372036854775808) ≤ z ∧ z ≤ 9223372036854775807)) hx hG  (fun z Z' h' q1 q2 q3 q4 => ⟨z, Z', h', rfl, q1, q2, q3, q4⟩))
  subst e; exact ⟨z, Z', h', hca, q⟩
set_option maxRecDepth 100000 in
theorem cw_118_1_n {l : Launch} {D : va_G} {b0 : Nat} {ad : Nat → Nat} {Hb : Heap} {tau : Nat → Int64} {d n s : Nat} {S : Nat → xS} {Z : xZ} {h : mx_H} {Post : mx_R → Prop} (hx : XH n s S Z h) (hG : GI n S Z)  {x0 : Int} (p0 : (-2147483648) ≤ x0 ∧ x0 ≤ (-1)) (hP : ∀ z : Int, (-2) ≤ z ∧ z ≤ (-2) → Post (some (xL z), h)) : mx_J (tB l D b0 ad Hb tau) mt_118 (d + 2) 0 [some (.ref 1), some (xI x0), none] [] h Post := by
    have a1 : 1 < n := lt83 (GI_n hG) rfl
    have s1 : S 1 = .inl (11, [2, 0, 0, 0, 2, 2, 2, 2, 2, 2, 2, 2, 2, 2, 2, 2, 2]) := GI_s hG 1 rfl
    refine mx_J.step (sn_118 0) (fun _ _ => rfl) ?_
    refine mx_J.step (sn_118 1) (fun _ _ => rfl) ?_
    refine JcI (z := (-1)) (show mx_Sn _ _ 2 (mx_const (.int (-1)) 3) from sn_118 2) rfl ?_
    refine JcI (z := 0) (show mx_Sn _ _ 3 (mx_const (.int 0) 4) from sn_118 3) rfl ?_
    obtain ⟨z1, hc1, b1⟩ := ct_146_1_n (d := d + 0) (l := l) (D := D) (b0 := b0) (ad := ad) (Hb := Hb) (tau := tau) hx hG (show (-2147483648) ≤ x0 ∧ x0 ≤ (-1) by omega) (show (-1) ≤ (-1) ∧ (-1) ≤ 1 by omega) (show (-2147483648) ≤ 0 ∧ 0 ≤ 2147483647 by omega)
    refine Jcv hx (show mx_Sn _ _ 4 (mx_callv 146 4 11 7) from sn_118 4) a1 s1 hc1 rfl rfl rfl ?_
    refine mx_J.step (ls2 := [some (.ref 1), some (xI x0), some (xI z1)]) (sn_118 7) (fun _ _ => rfl) ?_
    refine mx_J.step (sn_118 8) (fun _ _ => rfl) ?_
    refine Jif_ge (show mx_Sn _ _ 9 (mx_if_ge 15 12) from sn_118 9) (by omega) (fun q2 => ?_) (fun q2 => ?_)
    · skip
      exfalso; omega
    · skip
      refine mx_J.step (sn_118 12) (fun _ _ => rfl) ?_
      refine Ji2l (show mx_Sn _ _ 13 (mx_i2l 14) from sn_118 13) (by omega) ?_
      exact mx_J.ret (sn_118 14) (fun _ _ => rfl) (hP z1 (by omega))
theorem ct_118_1_n {l : Launch} {D : va_G} {b0 : Nat} {ad : Nat → Nat} {Hb : Heap} {tau : Nat → Int64} {d n s : Nat} {S : Nat → xS} {Z : xZ} {h : mx_H} (hx : XH n s S Z h) (hG : GI n S Z)  {x0 : Int} (p0 : (-2147483648) ≤ x0 ∧ x0 ≤ (-1)) : ∃ z : Int, mx_Ca (tB l D b0 ad Hb tau) (d + 3) 118 [.ref 1, xI x0] h (some (xL z), h) ∧ ((-2) ≤ z ∧ z ≤ (-2)) := by
  obtain ⟨r, hca, z, e, hp⟩ := Jmt (B := tB l D b0 ad Hb tau) (M := mt_118) (mi := 118) (as := [.ref 1, xI x0]) (d := d + 2) (ls := [some (.ref 1), some (xI x0), none]) rfl rfl rfl rfl rfl rfl (cw_118_1_n (l := l) (D := D) (b0 := b0) (ad := ad) (Hb := Hb) (tau := tau) (d := d) (Post := fun r => ∃ z : Int, r = (some (xL z), h) ∧ ((-2) ≤ z ∧ z ≤ (-2))) hx hG p0 (fun z hz => ⟨z, rfl, hz⟩))
  subst e; exact ⟨z, hca, hp⟩
set_option maxRecDepth 100000 in
theorem cw_118_1_p {l : Launch} {D : va_G} {b0 : Nat} {ad : Nat → Nat} {Hb : Heap} {tau : Nat → Int64} {d n s : Nat} {S : Nat → xS} {Z : xZ} {h : mx_H} {Post : mx_R → Prop} (hx : XH n s S Z h) (hG : GI n S Z)  {x0 : Int} (p0 : 4 ≤ x0 ∧ x0 ≤ 2147483647) (hP : ∀ z : Int, (-2) ≤ z ∧ z ≤ (-2) → Post (some (xL z), h)) : mx_J (tB l D b0 ad Hb tau) mt_118 (d + 2) 0 [some (.ref 1), some (xI x0), none] [] h Post := by
    have a1 : 1 < n := lt83 (GI_n hG) rfl
    have s1 : S 1 = .inl (11, [2, 0, 0, 0, 2, 2, 2, 2, 2, 2, 2, 2, 2, 2, 2, 2, 2]) := GI_s hG 1 rfl
    refine mx_J.step (sn_118 0) (fun _ _ => rfl) ?_
    refine mx_J.step (sn_118 1) (fun _ _ => rfl) ?_
    refine JcI (z := (-1)) (show mx_Sn _ _ 2 (mx_const (.int (-1)) 3) from sn_118 2) rfl ?_
    refine JcI (z := 0) (show mx_Sn _ _ 3 (mx_const (.int 0) 4) from sn_118 3) rfl ?_
    obtain ⟨z1, hc1, b1⟩ := ct_146_1_p (d := d + 0) (l := l) (D := D) (b0 := b0) (ad := ad) (Hb := Hb) (tau := tau) hx hG (show 4 ≤ x0 ∧ x0 ≤ 2147483647 by omega) (show (-1) ≤ (-1) ∧ (-1) ≤ 1 by omega) (show (-2147483648) ≤ 0 ∧ 0 ≤ 2147483647 by omega)
    refine Jcv hx (show mx_Sn _ _ 4 (mx_callv 146 4 11 7) from sn_118 4) a1 s1 hc1 rfl rfl rfl ?_
    refine mx_J.step (ls2 := [some (.ref 1), some (xI x0), some (xI z1)]) (sn_118 7) (fun _ _ => rfl) ?_
    refine mx_J.step (sn_118 8) (fun _ _ => rfl) ?_
    refine Jif_ge (show mx_Sn _ _ 9 (mx_if_ge 15 12) from sn_118 9) (by omega) (fun q2 => ?_) (fun q2 => ?_)
    · skip
      exfalso; omega
    · skip
      refine mx_J.step (sn_118 12) (fun _ _ => rfl) ?_
      refine Ji2l (show mx_Sn _ _ 13 (mx_i2l 14) from sn_118 13) (by omega) ?_
      exact mx_J.ret (sn_118 14) (fun _ _ => rfl) (hP z1 (by omega))
theorem ct_118_1_p {l : Launch} {D : va_G} {b0 : Nat} {ad : Nat → Nat} {Hb : Heap} {tau : Nat → Int64} {d n s : Nat} {S : Nat → xS} {Z : xZ} {h : mx_H} (hx : XH n s S Z h) (hG : GI n S Z)  {x0 : Int} (p0 : 4 ≤ x0 ∧ x0 ≤ 2147483647) : ∃ z : Int, mx_Ca (tB l D b0 ad Hb tau) (d + 3) 118 [.ref 1, xI x0] h (some (xL z), h) ∧ ((-2) ≤ z ∧ z ≤ (-2)) := by
  obtain ⟨r, hca, z, e, hp⟩ := Jmt (B := tB l D b0 ad Hb tau) (M := mt_118) (mi := 118) (as := [.ref 1, xI x0]) (d := d + 2) (ls := [some (.ref 1), some (xI x0), none]) rfl rfl rfl rfl rfl rfl (cw_118_1_p (l := l) (D := D) (b0 := b0) (ad := ad) (Hb := Hb) (tau := tau) (d := d) (Post := fun r => ∃ z : Int, r = (some (xL z), h) ∧ ((-2) ≤ z ∧ z ≤ (-2))) hx hG p0 (fun z hz => ⟨z, rfl, hz⟩))
  subst e; exact ⟨z, hca, hp⟩
theorem ct_118_1 {l : Launch} {D : va_G} {b0 : Nat} {ad : Nat → Nat} {Hb : Heap} {tau : Nat → Int64} {d n s : Nat} {S : Nat → xS} {Z : xZ} {h : mx_H} (hx : XH n s S Z h) (hG : GI n S Z) {x0 : Int} (p0 : (-2147483648) ≤ x0 ∧ x0 ≤ 2147483647) : ∃ (z : Int) (Z' : xZ) (h' : mx_H), mx_Ca (tB l D b0 ad Hb tau) (d + 7) 118 [.ref 1, xI x0] h (some (xL z), h') ∧ XH n s S Z' h' ∧ GI n S Z' ∧ fr' [(14, (-1)), (16, (-1)), (17, (-1)), (18, (-1)), (19, (-1)), (33, (-1))] Z Z' ∧ ((-9223372036854775808) ≤ z ∧ z ≤ 9223372036854775807) := by
  have hc : x0 = 0 ∨ x0 = 1 ∨ x0 = 2 ∨ x0 = 3 ∨ ((-2147483648) ≤ x0 ∧ x0 ≤ (-1)) ∨ (4 ≤ x0 ∧ x0 ≤ 2147483647) := by omega
  rcases hc with hc | hc | hc | hc | hc | hc
  · subst hc
    obtain ⟨z, Z', h', hca, q1, q2, q3, b⟩ := ct_118_1_i0 (d := d + 0) (l := l) (D := D) (b0 := b0) (ad := ad) (Hb := Hb) (tau := tau) hx hG 
    exact ⟨z, Z', h', hca, q1, q2, fr_tr (M1 := []) fr_rf q3 rfl rfl, by omega⟩
  · subst hc
    obtain ⟨z, Z', h', hca, q1, q2, q3, b⟩ := ct_118_1_i1 (d := d + 0) (l := l) (D := D) (b0 := b0) (ad := ad) (Hb := Hb) (tau := tau) hx hG 
    exact ⟨z, Z', h', hca, q1, q2, fr_tr (M1 := []) fr_rf q3 rfl rfl, by omega⟩
  · subst hc
    obtain ⟨z, Z', h', hca, q1, q2, q3, b⟩ := ct_118_1_i2 (d := d + 0) (l := l) (D := D) (b0 := b0) (ad := ad) (Hb := Hb) (tau := tau) hx hG 
    exact ⟨z, Z', h', hca, q1, q2, fr_tr (M1 := []) fr_rf q3 rfl rfl, by omega⟩
  · subst hc
    obtain ⟨z, Z', h', hca, q1, q2, q3, b⟩ := ct_118_1_i3 (d := d + 0) (l := l) (D := D) (b0 := b0) (ad := ad) (Hb := Hb) (tau := tau) hx hG 
    exact ⟨z, Z', h', hca, q1, q2, fr_tr (M1 := []) fr_rf q3 rfl rfl, by omega⟩
  · skip
    obtain ⟨z, hca, b⟩ := ct_118_1_n (d := d + 4) (l := l) (D := D) (b0 := b0) (ad := ad) (Hb := Hb) (tau := tau) hx hG hc
    exact ⟨z, Z, h, hca, hx, hG, fr_rf, by omega⟩
  · skip
    obtain ⟨z, hca, b⟩ := ct_118_1_p (d := d + 4) (l := l) (D := D) (b0 := b0) (ad := ad) (Hb := Hb) (tau := tau) hx hG hc
    exact ⟨z, Z, h, hca, hx, hG, fr_rf, by omega⟩
set_option maxRecDepth 100000 in
theorem cw_119_1_i0 {l : Launch} {D : va_G} {b0 : Nat} {ad : Nat → Nat} {Hb : Heap} {tau : Nat → Int64} {d n s : Nat} {S : Nat → xS} {Z : xZ} {h : mx_H} {Post : mx_R → Prop} (hx : XH n s S Z h) (hG : GI n S Z)  {x1 : Int} (p1 : (-2147483648) ≤ x1 ∧ x1 ≤ 2147483647) (hP : ∀ (z : Int) (Z' : xZ) (h' : mx_H), XH n s S Z' h' → GI n S Z' → fr' [(14, (-1)), (16, (-1)), (17, (-1)), (18, (-1)), (19, (-1)), (33, (-1))] Z Z' → (-6) ≤ z ∧ z ≤ 18 → Post (some (xI z), h')) : mx_J (tB l D b0 ad Hb tau) mt_119 (d + 6) 0 [some (.ref 1), some (xI 0), some (xI x1), none] [] h Post := by
    have a1 : 1 < n := lt83 (GI_n hG) rfl
    have s1 : S 1 = .inl (11, [2, 0, 0, 0, 2, 2, 2, 2, 2, 2, 2, 2, 2, 2, 2, 2, 2]) := GI_s hG 1 rfl
    have a32 : 32 < n := lt83 (GI_n hG) rfl
    have s32 : S 32 = .inl (9, [2, 2, 2]) := GI_s hG 32 rfl
    have a34 : 34 < n := lt83 (GI_n hG) rfl
    have s34 : S 34 = .inr ((.object "TitheHeap$Tray"), 4, 2) := GI_s hG 34 rfl
    have a36 : 36 < n := lt83 (GI_n hG) rfl
    have s36 : S 36 = .inl (5, [2, 0, 0, 0, 0, 0]) := GI_s hG 36 rfl
    have a44 : 44 < n := lt83 (GI_n hG) rfl
    have s44 : S 44 = .inl (10, [2, 0, 0, 0]) := GI_s hG 44 rfl
    refine mx_J.step (sn_119 0) (fun _ _ => rfl) ?_
    refine mx_J.step (sn_119 1) (fun _ _ => rfl) ?_
    refine JcI (z := (-1)) (show mx_Sn _ _ 2 (mx_const (.int (-1)) 3) from sn_119 2) rfl ?_
    refine mx_J.step (sn_119 3) (fun _ _ => rfl) ?_
    obtain ⟨z1, hc1, b1⟩ := ct_146_1_i0 (d := d + 4) (l := l) (D := D) (b0 := b0) (ad := ad) (Hb := Hb) (tau := tau) hx hG (show (-1) ≤ (-1) ∧ (-1) ≤ 1 by omega) (show (-2147483648) ≤ x1 ∧ x1 ≤ 2147483647 by omega)
    refine Jcv hx (show mx_Sn _ _ 4 (mx_callv 146 4 11 7) from sn_119 4) a1 s1 hc1 rfl rfl rfl ?_
    refine mx_J.step (ls2 := [some (.ref 1), some (xI 0), some (xI x1), some (xI z1)]) (sn_119 7) (fun _ _ => rfl) ?_
    refine mx_J.step (sn_119 8) (fun _ _ => rfl) ?_
    refine Jif_ge (show mx_Sn _ _ 9 (mx_if_ge 14 12) from sn_119 9) (by omega) (fun q2 => ?_) (fun q2 => ?_)
    · skip
      refine mx_J.step (sn_119 14) (fun _ _ => rfl) ?_
      refine mx_J.step (sn_119 15) (fun _ _ => rfl) ?_
      refine JgetR (g := 10) (b := 34) hx (show mx_Sn _ _ 16 (mx_getf 11 10 19) from sn_119 16) a1 s1 rfl rfl (hG.prr 1 10 rfl) ?_
      refine mx_J.step (sn_119 19) (fun _ _ => rfl) ?_
      refine JaaldR (i := 0) (b := 44) hx (show mx_Sn _ _ 20 (mx_aald 21) from sn_119 20) a34 s34 (by omega) (show Z 34 0 = 44 by have hq := GI_ex hG 34 0; replace hq : ((0 : Int) ≤ 0 → (0 : Int) ≤ 3 → (Z 34 0) = 44 + 2 * 0) := hq; omega) ?_
      have b5 : 0 ≤ Z 44 2 ∧ Z 44 2 ≤ 40 := hG.pr 44 2
      refine JgetI (g := 2) (z := Z 44 2) hx (show mx_Sn _ _ 21 (mx_getf 10 2 24) from sn_119 21) a44 s44 rfl rfl rfl ?_
      refine Jicmp_lt (show mx_Sn _ _ 24 (mx_icmp_lt 29 27) from sn_119 24) (by omega) (by omega) (fun q6 => ?_) (fun q6 => ?_)
      · skip
        refine mx_J.step (sn_119 29) (fun _ _ => rfl) ?_
        refine mx_J.step (sn_119 30) (fun _ _ => rfl) ?_
        refine JgetR (g := 10) (b := 34) hx (show mx_Sn _ _ 31 (mx_getf 11 10 34) from sn_119 31) a1 s1 rfl rfl (hG.prr 1 10 rfl) ?_
        refine mx_J.step (sn_119 34) (fun _ _ => rfl) ?_
        refine JaaldR (i := 0) (b := 44) hx (show mx_Sn _ _ 35 (mx_aald 36) from sn_119 35) a34 s34 (by omega) (show Z 34 0 = 44 by have hq := GI_ex hG 34 0; replace hq : ((0 : Int) ≤ 0 → (0 : Int) ≤ 3 → (Z 34 0) = 44 + 2 * 0) := hq; omega) ?_
        obtain ⟨Z8, h8, hc8, hx8, hG8, hf8⟩ := ct_147_1_44 (d := d + 0) (l := l) (D := D) (b0 := b0) (ad := ad) (Hb := Hb) (tau := tau) hx hG 
        refine Jcv0 hx (show mx_Sn _ _ 36 (mx_callv 147 2 11 39) from sn_119 36) a1 s1 hc8 rfl rfl rfl ?_
        refine mx_J.step (sn_119 39) (fun _ _ => rfl) ?_
        refine JgetR (g := 9) (b := 32) hx8 (show mx_Sn _ _ 40 (mx_getf 11 9 43) from sn_119 40) a1 s1 rfl rfl (hG8.prr 1 9 rfl) ?_
        refine mx_J.step (sn_119 43) (fun _ _ => rfl) ?_
        refine JgetR (g := 10) (b := 34) hx8 (show mx_Sn _ _ 44 (mx_getf 11 10 47) from sn_119 44) a1 s1 rfl rfl (hG8.prr 1 10 rfl) ?_
        refine mx_J.step (sn_119 47) (fun _ _ => rfl) ?_
        refine JaaldR (i := 0) (b := 44) hx8 (show mx_Sn _ _ 48 (mx_aald 49) from sn_119 48) a34 s34 (by omega) (show Z8 34 0 = 44 by have hq := GI_ex hG8 34 0; replace hq : ((0 : Int) ≤ 0 → (0 : Int) ≤ 3 → (Z8 34 0) = 44 + 2 * 0) := hq; omega) ?_
        refine JgetI (g := 2) (z := Z 44 2) hx8 (show mx_Sn _ _ 49 (mx_getf 10 2 52) from sn_119 49) a44 s44 rfl rfl (hf8 44 2 rfl) ?_
        obtain ⟨Z12, h12, hc12, hx12, hG12, hf12⟩ := ct_77_32 (d := d + 0) (l := l) (D := D) (b0 := b0) (ad := ad) (Hb := Hb) (tau := tau) hx8 hG8 (show 1 ≤ Z 44 2 ∧ Z 44 2 ≤ 8 by omega)
        refine Jcv0 hx8 (show mx_Sn _ _ 52 (mx_callv 77 2 9 55) from sn_119 52) a32 s32 hc12 rfl rfl rfl ?_
        refine mx_J.step (sn_119 55) (fun _ _ => rfl) ?_
        refine JgetR (g := 9) (b := 32) hx12 (show mx_Sn _ _ 56 (mx_getf 11 9 59) from sn_119 56) a1 s1 rfl rfl (hG12.prr 1 9 rfl) ?_
        refine mx_J.step (sn_119 59) (fun _ _ => rfl) ?_
        refine JgetR (g := 12) (b := 36) hx12 (show mx_Sn _ _ 60 (mx_getf 11 12 63) from sn_119 60) a1 s1 rfl rfl (hG12.prr 1 12 rfl) ?_
        have b16 : 0 ≤ Z 36 2 ∧ Z 36 2 ≤ 384 := hG.pr 36 2
        refine JgetI (g := 2) (z := Z 36 2) hx12 (show mx_Sn _ _ 63 (mx_getf 5 2 66) from sn_119 63) a36 s36 rfl rfl ((hf12 36 2 rfl).trans (hf8 36 2 rfl)) ?_
        refine mx_J.step (sn_119 66) (fun _ _ => rfl) ?_
        obtain ⟨z17, Z17, h17, hc17, hx17, hG17, hf17, b17⟩ := ct_80_32 (d := d + 0) (l := l) (D := D) (b0 := b0) (ad := ad) (Hb := Hb) (tau := tau) hx12 hG12 (show 0 ≤ Z 36 2 ∧ Z 36 2 ≤ 384 by omega) (show 0 ≤ x1 ∧ x1 ≤ 8 by omega)
        refine Jcv hx12 (show mx_Sn _ _ 67 (mx_callv 80 3 9 70) from sn_119 67) a32 s32 hc17 rfl rfl rfl ?_
        exact mx_J.ret (sn_119 70) (fun _ _ => rfl) (hP z17 Z17 h17 hx17 hG17 (fr_tr (M := [(14, (-1)), (16, (-1)), (17, (-1)), (18, (-1)), (19, (-1)), (33, (-1))]) (fr_tr (M := [(14, (-1)), (16, (-1)), (17, (-1)), (18, (-1)), (19, (-1)), (33, (-1))]) (fr_tr (M := [(14, (-1)), (16, (-1)), (17, (-1)), (18, (-1)), (19, (-1)), (33, (-1))]) fr_rf (hf8) (M1 := []) rfl rfl) (hf12) rfl rfl) (hf17) rfl rfl) (by omega))
      · skip
        refine JcI (z := (-1)) (show mx_Sn _ _ 27 (mx_const (.int (-1)) 28) from sn_119 27) rfl ?_
        exact mx_J.ret (sn_119 28) (fun _ _ => rfl) (hP (-1) Z h hx hG fr_rf (by omega))
    · skip
      refine mx_J.step (sn_119 12) (fun _ _ => rfl) ?_
      exact mx_J.ret (sn_119 13) (fun _ _ => rfl) (hP z1 Z h hx hG fr_rf (by omega))
theorem ct_119_1_i0 {l : Launch} {D : va_G} {b0 : Nat} {ad : Nat → Nat} {Hb : Heap} {tau : Nat → Int64} {d n s : Nat} {S : Nat → xS} {Z : xZ} {h : mx_H} (hx : XH n s S Z h) (hG : GI n S Z)  {x1 : Int} (p1 : (-2147483648) ≤ x1 ∧ x1 ≤ 2147483647) : ∃ (z : Int) (Z' : xZ) (h' : mx_H), mx_Ca (tB l D b0 ad Hb tau) (d + 7) 119 [.ref 1, xI 0, xI x1] h (some (xI z), h') ∧ XH n s S Z' h' ∧ GI n S Z' ∧ fr' [(14, (-1)), (16, (-1)), (17, (-1)), (18, (-1)), (19, (-1)), (33, (-1))] Z Z' ∧ ((-6) ≤ z ∧ z ≤ 18) := by
  obtain ⟨r, hca, z, Z', h', e, q⟩ := Jmt (B := tB l D b0 ad Hb tau) (M := mt_119) (mi := 119) (as := [.ref 1, xI 0, xI x1]) (d := d + 6) (ls := [some (.ref 1), some (xI 0), some (xI x1), none]) rfl rfl rfl rfl rfl rfl (cw_119_1_i0 (l := l) (D := D) (b0 := b0) (ad := ad) (Hb := Hb) (tau := tau) (d := d) (Post := fun r => ∃ (z : Int) (Z' : xZ) (h' : mx_H), r = (some (xI z), h') ∧ XH n s S Z' h' ∧ GI n S Z' ∧ fr' [(14, (-1)), (16, (-1)), (17, (-1)), (18, (-1)), (19, (-1)), (33, (-1))] Z Z' ∧ ((-6) ≤ z ∧ z ≤ 18)) hx hG p1 (fun z Z' h' q1 q2 q3 q4 => ⟨z, Z', h', rfl, q1, q2, q3, q4⟩))
  subst e; exact ⟨z, Z', h', hca, q⟩
set_option maxRecDepth 100000 in
theorem cw_119_1_i1 {l : Launch} {D : va_G} {b0 : Nat} {ad : Nat → Nat} {Hb : Heap} {tau : Nat → Int64} {d n s : Nat} {S : Nat → xS} {Z : xZ} {h : mx_H} {Post : mx_R → Prop} (hx : XH n s S Z h) (hG : GI n S Z)  {x1 : Int} (p1 : (-2147483648) ≤ x1 ∧ x1 ≤ 2147483647) (hP : ∀ (z : Int) (Z' : xZ) (h' : mx_H), XH n s S Z' h' → GI n S Z' → fr' [(14, (-1)), (16, (-1)), (17, (-1)), (18, (-1)), (19, (-1)), (33, (-1))] Z Z' → (-6) ≤ z ∧ z ≤ 18 → Post (some (xI z), h')) : mx_J (tB l D b0 ad Hb tau) mt_119 (d + 6) 0 [some (.ref 1), some (xI 1), some (xI x1), none] [] h Post := by
    have a1 : 1 < n := lt83 (GI_n hG) rfl
    have s1 : S 1 = .inl (11, [2, 0, 0, 0, 2, 2, 2, 2, 2, 2, 2, 2, 2, 2, 2, 2, 2]) := GI_s hG 1 rfl
    have a32 : 32 < n := lt83 (GI_n hG) rfl
    have s32 : S 32 = .inl (9, [2, 2, 2]) := GI_s hG 32 rfl
    have a34 : 34 < n := lt83 (GI_n hG) rfl
    have s34 : S 34 = .inr ((.object "TitheHeap$Tray"), 4, 2) := GI_s hG 34 rfl
    have a36 : 36 < n := lt83 (GI_n hG) rfl
    have s36 : S 36 = .inl (5, [2, 0, 0, 0, 0, 0]) := GI_s hG 36 rfl
    have a46 : 46 < n := lt83 (GI_n hG) rfl
    have s46 : S 46 = .inl (10, [2, 0, 0, 0]) := GI_s hG 46 rfl
    refine mx_J.step (sn_119 0) (fun _ _ => rfl) ?_
    refine mx_J.step (sn_119 1) (fun _ _ => rfl) ?_
    refine JcI (z := (-1)) (show mx_Sn _ _ 2 (mx_const (.int (-1)) 3) from sn_119 2) rfl ?_
    refine mx_J.step (sn_119 3) (fun _ _ => rfl) ?_
    obtain ⟨z1, hc1, b1⟩ := ct_146_1_i1 (d := d + 4) (l := l) (D := D) (b0 := b0) (ad := ad) (Hb := Hb) (tau := tau) hx hG (show (-1) ≤ (-1) ∧ (-1) ≤ 1 by omega) (show (-2147483648) ≤ x1 ∧ x1 ≤ 2147483647 by omega)
    refine Jcv hx (show mx_Sn _ _ 4 (mx_callv 146 4 11 7) from sn_119 4) a1 s1 hc1 rfl rfl rfl ?_
    refine mx_J.step (ls2 := [some (.ref 1), some (xI 1), some (xI x1), some (xI z1)]) (sn_119 7) (fun _ _ => rfl) ?_
    refine mx_J.step (sn_119 8) (fun _ _ => rfl) ?_
    refine Jif_ge (show mx_Sn _ _ 9 (mx_if_ge 14 12) from sn_119 9) (by omega) (fun q2 => ?_) (fun q2 => ?_)
    · skip
      refine mx_J.step (sn_119 14) (fun _ _ => rfl) ?_
      refine mx_J.step (sn_119 15) (fun _ _ => rfl) ?_
      refine JgetR (g := 10) (b := 34) hx (show mx_Sn _ _ 16 (mx_getf 11 10 19) from sn_119 16) a1 s1 rfl rfl (hG.prr 1 10 rfl) ?_
      refine mx_J.step (sn_119 19) (fun _ _ => rfl) ?_
      refine JaaldR (i := 1) (b := 46) hx (show mx_Sn _ _ 20 (mx_aald 21) from sn_119 20) a34 s34 (by omega) (show Z 34 1 = 46 by have hq := GI_ex hG 34 1; replace hq : ((0 : Int) ≤ 1 → (1 : Int) ≤ 3 → (Z 34 1) = 44 + 2 * 1) := hq; omega) ?_
      have b5 : 0 ≤ Z 46 2 ∧ Z 46 2 ≤ 40 := hG.pr 46 2
      refine JgetI (g := 2) (z := Z 46 2) hx (show mx_Sn _ _ 21 (mx_getf 10 2 24) from sn_119 21) a46 s46 rfl rfl rfl ?_
      refine Jicmp_lt (show mx_Sn _ _ 24 (mx_icmp_lt 29 27) from sn_119 24) (by omega) (by omega) (fun q6 => ?_) (fun q6 => ?_)
      · skip
        refine mx_J.step (sn_119 29) (fun _ _ => rfl) ?_
        refine mx_J.step (sn_119 30) (fun _ _ => rfl) ?_
        refine JgetR (g := 10) (b := 34) hx (show mx_Sn _ _ 31 (mx_getf 11 10 34) from sn_119 31) a1 s1 rfl rfl (hG.prr 1 10 rfl) ?_
        refine mx_J.step (sn_119 34) (fun _ _ => rfl) ?_
        refine JaaldR (i := 1) (b := 46) hx (show mx_Sn _ _ 35 (mx_aald 36) from sn_119 35) a34 s34 (by omega) (show Z 34 1 = 46 by have hq := GI_ex hG 34 1; replace hq : ((0 : Int) ≤ 1 → (1 : Int) ≤ 3 → (Z 34 1) = 44 + 2 * 1) := hq; omega) ?_
        obtain ⟨Z8, h8, hc8, hx8, hG8, hf8⟩ := ct_147_1_46 (d := d + 0) (l := l) (D := D) (b0 := b0) (ad := ad) (Hb := Hb) (tau := tau) hx hG 
        refine Jcv0 hx (show mx_Sn _ _ 36 (mx_callv 147 2 11 39) from sn_119 36) a1 s1 hc8 rfl rfl rfl ?_
        refine mx_J.step (sn_119 39) (fun _ _ => rfl) ?_
        refine JgetR (g := 9) (b := 32) hx8 (show mx_Sn _ _ 40 (mx_getf 11 9 43) from sn_119 40) a1 s1 rfl rfl (hG8.prr 1 9 rfl) ?_
        refine mx_J.step (sn_119 43) (fun _ _ => rfl) ?_
        refine JgetR (g := 10) (b := 34) hx8 (show mx_Sn _ _ 44 (mx_getf 11 10 47) from sn_119 44) a1 s1 rfl rfl (hG8.prr 1 10 rfl) ?_
        refine mx_J.step (sn_119 47) (fun _ _ => rfl) ?_
        refine JaaldR (i := 1) (b := 46) hx8 (show mx_Sn _ _ 48 (mx_aald 49) from sn_119 48) a34 s34 (by omega) (show Z8 34 1 = 46 by have hq := GI_ex hG8 34 1; replace hq : ((0 : Int) ≤ 1 → (1 : Int) ≤ 3 → (Z8 34 1) = 44 + 2 * 1) := hq; omega) ?_
        refine JgetI (g := 2) (z := Z 46 2) hx8 (show mx_Sn _ _ 49 (mx_getf 10 2 52) from sn_119 49) a46 s46 rfl rfl (hf8 46 2 rfl) ?_
        obtain ⟨Z12, h12, hc12, hx12, hG12, hf12⟩ := ct_77_32 (d := d + 0) (l := l) (D := D) (b0 := b0) (ad := ad) (Hb := Hb) (tau := tau) hx8 hG8 (show 1 ≤ Z 46 2 ∧ Z 46 2 ≤ 8 by omega)
        refine Jcv0 hx8 (show mx_Sn _ _ 52 (mx_callv 77 2 9 55) from sn_119 52) a32 s32 hc12 rfl rfl rfl ?_
        refine mx_J.step (sn_119 55) (fun _ _ => rfl) ?_
        refine JgetR (g := 9) (b := 32) hx12 (show mx_Sn _ _ 56 (mx_getf 11 9 59) from sn_119 56) a1 s1 rfl rfl (hG12.prr 1 9 rfl) ?_
        refine mx_J.step (sn_119 59) (fun _ _ => rfl) ?_
        refine JgetR (g := 12) (b := 36) hx12 (show mx_Sn _ _ 60 (mx_getf 11 12 63) from sn_119 60) a1 s1 rfl rfl (hG12.prr 1 12 rfl) ?_
        have b16 : 0 ≤ Z 36 2 ∧ Z 36 2 ≤ 384 := hG.pr 36 2
        refine JgetI (g := 2) (z := Z 36 2) hx12 (show mx_Sn _ _ 63 (mx_getf 5 2 66) from sn_119 63) a36 s36 rfl rfl ((hf12 36 2 rfl).trans (hf8 36 2 rfl)) ?_
        refine mx_J.step (sn_119 66) (fun _ _ => rfl) ?_
        obtain ⟨z17, Z17, h17, hc17, hx17, hG17, hf17, b17⟩ := ct_80_32 (d := d + 0) (l := l) (D := D) (b0 := b0) (ad := ad) (Hb := Hb) (tau := tau) hx12 hG12 (show 0 ≤ Z 36 2 ∧ Z 36 2 ≤ 384 by omega) (show 0 ≤ x1 ∧ x1 ≤ 8 by omega)
        refine Jcv hx12 (show mx_Sn _ _ 67 (mx_callv 80 3 9 70) from sn_119 67) a32 s32 hc17 rfl rfl rfl ?_
        exact mx_J.ret (sn_119 70) (fun _ _ => rfl) (hP z17 Z17 h17 hx17 hG17 (fr_tr (M := [(14, (-1)), (16, (-1)), (17, (-1)), (18, (-1)), (19, (-1)), (33, (-1))]) (fr_tr (M := [(14, (-1)), (16, (-1)), (17, (-1)), (18, (-1)), (19, (-1)), (33, (-1))]) (fr_tr (M := [(14, (-1)), (16, (-1)), (17, (-1)), (18, (-1)), (19, (-1)), (33, (-1))]) fr_rf (hf8) (M1 := []) rfl rfl) (hf12) rfl rfl) (hf17) rfl rfl) (by omega))
      · skip
        refine JcI (z := (-1)) (show mx_Sn _ _ 27 (mx_const (.int (-1)) 28) from sn_119 27) rfl ?_
        exact mx_J.ret (sn_119 28) (fun _ _ => rfl) (hP (-1) Z h hx hG fr_rf (by omega))
    · skip
      refine mx_J.step (sn_119 12) (fun _ _ => rfl) ?_
      exact mx_J.ret (sn_119 13) (fun _ _ => rfl) (hP z1 Z h hx hG fr_rf (by omega))
theorem ct_119_1_i1 {l : Launch} {D : va_G} {b0 : Nat} {ad : Nat → Nat} {Hb : Heap} {tau : Nat → Int64} {d n s : Nat} {S : Nat → xS} {Z : xZ} {h : mx_H} (hx : XH n s S Z h) (hG : GI n S Z)  {x1 : Int} (p1 : (-2147483648) ≤ x1 ∧ x1 ≤ 2147483647) : ∃ (z : Int) (Z' : xZ) (h' : mx_H), mx_Ca (tB l D b0 ad Hb tau) (d + 7) 119 [.ref 1, xI 1, xI x1] h (some (xI z), h') ∧ XH n s S Z' h' ∧ GI n S Z' ∧ fr' [(14, (-1)), (16, (-1)), (17, (-1)), (18, (-1)), (19, (-1)), (33, (-1))] Z Z' ∧ ((-6) ≤ z ∧ z ≤ 18) := by
  obtain ⟨r, hca, z, Z', h', e, q⟩ := Jmt (B := tB l D b0 ad Hb tau) (M := mt_119) (mi := 119) (as := [.ref 1, xI 1, xI x1]) (d := d + 6) (ls := [some (.ref 1), some (xI 1), some (xI x1), none]) rfl rfl rfl rfl rfl rfl (cw_119_1_i1 (l := l) (D := D) (b0 := b0) (ad := ad) (Hb := Hb) (tau := tau) (d := d) (Post := fun r => ∃ (z : Int) (Z' : xZ) (h' : mx_H), r = (some (xI z), h') ∧ XH n s S Z' h' ∧ GI n S Z' ∧ fr' [(14, (-1)), (16, (-1)), (17, (-1)), (18, (-1)), (19, (-1)), (33, (-1))] Z Z' ∧ ((-6) ≤ z ∧ z ≤ 18)) hx hG p1 (fun z Z' h' q1 q2 q3 q4 => ⟨z, Z', h', rfl, q1, q2, q3, q4⟩))
  subst e; exact ⟨z, Z', h', hca, q⟩
set_option maxRecDepth 100000 in
theorem cw_119_1_i2 {l : Launch} {D : va_G} {b0 : Nat} {ad : Nat → Nat} {Hb : Heap} {tau : Nat → Int64} {d n s : Nat} {S : Nat → xS} {Z : xZ} {h : mx_H} {Post : mx_R → Prop} (hx : XH n s S Z h) (hG : GI n S Z)  {x1 : Int} (p1 : (-2147483648) ≤ x1 ∧ x1 ≤ 2147483647) (hP : ∀ (z : Int) (Z' : xZ) (h' : mx_H), XH n s S Z' h' → GI n S Z' → fr' [(14, (-1)), (16, (-1)), (17, (-1)), (18, (-1)), (19, (-1)), (33, (-1))] Z Z' → (-6) ≤ z ∧ z ≤ 18 → Post (some (xI z), h')) : mx_J (tB l D b0 ad Hb tau) mt_119 (d + 6) 0 [some (.ref 1), some (xI 2), some (xI x1), none] [] h Post := by
    have a1 : 1 < n := lt83 (GI_n hG) rfl
    have s1 : S 1 = .inl (11, [2, 0, 0, 0, 2, 2, 2, 2, 2, 2, 2, 2, 2, 2, 2, 2, 2]) := GI_s hG 1 rfl
    have a32 : 32 < n := lt83 (GI_n hG) rfl
    have s32 : S 32 = .inl (9, [2, 2, 2]) := GI_s hG 32 rfl
    have a34 : 34 < n := lt83 (GI_n hG) rfl
    have s34 : S 34 = .inr ((.object "TitheHeap$Tray"), 4, 2) := GI_s hG 34 rfl
    have a36 : 36 < n := lt83 (GI_n hG) rfl
    have s36 : S 36 = .inl (5, [2, 0, 0, 0, 0, 0]) := GI_s hG 36 rfl
    have a48 : 48 < n := lt83 (GI_n hG) rfl
    have s48 : S 48 = .inl (10, [2, 0, 0, 0]) := GI_s hG 48 rfl
    refine mx_J.step (sn_119 0) (fun _ _ => rfl) ?_
    refine mx_J.step (sn_119 1) (fun _ _ => rfl) ?_
    refine JcI (z := (-1)) (show mx_Sn _ _ 2 (mx_const (.int (-1)) 3) from sn_119 2) rfl ?_
    refine mx_J.step (sn_119 3) (fun _ _ => rfl) ?_
    obtain ⟨z1, hc1, b1⟩ := ct_146_1_i2 (d := d + 4) (l := l) (D := D) (b0 := b0) (ad := ad) (Hb := Hb) (tau := tau) hx hG (show (-1) ≤ (-1) ∧ (-1) ≤ 1 by omega) (show (-2147483648) ≤ x1 ∧ x1 ≤ 2147483647 by omega)
    refine Jcv hx (show mx_Sn _ _ 4 (mx_callv 146 4 11 7) from sn_119 4) a1 s1 hc1 rfl rfl rfl ?_
    refine mx_J.step (ls2 := [some (.ref 1), some (xI 2), some (xI x1), some (xI z1)]) (sn_119 7) (fun _ _ => rfl) ?_
    refine mx_J.step (sn_119 8) (fun _ _ => rfl) ?_
    refine Jif_ge (show mx_Sn _ _ 9 (mx_if_ge 14 12) from sn_119 9) (by omega) (fun q2 => ?_) (fun q2 => ?_)
    · skip
      refine mx_J.step (sn_119 14) (fun _ _ => rfl) ?_
      refine mx_J.step (sn_119 15) (fun _ _ => rfl) ?_
      refine JgetR (g := 10) (b := 34) hx (show mx_Sn _ _ 16 (mx_getf 11 10 19) from sn_119 16) a1 s1 rfl rfl (hG.prr 1 10 rfl) ?_
      refine mx_J.step (sn_119 19) (fun _ _ => rfl) ?_
      refine JaaldR (i := 2) (b := 48) hx (show mx_Sn _ _ 20 (mx_aald 21) from sn_119 20) a34 s34 (by omega) (show Z 34 2 = 48 by have hq := GI_ex hG 34 2; replace hq : ((0 : Int) ≤ 2 → (2 : Int) ≤ 3 → (Z 34 2) = 44 + 2 * 2) := hq; omega) ?_
      have b5 : 0 ≤ Z 48 2 ∧ Z 48 2 ≤ 40 := hG.pr 48 2
      refine JgetI (g := 2) (z := Z 48 2) hx (show mx_Sn _ _ 21 (mx_getf 10 2 24) from sn_119 21) a48 s48 rfl rfl rfl ?_
      refine Jicmp_lt (show mx_Sn _ _ 24 (mx_icmp_lt 29 27) from sn_119 24) (by omega) (by omega) (fun q6 => ?_) (fun q6 => ?_)
      · skip
        refine mx_J.step (sn_119 29) (fun _ _ => rfl) ?_
        refine mx_J.step (sn_119 30) (fun _ _ => rfl) ?_
        refine JgetR (g := 10) (b := 34) hx (show mx_Sn _ _ 31 (mx_getf 11 10 34) from sn_119 31) a1 s1 rfl rfl (hG.prr 1 10 rfl) ?_
        refine mx_J.step (sn_119 34) (fun _ _ => rfl) ?_
        refine JaaldR (i := 2) (b := 48) hx (show mx_Sn _ _ 35 (mx_aald 36) from sn_119 35) a34 s34 (by omega) (show Z 34 2 = 48 by have hq := GI_ex hG 34 2; replace hq : ((0 : Int) ≤ 2 → (2 : Int) ≤ 3 → (Z 34 2) = 44 + 2 * 2) := hq; omega) ?_
        obtain ⟨Z8, h8, hc8, hx8, hG8, hf8⟩ := ct_147_1_48 (d := d + 0) (l := l) (D := D) (b0 := b0) (ad := ad) (Hb := Hb) (tau := tau) hx hG 
        refine Jcv0 hx (show mx_Sn _ _ 36 (mx_callv 147 2 11 39) from sn_119 36) a1 s1 hc8 rfl rfl rfl ?_
        refine mx_J.step (sn_119 39) (fun _ _ => rfl) ?_
        refine JgetR (g := 9) (b := 32) hx8 (show mx_Sn _ _ 40 (mx_getf 11 9 43) from sn_119 40) a1 s1 rfl rfl (hG8.prr 1 9 rfl) ?_
        refine mx_J.step (sn_119 43) (fun _ _ => rfl) ?_
        refine JgetR (g := 10) (b := 34) hx8 (show mx_Sn _ _ 44 (mx_getf 11 10 47) from sn_119 44) a1 s1 rfl rfl (hG8.prr 1 10 rfl) ?_
        refine mx_J.step (sn_119 47) (fun _ _ => rfl) ?_
        refine JaaldR (i := 2) (b := 48) hx8 (show mx_Sn _ _ 48 (mx_aald 49) from sn_119 48) a34 s34 (by omega) (show Z8 34 2 = 48 by have hq := GI_ex hG8 34 2; replace hq : ((0 : Int) ≤ 2 → (2 : Int) ≤ 3 → (Z8 34 2) = 44 + 2 * 2) := hq; omega) ?_
        refine JgetI (g := 2) (z := Z 48 2) hx8 (show mx_Sn _ _ 49 (mx_getf 10 2 52) from sn_119 49) a48 s48 rfl rfl (hf8 48 2 rfl) ?_
        obtain ⟨Z12, h12, hc12, hx12, hG12, hf12⟩ := ct_77_32 (d := d + 0) (l := l) (D := D) (b0 := b0) (ad := ad) (Hb := Hb) (tau := tau) hx8 hG8 (show 1 ≤ Z 48 2 ∧ Z 48 2 ≤ 8 by omega)
        refine Jcv0 hx8 (show mx_Sn _ _ 52 (mx_callv 77 2 9 55) from sn_119 52) a32 s32 hc12 rfl rfl rfl ?_
        refine mx_J.step (sn_119 55) (fun _ _ => rfl) ?_
        refine JgetR (g := 9) (b := 32) hx12 (show mx_Sn _ _ 56 (mx_getf 11 9 59) from sn_119 56) a1 s1 rfl rfl (hG12.prr 1 9 rfl) ?_
        refine mx_J.step (sn_119 59) (fun _ _ => rfl) ?_
        refine JgetR (g := 12) (b := 36) hx12 (show mx_Sn _ _ 60 (mx_getf 11 12 63) from sn_119 60) a1 s1 rfl rfl (hG12.prr 1 12 rfl) ?_
        have b16 : 0 ≤ Z 36 2 ∧ Z 36 2 ≤ 384 := hG.pr 36 2
        refine JgetI (g := 2) (z := Z 36 2) hx12 (show mx_Sn _ _ 63 (mx_getf 5 2 66) from sn_119 63) a36 s36 rfl rfl ((hf12 36 2 rfl).trans (hf8 36 2 rfl)) ?_
        refine mx_J.step (sn_119 66) (fun _ _ => rfl) ?_
        obtain ⟨z17, Z17, h17, hc17, hx17, hG17, hf17, b17⟩ := ct_80_32 (d := d + 0) (l := l) (D := D) (b0 := b0) (ad := ad) (Hb := Hb) (tau := tau) hx12 hG12 (show 0 ≤ Z 36 2 ∧ Z 36 2 ≤ 384 by omega) (show 0 ≤ x1 ∧ x1 ≤ 8 by omega)
        refine Jcv hx12 (show mx_Sn _ _ 67 (mx_callv 80 3 9 70) from sn_119 67) a32 s32 hc17 rfl rfl rfl ?_
        exact mx_J.ret (sn_119 70) (fun _ _ => rfl) (hP z17 Z17 h17 hx17 hG17 (fr_tr (M := [(14, (-1)), (16, (-1)), (17, (-1)), (18, (-1)), (19, (-1)), (33, (-1))]) (fr_tr (M := [(14, (-1)), (16, (-1)), (17, (-1)), (18, (-1)), (19, (-1)), (33, (-1))]) (fr_tr (M := [(14, (-1)), (16, (-1)), (17, (-1)), (18, (-1)), (19, (-1)), (33, (-1))]) fr_rf (hf8) (M1 := []) rfl rfl) (hf12) rfl rfl) (hf17) rfl rfl) (by omega))
      · skip
        refine JcI (z := (-1)) (show mx_Sn _ _ 27 (mx_const (.int (-1)) 28) from sn_119 27) rfl ?_
        exact mx_J.ret (sn_119 28) (fun _ _ => rfl) (hP (-1) Z h hx hG fr_rf (by omega))
    · skip
      refine mx_J.step (sn_119 12) (fun _ _ => rfl) ?_
      exact mx_J.ret (sn_119 13) (fun _ _ => rfl) (hP z1 Z h hx hG fr_rf (by omega))
theorem ct_119_1_i2 {l : Launch} {D : va_G} {b0 : Nat} {ad : Nat → Nat} {Hb : Heap} {tau : Nat → Int64} {d n s : Nat} {S : Nat → xS} {Z : xZ} {h : mx_H} (hx : XH n s S Z h) (hG : GI n S Z)  {x1 : Int} (p1 : (-2147483648) ≤ x1 ∧ x1 ≤ 2147483647) : ∃ (z : Int) (Z' : xZ) (h' : mx_H), mx_Ca (tB l D b0 ad Hb tau) (d + 7) 119 [.ref 1, xI 2, xI x1] h (some (xI z), h') ∧ XH n s S Z' h' ∧ GI n S Z' ∧ fr' [(14, (-1)), (16, (-1)), (17, (-1)), (18, (-1)), (19, (-1)), (33, (-1))] Z Z' ∧ ((-6) ≤ z ∧ z ≤ 18) := by
  obtain ⟨r, hca, z, Z', h', e, q⟩ := Jmt (B := tB l D b0 ad Hb tau) (M := mt_119) (mi := 119) (as := [.ref 1, xI 2, xI x1]) (d := d + 6) (ls := [some (.ref 1), some (xI 2), some (xI x1), none]) rfl rfl rfl rfl rfl rfl (cw_119_1_i2 (l := l) (D := D) (b0 := b0) (ad := ad) (Hb := Hb) (tau := tau) (d := d) (Post := fun r => ∃ (z : Int) (Z' : xZ) (h' : mx_H), r = (some (xI z), h') ∧ XH n s S Z' h' ∧ GI n S Z' ∧ fr' [(14, (-1)), (16, (-1)), (17, (-1)), (18, (-1)), (19, (-1)), (33, (-1))] Z Z' ∧ ((-6) ≤ z ∧ z ≤ 18)) hx hG p1 (fun z Z' h' q1 q2 q3 q4 => ⟨z, Z', h', rfl, q1, q2, q3, q4⟩))
  subst e; exact ⟨z, Z', h', hca, q⟩
set_option maxRecDepth 100000 in
theorem cw_119_1_i3 {l : Launch} {D : va_G} {b0 : Nat} {ad : Nat → Nat} {Hb : Heap} {tau : Nat → Int64} {d n s : Nat} {S : Nat → xS} {Z : xZ} {h : mx_H} {Post : mx_R → Prop} (hx : XH n s S Z h) (hG : GI n S Z)  {x1 : Int} (p1 : (-2147483648) ≤ x1 ∧ x1 ≤ 2147483647) (hP : ∀ (z : Int) (Z' : xZ) (h' : mx_H), XH n s S Z' h' → GI n S Z' → fr' [(14, (-1)), (16, (-1)), (17, (-1)), (18, (-1)), (19, (-1)), (33, (-1))] Z Z' → (-6) ≤ z ∧ z ≤ 18 → Post (some (xI z), h')) : mx_J (tB l D b0 ad Hb tau) mt_119 (d + 6) 0 [some (.ref 1), some (xI 3), some (xI x1), none] [] h Post := by
    have a1 : 1 < n := lt83 (GI_n hG) rfl
    have s1 : S 1 = .inl (11, [2, 0, 0, 0, 2, 2, 2, 2, 2, 2, 2, 2, 2, 2, 2, 2, 2]) := GI_s hG 1 rfl
    have a32 : 32 < n := lt83 (GI_n hG) rfl
    have s32 : S 32 = .inl (9, [2, 2, 2]) := GI_s hG 32 rfl
    have a34 : 34 < n := lt83 (GI_n hG) rfl
    have s34 : S 34 = .inr ((.object "TitheHeap$Tray"), 4, 2) := GI_s hG 34 rfl
    have a36 : 36 < n := lt83 (GI_n hG) rfl
    have s36 : S 36 = .inl (5, [2, 0, 0, 0, 0, 0]) := GI_s hG 36 rfl
    have a50 : 50 < n := lt83 (GI_n hG) rfl
    have s50 : S 50 = .inl (10, [2, 0, 0, 0]) := GI_s hG 50 rfl
    refine mx_J.step (sn_119 0) (fun _ _ => rfl) ?_
    refine mx_J.step (sn_119 1) (fun _ _ => rfl) ?_
    refine JcI (z := (-1)) (show mx_Sn _ _ 2 (mx_const (.int (-1)) 3) from sn_119 2) rfl ?_
    refine mx_J.step (sn_119 3) (fun _ _ => rfl) ?_
    obtain ⟨z1, hc1, b1⟩ := ct_146_1_i3 (d := d + 4) (l := l) (D := D) (b0 := b0) (ad := ad) (Hb := Hb) (tau := tau) hx hG (show (-1) ≤ (-1) ∧ (-1) ≤ 1 by omega) (show (-2147483648) ≤ x1 ∧ x1 ≤ 2147483647 by omega)
    refine Jcv hx (show mx_Sn _ _ 4 (mx_callv 146 4 11 7) from sn_119 4) a1 s1 hc1 rfl rfl rfl ?_
    refine mx_J.step (ls2 := [some (.ref 1), some (xI 3), some (xI x1), some (xI z1)]) (sn_119 7) (fun _ _ => rfl) ?_
    refine mx_J.step (sn_119 8) (fun _ _ => rfl) ?_
    refine Jif_ge (show mx_Sn _ _ 9 (mx_if_ge 14 12) from sn_119 9) (by omega) (fun q2 => ?_) (fun q2 => ?_)
    · skip
      refine mx_J.step (sn_119 14) (fun _ _ => rfl) ?_
      refine mx_J.step (sn_119 15) (fun _ _ => rfl) ?_
      refine JgetR (g := 10) (b := 34) hx (show mx_Sn _ _ 16 (mx_getf 11 10 19) from sn_119 16) a1 s1 rfl rfl (hG.prr 1 10 rfl) ?_
      refine mx_J.step (sn_119 19) (fun _ _ => rfl) ?_
      refine JaaldR (i := 3) (b := 50) hx (show mx_Sn _ _ 20 (mx_aald 21) from sn_119 20) a34 s34 (by omega) (show Z 34 3 = 50 by have hq := GI_ex hG 34 3; replace hq : ((0 : Int) ≤ 3 → (3 : Int) ≤ 3 → (Z 34 3) = 44 + 2 * 3) := hq; omega) ?_
      have b5 : 0 ≤ Z 50 2 ∧ Z 50 2 ≤ 40 := hG.pr 50 2
      refine JgetI (g := 2) (z := Z 50 2) hx (show mx_Sn _ _ 21 (mx_getf 10 2 24) from sn_119 21) a50 s50 rfl rfl rfl ?_
      refine Jicmp_lt (show mx_Sn _ _ 24 (mx_icmp_lt 29 27) from sn_119 24) (by omega) (by omega) (fun q6 => ?_) (fun q6 => ?_)
      · skip
        refine mx_J.step (sn_119 29) (fun _ _ => rfl) ?_
        refine mx_J.step (sn_119 30) (fun _ _ => rfl) ?_
        refine JgetR (g := 10) (b := 34) hx (show mx_Sn _ _ 31 (mx_getf 11 10 34) from sn_119 31) a1 s1 rfl rfl (hG.prr 1 10 rfl) ?_
        refine mx_J.step (sn_119 34) (fun _ _ => rfl) ?_
        refine JaaldR (i := 3) (b := 50) hx (show mx_Sn _ _ 35 (mx_aald 36) from sn_119 35) a34 s34 (by omega) (show Z 34 3 = 50 by have hq := GI_ex hG 34 3; replace hq : ((0 : Int) ≤ 3 → (3 : Int) ≤ 3 → (Z 34 3) = 44 + 2 * 3) := hq; omega) ?_
        obtain ⟨Z8, h8, hc8, hx8, hG8, hf8⟩ := ct_147_1_50 (d := d + 0) (l := l) (D := D) (b0 := b0) (ad := ad) (Hb := Hb) (tau := tau) hx hG 
        refine Jcv0 hx (show mx_Sn _ _ 36 (mx_callv 147 2 11 39) from sn_119 36) a1 s1 hc8 rfl rfl rfl ?_
        refine mx_J.step (sn_119 39) (fun _ _ => rfl) ?_
        refine JgetR (g := 9) (b := 32) hx8 (show mx_Sn _ _ 40 (mx_getf 11 9 43) from sn_119 40) a1 s1 rfl rfl (hG8.prr 1 9 rfl) ?_
        refine mx_J.step (sn_119 43) (fun _ _ => rfl) ?_
        refine JgetR (g := 10) (b := 34) hx8 (show mx_Sn _ _ 44 (mx_getf 11 10 47) from sn_119 44) a1 s1 rfl rfl (hG8.prr 1 10 rfl) ?_
        refine mx_J.step (sn_119 47) (fun _ _ => rfl) ?_
        refine JaaldR (i := 3) (b := 50) hx8 (show mx_Sn _ _ 48 (mx_aald 49) from sn_119 48) a34 s34 (by omega) (show Z8 34 3 = 50 by have hq := GI_ex hG8 34 3; replace hq : ((0 : Int) ≤ 3 → (3 : Int) ≤ 3 → (Z8 34 3) = 44 + 2 * 3) := hq; omega) ?_
        refine JgetI (g := 2) (z := Z 50 2) hx8 (show mx_Sn _ _ 49 (mx_getf 10 2 52) from sn_119 49) a50 s50 rfl rfl (hf8 50 2 rfl) ?_
        obtain ⟨Z12, h12, hc12, hx12, hG12, hf12⟩ := ct_77_32 (d := d + 0) (l := l) (D := D) (b0 := b0) (ad := ad) (Hb := Hb) (tau := tau) hx8 hG8 (show 1 ≤ Z 50 2 ∧ Z 50 2 ≤ 8 by omega)
        refine Jcv0 hx8 (show mx_Sn _ _ 52 (mx_callv 77 2 9 55) from sn_119 52) a32 s32 hc12 rfl rfl rfl ?_
        refine mx_J.step (sn_119 55) (fun _ _ => rfl) ?_
        refine JgetR (g := 9) (b := 32) hx12 (show mx_Sn _ _ 56 (mx_getf 11 9 59) from sn_119 56) a1 s1 rfl rfl (hG12.prr 1 9 rfl) ?_
        refine mx_J.step (sn_119 59) (fun _ _ => rfl) ?_
        refine JgetR (g := 12) (b := 36) hx12 (show mx_Sn _ _ 60 (mx_getf 11 12 63) from sn_119 60) a1 s1 rfl rfl (hG12.prr 1 12 rfl) ?_
        have b16 : 0 ≤ Z 36 2 ∧ Z 36 2 ≤ 384 := hG.pr 36 2
        refine JgetI (g := 2) (z := Z 36 2) hx12 (show mx_Sn _ _ 63 (mx_getf 5 2 66) from sn_119 63) a36 s36 rfl rfl ((hf12 36 2 rfl).trans (hf8 36 2 rfl)) ?_
        refine mx_J.step (sn_119 66) (fun _ _ => rfl) ?_
        obtain ⟨z17, Z17, h17, hc17, hx17, hG17, hf17, b17⟩ := ct_80_32 (d := d + 0) (l := l) (D := D) (b0 := b0) (ad := ad) (Hb := Hb) (tau := tau) hx12 hG12 (show 0 ≤ Z 36 2 ∧ Z 36 2 ≤ 384 by omega) (show 0 ≤ x1 ∧ x1 ≤ 8 by omega)
        refine Jcv hx12 (show mx_Sn _ _ 67 (mx_callv 80 3 9 70) from sn_119 67) a32 s32 hc17 rfl rfl rfl ?_
        exact mx_J.ret (sn_119 70) (fun _ _ => rfl) (hP z17 Z17 h17 hx17 hG17 (fr_tr (M := [(14, (-1)), (16, (-1)), (17, (-1)), (18, (-1)), (19, (-1)), (33, (-1))]) (fr_tr (M := [(14, (-1)), (16, (-1)), (17, (-1)), (18, (-1)), (19, (-1)), (33, (-1))]) (fr_tr (M := [(14, (-1)), (16, (-1)), (17, (-1)), (18, (-1)), (19, (-1)), (33, (-1))]) fr_rf (hf8) (M1 := []) rfl rfl) (hf12) rfl rfl) (hf17) rfl rfl) (by omega))
      · skip
        refine JcI (z := (-1)) (show mx_Sn _ _ 27 (mx_const (.int (-1)) 28) from sn_119 27) rfl ?_
        exact mx_J.ret (sn_119 28) (fun _ _ => rfl) (hP (-1) Z h hx hG fr_rf (by omega))
    · skip
      refine mx_J.step (sn_119 12) (fun _ _ => rfl) ?_
      exact mx_J.ret (sn_119 13) (fun _ _ => rfl) (hP z1 Z h hx hG fr_rf (by omega))
theorem ct_119_1_i3 {l : Launch} {D : va_G} {b0 : Nat} {ad : Nat → Nat} {Hb : Heap} {tau : Nat → Int64} {d n s : Nat} {S : Nat → xS} {Z : xZ} {h : mx_H} (hx : XH n s S Z h) (hG : GI n S Z)  {x1 : Int} (p1 : (-2147483648) ≤ x1 ∧ x1 ≤ 2147483647) : ∃ (z : Int) (Z' : xZ) (h' : mx_H), mx_Ca (tB l D b0 ad Hb tau) (d + 7) 119 [.ref 1, xI 3, xI x1] h (some (xI z), h') ∧ XH n s S Z' h' ∧ GI n S Z' ∧ fr' [(14, (-1)), (16, (-1)), (17, (-1)), (18, (-1)), (19, (-1)), (33, (-1))] Z Z' ∧ ((-6) ≤ z ∧ z ≤ 18) := by
  obtain ⟨r, hca, z, Z', h', e, q⟩ := Jmt (B := tB l D b0 ad Hb tau) (M := mt_119) (mi := 119) (as := [.ref 1, xI 3, xI x1]) (d := d + 6) (ls := [some (.ref 1), some (xI 3), some (xI x1), none]) rfl rfl rfl rfl rfl rfl (cw_119_1_i3 (l := l) (D := D) (b0 := b0) (ad := ad) (Hb := Hb) (tau := tau) (d := d) (Post := fun r => ∃ (z : Int) (Z' : xZ) (h' : mx_H), r = (some (xI z), h') ∧ XH n s S Z' h' ∧ GI n S Z' ∧ fr' [(14, (-1)), (16, (-1)), (17, (-1)), (18, (-1)), (19, (-1)), (33, (-1))] Z Z' ∧ ((-6) ≤ z ∧ z ≤ 18)) hx hG p1 (fun z Z' h' q1 q2 q3 q4 => ⟨z, Z', h', rfl, q1, q2, q3, q4⟩))
  subst e; exact ⟨z, Z', h', hca, q⟩
set_option maxRecDepth 100000 in
theorem cw_119_1_n {l : Launch} {D : va_G} {b0 : Nat} {ad : Nat → Nat} {Hb : Heap} {tau : Nat → Int64} {d n s : Nat} {S : Nat → xS} {Z : xZ} {h : mx_H} {Post : mx_R → Prop} (hx : XH n s S Z h) (hG : GI n S Z)  {x0 x1 : Int} (p0 : (-2147483648) ≤ x0 ∧ x0 ≤ (-1)) (p1 : (-2147483648) ≤ x1 ∧ x1 ≤ 2147483647) (hP : ∀ z : Int, (-2) ≤ z ∧ z ≤ (-2) → Post (some (xI z), h)) : mx_J (tB l D b0 ad Hb tau) mt_119 (d + 2) 0 [some (.ref 1), some (xI x0), some (xI x1), none] [] h Post := by
    have a1 : 1 < n := lt83 (GI_n hG) rfl
    have s1 : S 1 = .inl (11, [2, 0, 0, 0, 2, 2, 2, 2, 2, 2, 2, 2, 2, 2, 2, 2, 2]) := GI_s hG 1 rfl
    refine mx_J.step (sn_119 0) (fun _ _ => rfl) ?_
    refine mx_J.step (sn_119 1) (fun _ _ => rfl) ?_
    refine JcI (z := (-1)) (show mx_Sn _ _ 2 (mx_const (.int (-1)) 3) from sn_119 2) rfl ?_
    refine mx_J.step (sn_119 3) (fun _ _ => rfl) ?_
    obtain ⟨z1, hc1, b1⟩ := ct_146_1_n (d := d + 0) (l := l) (D := D) (b0 := b0) (ad := ad) (Hb := Hb) (tau := tau) hx hG (show (-2147483648) ≤ x0 ∧ x0 ≤ (-1) by omega) (show (-1) ≤ (-1) ∧ (-1) ≤ 1 by omega) (show (-2147483648) ≤ x1 ∧ x1 ≤ 2147483647 by omega)
    refine Jcv hx (show mx_Sn _ _ 4 (mx_callv 146 4 11 7) from sn_119 4) a1 s1 hc1 rfl rfl rfl ?_
    refine mx_J.step (ls2 := [some (.ref 1), some (xI x0), some (xI x1), some (xI z1)]) (sn_119 7) (fun _ _ => rfl) ?_
    refine mx_J.step (sn_119 8) (fun _ _ => rfl) ?_
    refine Jif_ge (show mx_Sn _ _ 9 (mx_if_ge 14 12) from sn_119 9) (by omega) (fun q2 => ?_) (fun q2 => ?_)
    · skip
      exfalso; omega
    · skip
      refine mx_J.step (sn_119 12) (fun _ _ => rfl) ?_
      exact mx_J.ret (sn_119 13) (fun _ _ => rfl) (hP z1 (by omega))
theorem ct_119_1_n {l : Launch} {D : va_G} {b0 : Nat} {ad : Nat → Nat} {Hb : Heap} {tau : Nat → Int64} {d n s : Nat} {S : Nat → xS} {Z : xZ} {h : mx_H} (hx : XH n s S Z h) (hG : GI n S Z)  {x0 x1 : Int} (p0 : (-2147483648) ≤ x0 ∧ x0 ≤ (-1)) (p1 : (-2147483648) ≤ x1 ∧ x1 ≤ 2147483647) : ∃ z : Int, mx_Ca (tB l D b0 ad Hb tau) (d + 3) 119 [.ref 1, xI x0, xI x1] h (some (xI z), h) ∧ ((-2) ≤ z ∧ z ≤ (-2)) := by
  obtain ⟨r, hca, z, e, hp⟩ := Jmt (B := tB l D b0 ad Hb tau) (M := mt_119) (mi := 119) (as := [.ref 1, xI x0, xI x1]) (d := d + 2) (ls := [some (.ref 1), some (xI x0), some (xI x1), none]) rfl rfl rfl rfl rfl rfl (cw_119_1_n (l := l) (D := D) (b0 := b0) (ad := ad) (Hb := Hb) (tau := tau) (d := d) (Post := fun r => ∃ z : Int, r = (some (xI z), h) ∧ ((-2) ≤ z ∧ z ≤ (-2))) hx hG p0 p1 (fun z hz => ⟨z, rfl, hz⟩))
  subst e; exact ⟨z, hca, hp⟩
set_option maxRecDepth 100000 in
theorem cw_119_1_p {l : Launch} {D : va_G} {b0 : Nat} {ad : Nat → Nat} {Hb : Heap} {tau : Nat → Int64} {d n s : Nat} {S : Nat → xS} {Z : xZ} {h : mx_H} {Post : mx_R → Prop} (hx : XH n s S Z h) (hG : GI n S Z)  {x0 x1 : Int} (p0 : 4 ≤ x0 ∧ x0 ≤ 2147483647) (p1 : (-2147483648) ≤ x1 ∧ x1 ≤ 2147483647) (hP : ∀ z : Int, (-2) ≤ z ∧ z ≤ (-2) → Post (some (xI z), h)) : mx_J (tB l D b0 ad Hb tau) mt_119 (d + 2) 0 [some (.ref 1), some (xI x0), some (xI x1), none] [] h Post := by
    have a1 : 1 < n := lt83 (GI_n hG) rfl
    have s1 : S 1 = .inl (11, [2, 0, 0, 0, 2, 2, 2, 2, 2, 2, 2, 2, 2, 2, 2, 2, 2]) := GI_s hG 1 rfl
    refine mx_J.step (sn_119 0) (fun _ _ => rfl) ?_
    refine mx_J.step (sn_119 1) (fun _ _ => rfl) ?_
    refine JcI (z := (-1)) (show mx_Sn _ _ 2 (mx_const (.int (-1)) 3) from sn_119 2) rfl ?_
    refine mx_J.step (sn_119 3) (fun _ _ => rfl) ?_
    obtain ⟨z1, hc1, b1⟩ := ct_146_1_p (d := d + 0) (l := l) (D := D) (b0 := b0) (ad := ad) (Hb := Hb) (tau := tau) hx hG (show 4 ≤ x0 ∧ x0 ≤ 2147483647 by omega) (show (-1) ≤ (-1) ∧ (-1) ≤ 1 by omega) (show (-2147483648) ≤ x1 ∧ x1 ≤ 2147483647 by omega)
    refine Jcv hx (show mx_Sn _ _ 4 (mx_callv 146 4 11 7) from sn_119 4) a1 s1 hc1 rfl rfl rfl ?_
    refine mx_J.step (ls2 := [some (.ref 1), some (xI x0), some (xI x1), some (xI z1)]) (sn_119 7) (fun _ _ => rfl) ?_
    refine mx_J.step (sn_119 8) (fun _ _ => rfl) ?_
    refine Jif_ge (show mx_Sn _ _ 9 (mx_if_ge 14 12) from sn_119 9) (by omega) (fun q2 => ?_) (fun q2 => ?_)
    · skip
      exfalso; omega
    · skip
      refine mx_J.step (sn_119 12) (fun _ _ => rfl) ?_
      exact mx_J.ret (sn_119 13) (fun _ _ => rfl) (hP z1 (by omega))
theorem ct_119_1_p {l : Launch} {D : va_G} {b0 : Nat} {ad : Nat → Nat} {Hb : Heap} {tau : Nat → Int64} {d n s : Nat} {S : Nat → xS} {Z : xZ} {h : mx_H} (hx : XH n s S Z h) (hG : GI n S Z)  {x0 x1 : Int} (p0 : 4 ≤ x0 ∧ x0 ≤ 2147483647) (p1 : (-2147483648) ≤ x1 ∧ x1 ≤ 2147483647) : ∃ z : Int, mx_Ca (tB l D b0 ad Hb tau) (d + 3) 119 [.ref 1, xI x0, xI x1] h (some (xI z), h) ∧ ((-2) ≤ z ∧ z ≤ (-2)) := by
  obtain ⟨r, hca, z, e, hp⟩ := Jmt (B := tB l D b0 ad Hb tau) (M := mt_119) (mi := 119) (as := [.ref 1, xI x0, xI x1]) (d := d + 2) (ls := [some (.ref 1), some (xI x0), some (xI x1), none]) rfl rfl rfl rfl rfl rfl (cw_119_1_p (l := l) (D := D) (b0 := b0) (ad := ad) (Hb := Hb) (tau := tau) (d := d) (Post := fun r => ∃ z : Int, r = (some (xI z), h) ∧ ((-2) ≤ z ∧ z ≤ (-2))) hx hG p0 p1 (fun z hz => ⟨z, rfl, hz⟩))
  subst e; exact ⟨z, hca, hp⟩
theorem ct_119_1 {l : Launch} {D : va_G} {b0 : Nat} {ad : Nat → Nat} {Hb : Heap} {tau : Nat → Int64} {d n s : Nat} {S : Nat → xS} {Z : xZ} {h : mx_H} (hx : XH n s S Z h) (hG : GI n S Z) {x0 x1 : Int} (p0 : (-2147483648) ≤ x0 ∧ x0 ≤ 2147483647) (p1 : (-2147483648) ≤ x1 ∧ x1 ≤ 2147483647) : ∃ (z : Int) (Z' : xZ) (h' : mx_H), mx_Ca (tB l D b0 ad Hb tau) (d + 7) 119 [.ref 1, xI x0, xI x1] h (some (xI z), h') ∧ XH n s S Z' h' ∧ GI n S Z' ∧ fr' [(14, (-1)), (16, (-1)), (17, (-1)), (18, (-1)), (19, (-1)), (33, (-1))] Z Z' ∧ ((-6) ≤ z ∧ z ≤ 18) := by
  have hc : x0 = 0 ∨ x0 = 1 ∨ x0 = 2 ∨ x0 = 3 ∨ ((-2147483648) ≤ x0 ∧ x0 ≤ (-1)) ∨ (4 ≤ x0 ∧ x0 ≤ 2147483647) := by omega
  rcases hc with hc | hc | hc | hc | hc | hc
  · subst hc
    obtain ⟨z, Z', h', hca, q1, q2, q3, b⟩ := ct_119_1_i0 (d := d + 0) (l := l) (D := D) (b0 := b0) (ad := ad) (Hb := Hb) (tau := tau) hx hG p1
    exact ⟨z, Z', h', hca, q1, q2, fr_tr (M1 := []) fr_rf q3 rfl rfl, by omega⟩
  · subst hc
    obtain ⟨z, Z', h', hca, q1, q2, q3, b⟩ := ct_119_1_i1 (d := d + 0) (l := l) (D := D) (b0 := b0) (ad := ad) (Hb := Hb) (tau := tau) hx hG p1
    exact ⟨z, Z', h', hca, q1, q2, fr_tr (M1 := []) fr_rf q3 rfl rfl, by omega⟩
  · subst hc
    obtain ⟨z, Z', h', hca, q1, q2, q3, b⟩ := ct_119_1_i2 (d := d + 0) (l := l) (D := D) (b0 := b0) (ad := ad) (Hb := Hb) (tau := tau) hx hG p1
    exact ⟨z, Z', h', hca, q1, q2, fr_tr (M1 := []) fr_rf q3 rfl rfl, by omega⟩
  · subst hc
    obtain ⟨z, Z', h', hca, q1, q2, q3, b⟩ := ct_119_1_i3 (d := d + 0) (l := l) (D := D) (b0 := b0) (ad := ad) (Hb := Hb) (tau := tau) hx hG p1
    exact ⟨z, Z', h', hca, q1, q2, fr_tr (M1 := []) fr_rf q3 rfl rfl, by omega⟩
  · skip
    obtain ⟨z, hca, b⟩ := ct_119_1_n (d := d + 4) (l := l) (D := D) (b0 := b0) (ad := ad) (Hb := Hb) (tau := tau) hx hG hc p1
    exact ⟨z, Z, h, hca, hx, hG, fr_rf, by omega⟩
  · skip
    obtain ⟨z, hca, b⟩ := ct_119_1_p (d := d + 4) (l := l) (D := D) (b0 := b0) (ad := ad) (Hb := Hb) (tau := tau) hx hG hc p1
    exact ⟨z, Z, h, hca, hx, hG, fr_rf, by omega⟩
set_option maxRecDepth 100000 in
theorem cw_120_1_i0 {l : Launch} {D : va_G} {b0 : Nat} {ad : Nat → Nat} {Hb : Heap} {tau : Nat → Int64} {d n s : Nat} {S : Nat → xS} {Z : xZ} {h : mx_H} {Post : mx_R → Prop} (hx : XH n s S Z h) (hG : GI n S Z)  {x1 : Int} (p1 : (-2147483648) ≤ x1 ∧ x1 ≤ 2147483647) (hP : ∀ (z : Int) (Z' : xZ) (h' : mx_H), XH n s S Z' h' → GI n S Z' → fr' [(14, (-1)), (16, (-1)), (17, (-1)), (18, (-1)), (19, (-1)), (33, (-1))] Z Z' → (-2147483648) ≤ z ∧ z ≤ 2147483647 → Post (some (xI z), h')) : mx_J (tB l D b0 ad Hb tau) mt_120 (d + 6) 0 [some (.ref 1), some (xI 0), some (xI x1), none] [] h Post := by
    have a1 : 1 < n := lt83 (GI_n hG) rfl
    have s1 : S 1 = .inl (11, [2, 0, 0, 0, 2, 2, 2, 2, 2, 2, 2, 2, 2, 2, 2, 2, 2]) := GI_s hG 1 rfl
    have a32 : 32 < n := lt83 (GI_n hG) rfl
    have s32 : S 32 = .inl (9, [2, 2, 2]) := GI_s hG 32 rfl
    have a34 : 34 < n := lt83 (GI_n hG) rfl
    have s34 : S 34 = .inr ((.object "TitheHeap$Tray"), 4, 2) := GI_s hG 34 rfl
    have a44 : 44 < n := lt83 (GI_n hG) rfl
    have s44 : S 44 = .inl (10, [2, 0, 0, 0]) := GI_s hG 44 rfl
    refine mx_J.step (sn_120 0) (fun _ _ => rfl) ?_
    refine mx_J.step (sn_120 1) (fun _ _ => rfl) ?_
    refine JcI (z := (-1)) (show mx_Sn _ _ 2 (mx_const (.int (-1)) 3) from sn_120 2) rfl ?_
    refine mx_J.step (sn_120 3) (fun _ _ => rfl) ?_
    obtain ⟨z1, hc1, b1⟩ := ct_146_1_i0 (d := d + 4) (l := l) (D := D) (b0 := b0) (ad := ad) (Hb := Hb) (tau := tau) hx hG (show (-1) ≤ (-1) ∧ (-1) ≤ 1 by omega) (show (-2147483648) ≤ x1 ∧ x1 ≤ 2147483647 by omega)
    refine Jcv hx (show mx_Sn _ _ 4 (mx_callv 146 4 11 7) from sn_120 4) a1 s1 hc1 rfl rfl rfl ?_
    refine mx_J.step (ls2 := [some (.ref 1), some (xI 0), some (xI x1), some (xI z1)]) (sn_120 7) (fun _ _ => rfl) ?_
    refine mx_J.step (sn_120 8) (fun _ _ => rfl) ?_
    refine Jif_ge (show mx_Sn _ _ 9 (mx_if_ge 14 12) from sn_120 9) (by omega) (fun q2 => ?_) (fun q2 => ?_)
    · skip
      refine mx_J.step (sn_120 14) (fun _ _ => rfl) ?_
      refine mx_J.step (sn_120 15) (fun _ _ => rfl) ?_
      refine JgetR (g := 10) (b := 34) hx (show mx_Sn _ _ 16 (mx_getf 11 10 19) from sn_120 16) a1 s1 rfl rfl (hG.prr 1 10 rfl) ?_
      refine mx_J.step (sn_120 19) (fun _ _ => rfl) ?_
      refine JaaldR (i := 0) (b := 44) hx (show mx_Sn _ _ 20 (mx_aald 21) from sn_120 20) a34 s34 (by omega) (show Z 34 0 = 44 by have hq := GI_ex hG 34 0; replace hq : ((0 : Int) ≤ 0 → (0 : Int) ≤ 3 → (Z 34 0) = 44 + 2 * 0) := hq; omega) ?_
      have b5 : 0 ≤ Z 44 2 ∧ Z 44 2 ≤ 40 := hG.pr 44 2
      refine JgetI (g := 2) (z := Z 44 2) hx (show mx_Sn _ _ 21 (mx_getf 10 2 24) from sn_120 21) a44 s44 rfl rfl rfl ?_
      refine Jicmp_lt (show mx_Sn _ _ 24 (mx_icmp_lt 30 27) from sn_120 24) (by omega) (by omega) (fun q6 => ?_) (fun q6 => ?_)
      · skip
        refine mx_J.step (sn_120 30) (fun _ _ => rfl) ?_
        refine mx_J.step (sn_120 31) (fun _ _ => rfl) ?_
        refine JgetR (g := 10) (b := 34) hx (show mx_Sn _ _ 32 (mx_getf 11 10 35) from sn_120 32) a1 s1 rfl rfl (hG.prr 1 10 rfl) ?_
        refine mx_J.step (sn_120 35) (fun _ _ => rfl) ?_
        refine JaaldR (i := 0) (b := 44) hx (show mx_Sn _ _ 36 (mx_aald 37) from sn_120 36) a34 s34 (by omega) (show Z 34 0 = 44 by have hq := GI_ex hG 34 0; replace hq : ((0 : Int) ≤ 0 → (0 : Int) ≤ 3 → (Z 34 0) = 44 + 2 * 0) := hq; omega) ?_
        obtain ⟨Z8, h8, hc8, hx8, hG8, hf8⟩ := ct_147_1_44 (d := d + 0) (l := l) (D := D) (b0 := b0) (ad := ad) (Hb := Hb) (tau := tau) hx hG 
        refine Jcv0 hx (show mx_Sn _ _ 37 (mx_callv 147 2 11 40) from sn_120 37) a1 s1 hc8 rfl rfl rfl ?_
        refine mx_J.step (sn_120 40) (fun _ _ => rfl) ?_
        refine JgetR (g := 9) (b := 32) hx8 (show mx_Sn _ _ 41 (mx_getf 11 9 44) from sn_120 41) a1 s1 rfl rfl (hG8.prr 1 9 rfl) ?_
        refine mx_J.step (sn_120 44) (fun _ _ => rfl) ?_
        refine JgetR (g := 10) (b := 34) hx8 (show mx_Sn _ _ 45 (mx_getf 11 10 48) from sn_120 45) a1 s1 rfl rfl (hG8.prr 1 10 rfl) ?_
        refine mx_J.step (sn_120 48) (fun _ _ => rfl) ?_
        refine JaaldR (i := 0) (b := 44) hx8 (show mx_Sn _ _ 49 (mx_aald 50) from sn_120 49) a34 s34 (by omega) (show Z8 34 0 = 44 by have hq := GI_ex hG8 34 0; replace hq : ((0 : Int) ≤ 0 → (0 : Int) ≤ 3 → (Z8 34 0) = 44 + 2 * 0) := hq; omega) ?_
        refine JgetI (g := 2) (z := Z 44 2) hx8 (show mx_Sn _ _ 50 (mx_getf 10 2 53) from sn_120 50) a44 s44 rfl rfl (hf8 44 2 rfl) ?_
        obtain ⟨Z12, h12, hc12, hx12, hG12, hf12⟩ := ct_77_32 (d := d + 0) (l := l) (D := D) (b0 := b0) (ad := ad) (Hb := Hb) (tau := tau) hx8 hG8 (show 1 ≤ Z 44 2 ∧ Z 44 2 ≤ 8 by omega)
        refine Jcv0 hx8 (show mx_Sn _ _ 53 (mx_callv 77 2 9 56) from sn_120 53) a32 s32 hc12 rfl rfl rfl ?_
        refine mx_J.step (sn_120 56) (fun _ _ => rfl) ?_
        refine JgetR (g := 9) (b := 32) hx12 (show mx_Sn _ _ 57 (mx_getf 11 9 60) from sn_120 57) a1 s1 rfl rfl (hG12.prr 1 9 rfl) ?_
        refine mx_J.step (sn_120 60) (fun _ _ => rfl) ?_
        obtain ⟨z14, Z14, h14, hc14, hx14, hG14, hf14, b14⟩ := ct_81_32 (d := d + 1) (l := l) (D := D) (b0 := b0) (ad := ad) (Hb := Hb) (tau := tau) hx12 hG12 (show 0 ≤ x1 ∧ x1 ≤ 7 by omega)
        refine Jcv hx12 (show mx_Sn _ _ 61 (mx_callv 81 2 9 64) from sn_120 61) a32 s32 hc14 rfl rfl rfl ?_
        exact mx_J.ret (sn_120 64) (fun _ _ => rfl) (hP z14 Z14 h14 hx14 hG14 (fr_tr (M := [(14, (-1)), (16, (-1)), (17, (-1)), (18, (-1)), (19, (-1)), (33, (-1))]) (fr_tr (M := [(14, (-1)), (16, (-1)), (17, (-1)), (18, (-1)), (19, (-1)), (33, (-1))]) (fr_tr (M := [(14, (-1)), (16, (-1)), (17, (-1)), (18, (-1)), (19, (-1)), (33, (-1))]) fr_rf (hf8) (M1 := []) rfl rfl) (hf12) rfl rfl) (hf14) rfl rfl) (by omega))
      · skip
        refine JcI (z := (-7)) (show mx_Sn _ _ 27 (mx_const (.int (-7)) 29) from sn_120 27) rfl ?_
        exact mx_J.ret (sn_120 29) (fun _ _ => rfl) (hP (-7) Z h hx hG fr_rf (by omega))
    · skip
      refine mx_J.step (sn_120 12) (fun _ _ => rfl) ?_
      exact mx_J.ret (sn_120 13) (fun _ _ => rfl) (hP z1 Z h hx hG fr_rf (by omega))
theorem ct_120_1_i0 {l : Launch} {D : va_G} {b0 : Nat} {ad : Nat → Nat} {Hb : Heap} {tau : Nat → Int64} {d n s : Nat} {S : Nat → xS} {Z : xZ} {h : mx_H} (hx : XH n s S Z h) (hG : GI n S Z)  {x1 : Int} (p1 : (-2147483648) ≤ x1 ∧ x1 ≤ 2147483647) : ∃ (z : Int) (Z' : xZ) (h' : mx_H), mx_Ca (tB l D b0 ad Hb tau) (d + 7) 120 [.ref 1, xI 0, xI x1] h (some (xI z), h') ∧ XH n s S Z' h' ∧ GI n S Z' ∧ fr' [(14, (-1)), (16, (-1)), (17, (-1)), (18, (-1)), (19, (-1)), (33, (-1))] Z Z' ∧ ((-2147483648) ≤ z ∧ z ≤ 2147483647) := by
  obtain ⟨r, hca, z, Z', h', e, q⟩ := Jmt (B := tB l D b0 ad Hb tau) (M := mt_120) (mi := 120) (as := [.ref 1, xI 0, xI x1]) (d := d + 6) (ls := [some (.ref 1), some (xI 0), some (xI x1), none]) rfl rfl rfl rfl rfl rfl (cw_120_1_i0 (l := l) (D := D) (b0 := b0) (ad := ad) (Hb := Hb) (tau := tau) (d := d) (Post := fun r => ∃ (z : Int) (Z' : xZ) (h' : mx_H), r = (some (xI z), h') ∧ XH n s S Z' h' ∧ GI n S Z' ∧ fr' [(14, (-1)), (16, (-1)), (17, (-1)), (18, (-1)), (19, (-1)), (33, (-1))] Z Z' ∧ ((-2147483648) ≤ z ∧ z ≤ 2147483647)) hx hG p1 (fun z Z' h' q1 q2 q3 q4 => ⟨z, Z', h', rfl, q1, q2, q3, q4⟩))
  subst e; exact ⟨z, Z', h', hca, q⟩
set_option maxRecDepth 100000 in
theorem cw_120_1_i1 {l : Launch} {D : va_G} {b0 : Nat} {ad : Nat → Nat} {Hb : Heap} {tau : Nat → Int64} {d n s : Nat} {S : Nat → xS} {Z : xZ} {h : mx_H} {Post : mx_R → Prop} (hx : XH n s S Z h) (hG : GI n S Z)  {x1 : Int} (p1 : (-2147483648) ≤ x1 ∧ x1 ≤ 2147483647) (hP : ∀ (z : Int) (Z' : xZ) (h' : mx_H), XH n s S Z' h' → GI n S Z' → fr' [(14, (-1)), (16, (-1)), (17, (-1)), (18, (-1)), (19, (-1)), (33, (-1))] Z Z' → (-2147483648) ≤ z ∧ z ≤ 2147483647 → Post (some (xI z), h')) : mx_J (tB l D b0 ad Hb tau) mt_120 (d + 6) 0 [some (.ref 1), some (xI 1), some (xI x1), none] [] h Post := by
    have a1 : 1 < n := lt83 (GI_n hG) rfl
    have s1 : S 1 = .inl (11, [2, 0, 0, 0, 2, 2, 2, 2, 2, 2, 2, 2, 2, 2, 2, 2, 2]) := GI_s hG 1 rfl
    have a32 : 32 < n := lt83 (GI_n hG) rfl
    have s32 : S 32 = .inl (9, [2, 2, 2]) := GI_s hG 32 rfl
    have a34 : 34 < n := lt83 (GI_n hG) rfl
    have s34 : S 34 = .inr ((.object "TitheHeap$Tray"), 4, 2) := GI_s hG 34 rfl
    have a46 : 46 < n := lt83 (GI_n hG) rfl
    have s46 : S 46 = .inl (10, [2, 0, 0, 0]) := GI_s hG 46 rfl
    refine mx_J.step (sn_120 0) (fun _ _ => rfl) ?_
    refine mx_J.step (sn_120 1) (fun _ _ => rfl) ?_
    refine JcI (z := (-1)) (show mx_Sn _ _ 2 (mx_const (.int (-1)) 3) from sn_120 2) rfl ?_
    refine mx_J.step (sn_120 3) (fun _ _ => rfl) ?_
    obtain ⟨z1, hc1, b1⟩ := ct_146_1_i1 (d := d + 4) (l := l) (D := D) (b0 := b0) (ad := ad) (Hb := Hb) (tau := tau) hx hG (show (-1) ≤ (-1) ∧ (-1) ≤ 1 by omega) (show (-2147483648) ≤ x1 ∧ x1 ≤ 2147483647 by omega)
    refine Jcv hx (show mx_Sn _ _ 4 (mx_callv 146 4 11 7) from sn_120 4) a1 s1 hc1 rfl rfl rfl ?_
    refine mx_J.step (ls2 := [some (.ref 1), some (xI 1), some (xI x1), some (xI z1)]) (sn_120 7) (fun _ _ => rfl) ?_
    refine mx_J.step (sn_120 8) (fun _ _ => rfl) ?_
    refine Jif_ge (show mx_Sn _ _ 9 (mx_if_ge 14 12) from sn_120 9) (by omega) (fun q2 => ?_) (fun q2 => ?_)
    · skip
      refine mx_J.step (sn_120 14) (fun _ _ => rfl) ?_
      refine mx_J.step (sn_120 15) (fun _ _ => rfl) ?_
      refine JgetR (g := 10) (b := 34) hx (show mx_Sn _ _ 16 (mx_getf 11 10 19) from sn_120 16) a1 s1 rfl rfl (hG.prr 1 10 rfl) ?_
      refine mx_J.step (sn_120 19) (fun _ _ => rfl) ?_
      refine JaaldR (i := 1) (b := 46) hx (show mx_Sn _ _ 20 (mx_aald 21) from sn_120 20) a34 s34 (by omega) (show Z 34 1 = 46 by have hq := GI_ex hG 34 1; replace hq : ((0 : Int) ≤ 1 → (1 : Int) ≤ 3 → (Z 34 1) = 44 + 2 * 1) := hq; omega) ?_
      have b5 : 0 ≤ Z 46 2 ∧ Z 46 2 ≤ 40 := hG.pr 46 2
      refine JgetI (g := 2) (z := Z 46 2) hx (show mx_Sn _ _ 21 (mx_getf 10 2 24) from sn_120 21) a46 s46 rfl rfl rfl ?_
      refine Jicmp_lt (show mx_Sn _ _ 24 (mx_icmp_lt 30 27) from sn_120 24) (by omega) (by omega) (fun q6 => ?_) (fun q6 => ?_)
      · skip
        refine mx_J.step (sn_120 30) (fun _ _ => rfl) ?_
        refine mx_J.step (sn_120 31) (fun _ _ => rfl) ?_
        refine JgetR (g := 10) (b := 34) hx (show mx_Sn _ _ 32 (mx_getf 11 10 35) from sn_120 32) a1 s1 rfl rfl (hG.prr 1 10 rfl) ?_
        refine mx_J.step (sn_120 35) (fun _ _ => rfl) ?_
        refine JaaldR (i := 1) (b := 46) hx (show mx_Sn _ _ 36 (mx_aald 37) from sn_120 36) a34 s34 (by omega) (show Z 34 1 = 46 by have hq := GI_ex hG 34 1; replace hq : ((0 : Int) ≤ 1 → (1 : Int) ≤ 3 → (Z 34 1) = 44 + 2 * 1) := hq; omega) ?_
        obtain ⟨Z8, h8, hc8, hx8, hG8, hf8⟩ := ct_147_1_46 (d := d + 0) (l := l) (D := D) (b0 := b0) (ad := ad) (Hb := Hb) (tau := tau) hx hG 
        refine Jcv0 hx (show mx_Sn _ _ 37 (mx_callv 147 2 11 40) from sn_120 37) a1 s1 hc8 rfl rfl rfl ?_
        refine mx_J.step (sn_120 40) (fun _ _ => rfl) ?_
        refine JgetR (g := 9) (b := 32) hx8 (show mx_Sn _ _ 41 (mx_getf 11 9 44) from sn_120 41) a1 s1 rfl rfl (hG8.prr 1 9 rfl) ?_
        refine mx_J.step (sn_120 44) (fun _ _ => rfl) ?_
        refine JgetR (g := 10) (b := 34) hx8 (show mx_Sn _ _ 45 (mx_getf 11 10 48) from sn_120 45) a1 s1 rfl rfl (hG8.prr 1 10 rfl) ?_
        refine mx_J.step (sn_120 48) (fun _ _ => rfl) ?_
        refine JaaldR (i := 1) (b := 46) hx8 (show mx_Sn _ _ 49 (mx_aald 50) from sn_120 49) a34 s34 (by omega) (show Z8 34 1 = 46 by have hq := GI_ex hG8 34 1; replace hq : ((0 : Int) ≤ 1 → (1 : Int) ≤ 3 → (Z8 34 1) = 44 + 2 * 1) := hq; omega) ?_
        refine JgetI (g := 2) (z := Z 46 2) hx8 (show mx_Sn _ _ 50 (mx_getf 10 2 53) from sn_120 50) a46 s46 rfl rfl (hf8 46 2 rfl) ?_
        obtain ⟨Z12, h12, hc12, hx12, hG12, hf12⟩ := ct_77_32 (d := d + 0) (l := l) (D := D) (b0 := b0) (ad := ad) (Hb := Hb) (tau := tau) hx8 hG8 (show 1 ≤ Z 46 2 ∧ Z 46 2 ≤ 8 by omega)
        refine Jcv0 hx8 (show mx_Sn _ _ 53 (mx_callv 77 2 9 56) from sn_120 53) a32 s32 hc12 rfl rfl rfl ?_
        refine mx_J.step (sn_120 56) (fun _ _ => rfl) ?_
        refine JgetR (g := 9) (b := 32) hx12 (show mx_Sn _ _ 57 (mx_getf 11 9 60) from sn_120 57) a1 s1 rfl rfl (hG12.prr 1 9 rfl) ?_
        refine mx_J.step (sn_120 60) (fun _ _ => rfl) ?_
        obtain ⟨z14, Z14, h14, hc14, hx14, hG14, hf14, b14⟩ := ct_81_32 (d := d + 1) (l := l) (D := D) (b0 := b0) (ad := ad) (Hb := Hb) (tau := tau) hx12 hG12 (show 0 ≤ x1 ∧ x1 ≤ 7 by omega)
        refine Jcv hx12 (show mx_Sn _ _ 61 (mx_callv 81 2 9 64) from sn_120 61) a32 s32 hc14 rfl rfl rfl ?_
        exact mx_J.ret (sn_120 64) (fun _ _ => rfl) (hP z14 Z14 h14 hx14 hG14 (fr_tr (M := [(14, (-1)), (16, (-1)), (17, (-1)), (18, (-1)), (19, (-1)), (33, (-1))]) (fr_tr (M := [(14, (-1)), (16, (-1)), (17, (-1)), (18, (-1)), (19, (-1)), (33, (-1))]) (fr_tr (M := [(14, (-1)), (16, (-1)), (17, (-1)), (18, (-1)), (19, (-1)), (33, (-1))]) fr_rf (hf8) (M1 := []) rfl rfl) (hf12) rfl rfl) (hf14) rfl rfl) (by omega))
      · skip
        refine JcI (z := (-7)) (show mx_Sn _ _ 27 (mx_const (.int (-7)) 29) from sn_120 27) rfl ?_
        exact mx_J.ret (sn_120 29) (fun _ _ => rfl) (hP (-7) Z h hx hG fr_rf (by omega))
    · skip
      refine mx_J.step (sn_120 12) (fun _ _ => rfl) ?_
      exact mx_J.ret (sn_120 13) (fun _ _ => rfl) (hP z1 Z h hx hG fr_rf (by omega))
theorem ct_120_1_i1 {l : Launch} {D : va_G} {b0 : Nat} {ad : Nat → Nat} {Hb : Heap} {tau : Nat → Int64} {d n s : Nat} {S : Nat → xS} {Z : xZ} {h : mx_H} (hx : XH n s S Z h) (hG : GI n S Z)  {x1 : Int} (p1 : (-2147483648) ≤ x1 ∧ x1 ≤ 2147483647) : ∃ (z : Int) (Z' : xZ) (h' : mx_H), mx_Ca (tB l D b0 ad Hb tau) (d + 7) 120 [.ref 1, xI 1, xI x1] h (some (xI z), h') ∧ XH n s S Z' h' ∧ GI n S Z' ∧ fr' [(14, (-1)), (16, (-1)), (17, (-1)), (18, (-1)), (19, (-1)), (33, (-1))] Z Z' ∧ ((-2147483648) ≤ z ∧ z ≤ 2147483647) := by
  obtain ⟨r, hca, z, Z', h', e, q⟩ := Jmt (B := tB l D b0 ad Hb tau) (M := mt_120) (mi := 120) (as := [.ref 1, xI 1, xI x1]) (d := d + 6) (ls := [some (.ref 1), some (xI 1), some (xI x1), none]) rfl rfl rfl rfl rfl rfl (cw_120_1_i1 (l := l) (D := D) (b0 := b0) (ad := ad) (Hb := Hb) (tau := tau) (d := d) (Post := fun r => ∃ (z : Int) (Z' : xZ) (h' : mx_H), r = (some (xI z), h') ∧ XH n s S Z' h' ∧ GI n S Z' ∧ fr' [(14, (-1)), (16, (-1)), (17, (-1)), (18, (-1)), (19, (-1)), (33, (-1))] Z Z' ∧ ((-2147483648) ≤ z ∧ z ≤ 2147483647)) hx hG p1 (fun z Z' h' q1 q2 q3 q4 => ⟨z, Z', h', rfl, q1, q2, q3, q4⟩))
  subst e; exact ⟨z, Z', h', hca, q⟩
set_option maxRecDepth 100000 in
theorem cw_120_1_i2 {l : Launch} {D : va_G} {b0 : Nat} {ad : Nat → Nat} {Hb : Heap} {tau : Nat → Int64} {d n s : Nat} {S : Nat → xS} {Z : xZ} {h : mx_H} {Post : mx_R → Prop} (hx : XH n s S Z h) (hG : GI n S Z)  {x1 : Int} (p1 : (-2147483648) ≤ x1 ∧ x1 ≤ 2147483647) (hP : ∀ (z : Int) (Z' : xZ) (h' : mx_H), XH n s S Z' h' → GI n S Z' → fr' [(14, (-1)), (16, (-1)), (17, (-1)), (18, (-1)), (19, (-1)), (33, (-1))] Z Z' → (-2147483648) ≤ z ∧ z ≤ 2147483647 → Post (some (xI z), h')) : mx_J (tB l D b0 ad Hb tau) mt_120 (d + 6) 0 [some (.ref 1), some (xI 2), some (xI x1), none] [] h Post := by
    have a1 : 1 < n := lt83 (GI_n hG) rfl
    have s1 : S 1 = .inl (11, [2, 0, 0, 0, 2, 2, 2, 2, 2, 2, 2, 2, 2, 2, 2, 2, 2]) := GI_s hG 1 rfl
    have a32 : 32 < n := lt83 (GI_n hG) rfl
    have s32 : S 32 = .inl (9, [2, 2, 2]) := GI_s hG 32 rfl
    have a34 : 34 < n := lt83 (GI_n hG) rfl
    have s34 : S 34 = .inr ((.object "TitheHeap$Tray"), 4, 2) := GI_s hG 34 rfl
    have a48 : 48 < n := lt83 (GI_n hG) rfl
    have s48 : S 48 = .inl (10, [2, 0, 0, 0]) := GI_s hG 48 rfl
    refine mx_J.step (sn_120 0) (fun _ _ => rfl) ?_
    refine mx_J.step (sn_120 1) (fun _ _ => rfl) ?_
    refine JcI (z := (-1)) (show mx_Sn _ _ 2 (mx_const (.int (-1)) 3) from sn_120 2) rfl ?_
    refine mx_J.step (sn_120 3) (fun _ _ => rfl) ?_
    obtain ⟨z1, hc1, b1⟩ := ct_146_1_i2 (d := d + 4) (l := l) (D := D) (b0 := b0) (ad := ad) (Hb := Hb) (tau := tau) hx hG (show (-1) ≤ (-1) ∧ (-1) ≤ 1 by omega) (show (-2147483648) ≤ x1 ∧ x1 ≤ 2147483647 by omega)
    refine Jcv hx (show mx_Sn _ _ 4 (mx_callv 146 4 11 7) from sn_120 4) a1 s1 hc1 rfl rfl rfl ?_
    refine mx_J.step (ls2 := [some (.ref 1), some (xI 2), some (xI x1), some (xI z1)]) (sn_120 7) (fun _ _ => rfl) ?_
    refine mx_J.step (sn_120 8) (fun _ _ => rfl) ?_
    refine Jif_ge (show mx_Sn _ _ 9 (mx_if_ge 14 12) from sn_120 9) (by omega) (fun q2 => ?_) (fun q2 => ?_)
    · skip
      refine mx_J.step (sn_120 14) (fun _ _ => rfl) ?_
      refine mx_J.step (sn_120 15) (fun _ _ => rfl) ?_
      refine JgetR (g := 10) (b := 34) hx (show mx_Sn _ _ 16 (mx_getf 11 10 19) from sn_120 16) a1 s1 rfl rfl (hG.prr 1 10 rfl) ?_
      refine mx_J.step (sn_120 19) (fun _ _ => rfl) ?_
      refine JaaldR (i := 2) (b := 48) hx (show mx_Sn _ _ 20 (mx_aald 21) from sn_120 20) a34 s34 (by omega) (show Z 34 2 = 48 by have hq := GI_ex hG 34 2; replace hq : ((0 : Int) ≤ 2 → (2 : Int) ≤ 3 → (Z 34 2) = 44 + 2 * 2) := hq; omega) ?_
      have b5 : 0 ≤ Z 48 2 ∧ Z 48 2 ≤ 40 := hG.pr 48 2
      refine JgetI (g := 2) (z := Z 48 2) hx (show mx_Sn _ _ 21 (mx_getf 10 2 24) from sn_120 21) a48 s48 rfl rfl rfl ?_
      refine Jicmp_lt (show mx_Sn _ _ 24 (mx_icmp_lt 30 27) from sn_120 24) (by omega) (by omega) (fun q6 => ?_) (fun q6 => ?_)
      · skip
        refine mx_J.step (sn_120 30) (fun _ _ => rfl) ?_
        refine mx_J.step (sn_120 31) (fun _ _ => rfl) ?_
        refine JgetR (g := 10) (b := 34) hx (show mx_Sn _ _ 32 (mx_getf 11 10 35) from sn_120 32) a1 s1 rfl rfl (hG.prr 1 10 rfl) ?_
        refine mx_J.step (sn_120 35) (fun _ _ => rfl) ?_
        refine JaaldR (i := 2) (b := 48) hx (show mx_Sn _ _ 36 (mx_aald 37) from sn_120 36) a34 s34 (by omega) (show Z 34 2 = 48 by have hq := GI_ex hG 34 2; replace hq : ((0 : Int) ≤ 2 → (2 : Int) ≤ 3 → (Z 34 2) = 44 + 2 * 2) := hq; omega) ?_
        obtain ⟨Z8, h8, hc8, hx8, hG8, hf8⟩ := ct_147_1_48 (d := d + 0) (l := l) (D := D) (b0 := b0) (ad := ad) (Hb := Hb) (tau := tau) hx hG 
        refine Jcv0 hx (show mx_Sn _ _ 37 (mx_callv 147 2 11 40) from sn_120 37) a1 s1 hc8 rfl rfl rfl ?_
        refine mx_J.step (sn_120 40) (fun _ _ => rfl) ?_
        refine JgetR (g := 9) (b := 32) hx8 (show mx_Sn _ _ 41 (mx_getf 11 9 44) from sn_120 41) a1 s1 rfl rfl (hG8.prr 1 9 rfl) ?_
        refine mx_J.step (sn_120 44) (fun _ _ => rfl) ?_
        refine JgetR (g := 10) (b := 34) hx8 (show mx_Sn _ _ 45 (mx_getf 11 10 48) from sn_120 45) a1 s1 rfl rfl (hG8.prr 1 10 rfl) ?_
        refine mx_J.step (sn_120 48) (fun _ _ => rfl) ?_
        refine JaaldR (i := 2) (b := 48) hx8 (show mx_Sn _ _ 49 (mx_aald 50) from sn_120 49) a34 s34 (by omega) (show Z8 34 2 = 48 by have hq := GI_ex hG8 34 2; replace hq : ((0 : Int) ≤ 2 → (2 : Int) ≤ 3 → (Z8 34 2) = 44 + 2 * 2) := hq; omega) ?_
        refine JgetI (g := 2) (z := Z 48 2) hx8 (show mx_Sn _ _ 50 (mx_getf 10 2 53) from sn_120 50) a48 s48 rfl rfl (hf8 48 2 rfl) ?_
        obtain ⟨Z12, h12, hc12, hx12, hG12, hf12⟩ := ct_77_32 (d := d + 0) (l := l) (D := D) (b0 := b0) (ad := ad) (Hb := Hb) (tau := tau) hx8 hG8 (show 1 ≤ Z 48 2 ∧ Z 48 2 ≤ 8 by omega)
        refine Jcv0 hx8 (show mx_Sn _ _ 53 (mx_callv 77 2 9 56) from sn_120 53) a32 s32 hc12 rfl rfl rfl ?_
        refine mx_J.step (sn_120 56) (fun _ _ => rfl) ?_
        refine JgetR (g := 9) (b := 32) hx12 (show mx_Sn _ _ 57 (mx_getf 11 9 60) from sn_120 57) a1 s1 rfl rfl (hG12.prr 1 9 rfl) ?_
        refine mx_J.step (sn_120 60) (fun _ _ => rfl) ?_
        obtain ⟨z14, Z14, h14, hc14, hx14, hG14, hf14, b14⟩ := ct_81_32 (d := d + 1) (l := l) (D := D) (b0 := b0) (ad := ad) (Hb := Hb) (tau := tau) hx12 hG12 (show 0 ≤ x1 ∧ x1 ≤ 7 by omega)
        refine Jcv hx12 (show mx_Sn _ _ 61 (mx_callv 81 2 9 64) from sn_120 61) a32 s32 hc14 rfl rfl rfl ?_
        exact mx_J.ret (sn_120 64) (fun _ _ => rfl) (hP z14 Z14 h14 hx14 hG14 (fr_tr (M := [(14, (-1)), (16, (-1)), (17, (-1)), (18, (-1)), (19, (-1)), (33, (-1))]) (fr_tr (M := [(14, (-1)), (16, (-1)), (17, (-1)), (18, (-1)), (19, (-1)), (33, (-1))]) (fr_tr (M := [(14, (-1)), (16, (-1)), (17, (-1)), (18, (-1)), (19, (-1)), (33, (-1))]) fr_rf (hf8) (M1 := []) rfl rfl) (hf12) rfl rfl) (hf14) rfl rfl) (by omega))
      · skip
        refine JcI (z := (-7)) (show mx_Sn _ _ 27 (mx_const (.int (-7)) 29) from sn_120 27) rfl ?_
        exact mx_J.ret (sn_120 29) (fun _ _ => rfl) (hP (-7) Z h hx hG fr_rf (by omega))
    · skip
      refine mx_J.step (sn_120 12) (fun _ _ => rfl) ?_
      exact mx_J.ret (sn_120 13) (fun _ _ => rfl) (hP z1 Z h hx hG fr_rf (by omega))
theorem ct_120_1_i2 {l : Launch} {D : va_G} {b0 : Nat} {ad : Nat → Nat} {Hb : Heap} {tau : Nat → Int64} {d n s : Nat} {S : Nat → xS} {Z : xZ} {h : mx_H} (hx : XH n s S Z h) (hG : GI n S Z)  {x1 : Int} (p1 : (-2147483648) ≤ x1 ∧ x1 ≤ 2147483647) : ∃ (z : Int) (Z' : xZ) (h' : mx_H), mx_Ca (tB l D b0 ad Hb tau) (d + 7) 120 [.ref 1, xI 2, xI x1] h (some (xI z), h') ∧ XH n s S Z' h' ∧ GI n S Z' ∧ fr' [(14, (-1)), (16, (-1)), (17, (-1)), (18, (-1)), (19, (-1)), (33, (-1))] Z Z' ∧ ((-2147483648) ≤ z ∧ z ≤ 2147483647) := by
  obtain ⟨r, hca, z, Z', h', e, q⟩ := Jmt (B := tB l D b0 ad Hb tau) (M := mt_120) (mi := 120) (as := [.ref 1, xI 2, xI x1]) (d := d + 6) (ls := [some (.ref 1), some (xI 2), some (xI x1), none]) rfl rfl rfl rfl rfl rfl (cw_120_1_i2 (l := l) (D := D) (b0 := b0) (ad := ad) (Hb := Hb) (tau := tau) (d := d) (Post := fun r => ∃ (z : Int) (Z' : xZ) (h' : mx_H), r = (some (xI z), h') ∧ XH n s S Z' h' ∧ GI n S Z' ∧ fr' [(14, (-1)), (16, (-1)), (17, (-1)), (18, (-1)), (19, (-1)), (33, (-1))] Z Z' ∧ ((-2147483648) ≤ z ∧ z ≤ 2147483647)) hx hG p1 (fun z Z' h' q1 q2 q3 q4 => ⟨z, Z', h', rfl, q1, q2, q3, q4⟩))
  subst e; exact ⟨z, Z', h', hca, q⟩
set_option maxRecDepth 100000 in
theorem cw_120_1_i3 {l : Launch} {D : va_G} {b0 : Nat} {ad : Nat → Nat} {Hb : Heap} {tau : Nat → Int64} {d n s : Nat} {S : Nat → xS} {Z : xZ} {h : mx_H} {Post : mx_R → Prop} (hx : XH n s S Z h) (hG : GI n S Z)  {x1 : Int} (p1 : (-2147483648) ≤ x1 ∧ x1 ≤ 2147483647) (hP : ∀ (z : Int) (Z' : xZ) (h' : mx_H), XH n s S Z' h' → GI n S Z' → fr' [(14, (-1)), (16, (-1)), (17, (-1)), (18, (-1)), (19, (-1)), (33, (-1))] Z Z' → (-2147483648) ≤ z ∧ z ≤ 2147483647 → Post (some (xI z), h')) : mx_J (tB l D b0 ad Hb tau) mt_120 (d + 6) 0 [some (.ref 1), some (xI 3), some (xI x1), none] [] h Post := by
    have a1 : 1 < n := lt83 (GI_n hG) rfl
    have s1 : S 1 = .inl (11, [2, 0, 0, 0, 2, 2, 2, 2, 2, 2, 2, 2, 2, 2, 2, 2, 2]) := GI_s hG 1 rfl
    have a32 : 32 < n := lt83 (GI_n hG) rfl
    have s32 : S 32 = .inl (9, [2, 2, 2]) := GI_s hG 32 rfl
    have a34 : 34 < n := lt83 (GI_n hG) rfl
    have s34 : S 34 = .inr ((.object "TitheHeap$Tray"), 4, 2) := GI_s hG 34 rfl
    have a50 : 50 < n := lt83 (GI_n hG) rfl
    have s50 : S 50 = .inl (10, [2, 0, 0, 0]) := GI_s hG 50 rfl
    refine mx_J.step (sn_120 0) (fun _ _ => rfl) ?_
    refine mx_J.step (sn_120 1) (fun _ _ => rfl) ?_
    refine JcI (z := (-1)) (show mx_Sn _ _ 2 (mx_const (.int (-1)) 3) from sn_120 2) rfl ?_
    refine mx_J.step (sn_120 3) (fun _ _ => rfl) ?_
    obtain ⟨z1, hc1, b1⟩ := ct_146_1_i3 (d := d + 4) (l := l) (D := D) (b0 := b0) (ad := ad) (Hb := Hb) (tau := tau) hx hG (show (-1) ≤ (-1) ∧ (-1) ≤ 1 by omega) (show (-2147483648) ≤ x1 ∧ x1 ≤ 2147483647 by omega)
    refine Jcv hx (show mx_Sn _ _ 4 (mx_callv 146 4 11 7) from sn_120 4) a1 s1 hc1 rfl rfl rfl ?_
    refine mx_J.step (ls2 := [some (.ref 1), some (xI 3), some (xI x1), some (xI z1)]) (sn_120 7) (fun _ _ => rfl) ?_
    refine mx_J.step (sn_120 8) (fun _ _ => rfl) ?_
    refine Jif_ge (show mx_Sn _ _ 9 (mx_if_ge 14 12) from sn_120 9) (by omega) (fun q2 => ?_) (fun q2 => ?_)
    · skip
      refine mx_J.step (sn_120 14) (fun _ _ => rfl) ?_
      refine mx_J.step (sn_120 15) (fun _ _ => rfl) ?_
      refine JgetR (g := 10) (b := 34) hx (show mx_Sn _ _ 16 (mx_getf 11 10 19) from sn_120 16) a1 s1 rfl rfl (hG.prr 1 10 rfl) ?_
      refine mx_J.step (sn_120 19) (fun _ _ => rfl) ?_
      refine JaaldR (i := 3) (b := 50) hx (show mx_Sn _ _ 20 (mx_aald 21) from sn_120 20) a34 s34 (by omega) (show Z 34 3 = 50 by have hq := GI_ex hG 34 3; replace hq : ((0 : Int) ≤ 3 → (3 : Int) ≤ 3 → (Z 34 3) = 44 + 2 * 3) := hq; omega) ?_
      have b5 : 0 ≤ Z 50 2 ∧ Z 50 2 ≤ 40 := hG.pr 50 2
      refine JgetI (g := 2) (z := Z 50 2) hx (show mx_Sn _ _ 21 (mx_getf 10 2 24) from sn_120 21) a50 s50 rfl rfl rfl ?_
      refine Jicmp_lt (show mx_Sn _ _ 24 (mx_icmp_lt 30 27) from sn_120 24) (by omega) (by omega) (fun q6 => ?_) (fun q6 => ?_)
      · skip
        refine mx_J.step (sn_120 30) (fun _ _ => rfl) ?_
        refine mx_J.step (sn_120 31) (fun _ _ => rfl) ?_
        refine JgetR (g := 10) (b := 34) hx (show mx_Sn _ _ 32 (mx_getf 11 10 35) from sn_120 32) a1 s1 rfl rfl (hG.prr 1 10 rfl) ?_
        refine mx_J.step (sn_120 35) (fun _ _ => rfl) ?_
        refine JaaldR (i := 3) (b := 50) hx (show mx_Sn _ _ 36 (mx_aald 37) from sn_120 36) a34 s34 (by omega) (show Z 34 3 = 50 by have hq := GI_ex hG 34 3; replace hq : ((0 : Int) ≤ 3 → (3 : Int) ≤ 3 → (Z 34 3) = 44 + 2 * 3) := hq; omega) ?_
        obtain ⟨Z8, h8, hc8, hx8, hG8, hf8⟩ := ct_147_1_50 (d := d + 0) (l := l) (D := D) (b0 := b0) (ad := ad) (Hb := Hb) (tau := tau) hx hG 
        refine Jcv0 hx (show mx_Sn _ _ 37 (mx_callv 147 2 11 40) from sn_120 37) a1 s1 hc8 rfl rfl rfl ?_
        refine mx_J.step (sn_120 40) (fun _ _ => rfl) ?_
        refine JgetR (g := 9) (b := 32) hx8 (show mx_Sn _ _ 41 (mx_getf 11 9 44) from sn_120 41) a1 s1 rfl rfl (hG8.prr 1 9 rfl) ?_
        refine mx_J.step (sn_120 44) (fun _ _ => rfl) ?_
        refine JgetR (g := 10) (b := 34) hx8 (show mx_Sn _ _ 45 (mx_getf 11 10 48) from sn_120 45) a1 s1 rfl rfl (hG8.prr 1 10 rfl) ?_
        refine mx_J.step (sn_120 48) (fun _ _ => rfl) ?_
        refine JaaldR (i := 3) (b := 50) hx8 (show mx_Sn _ _ 49 (mx_aald 50) from sn_120 49) a34 s34 (by omega) (show Z8 34 3 = 50 by have hq := GI_ex hG8 34 3; replace hq : ((0 : Int) ≤ 3 → (3 : Int) ≤ 3 → (Z8 34 3) = 44 + 2 * 3) := hq; omega) ?_
        refine JgetI (g := 2) (z := Z 50 2) hx8 (show mx_Sn _ _ 50 (mx_getf 10 2 53) from sn_120 50) a50 s50 rfl rfl (hf8 50 2 rfl) ?_
        obtain ⟨Z12, h12, hc12, hx12, hG12, hf12⟩ := ct_77_32 (d := d + 0) (l := l) (D := D) (b0 := b0) (ad := ad) (Hb := Hb) (tau := tau) hx8 hG8 (show 1 ≤ Z 50 2 ∧ Z 50 2 ≤ 8 by omega)
        refine Jcv0 hx8 (show mx_Sn _ _ 53 (mx_callv 77 2 9 56) from sn_120 53) a32 s32 hc12 rfl rfl rfl ?_
        refine mx_J.step (sn_120 56) (fun _ _ => rfl) ?_
        refine JgetR (g := 9) (b := 32) hx12 (show mx_Sn _ _ 57 (mx_getf 11 9 60) from sn_120 57) a1 s1 rfl rfl (hG12.prr 1 9 rfl) ?_
        refine mx_J.step (sn_120 60) (fun _ _ => rfl) ?_
        obtain ⟨z14, Z14, h14, hc14, hx14, hG14, hf14, b14⟩ := ct_81_32 (d := d + 1) (l := l) (D := D) (b0 := b0) (ad := ad) (Hb := Hb) (tau := tau) hx12 hG12 (show 0 ≤ x1 ∧ x1 ≤ 7 by omega)
        refine Jcv hx12 (show mx_Sn _ _ 61 (mx_callv 81 2 9 64) from sn_120 61) a32 s32 hc14 rfl rfl rfl ?_
        exact mx_J.ret (sn_120 64) (fun _ _ => rfl) (hP z14 Z14 h14 hx14 hG14 (fr_tr (M := [(14, (-1)), (16, (-1)), (17, (-1)), (18, (-1)), (19, (-1)), (33, (-1))]) (fr_tr (M := [(14, (-1)), (16, (-1)), (17, (-1)), (18, (-1)), (19, (-1)), (33, (-1))]) (fr_tr (M := [(14, (-1)), (16, (-1)), (17, (-1)), (18, (-1)), (19, (-1)), (33, (-1))]) fr_rf (hf8) (M1 := []) rfl rfl) (hf12) rfl rfl) (hf14) rfl rfl) (by omega))
      · skip
        refine JcI (z := (-7)) (show mx_Sn _ _ 27 (mx_const (.int (-7)) 29) from sn_120 27) rfl ?_
        exact mx_J.ret (sn_120 29) (fun _ _ => rfl) (hP (-7) Z h hx hG fr_rf (by omega))
    · skip
      refine mx_J.step (sn_120 12) (fun _ _ => rfl) ?_
      exact mx_J.ret (sn_120 13) (fun _ _ => rfl) (hP z1 Z h hx hG fr_rf (by omega))
theorem ct_120_1_i3 {l : Launch} {D : va_G} {b0 : Nat} {ad : Nat → Nat} {Hb : Heap} {tau : Nat → Int64} {d n s : Nat} {S : Nat → xS} {Z : xZ} {h : mx_H} (hx : XH n s S Z h) (hG : GI n S Z)  {x1 : Int} (p1 : (-2147483648) ≤ x1 ∧ x1 ≤ 2147483647) : ∃ (z : Int) (Z' : xZ) (h' : mx_H), mx_Ca (tB l D b0 ad Hb tau) (d + 7) 120 [.ref 1, xI 3, xI x1] h (some (xI z), h') ∧ XH n s S Z' h' ∧ GI n S Z' ∧ fr' [(14, (-1)), (16, (-1)), (17, (-1)), (18, (-1)), (19, (-1)), (33, (-1))] Z Z' ∧ ((-2147483648) ≤ z ∧ z ≤ 2147483647) := by
  obtain ⟨r, hca, z, Z', h', e, q⟩ := Jmt (B := tB l D b0 ad Hb tau) (M := mt_120) (mi := 120) (as := [.ref 1, xI 3, xI x1]) (d := d + 6) (ls := [some (.ref 1), some (xI 3), some (xI x1), none]) rfl rfl rfl rfl rfl rfl (cw_120_1_i3 (l := l) (D := D) (b0 := b0) (ad := ad) (Hb := Hb) (tau := tau) (d := d) (Post := fun r => ∃ (z : Int) (Z' : xZ) (h' : mx_H), r = (some (xI z), h') ∧ XH n s S Z' h' ∧ GI n S Z' ∧ fr' [(14, (-1)), (16, (-1)), (17, (-1)), (18, (-1)), (19, (-1)), (33, (-1))] Z Z' ∧ ((-2147483648) ≤ z ∧ z ≤ 2147483647)) hx hG p1 (fun z Z' h' q1 q2 q3 q4 => ⟨z, Z', h', rfl, q1, q2, q3, q4⟩))
  subst e; exact ⟨z, Z', h', hca, q⟩
set_option maxRecDepth 100000 in
theorem cw_120_1_n {l : Launch} {D : va_G} {b0 : Nat} {ad : Nat → Nat} {Hb : Heap} {tau : Nat → Int64} {d n s : Nat} {S : Nat → xS} {Z : xZ} {h : mx_H} {Post : mx_R → Prop} (hx : XH n s S Z h) (hG : GI n S Z)  {x0 x1 : Int} (p0 : (-2147483648) ≤ x0 ∧ x0 ≤ (-1)) (p1 : (-2147483648) ≤ x1 ∧ x1 ≤ 2147483647) (hP : ∀ z : Int, (-2) ≤ z ∧ z ≤ (-2) → Post (some (xI z), h)) : mx_J (tB l D b0 ad Hb tau) mt_120 (d + 2) 0 [some (.ref 1), some (xI x0), some (xI x1), none] [] h Post := by
    have a1 : 1 < n := lt83 (GI_n hG) rfl
    have s1 : S 1 = .inl (11, [2, 0, 0, 0, 2, 2, 2, 2, 2, 2, 2, 2, 2, 2, 2, 2, 2]) := GI_s hG 1 rfl
    refine mx_J.step (sn_120 0) (fun _ _ => rfl) ?_
    refine mx_J.step (sn_120 1) (fun _ _ => rfl) ?_
    refine JcI (z := (-1)) (show mx_Sn _ _ 2 (mx_const (.int (-1)) 3) from sn_120 2) rfl ?_
    refine mx_J.step (sn_120 3) (fun _ _ => rfl) ?_
    obtain ⟨z1, hc1, b1⟩ := ct_146_1_n (d := d + 0) (l := l) (D := D) (b0 := b0) (ad := ad) (Hb := Hb) (tau := tau) hx hG (show (-2147483648) ≤ x0 ∧ x0 ≤ (-1) by omega) (show (-1) ≤ (-1) ∧ (-1) ≤ 1 by omega) (show (-2147483648) ≤ x1 ∧ x1 ≤ 2147483647 by omega)
    refine Jcv hx (show mx_Sn _ _ 4 (mx_callv 146 4 11 7) from sn_120 4) a1 s1 hc1 rfl rfl rfl ?_
    refine mx_J.step (ls2 := [some (.ref 1), some (xI x0), some (xI x1), some (xI z1)]) (sn_120 7) (fun _ _ => rfl) ?_
    refine mx_J.step (sn_120 8) (fun _ _ => rfl) ?_
    refine Jif_ge (show mx_Sn _ _ 9 (mx_if_ge 14 12) from sn_120 9) (by omega) (fun q2 => ?_) (fun q2 => ?_)
    · skip
      exfalso; omega
    · skip
      refine mx_J.step (sn_120 12) (fun _ _ => rfl) ?_
      exact mx_J.ret (sn_120 13) (fun _ _ => rfl) (hP z1 (by omega))
theorem ct_120_1_n {l : Launch} {D : va_G} {b0 : Nat} {ad : Nat → Nat} {Hb : Heap} {tau : Nat → Int64} {d n s : Nat} {S : Nat → xS} {Z : xZ} {h : mx_H} (hx : XH n s S Z h) (hG : GI n S Z)  {x0 x1 : Int} (p0 : (-2147483648) ≤ x0 ∧ x0 ≤ (-1)) (p1 : (-2147483648) ≤ x1 ∧ x1 ≤ 2147483647) : ∃ z : Int, mx_Ca (tB l D b0 ad Hb tau) (d + 3) 120 [.ref 1, xI x0, xI x1] h (some (xI z), h) ∧ ((-2) ≤ z ∧ z ≤ (-2)) := by
  obtain ⟨r, hca, z, e, hp⟩ := Jmt (B := tB l D b0 ad Hb tau) (M := mt_120) (mi := 120) (as := [.ref 1, xI x0, xI x1]) (d := d + 2) (ls := [some (.ref 1), some (xI x0), some (xI x1), none]) rfl rfl rfl rfl rfl rfl (cw_120_1_n (l := l) (D := D) (b0 := b0) (ad := ad) (Hb := Hb) (tau := tau) (d := d) (Post := fun r => ∃ z : Int, r = (some (xI z), h) ∧ ((-2) ≤ z ∧ z ≤ (-2))) hx hG p0 p1 (fun z hz => ⟨z, rfl, hz⟩))
  subst e; exact ⟨z, hca, hp⟩
set_option maxRecDepth 100000 in
theorem cw_120_1_p {l : Launch} {D : va_G} {b0 : Nat} {ad : Nat → Nat} {Hb : Heap} {tau : Nat → Int64} {d n s : Nat} {S : Nat → xS} {Z : xZ} {h : mx_H} {Post : mx_R → Prop} (hx : XH n s S Z h) (hG : GI n S Z)  {x0 x1 : Int} (p0 : 4 ≤ x0 ∧ x0 ≤ 2147483647) (p1 : (-2147483648) ≤ x1 ∧ x1 ≤ 2147483647) (hP : ∀ z : Int, (-2) ≤ z ∧ z ≤ (-2) → Post (some (xI z), h)) : mx_J (tB l D b0 ad Hb tau) mt_120 (d + 2) 0 [some (.ref 1), some (xI x0), some (xI x1), none] [] h Post := by
    have a1 : 1 < n := lt83 (GI_n hG) rfl
    have s1 : S 1 = .inl (11, [2, 0, 0, 0, 2, 2, 2, 2, 2, 2, 2, 2, 2, 2, 2, 2, 2]) := GI_s hG 1 rfl
    refine mx_J.step (sn_120 0) (fun _ _ => rfl) ?_
    refine mx_J.step (sn_120 1) (fun _ _ => rfl) ?_
    refine JcI (z := (-1)) (show mx_Sn _ _ 2 (mx_const (.int (-1)) 3) from sn_120 2) rfl ?_
    refine mx_J.step (sn_120 3) (fun _ _ => rfl) ?_
    obtain ⟨z1, hc1, b1⟩ := ct_146_1_p (d := d + 0) (l := l) (D := D) (b0 := b0) (ad := ad) (Hb := Hb) (tau := tau) hx hG (show 4 ≤ x0 ∧ x0 ≤ 2147483647 by omega) (show (-1) ≤ (-1) ∧ (-1) ≤ 1 by omega) (show (-2147483648) ≤ x1 ∧ x1 ≤ 2147483647 by omega)
    refine Jcv hx (show mx_Sn _ _ 4 (mx_callv 146 4 11 7) from sn_120 4) a1 s1 hc1 rfl rfl rfl ?_
    refine mx_J.step (ls2 := [some (.ref 1), some (xI x0), some (xI x1), some (xI z1)]) (sn_120 7) (fun _ _ => rfl) ?_
    refine mx_J.step (sn_120 8) (fun _ _ => rfl) ?_
    refine Jif_ge (show mx_Sn _ _ 9 (mx_if_ge 14 12) from sn_120 9) (by omega) (fun q2 => ?_) (fun q2 => ?_)
    · skip
      exfalso; omega
    · skip
      refine mx_J.step (sn_120 12) (fun _ _ => rfl) ?_
      exact mx_J.ret (sn_120 13) (fun _ _ => rfl) (hP z1 (by omega))
theorem ct_120_1_p {l : Launch} {D : va_G} {b0 : Nat} {ad : Nat → Nat} {Hb : Heap} {tau : Nat → Int64} {d n s : Nat} {S : Nat → xS} {Z : xZ} {h : mx_H} (hx : XH n s S Z h) (hG : GI n S Z)  {x0 x1 : Int} (p0 : 4 ≤ x0 ∧ x0 ≤ 2147483647) (p1 : (-2147483648) ≤ x1 ∧ x1 ≤ 2147483647) : ∃ z : Int, mx_Ca (tB l D b0 ad Hb tau) (d + 3) 120 [.ref 1, xI x0, xI x1] h (some (xI z), h) ∧ ((-2) ≤ z ∧ z ≤ (-2)) := by
  obtain ⟨r, hca, z, e, hp⟩ := Jmt (B := tB l D b0 ad Hb tau) (M := mt_120) (mi := 120) (as := [.ref 1, xI x0, xI x1]) (d := d + 2) (ls := [some (.ref 1), some (xI x0), some (xI x1), none]) rfl rfl rfl rfl rfl rfl (cw_120_1_p (l := l) (D := D) (b0 := b0) (ad := ad) (Hb := Hb) (tau := tau) (d := d) (Post := fun r => ∃ z : Int, r = (some (xI z), h) ∧ ((-2) ≤ z ∧ z ≤ (-2))) hx hG p0 p1 (fun z hz => ⟨z, rfl, hz⟩))
  subst e; exact ⟨z, hca, hp⟩
theorem ct_120_1 {l : Launch} {D : va_G} {b0 : Nat} {ad : Nat → Nat} {Hb : Heap} {tau : Nat → Int64} {d n s : Nat} {S : Nat → xS} {Z : xZ} {h : mx_H} (hx : XH n s S Z h) (hG : GI n S Z) {x0 x1 : Int} (p0 : (-2147483648) ≤ x0 ∧ x0 ≤ 2147483647) (p1 : (-2147483648) ≤ x1 ∧ x1 ≤ 2147483647) : ∃ (z : Int) (Z' : xZ) (h' : mx_H), mx_Ca (tB l D b0 ad Hb tau) (d + 7) 120 [.ref 1, xI x0, xI x1] h (some (xI z), h') ∧ XH n s S Z' h' ∧ GI n S Z' ∧ fr' [(14, (-1)), (16, (-1)), (17, (-1)), (18, (-1)), (19, (-1)), (33, (-1))] Z Z' ∧ ((-2147483648) ≤ z ∧ z ≤ 2147483647) := by
  have hc : x0 = 0 ∨ x0 = 1 ∨ x0 = 2 ∨ x0 = 3 ∨ ((-2147483648) ≤ x0 ∧ x0 ≤ (-1)) ∨ (4 ≤ x0 ∧ x0 ≤ 2147483647) := by omega
  rcases hc with hc | hc | hc | hc | hc | hc
  · subst hc
    obtain ⟨z, Z', h', hca, q1, q2, q3, b⟩ := ct_120_1_i0 (d := d + 0) (l := l) (D := D) (b0 := b0) (ad := ad) (Hb := Hb) (tau := tau) hx hG p1
    exact ⟨z, Z', h', hca, q1, q2, fr_tr (M1 := []) fr_rf q3 rfl rfl, by omega⟩
  · subst hc
    obtain ⟨z, Z', h', hca, q1, q2, q3, b⟩ := ct_120_1_i1 (d := d + 0) (l := l) (D := D) (b0 := b0) (ad := ad) (Hb := Hb) (tau := tau) hx hG p1
    exact ⟨z, Z', h', hca, q1, q2, fr_tr (M1 := []) fr_rf q3 rfl rfl, by omega⟩
  · subst hc
    obtain ⟨z, Z', h', hca, q1, q2, q3, b⟩ := ct_120_1_i2 (d := d + 0) (l := l) (D := D) (b0 := b0) (ad := ad) (Hb := Hb) (tau := tau) hx hG p1
    exact ⟨z, Z', h', hca, q1, q2, fr_tr (M1 := []) fr_rf q3 rfl rfl, by omega⟩
  · subst hc
    obtain ⟨z, Z', h', hca, q1, q2, q3, b⟩ := ct_120_1_i3 (d := d + 0) (l := l) (D := D) (b0 := b0) (ad := ad) (Hb := Hb) (tau := tau) hx hG p1
    exact ⟨z, Z', h', hca, q1, q2, fr_tr (M1 := []) fr_rf q3 rfl rfl, by omega⟩
  · skip
    obtain ⟨z, hca, b⟩ := ct_120_1_n (d := d + 4) (l := l) (D := D) (b0 := b0) (ad := ad) (Hb := Hb) (tau := tau) hx hG hc p1
    exact ⟨z, Z, h, hca, hx, hG, fr_rf, by omega⟩
  · skip
    obtain ⟨z, hca, b⟩ := ct_120_1_p (d := d + 4) (l := l) (D := D) (b0 := b0) (ad := ad) (Hb := Hb) (tau := tau) hx hG hc p1
    exact ⟨z, Z, h, hca, hx, hG, fr_rf, by omega⟩
set_option maxRecDepth 100000 in
theorem cw_121_1_i0 {l : Launch} {D : va_G} {b0 : Nat} {ad : Nat → Nat} {Hb : Heap} {tau : Nat → Int64} {d n s : Nat} {S : Nat → xS} {Z : xZ} {h : mx_H} {Post : mx_R → Prop} (hx : XH n s S Z h) (hG : GI n S Z)   (hP : ∀ (z : Int) (Z' : xZ) (h' : mx_H), XH n s S Z' h' → GI n S Z' → fr' [(12, 2), (14, (-1)), (16, (-1)), (17, (-1)), (18, (-1)), (19, (-1)), (43, (-1))] Z Z' → (-2147483648) ≤ z ∧ z ≤ 2147483647 → Post (some (xI z), h')) : mx_J (tB l D b0 ad Hb tau) mt_121 (d + 6) 0 [some (.ref 1), some (xI 0), none] [] h Post := by
    have a1 : 1 < n := lt83 (GI_n hG) rfl
    have s1 : S 1 = .inl (11, [2, 0, 0, 0, 2, 2, 2, 2, 2, 2, 2, 2, 2, 2, 2, 2, 2]) := GI_s hG 1 rfl
    have a34 : 34 < n := lt83 (GI_n hG) rfl
    have s34 : S 34 = .inr ((.object "TitheHeap$Tray"), 4, 2) := GI_s hG 34 rfl
    refine mx_J.step (sn_121 0) (fun _ _ => rfl) ?_
    refine mx_J.step (sn_121 1) (fun _ _ => rfl) ?_
    refine JcI (z := 1) (show mx_Sn _ _ 2 (mx_const (.int 1) 3) from sn_121 2) rfl ?_
    refine JcI (z := 0) (show mx_Sn _ _ 3 (mx_const (.int 0) 4) from sn_121 3) rfl ?_
    obtain ⟨z1, hc1, b1⟩ := ct_146_1_i0 (d := d + 4) (l := l) (D := D) (b0 := b0) (ad := ad) (Hb := Hb) (tau := tau) hx hG (show (-1) ≤ 1 ∧ 1 ≤ 1 by omega) (show (-2147483648) ≤ 0 ∧ 0 ≤ 2147483647 by omega)
    refine Jcv hx (show mx_Sn _ _ 4 (mx_callv 146 4 11 7) from sn_121 4) a1 s1 hc1 rfl rfl rfl ?_
    refine mx_J.step (ls2 := [some (.ref 1), some (xI 0), some (xI z1)]) (sn_121 7) (fun _ _ => rfl) ?_
    refine mx_J.step (sn_121 8) (fun _ _ => rfl) ?_
    have c26 : ∀ (k2_0 : Int) (Z3 : xZ) (h3 : mx_H), (-2147483648) ≤ k2_0 ∧ k2_0 ≤ 2147483647 → XH n s S Z3 h3 → GI n S Z3 → fr' [(12, 2), (14, (-1)), (16, (-1)), (17, (-1)), (18, (-1)), (19, (-1)), (43, (-1))] Z Z3 → mx_J (tB l D b0 ad Hb tau) mt_121 (d + 6) 26 [some (.ref 1), some (xI 0), some (xI z1)] [xI k2_0] h3 Post := by
      intro k2_0 Z3 h3 f2_0 hx3 hG3 hf3
      exact mx_J.ret (sn_121 26) (fun _ _ => rfl) (hP k2_0 Z3 h3 hx3 hG3 (fr_tr (M := [(12, 2), (14, (-1)), (16, (-1)), (17, (-1)), (18, (-1)), (19, (-1)), (43, (-1))]) fr_rf (hf3) (M1 := []) rfl rfl) (by omega))
    refine Jif_ge (show mx_Sn _ _ 9 (mx_if_ge 16 12) from sn_121 9) (by omega) (fun q4 => ?_) (fun q4 => ?_)
    · skip
      refine mx_J.step (sn_121 16) (fun _ _ => rfl) ?_
      refine mx_J.step (sn_121 17) (fun _ _ => rfl) ?_
      refine JgetR (g := 10) (b := 34) hx (show mx_Sn _ _ 18 (mx_getf 11 10 21) from sn_121 18) a1 s1 rfl rfl (hG.prr 1 10 rfl) ?_
      refine mx_J.step (sn_121 21) (fun _ _ => rfl) ?_
      refine JaaldR (i := 0) (b := 44) hx (show mx_Sn _ _ 22 (mx_aald 23) from sn_121 22) a34 s34 (by omega) (show Z 34 0 = 44 by have hq := GI_ex hG 34 0; replace hq : ((0 : Int) ≤ 0 → (0 : Int) ≤ 3 → (Z 34 0) = 44 + 2 * 0) := hq; omega) ?_
      obtain ⟨z6, Z6, h6, hc6, hx6, hG6, hf6, b6⟩ := ct_149_1_44 (d := d + 0) (l := l) (D := D) (b0 := b0) (ad := ad) (Hb := Hb) (tau := tau) hx hG 
      refine Jcv hx (show mx_Sn _ _ 23 (mx_callv 149 2 11 26) from sn_121 23) a1 s1 hc6 rfl rfl rfl ?_
      exact c26 z6 Z6 h6 (by omega) hx6 hG6 (fr_tr (M := [(12, 2), (14, (-1)), (16, (-1)), (17, (-1)), (18, (-1)), (19, (-1)), (43, (-1))]) fr_rf (hf6) (M1 := []) rfl rfl)
    · skip
      refine mx_J.step (sn_121 12) (fun _ _ => rfl) ?_
      refine mx_J.step (sn_121 13) (fun _ _ => rfl) ?_
      exact c26 z1 Z h (by omega) hx hG fr_rf
theorem ct_121_1_i0 {l : Launch} {D : va_G} {b0 : Nat} {ad : Nat → Nat} {Hb : Heap} {tau : Nat → Int64} {d n s : Nat} {S : Nat → xS} {Z : xZ} {h : mx_H} (hx : XH n s S Z h) (hG : GI n S Z)   : ∃ (z : Int) (Z' : xZ) (h' : mx_H), mx_Ca (tB l D b0 ad Hb tau) (d + 7) 121 [.ref 1, xI 0] h (some (xI z), h') ∧ XH n s S Z' h' ∧ GI n S Z' ∧ fr' [(12, 2), (14, (-1)), (16, (-1)), (17, (-1)), (18, (-1)), (19, (-1)), (43, (-1))] Z Z' ∧ ((-2147483648) ≤ z ∧ z ≤ 2147483647) := by
  obtain ⟨r, hca, z, Z', h', e, q⟩ := Jmt (B := tB l D b0 ad Hb tau) (M := mt_121) (mi := 121) (as := [.ref 1, xI 0]) (d := d + 6) (ls := [some (.ref 1), some (xI 0), none]) rfl rfl rfl rfl rfl rfl (cw_121_1_i0 (l := l) (D := D) (b0 := b0) (ad := ad) (Hb := Hb) (tau := tau) (d := d) (Post := fun r => ∃ (z : Int) (Z' : xZ) (h' : mx_H), r = (some (xI z), h') ∧ XH n s S Z' h' ∧ GI n S Z' ∧ fr' [(12, 2), (14, (-1)), (16, (-1)), (17, (-1)), (18, (-1)), (19, (-1)), (43, (-1))] Z Z' ∧ ((-2147483648) ≤ z ∧ z ≤ 2147483647)) hx hG  (fun z Z' h' q1 q2 q3 q4 => ⟨z, Z', h', rfl, q1, q2, q3, q4⟩))
  subst e; exact ⟨z, Z', h', hca, q⟩
set_option maxRecDepth 100000 in
theorem cw_121_1_i1 {l : Launch} {D : va_G} {b0 : Nat} {ad : Nat → Nat} {Hb : Heap} {tau : Nat → Int64} {d n s : Nat} {S : Nat → xS} {Z : xZ} {h : mx_H} {Post : mx_R → Prop} (hx : XH n s S Z h) (hG : GI n S Z)   (hP : ∀ (z : Int) (Z' : xZ) (h' : mx_H), XH n s S Z' h' → GI n S Z' → fr' [(12, 2), (14, (-1)), (16, (-1)), (17, (-1)), (18, (-1)), (19, (-1)), (43, (-1))] Z Z' → (-2147483648) ≤ z ∧ z ≤ 2147483647 → Post (some (xI z), h')) : mx_J (tB l D b0 ad Hb tau) mt_121 (d + 6) 0 [some (.ref 1), some (xI 1), none] [] h Post := by
    have a1 : 1 < n := lt83 (GI_n hG) rfl
    have s1 : S 1 = .inl (11, [2, 0, 0, 0, 2, 2, 2, 2, 2, 2, 2, 2, 2, 2, 2, 2, 2]) := GI_s hG 1 rfl
    have a34 : 34 < n := lt83 (GI_n hG) rfl
    have s34 : S 34 = .inr ((.object "TitheHeap$Tray"), 4, 2) := GI_s hG 34 rfl
    refine mx_J.step (sn_121 0) (fun _ _ => rfl) ?_
    refine mx_J.step (sn_121 1) (fun _ _ => rfl) ?_
    refine JcI (z := 1) (show mx_Sn _ _ 2 (mx_const (.int 1) 3) from sn_121 2) rfl ?_
    refine JcI (z := 0) (show mx_Sn _ _ 3 (mx_const (.int 0) 4) from sn_121 3) rfl ?_
    obtain ⟨z1, hc1, b1⟩ := ct_146_1_i1 (d := d + 4) (l := l) (D := D) (b0 := b0) (ad := ad) (Hb := Hb) (tau := tau) hx hG (show (-1) ≤ 1 ∧ 1 ≤ 1 by omega) (show (-2147483648) ≤ 0 ∧ 0 ≤ 2147483647 by omega)
    refine Jcv hx (show mx_Sn _ _ 4 (mx_callv 146 4 11 7) from sn_121 4) a1 s1 hc1 rfl rfl rfl ?_
    refine mx_J.step (ls2 := [some (.ref 1), some (xI 1), some (xI z1)]) (sn_121 7) (fun _ _ => rfl) ?_
    refine mx_J.step (sn_121 8) (fun _ _ => rfl) ?_
    have c26 : ∀ (k2_0 : Int) (Z3 : xZ) (h3 : mx_H), (-2147483648) ≤ k2_0 ∧ k2_0 ≤ 2147483647 → XH n s S Z3 h3 → GI n S Z3 → fr' [(12, 2), (14, (-1)), (16, (-1)), (17, (-1)), (18, (-1)), (19, (-1)), (43, (-1))] Z Z3 → mx_J (tB l D b0 ad Hb tau) mt_121 (d + 6) 26 [some (.ref 1), some (xI 1), some (xI z1)] [xI k2_0] h3 Post := by
      intro k2_0 Z3 h3 f2_0 hx3 hG3 hf3
      exact mx_J.ret (sn_121 26) (fun _ _ => rfl) (hP k2_0 Z3 h3 hx3 hG3 (fr_tr (M := [(12, 2), (14, (-1)), (16, (-1)), (17, (-1)), (18, (-1)), (19, (-1)), (43, (-1))]) fr_rf (hf3) (M1 := []) rfl rfl) (by omega))
    refine Jif_ge (show mx_Sn _ _ 9 (mx_if_ge 16 12) from sn_121 9) (by omega) (fun q4 => ?_) (fun q4 => ?_)
    · skip
      refine mx_J.step (sn_121 16) (fun _ _ => rfl) ?_
      refine mx_J.step (sn_121 17) (fun _ _ => rfl) ?_
      refine JgetR (g := 10) (b := 34) hx (show mx_Sn _ _ 18 (mx_getf 11 10 21) from sn_121 18) a1 s1 rfl rfl (hG.prr 1 10 rfl) ?_
      refine mx_J.step (sn_121 21) (fun _ _ => rfl) ?_
      refine JaaldR (i := 1) (b := 46) hx (show mx_Sn _ _ 22 (mx_aald 23) from sn_121 22) a34 s34 (by omega) (show Z 34 1 = 46 by have hq := GI_ex hG 34 1; replace hq : ((0 : Int) ≤ 1 → (1 : Int) ≤ 3 → (Z 34 1) = 44 + 2 * 1) := hq; omega) ?_
      obtain ⟨z6, Z6, h6, hc6, hx6, hG6, hf6, b6⟩ := ct_149_1_46 (d := d + 0) (l := l) (D := D) (b0 := b0) (ad := ad) (Hb := Hb) (tau := tau) hx hG 
      refine Jcv hx (show mx_Sn _ _ 23 (mx_callv 149 2 11 26) from sn_121 23) a1 s1 hc6 rfl rfl rfl ?_
      exact c26 z6 Z6 h6 (by omega) hx6 hG6 (fr_tr (M := [(12, 2), (14, (-1)), (16, (-1)), (17, (-1)), (18, (-1)), (19, (-1)), (43, (-1))]) fr_rf (hf6) (M1 := []) rfl rfl)
    · skip
      refine mx_J.step (sn_121 12) (fun _ _ => rfl) ?_
      refine mx_J.step (sn_121 13) (fun _ _ => rfl) ?_
      exact c26 z1 Z h (by omega) hx hG fr_rf
theorem ct_121_1_i1 {l : Launch} {D : va_G} {b0 : Nat} {ad : Nat → Nat} {Hb : Heap} {tau : Nat → Int64} {d n s : Nat} {S : Nat → xS} {Z : xZ} {h : mx_H} (hx : XH n s S Z h) (hG : GI n S Z)   : ∃ (z : Int) (Z' : xZ) (h' : mx_H), mx_Ca (tB l D b0 ad Hb tau) (d + 7) 121 [.ref 1, xI 1] h (some (xI z), h') ∧ XH n s S Z' h' ∧ GI n S Z' ∧ fr' [(12, 2), (14, (-1)), (16, (-1)), (17, (-1)), (18, (-1)), (19, (-1)), (43, (-1))] Z Z' ∧ ((-2147483648) ≤ z ∧ z ≤ 2147483647) := by
  obtain ⟨r, hca, z, Z', h', e, q⟩ := Jmt (B := tB l D b0 ad Hb tau) (M := mt_121) (mi := 121) (as := [.ref 1, xI 1]) (d := d + 6) (ls := [some (.ref 1), some (xI 1), none]) rfl rfl rfl rfl rfl rfl (cw_121_1_i1 (l := l) (D := D) (b0 := b0) (ad := ad) (Hb := Hb) (tau := tau) (d := d) (Post := fun r => ∃ (z : Int) (Z' : xZ) (h' : mx_H), r = (some (xI z), h') ∧ XH n s S Z' h' ∧ GI n S Z' ∧ fr' [(12, 2), (14, (-1)), (16, (-1)), (17, (-1)), (18, (-1)), (19, (-1)), (43, (-1))] Z Z' ∧ ((-2147483648) ≤ z ∧ z ≤ 2147483647)) hx hG  (fun z Z' h' q1 q2 q3 q4 => ⟨z, Z', h', rfl, q1, q2, q3, q4⟩))
  subst e; exact ⟨z, Z', h', hca, q⟩
set_option maxRecDepth 100000 in
theorem cw_121_1_i2 {l : Launch} {D : va_G} {b0 : Nat} {ad : Nat → Nat} {Hb : Heap} {tau : Nat → Int64} {d n s : Nat} {S : Nat → xS} {Z : xZ} {h : mx_H} {Post : mx_R → Prop} (hx : XH n s S Z h) (hG : GI n S Z)   (hP : ∀ (z : Int) (Z' : xZ) (h' : mx_H), XH n s S Z' h' → GI n S Z' → fr' [(12, 2), (14, (-1)), (16, (-1)), (17, (-1)), (18, (-1)), (19, (-1)), (43, (-1))] Z Z' → (-2147483648) ≤ z ∧ z ≤ 2147483647 → Post (some (xI z), h')) : mx_J (tB l D b0 ad Hb tau) mt_121 (d + 6) 0 [some (.ref 1), some (xI 2), none] [] h Post := by
    have a1 : 1 < n := lt83 (GI_n hG) rfl
    have s1 : S 1 = .inl (11, [2, 0, 0, 0, 2, 2, 2, 2, 2, 2, 2, 2, 2, 2, 2, 2, 2]) := GI_s hG 1 rfl
    have a34 : 34 < n := lt83 (GI_n hG) rfl
    have s34 : S 34 = .inr ((.object "TitheHeap$Tray"), 4, 2) := GI_s hG 34 rfl
    refine mx_J.step (sn_121 0) (fun _ _ => rfl) ?_
    refine mx_J.step (sn_121 1) (fun _ _ => rfl) ?_
    refine JcI (z := 1) (show mx_Sn _ _ 2 (mx_const (.int 1) 3) from sn_121 2) rfl ?_
    refine JcI (z := 0) (show mx_Sn _ _ 3 (mx_const (.int 0) 4) from sn_121 3) rfl ?_
    obtain ⟨z1, hc1, b1⟩ := ct_146_1_i2 (d := d + 4) (l := l) (D := D) (b0 := b0) (ad := ad) (Hb := Hb) (tau := tau) hx hG (show (-1) ≤ 1 ∧ 1 ≤ 1 by omega) (show (-2147483648) ≤ 0 ∧ 0 ≤ 2147483647 by omega)
    refine Jcv hx (show mx_Sn _ _ 4 (mx_callv 146 4 11 7) from sn_121 4) a1 s1 hc1 rfl rfl rfl ?_
    refine mx_J.step (ls2 := [some (.ref 1), some (xI 2), some (xI z1)]) (sn_121 7) (fun _ _ => rfl) ?_
    refine mx_J.step (sn_121 8) (fun _ _ => rfl) ?_
    have c26 : ∀ (k2_0 : Int) (Z3 : xZ) (h3 : mx_H), (-2147483648) ≤ k2_0 ∧ k2_0 ≤ 2147483647 → XH n s S Z3 h3 → GI n S Z3 → fr' [(12, 2), (14, (-1)), (16, (-1)), (17, (-1)), (18, (-1)), (19, (-1)), (43, (-1))] Z Z3 → mx_J (tB l D b0 ad Hb tau) mt_121 (d + 6) 26 [some (.ref 1), some (xI 2), some (xI z1)] [xI k2_0] h3 Post := by
      intro k2_0 Z3 h3 f2_0 hx3 hG3 hf3
      exact mx_J.ret (sn_121 26) (fun _ _ => rfl) (hP k2_0 Z3 h3 hx3 hG3 (fr_tr (M := [(12, 2), (14, (-1)), (16, (-1)), (17, (-1)), (18, (-1)), (19, (-1)), (43, (-1))]) fr_rf (hf3) (M1 := []) rfl rfl) (by omega))
    refine Jif_ge (show mx_Sn _ _ 9 (mx_if_ge 16 12) from sn_121 9) (by omega) (fun q4 => ?_) (fun q4 => ?_)
    · skip
      refine mx_J.step (sn_121 16) (fun _ _ => rfl) ?_
      refine mx_J.step (sn_121 17) (fun _ _ => rfl) ?_
      refine JgetR (g := 10) (b := 34) hx (show mx_Sn _ _ 18 (mx_getf 11 10 21) from sn_121 18) a1 s1 rfl rfl (hG.prr 1 10 rfl) ?_
      refine mx_J.step (sn_121 21) (fun _ _ => rfl) ?_
      refine JaaldR (i := 2) (b := 48) hx (show mx_Sn _ _ 22 (mx_aald 23) from sn_121 22) a34 s34 (by omega) (show Z 34 2 = 48 by have hq := GI_ex hG 34 2; replace hq : ((0 : Int) ≤ 2 → (2 : Int) ≤ 3 → (Z 34 2) = 44 + 2 * 2) := hq; omega) ?_
      obtain ⟨z6, Z6, h6, hc6, hx6, hG6, hf6, b6⟩ := ct_149_1_48 (d := d + 0) (l := l) (D := D) (b0 := b0) (ad := ad) (Hb := Hb) (tau := tau) hx hG 
      refine Jcv hx (show mx_Sn _ _ 23 (mx_callv 149 2 11 26) from sn_121 23) a1 s1 hc6 rfl rfl rfl ?_
      exact c26 z6 Z6 h6 (by omega) hx6 hG6 (fr_tr (M := [(12, 2), (14, (-1)), (16, (-1)), (17, (-1)), (18, (-1)), (19, (-1)), (43, (-1))]) fr_rf (hf6) (M1 := []) rfl rfl)
    · skip
      refine mx_J.step (sn_121 12) (fun _ _ => rfl) ?_
      refine mx_J.step (sn_121 13) (fun _ _ => rfl) ?_
      exact c26 z1 Z h (by omega) hx hG fr_rf
theorem ct_121_1_i2 {l : Launch} {D : va_G} {b0 : Nat} {ad : Nat → Nat} {Hb : Heap} {tau : Nat → Int64} {d n s : Nat} {S : Nat → xS} {Z : xZ} {h : mx_H} (hx : XH n s S Z h) (hG : GI n S Z)   : ∃ (z : Int) (Z' : xZ) (h' : mx_H), mx_Ca (tB l D b0 ad Hb tau) (d + 7) 121 [.ref 1, xI 2] h (some (xI z), h') ∧ XH n s S Z' h' ∧ GI n S Z' ∧ fr' [(12, 2), (14, (-1)), (16, (-1)), (17, (-1)), (18, (-1)), (19, (-1)), (43, (-1))] Z Z' ∧ ((-2147483648) ≤ z ∧ z ≤ 2147483647) := by
  obtain ⟨r, hca, z, Z', h', e, q⟩ := Jmt (B := tB l D b0 ad Hb tau) (M := mt_121) (mi := 121) (as := [.ref 1, xI 2]) (d := d + 6) (ls := [some (.ref 1), some (xI 2), none]) rfl rfl rfl rfl rfl rfl (cw_121_1_i2 (l := l) (D := D) (b0 := b0) (ad := ad) (Hb := Hb) (tau := tau) (d := d) (Post := fun r => ∃ (z : Int) (Z' : xZ) (h' : mx_H), r = (some (xI z), h') ∧ XH n s S Z' h' ∧ GI n S Z' ∧ fr' [(12, 2), (14, (-1)), (16, (-1)), (17, (-1)), (18, (-1)), (19, (-1)), (43, (-1))] Z Z' ∧ ((-2147483648) ≤ z ∧ z ≤ 2147483647)) hx hG  (fun z Z' h' q1 q2 q3 q4 => ⟨z, Z', h', rfl, q1, q2, q3, q4⟩))
  subst e; exact ⟨z, Z', h', hca, q⟩
set_option maxRecDepth 100000 in
theorem cw_121_1_i3 {l : Launch} {D : va_G} {b0 : Nat} {ad : Nat → Nat} {Hb : Heap} {tau : Nat → Int64} {d n s : Nat} {S : Nat → xS} {Z : xZ} {h : mx_H} {Post : mx_R → Prop} (hx : XH n s S Z h) (hG : GI n S Z)   (hP : ∀ (z : Int) (Z' : xZ) (h' : mx_H), XH n s S Z' h' → GI n S Z' → fr' [(12, 2), (14, (-1)), (16, (-1)), (17, (-1)), (18, (-1)), (19, (-1)), (43, (-1))] Z Z' → (-2147483648) ≤ z ∧ z ≤ 2147483647 → Post (some (xI z), h')) : mx_J (tB l D b0 ad Hb tau) mt_121 (d + 6) 0 [some (.ref 1), some (xI 3), none] [] h Post := by
    have a1 : 1 < n := lt83 (GI_n hG) rfl
    have s1 : S 1 = .inl (11, [2, 0, 0, 0, 2, 2, 2, 2, 2, 2, 2, 2, 2, 2, 2, 2, 2]) := GI_s hG 1 rfl
    have a34 : 34 < n := lt83 (GI_n hG) rfl
    have s34 : S 34 = .inr ((.object "TitheHeap$Tray"), 4, 2) := GI_s hG 34 rfl
    refine mx_J.step (sn_121 0) (fun _ _ => rfl) ?_
    refine mx_J.step (sn_121 1) (fun _ _ => rfl) ?_
    refine JcI (z := 1) (show mx_Sn _ _ 2 (mx_const (.int 1) 3) from sn_121 2) rfl ?_
    refine JcI (z := 0) (show mx_Sn _ _ 3 (mx_const (.int 0) 4) from sn_121 3) rfl ?_
    obtain ⟨z1, hc1, b1⟩ := ct_146_1_i3 (d := d + 4) (l := l) (D := D) (b0 := b0) (ad := ad) (Hb := Hb) (tau := tau) hx hG (show (-1) ≤ 1 ∧ 1 ≤ 1 by omega) (show (-2147483648) ≤ 0 ∧ 0 ≤ 2147483647 by omega)
    refine Jcv hx (show mx_Sn _ _ 4 (mx_callv 146 4 11 7) from sn_121 4) a1 s1 hc1 rfl rfl rfl ?_
    refine mx_J.step (ls2 := [some (.ref 1), some (xI 3), some (xI z1)]) (sn_121 7) (fun _ _ => rfl) ?_
    refine mx_J.step (sn_121 8) (fun _ _ => rfl) ?_
    have c26 : ∀ (k2_0 : Int) (Z3 : xZ) (h3 : mx_H), (-2147483648) ≤ k2_0 ∧ k2_0 ≤ 2147483647 → XH n s S Z3 h3 → GI n S Z3 → fr' [(12, 2), (14, (-1)), (16, (-1)), (17, (-1)), (18, (-1)), (19, (-1)), (43, (-1))] Z Z3 → mx_J (tB l D b0 ad Hb tau) mt_121 (d + 6) 26 [some (.ref 1), some (xI 3), some (xI z1)] [xI k2_0] h3 Post := by
      intro k2_0 Z3 h3 f2_0 hx3 hG3 hf3
      exact mx_J.ret (sn_121 26) (fun _ _ => rfl) (hP k2_0 Z3 h3 hx3 hG3 (fr_tr (M := [(12, 2), (14, (-1)), (16, (-1)), (17, (-1)), (18, (-1)), (19, (-1)), (43, (-1))]) fr_rf (hf3) (M1 := []) rfl rfl) (by omega))
    refine Jif_ge (show mx_Sn _ _ 9 (mx_if_ge 16 12) from sn_121 9) (by omega) (fun q4 => ?_) (fun q4 => ?_)
    · skip
      refine mx_J.step (sn_121 16) (fun _ _ => rfl) ?_
      refine mx_J.step (sn_121 17) (fun _ _ => rfl) ?_
      refine JgetR (g := 10) (b := 34) hx (show mx_Sn _ _ 18 (mx_getf 11 10 21) from sn_121 18) a1 s1 rfl rfl (hG.prr 1 10 rfl) ?_
      refine mx_J.step (sn_121 21) (fun _ _ => rfl) ?_
      refine JaaldR (i := 3) (b := 50) hx (show mx_Sn _ _ 22 (mx_aald 23) from sn_121 22) a34 s34 (by omega) (show Z 34 3 = 50 by have hq := GI_ex hG 34 3; replace hq : ((0 : Int) ≤ 3 → (3 : Int) ≤ 3 → (Z 34 3) = 44 + 2 * 3) := hq; omega) ?_
      obtain ⟨z6, Z6, h6, hc6, hx6, hG6, hf6, b6⟩ := ct_149_1_50 (d := d + 0) (l := l) (D := D) (b0 := b0) (ad := ad) (Hb := Hb) (tau := tau) hx hG 
      refine Jcv hx (show mx_Sn _ _ 23 (mx_callv 149 2 11 26) from sn_121 23) a1 s1 hc6 rfl rfl rfl ?_
      exact c26 z6 Z6 h6 (by omega) hx6 hG6 (fr_tr (M := [(12, 2), (14, (-1)), (16, (-1)), (17, (-1)), (18, (-1)), (19, (-1)), (43, (-1))]) fr_rf (hf6) (M1 := []) rfl rfl)
    · skip
      refine mx_J.step (sn_121 12) (fun _ _ => rfl) ?_
      refine mx_J.step (sn_121 13) (fun _ _ => rfl) ?_
      exact c26 z1 Z h (by omega) hx hG fr_rf
theorem ct_121_1_i3 {l : Launch} {D : va_G} {b0 : Nat} {ad : Nat → Nat} {Hb : Heap} {tau : Nat → Int64} {d n s : Nat} {S : Nat → xS} {Z : xZ} {h : mx_H} (hx : XH n s S Z h) (hG : GI n S Z)   : ∃ (z : Int) (Z' : xZ) (h' : mx_H), mx_Ca (tB l D b0 ad Hb tau) (d + 7) 121 [.ref 1, xI 3] h (some (xI z), h') ∧ XH n s S Z' h' ∧ GI n S Z' ∧ fr' [(12, 2), (14, (-1)), (16, (-1)), (17, (-1)), (18, (-1)), (19, (-1)), (43, (-1))] Z Z' ∧ ((-2147483648) ≤ z ∧ z ≤ 2147483647) := by
  obtain ⟨r, hca, z, Z', h', e, q⟩ := Jmt (B := tB l D b0 ad Hb tau) (M := mt_121) (mi := 121) (as := [.ref 1, xI 3]) (d := d + 6) (ls := [some (.ref 1), some (xI 3), none]) rfl rfl rfl rfl rfl rfl (cw_121_1_i3 (l := l) (D := D) (b0 := b0) (ad := ad) (Hb := Hb) (tau := tau) (d := d) (Post := fun r => ∃ (z : Int) (Z' : xZ) (h' : mx_H), r = (some (xI z), h') ∧ XH n s S Z' h' ∧ GI n S Z' ∧ fr' [(12, 2), (14, (-1)), (16, (-1)), (17, (-1)), (18, (-1)), (19, (-1)), (43, (-1))] Z Z' ∧ ((-2147483648) ≤ z ∧ z ≤ 2147483647)) hx hG  (fun z Z' h' q1 q2 q3 q4 => ⟨z, Z', h', rfl, q1, q2, q3, q4⟩))
  subst e; exact ⟨z, Z', h', hca, q⟩
set_option maxRecDepth 100000 in
theorem cw_121_1_n {l : Launch} {D : va_G} {b0 : Nat} {ad : Nat → Nat} {Hb : Heap} {tau : Nat → Int64} {d n s : Nat} {S : Nat → xS} {Z : xZ} {h : mx_H} {Post : mx_R → Prop} (hx : XH n s S Z h) (hG : GI n S Z)  {x0 : Int} (p0 : (-2147483648) ≤ x0 ∧ x0 ≤ (-1)) (hP : ∀ z : Int, (-2) ≤ z ∧ z ≤ (-2) → Post (some (xI z), h)) : mx_J (tB l D b0 ad Hb tau) mt_121 (d + 2) 0 [some (.ref 1), some (xI x0), none] [] h Post := by
    have a1 : 1 < n := lt83 (GI_n hG) rfl
    have s1 : S 1 = .inl (11, [2, 0, 0, 0, 2, 2, 2, 2, 2, 2, 2, 2, 2, 2, 2, 2, 2]) := GI_s hG 1 rfl
    refine mx_J.step (sn_121 0) (fun _ _ => rfl) ?_
    refine mx_J.step (sn_121 1) (fun _ _ => rfl) ?_
    refine JcI (z := 1) (show mx_Sn _ _ 2 (mx_const (.int 1) 3) from sn_121 2) rfl ?_
    refine JcI (z := 0) (show mx_Sn _ _ 3 (mx_const (.int 0) 4) from sn_121 3) rfl ?_
    obtain ⟨z1, hc1, b1⟩ := ct_146_1_n (d := d + 0) (l := l) (D := D) (b0 := b0) (ad := ad) (Hb := Hb) (tau := tau) hx hG (show (-2147483648) ≤ x0 ∧ x0 ≤ (-1) by omega) (show (-1) ≤ 1 ∧ 1 ≤ 1 by omega) (show (-2147483648) ≤ 0 ∧ 0 ≤ 2147483647 by omega)
    refine Jcv hx (show mx_Sn _ _ 4 (mx_callv 146 4 11 7) from sn_121 4) a1 s1 hc1 rfl rfl rfl ?_
    refine mx_J.step (ls2 := [some (.ref 1), some (xI x0), some (xI z1)]) (sn_121 7) (fun _ _ => rfl) ?_
    refine mx_J.step (sn_121 8) (fun _ _ => rfl) ?_
    refine Jif_ge (show mx_Sn _ _ 9 (mx_if_ge 16 12) from sn_121 9) (by omega) (fun q2 => ?_) (fun q2 => ?_)
    · skip
      exfalso; omega
    · skip
      refine mx_J.step (sn_121 12) (fun _ _ => rfl) ?_
      refine mx_J.step (sn_121 13) (fun _ _ => rfl) ?_
      exact mx_J.ret (sn_121 26) (fun _ _ => rfl) (hP z1 (by omega))
theorem ct_121_1_n {l : Launch} {D : va_G} {b0 : Nat} {ad : Nat → Nat} {Hb : Heap} {tau : Nat → Int64} {d n s : Nat} {S : Nat → xS} {Z : xZ} {h : mx_H} (hx : XH n s S Z h) (hG : GI n S Z)  {x0 : Int} (p0 : (-2147483648) ≤ x0 ∧ x0 ≤ (-1)) : ∃ z : Int, mx_Ca (tB l D b0 ad Hb tau) (d + 3) 121 [.ref 1, xI x0] h (some (xI z), h) ∧ ((-2) ≤ z ∧ z ≤ (-2)) := by
  obtain ⟨r, hca, z, e, hp⟩ := Jmt (B := tB l D b0 ad Hb tau) (M := mt_121) (mi := 121) (as := [.ref 1, xI x0]) (d := d + 2) (ls := [some (.ref 1), some (xI x0), none]) rfl rfl rfl rfl rfl rfl (cw_121_1_n (l := l) (D := D) (b0 := b0) (ad := ad) (Hb := Hb) (tau := tau) (d := d) (Post := fun r => ∃ z : Int, r = (some (xI z), h) ∧ ((-2) ≤ z ∧ z ≤ (-2))) hx hG p0 (fun z hz => ⟨z, rfl, hz⟩))
  subst e; exact ⟨z, hca, hp⟩
set_option maxRecDepth 100000 in
theorem cw_121_1_p {l : Launch} {D : va_G} {b0 : Nat} {ad : Nat → Nat} {Hb : Heap} {tau : Nat → Int64} {d n s : Nat} {S : Nat → xS} {Z : xZ} {h : mx_H} {Post : mx_R → Prop} (hx : XH n s S Z h) (hG : GI n S Z)  {x0 : Int} (p0 : 4 ≤ x0 ∧ x0 ≤ 2147483647) (hP : ∀ z : Int, (-2) ≤ z ∧ z ≤ (-2) → Post (some (xI z), h)) : mx_J (tB l D b0 ad Hb tau) mt_121 (d + 2) 0 [some (.ref 1), some (xI x0), none] [] h Post := by
    have a1 : 1 < n := lt83 (GI_n hG) rfl
    have s1 : S 1 = .inl (11, [2, 0, 0, 0, 2, 2, 2, 2, 2, 2, 2, 2, 2, 2, 2, 2, 2]) := GI_s hG 1 rfl
    refine mx_J.step (sn_121 0) (fun _ _ => rfl) ?_
    refine mx_J.step (sn_121 1) (fun _ _ => rfl) ?_
    refine JcI (z := 1) (show mx_Sn _ _ 2 (mx_const (.int 1) 3) from sn_121 2) rfl ?_
    refine JcI (z := 0) (show mx_Sn _ _ 3 (mx_const (.int 0) 4) from sn_121 3) rfl ?_
    obtain ⟨z1, hc1, b1⟩ := ct_146_1_p (d := d + 0) (l := l) (D := D) (b0 := b0) (ad := ad) (Hb := Hb) (tau := tau) hx hG (show 4 ≤ x0 ∧ x0 ≤ 2147483647 by omega) (show (-1) ≤ 1 ∧ 1 ≤ 1 by omega) (show (-2147483648) ≤ 0 ∧ 0 ≤ 2147483647 by omega)
    refine Jcv hx (show mx_Sn _ _ 4 (mx_callv 146 4 11 7) from sn_121 4) a1 s1 hc1 rfl rfl rfl ?_
    refine mx_J.step (ls2 := [some (.ref 1), some (xI x0), some (xI z1)]) (sn_121 7) (fun _ _ => rfl) ?_
    refine mx_J.step (sn_121 8) (fun _ _ => rfl) ?_
    refine Jif_ge (show mx_Sn _ _ 9 (mx_if_ge 16 12) from sn_121 9) (by omega) (fun q2 => ?_) (fun q2 => ?_)
    · skip
      exfalso; omega
    · skip
      refine mx_J.step (sn_121 12) (fun _ _ => rfl) ?_
      refine mx_J.step (sn_121 13) (fun _ _ => rfl) ?_
      exact mx_J.ret (sn_121 26) (fun _ _ => rfl) (hP z1 (by omega))
theorem ct_121_1_p {l : Launch} {D : va_G} {b0 : Nat} {ad : Nat → Nat} {Hb : Heap} {tau : Nat → Int64} {d n s : Nat} {S : Nat → xS} {Z : xZ} {h : mx_H} (hx : XH n s S Z h) (hG : GI n S Z)  {x0 : Int} (p0 : 4 ≤ x0 ∧ x0 ≤ 2147483647) : ∃ z : Int, mx_Ca (tB l D b0 ad Hb tau) (d + 3) 121 [.ref 1, xI x0] h (some (xI z), h) ∧ ((-2) ≤ z ∧ z ≤ (-2)) := by
  obtain ⟨r, hca, z, e, hp⟩ := Jmt (B := tB l D b0 ad Hb tau) (M := mt_121) (mi := 121) (as := [.ref 1, xI x0]) (d := d + 2) (ls := [some (.ref 1), some (xI x0), none]) rfl rfl rfl rfl rfl rfl (cw_121_1_p (l := l) (D := D) (b0 := b0) (ad := ad) (Hb := Hb) (tau := tau) (d := d) (Post := fun r => ∃ z : Int, r = (some (xI z), h) ∧ ((-2) ≤ z ∧ z ≤ (-2))) hx hG p0 (fun z hz => ⟨z, rfl, hz⟩))
  subst e; exact ⟨z, hca, hp⟩
theorem ct_121_1 {l : Launch} {D : va_G} {b0 : Nat} {ad : Nat → Nat} {Hb : Heap} {tau : Nat → Int64} {d n s : Nat} {S : Nat → xS} {Z : xZ} {h : mx_H} (hx : XH n s S Z h) (hG : GI n S Z) {x0 : Int} (p0 : (-2147483648) ≤ x0 ∧ x0 ≤ 2147483647) : ∃ (z : Int) (Z' : xZ) (h' : mx_H), mx_Ca (tB l D b0 ad Hb tau) (d + 7) 121 [.ref 1, xI x0] h (some (xI z), h') ∧ XH n s S Z' h' ∧ GI n S Z' ∧ fr' [(12, 2), (14, (-1)), (16, (-1)), (17, (-1)), (18, (-1)), (19, (-1)), (43, (-1))] Z Z' ∧ ((-2147483648) ≤ z ∧ z ≤ 2147483647) := by
  have hc : x0 = 0 ∨ x0 = 1 ∨ x0 = 2 ∨ x0 = 3 ∨ ((-2147483648) ≤ x0 ∧ x0 ≤ (-1)) ∨ (4 ≤ x0 ∧ x0 ≤ 2147483647) := by omega
  rcases hc with hc | hc | hc | hc | hc | hc
  · subst hc
    obtain ⟨z, Z', h', hca, q1, q2, q3, b⟩ := ct_121_1_i0 (d := d + 0) (l := l) (D := D) (b0 := b0) (ad := ad) (Hb := Hb) (tau := tau) hx hG 
    exact ⟨z, Z', h', hca, q1, q2, fr_tr (M1 := []) fr_rf q3 rfl rfl, by omega⟩
  · subst hc
    obtain ⟨z, Z', h', hca, q1, q2, q3, b⟩ := ct_121_1_i1 (d := d + 0) (l := l) (D := D) (b0 := b0) (ad := ad) (Hb := Hb) (tau := tau) hx hG 
    exact ⟨z, Z', h', hca, q1, q2, fr_tr (M1 := []) fr_rf q3 rfl rfl, by omega⟩
  · subst hc
    obtain ⟨z, Z', h', hca, q1, q2, q3, b⟩ := ct_121_1_i2 (d := d + 0) (l := l) (D := D) (b0 := b0) (ad := ad) (Hb := Hb) (tau := tau) hx hG 
    exact ⟨z, Z', h', hca, q1, q2, fr_tr (M1 := []) fr_rf q3 rfl rfl, by omega⟩
  · subst hc
    obtain ⟨z, Z', h', hca, q1, q2, q3, b⟩ := ct_121_1_i3 (d := d + 0) (l := l) (D := D) (b0 := b0) (ad := ad) (Hb := Hb) (tau := tau) hx hG 
    exact ⟨z, Z', h', hca, q1, q2, fr_tr (M1 := []) fr_rf q3 rfl rfl, by omega⟩
  · skip
    obtain ⟨z, hca, b⟩ := ct_121_1_n (d := d + 4) (l := l) (D := D) (b0 := b0) (ad := ad) (Hb := Hb) (tau := tau) hx hG hc
    exact ⟨z, Z, h, hca, hx, hG, fr_rf, by omega⟩
  · skip
    obtain ⟨z, hca, b⟩ := ct_121_1_p (d := d + 4) (l := l) (D := D) (b0 := b0) (ad := ad) (Hb := Hb) (tau := tau) hx hG hc
    exact ⟨z, Z, h, hca, hx, hG, fr_rf, by omega⟩
set_option maxRecDepth 100000 in
theorem cw_122_1_i0 {l : Launch} {D : va_G} {b0 : Nat} {ad : Nat → Nat} {Hb : Heap} {tau : Nat → Int64} {d n s : Nat} {S : Nat → xS} {Z : xZ} {h : mx_H} {Post : mx_R → Prop} (hx : XH n s S Z h) (hG : GI n S Z)   (hP : ∀ (z : Int) (Z' : xZ) (h' : mx_H), XH n s S Z' h' → GI n S Z' → fr' [(12, 2), (14, (-1)), (16, (-1)), (17, (-1)), (18, (-1)), (19, (-1)), (42, (-1)), (43, (-1))] Z Z' → (-6) ≤ z ∧ z ≤ 18 → Post (some (xI z), h')) : mx_J (tB l D b0 ad Hb tau) mt_122 (d + 6) 0 [some (.ref 1), some (xI 0), none, none, none, none, none, none] [] h Post := by
    have a1 : 1 < n := lt83 (GI_n hG) rfl
    have s1 : S 1 = .inl (11, [2, 0, 0, 0, 2, 2, 2, 2, 2, 2, 2, 2, 2, 2, 2, 2, 2]) := GI_s hG 1 rfl
    have a34 : 34 < n := lt83 (GI_n hG) rfl
    have s34 : S 34 = .inr ((.object "TitheHeap$Tray"), 4, 2) := GI_s hG 34 rfl
    refine mx_J.step (sn_122 0) (fun _ _ => rfl) ?_
    refine mx_J.step (sn_122 1) (fun _ _ => rfl) ?_
    refine JcI (z := 1) (show mx_Sn _ _ 2 (mx_const (.int 1) 3) from sn_122 2) rfl ?_
    refine JcI (z := 0) (show mx_Sn _ _ 3 (mx_const (.int 0) 4) from sn_122 3) rfl ?_
    obtain ⟨z1, hc1, b1⟩ := ct_146_1_i0 (d := d + 4) (l := l) (D := D) (b0 := b0) (ad := ad) (Hb := Hb) (tau := tau) hx hG (show (-1) ≤ 1 ∧ 1 ≤ 1 by omega) (show (-2147483648) ≤ 0 ∧ 0 ≤ 2147483647 by omega)
    refine Jcv hx (show mx_Sn _ _ 4 (mx_callv 146 4 11 7) from sn_122 4) a1 s1 hc1 rfl rfl rfl ?_
    refine mx_J.step (ls2 := [some (.ref 1), some (xI 0), some (xI z1), none, none, none, none, none]) (sn_122 7) (fun _ _ => rfl) ?_
    refine mx_J.step (sn_122 8) (fun _ _ => rfl) ?_
    refine Jif_ge (show mx_Sn _ _ 9 (mx_if_ge 14 12) from sn_122 9) (by omega) (fun q2 => ?_) (fun q2 => ?_)
    · skip
      refine mx_J.step (sn_122 14) (fun _ _ => rfl) ?_
      refine mx_J.step (sn_122 15) (fun _ _ => rfl) ?_
      refine JgetR (g := 10) (b := 34) hx (show mx_Sn _ _ 16 (mx_getf 11 10 19) from sn_122 16) a1 s1 rfl rfl (hG.prr 1 10 rfl) ?_
      refine mx_J.step (sn_122 19) (fun _ _ => rfl) ?_
      refine JaaldR (i := 0) (b := 44) hx (show mx_Sn _ _ 20 (mx_aald 21) from sn_122 20) a34 s34 (by omega) (show Z 34 0 = 44 by have hq := GI_ex hG 34 0; replace hq : ((0 : Int) ≤ 0 → (0 : Int) ≤ 3 → (Z 34 0) = 44 + 2 * 0) := hq; omega) ?_
      obtain ⟨z4, Z4, h4, hc4, hx4, hG4, hf4, b4⟩ := ct_149_1_44 (d := d + 0) (l := l) (D := D) (b0 := b0) (ad := ad) (Hb := Hb) (tau := tau) hx hG 
      refine Jcv hx (show mx_Sn _ _ 21 (mx_callv 149 2 11 24) from sn_122 21) a1 s1 hc4 rfl rfl rfl ?_
      refine mx_J.step (ls2 := [some (.ref 1), some (xI 0), some (xI z1), some (xI z4), none, none, none, none]) (sn_122 24) (fun _ _ => rfl) ?_
      refine mx_J.step (sn_122 25) (fun _ _ => rfl) ?_
      refine Jif_ne (show mx_Sn _ _ 26 (mx_if_ne 31 29) from sn_122 26) (by omega) (fun q5 => ?_) (fun q5 => ?_)
      · skip
        refine JcI (z := (-1)) (show mx_Sn _ _ 31 (mx_const (.int (-1)) 32) from sn_122 31) rfl ?_
        refine mx_J.step (ls2 := [some (.ref 1), some (xI 0), some (xI z1), some (xI z4), some (xI (-1)), none, none, none]) (sn_122 32) (fun _ _ => rfl) ?_
        refine JcI (z := 11) (show mx_Sn _ _ 34 (mx_const (.int 11) 36) from sn_122 34) rfl ?_
        refine mx_J.step (ls2 := [some (.ref 1), some (xI 0), some (xI z1), some (xI z4), some (xI (-1)), some (xI 11), none, none]) (sn_122 36) (fun _ _ => rfl) ?_
        refine JcI (z := 0) (show mx_Sn _ _ 38 (mx_const (.int 0) 39) from sn_122 38) rfl ?_
        refine mx_J.step (ls2 := [some (.ref 1), some (xI 0), some (xI z1), some (xI z4), some (xI (-1)), some (xI 11), some (xI 0), none]) (sn_122 39) (fun _ _ => rfl) ?_
        have c41 : ∀ (m6 : Nat) (w6_4 : Int) (w6_5 : Int) (w6_6 : Int) (u6_7 : Option Value) (Z7 : xZ) (h7 : mx_H), 19 - w6_6 < (m6 : Int) → (-1) ≤ w6_4 ∧ w6_4 ≤ 18 → 0 ≤ w6_5 ∧ w6_5 ≤ 11 → 0 ≤ w6_6 ∧ w6_6 ≤ 19 → XH n s S Z7 h7 → GI n S Z7 → fr' [(42, (-1))] Z4 Z7 → mx_J (tB l D b0 ad Hb tau) mt_122 (d + 6) 41 [some (.ref 1), some (xI 0), some (xI z1), some (xI z4), some (xI w6_4), some (xI w6_5), some (xI w6_6), u6_7] [] h7 Post := by
          intro m6
          induction m6 with
          | zero => intro w6_4 w6_5 w6_6 u6_7 Z7 h7 q6 f6_0 f6_1 f6_2 hx7 hG7 hf7; exact absurd q6 (by omega)
          | succ m6 ih6 =>
            intro w6_4 w6_5 w6_6 u6_7 Z7 h7 q6 f6_0 f6_1 f6_2 hx7 hG7 hf7
            refine mx_J.step (sn_122 41) (fun _ _ => rfl) ?_
            refine JcI (z := 18) (show mx_Sn _ _ 43 (mx_const (.int 18) 45) from sn_122 43) rfl ?_
            refine Jicmp_gt (show mx_Sn _ _ 45 (mx_icmp_gt 78 48) from sn_122 45) (by omega) (by omega) (fun q8 => ?_) (fun q8 => ?_)
            · skip
              refine mx_J.step (sn_122 78) (fun _ _ => rfl) ?_
              exact mx_J.ret (sn_122 80) (fun _ _ => rfl) (hP w6_4 Z7 h7 hx7 hG7 (fr_tr (M := [(12, 2), (14, (-1)), (16, (-1)), (17, (-1)), (18, (-1)), (19, (-1)), (42, (-1)), (43, (-1))]) (fr_tr (M := [(12, 2), (14, (-1)), (16, (-1)), (17, (-1)), (18, (-1)), (19, (-1)), (42, (-1)), (43, (-1))]) fr_rf (hf4) (M1 := []) rfl rfl) (hf7) rfl rfl) (by omega))
            · skip
              refine mx_J.step (sn_122 48) (fun _ _ => rfl) ?_
              refine mx_J.step (sn_122 49) (fun _ _ => rfl) ?_
              refine mx_J.step (sn_122 50) (fun _ _ => rfl) ?_
              obtain ⟨z9, Z9, h9, hc9, hx9, hG9, hf9, b9⟩ := ct_152_1 (d := d + 4) (l := l) (D := D) (b0 := b0) (ad := ad) (Hb := Hb) (tau := tau) hx7 hG7 (show (-2147483648) ≤ z4 ∧ z4 ≤ 2147483647 by omega) (show 0 ≤ w6_6 ∧ w6_6 ≤ 18 by omega)
              refine Jcv hx7 (show mx_Sn _ _ 52 (mx_callv 152 3 11 55) from sn_122 52) a1 s1 hc9 rfl rfl rfl ?_
              refine mx_J.step (ls2 := [some (.ref 1), some (xI 0), some (xI z1), some (xI z4), some (xI w6_4), some (xI w6_5), some (xI w6_6), some (xI z9)]) (sn_122 55) (fun _ _ => rfl) ?_
              refine mx_J.step (sn_122 57) (fun _ _ => rfl) ?_
              refine mx_J.step (sn_122 59) (fun _ _ => rfl) ?_
              have c72 : ∀ (w10_4 : Int) (w10_5 : Int), (-1) ≤ w10_4 ∧ w10_4 ≤ 18 → 0 ≤ w10_5 ∧ w10_5 ≤ 11 → mx_J (tB l D b0 ad Hb tau) mt_122 (d + 6) 72 [some (.ref 1), some (xI 0), some (xI z1), some (xI z4), some (xI w10_4), some (xI w10_5), some (xI w6_6), some (xI z9)] [] h9 Post := by
                intro w10_4 w10_5 f10_0 f10_1
                refine Jiinc (z := w6_6) (cz := 1) (ls2 := [some (.ref 1), some (xI 0), some (xI z1), some (xI z4), some (xI w10_4), some (xI w10_5), some (xI (w6_6 + 1)), some (xI z9)]) (show mx_Sn _ _ 72 (mx_iinc 6 1 75) from sn_122 72) rfl rfl rfl rfl ?_
                refine mx_J.step (sn_122 75) (fun _ _ => rfl) ?_
                exact ih6 w10_4 w10_5 (w6_6 + 1) (some (xI z9)) Z9 h9 (by omega) (by omega) (by omega) (by omega) hx9 hG9 (fr_tr (M := [(42, (-1))]) (fr_tr (M := [(42, (-1))]) fr_rf (hf7) (M1 := []) rfl rfl) (hf9) rfl rfl)
              refine Jicmp_ge (show mx_Sn _ _ 61 (mx_icmp_ge 72 64) from sn_122 61) (by omega) (by omega) (fun q11 => ?_) (fun q11 => ?_)
              · skip
                exact c72 w6_4 w6_5 (by omega) (by omega)
              · skip
                refine mx_J.step (sn_122 64) (fun _ _ => rfl) ?_
                refine mx_J.step (ls2 := [some (.ref 1), some (xI 0), some (xI z1), some (xI z4), some (xI w6_4), some (xI z9), some (xI w6_6), some (xI z9)]) (sn_122 66) (fun _ _ => rfl) ?_
                refine mx_J.step (sn_122 68) (fun _ _ => rfl) ?_
                refine mx_J.step (ls2 := [some (.ref 1), some (xI 0), some (xI z1), some (xI z4), some (xI w6_6), some (xI z9), some (xI w6_6), some (xI z9)]) (sn_122 70) (fun _ _ => rfl) ?_
                exact c72 w6_6 z9 (by omega) (by omega)
        exact c41 (Int.toNat (19 - 0) + 1) (-1) 11 0 none Z4 h4 (by omega) (by omega) (by omega) (by omega) hx4 hG4 fr_rf
      · skip
        refine JcI (z := (-1)) (show mx_Sn _ _ 29 (mx_const (.int (-1)) 30) from sn_122 29) rfl ?_
        exact mx_J.ret (sn_122 30) (fun _ _ => rfl) (hP (-1) Z4 h4 hx4 hG4 (fr_tr (M := [(12, 2), (14, (-1)), (16, (-1)), (17, (-1)), (18, (-1)), (19, (-1)), (42, (-1)), (43, (-1))]) fr_rf (hf4) (M1 := []) rfl rfl) (by omega))
    · skip
      refine mx_J.step (sn_122 12) (fun _ _ => rfl) ?_
      exact mx_J.ret (sn_122 13) (fun _ _ => rfl) (hP z1 Z h hx hG fr_rf (by omega))
theorem ct_122_1_i0 {l : Launch} {D : va_G} {b0 : Nat} {ad : Nat → Nat} {Hb : Heap} {tau : Nat → Int64} {d n s : Nat} {S : Nat → xS} {Z : xZ} {h : mx_H} (hx : XH n s S Z h) (hG : GI n S Z)   : ∃ (z : Int) (Z' : xZ) (h' : mx_H), mx_Ca (tB l D b0 ad Hb tau) (d + 7) 122 [.ref 1, xI 0] h (some (xI z), h') ∧ XH n s S Z' h' ∧ GI n S Z' ∧ fr' [(12, 2), (14, (-1)), (16, (-1)), (17, (-1)), (18, (-1)), (19, (-1)), (42, (-1)), (43, (-1))] Z Z' ∧ ((-6) ≤ z ∧ z ≤ 18) := by
  obtain ⟨r, hca, z, Z', h', e, q⟩ := Jmt (B := tB l D b0 ad Hb tau) (M := mt_122) (mi := 122) (as := [.ref 1, xI 0]) (d := d + 6) (ls := [some (.ref 1), some (xI 0), none, none, none, none, none, none]) rfl rfl rfl rfl rfl rfl (cw_122_1_i0 (l := l) (D := D) (b0 := b0) (ad := ad) (Hb := Hb) (tau := tau) (d := d) (Post := fun r => ∃ (z : Int) (Z' : xZ) (h' : mx_H), r = (some (xI z), h') ∧ XH n s S Z' h' ∧ GI n S Z' ∧ fr' [(12, 2), (14, (-1)), (16, (-1)), (17, (-1)), (18, (-1)), (19, (-1)), (42, (-1)), (43, (-1))] Z Z' ∧ ((-6) ≤ z ∧ z ≤ 18)) hx hG  (fun z Z' h' q1 q2 q3 q4 => ⟨z, Z', h', rfl, q1, q2, q3, q4⟩))
  subst e; exact ⟨z, Z', h', hca, q⟩
set_option maxRecDepth 100000 in
theorem cw_122_1_i1 {l : Launch} {D : va_G} {b0 : Nat} {ad : Nat → Nat} {Hb : Heap} {tau : Nat → Int64} {d n s : Nat} {S : Nat → xS} {Z : xZ} {h : mx_H} {Post : mx_R → Prop} (hx : XH n s S Z h) (hG : GI n S Z)   (hP : ∀ (z : Int) (Z' : xZ) (h' : mx_H), XH n s S Z' h' → GI n S Z' → fr' [(12, 2), (14, (-1)), (16, (-1)), (17, (-1)), (18, (-1)), (19, (-1)), (42, (-1)), (43, (-1))] Z Z' → (-6) ≤ z ∧ z ≤ 18 → Post (some (xI z), h')) : mx_J (tB l D b0 ad Hb tau) mt_122 (d + 6) 0 [some (.ref 1), some (xI 1), none, none, none, none, none, none] [] h Post := by
    have a1 : 1 < n := lt83 (GI_n hG) rfl
    have s1 : S 1 = .inl (11, [2, 0, 0, 0, 2, 2, 2, 2, 2, 2, 2, 2, 2, 2, 2, 2, 2]) := GI_s hG 1 rfl
    have a34 : 34 < n := lt83 (GI_n hG) rfl
    have s34 : S 34 = .inr ((.object "TitheHeap$Tray"), 4, 2) := GI_s hG 34 rfl
    refine mx_J.step (sn_122 0) (fun _ _ => rfl) ?_
    refine mx_J.step (sn_122 1) (fun _ _ => rfl) ?_
    refine JcI (z := 1) (show mx_Sn _ _ 2 (mx_const (.int 1) 3) from sn_122 2) rfl ?_
    refine JcI (z := 0) (show mx_Sn _ _ 3 (mx_const (.int 0) 4) from sn_122 3) rfl ?_
    obtain ⟨z1, hc1, b1⟩ := ct_146_1_i1 (d := d + 4) (l := l) (D := D) (b0 := b0) (ad := ad) (Hb := Hb) (tau := tau) hx hG (show (-1) ≤ 1 ∧ 1 ≤ 1 by omega) (show (-2147483648) ≤ 0 ∧ 0 ≤ 2147483647 by omega)
    refine Jcv hx (show mx_Sn _ _ 4 (mx_callv 146 4 11 7) from sn_122 4) a1 s1 hc1 rfl rfl rfl ?_
    refine mx_J.step (ls2 := [some (.ref 1), some (xI 1), some (xI z1), none, none, none, none, none]) (sn_122 7) (fun _ _ => rfl) ?_
    refine mx_J.step (sn_122 8) (fun _ _ => rfl) ?_
    refine Jif_ge (show mx_Sn _ _ 9 (mx_if_ge 14 12) from sn_122 9) (by omega) (fun q2 => ?_) (fun q2 => ?_)
    · skip
      refine mx_J.step (sn_122 14) (fun _ _ => rfl) ?_
      refine mx_J.step (sn_122 15) (fun _ _ => rfl) ?_
      refine JgetR (g := 10) (b := 34) hx (show mx_Sn _ _ 16 (mx_getf 11 10 19) from sn_122 16) a1 s1 rfl rfl (hG.prr 1 10 rfl) ?_
      refine mx_J.step (sn_122 19) (fun _ _ => rfl) ?_
      refine JaaldR (i := 1) (b := 46) hx (show mx_Sn _ _ 20 (mx_aald 21) from sn_122 20) a34 s34 (by omega) (show Z 34 1 = 46 by have hq := GI_ex hG 34 1; replace hq : ((0 : Int) ≤ 1 → (1 : Int) ≤ 3 → (Z 34 1) = 44 + 2 * 1) := hq; omega) ?_
      obtain ⟨z4, Z4, h4, hc4, hx4, hG4, hf4, b4⟩ := ct_149_1_46 (d := d + 0) (l := l) (D := D) (b0 := b0) (ad := ad) (Hb := Hb) (tau := tau) hx hG 
      refine Jcv hx (show mx_Sn _ _ 21 (mx_callv 149 2 11 24) from sn_122 21) a1 s1 hc4 rfl rfl rfl ?_
      refine mx_J.step (ls2 := [some (.ref 1), some (xI 1), some (xI z1), some (xI z4), none, none, none, none]) (sn_122 24) (fun _ _ => rfl) ?_
      refine mx_J.step (sn_122 25) (fun _ _ => rfl) ?_
      refine Jif_ne (show mx_Sn _ _ 26 (mx_if_ne 31 29) from sn_122 26) (by omega) (fun q5 => ?_) (fun q5 => ?_)
      · skip
        refine JcI (z := (-1)) (show mx_Sn _ _ 31 (mx_const (.int (-1)) 32) from sn_122 31) rfl ?_
        refine mx_J.step (ls2 := [some (.ref 1), some (xI 1), some (xI z1), some (xI z4), some (xI (-1)), none, none, none]) (sn_122 32) (fun _ _ => rfl) ?_
        refine JcI (z := 11) (show mx_Sn _ _ 34 (mx_const (.int 11) 36) from sn_122 34) rfl ?_
        refine mx_J.step (ls2 := [some (.ref 1), some (xI 1), some (xI z1), some (xI z4), some (xI (-1)), some (xI 11), none, none]) (sn_122 36) (fun _ _ => rfl) ?_
        refine JcI (z := 0) (show mx_Sn _ _ 38 (mx_const (.int 0) 39) from sn_122 38) rfl ?_
        refine mx_J.step (ls2 := [some (.ref 1), some (xI 1), some (xI z1), some (xI z4), some (xI (-1)), some (xI 11), some (xI 0), none]) (sn_122 39) (fun _ _ => rfl) ?_
        have c41 : ∀ (m6 : Nat) (w6_4 : Int) (w6_5 : Int) (w6_6 : Int) (u6_7 : Option Value) (Z7 : xZ) (h7 : mx_H), 19 - w6_6 < (m6 : Int) → (-1) ≤ w6_4 ∧ w6_4 ≤ 18 → 0 ≤ w6_5 ∧ w6_5 ≤ 11 → 0 ≤ w6_6 ∧ w6_6 ≤ 19 → XH n s S Z7 h7 → GI n S Z7 → fr' [(42, (-1))] Z4 Z7 → mx_J (tB l D b0 ad Hb tau) mt_122 (d + 6) 41 [some (.ref 1), some (xI 1), some (xI z1), some (xI z4), some (xI w6_4), some (xI w6_5), some (xI w6_6), u6_7] [] h7 Post := by
          intro m6
          induction m6 with
          | zero => intro w6_4 w6_5 w6_6 u6_7 Z7 h7 q6 f6_0 f6_1 f6_2 hx7 hG7 hf7; exact absurd q6 (by omega)
          | succ m6 ih6 =>
            intro w6_4 w6_5 w6_6 u6_7 Z7 h7 q6 f6_0 f6_1 f6_2 hx7 hG7 hf7
            refine mx_J.step (sn_122 41) (fun _ _ => rfl) ?_
            refine JcI (z := 18) (show mx_Sn _ _ 43 (mx_const (.int 18) 45) from sn_122 43) rfl ?_
            refine Jicmp_gt (show mx_Sn _ _ 45 (mx_icmp_gt 78 48) from sn_122 45) (by omega) (by omega) (fun q8 => ?_) (fun q8 => ?_)
            · skip
              refine mx_J.step (sn_122 78) (fun _ _ => rfl) ?_
              exact mx_J.ret (sn_122 80) (fun _ _ => rfl) (hP w6_4 Z7 h7 hx7 hG7 (fr_tr (M := [(12, 2), (14, (-1)), (16, (-1)), (17, (-1)), (18, (-1)), (19, (-1)), (42, (-1)), (43, (-1))]) (fr_tr (M := [(12, 2), (14, (-1)), (16, (-1)), (17, (-1)), (18, (-1)), (19, (-1)), (42, (-1)), (43, (-1))]) fr_rf (hf4) (M1 := []) rfl rfl) (hf7) rfl rfl) (by omega))
            · skip
              refine mx_J.step (sn_122 48) (fun _ _ => rfl) ?_
              refine mx_J.step (sn_122 49) (fun _ _ => rfl) ?_
              refine mx_J.step (sn_122 50) (fun _ _ => rfl) ?_
              obtain ⟨z9, Z9, h9, hc9, hx9, hG9, hf9, b9⟩ := ct_152_1 (d := d + 4) (l := l) (D := D) (b0 := b0) (ad := ad) (Hb := Hb) (tau := tau) hx7 hG7 (show (-2147483648) ≤ z4 ∧ z4 ≤ 2147483647 by omega) (show 0 ≤ w6_6 ∧ w6_6 ≤ 18 by omega)
              refine Jcv hx7 (show mx_Sn _ _ 52 (mx_callv 152 3 11 55) from sn_122 52) a1 s1 hc9 rfl rfl rfl ?_
              refine mx_J.step (ls2 := [some (.ref 1), some (xI 1), some (xI z1), some (xI z4), some (xI w6_4), some (xI w6_5), some (xI w6_6), some (xI z9)]) (sn_122 55) (fun _ _ => rfl) ?_
              refine mx_J.step (sn_122 57) (fun _ _ => rfl) ?_
              refine mx_J.step (sn_122 59) (fun _ _ => rfl) ?_
              have c72 : ∀ (w10_4 : Int) (w10_5 : Int), (-1) ≤ w10_4 ∧ w10_4 ≤ 18 → 0 ≤ w10_5 ∧ w10_5 ≤ 11 → mx_J (tB l D b0 ad Hb tau) mt_122 (d + 6) 72 [some (.ref 1), some (xI 1), some (xI z1), some (xI z4), some (xI w10_4), some (xI w10_5), some (xI w6_6), some (xI z9)] [] h9 Post := by
                intro w10_4 w10_5 f10_0 f10_1
                refine Jiinc (z := w6_6) (cz := 1) (ls2 := [some (.ref 1), some (xI 1), some (xI z1), some (xI z4), some (xI w10_4), some (xI w10_5), some (xI (w6_6 + 1)), some (xI z9)]) (show mx_Sn _ _ 72 (mx_iinc 6 1 75) from sn_122 72) rfl rfl rfl rfl ?_
                refine mx_J.step (sn_122 75) (fun _ _ => rfl) ?_
                exact ih6 w10_4 w10_5 (w6_6 + 1) (some (xI z9)) Z9 h9 (by omega) (by omega) (by omega) (by omega) hx9 hG9 (fr_tr (M := [(42, (-1))]) (fr_tr (M := [(42, (-1))]) fr_rf (hf7) (M1 := []) rfl rfl) (hf9) rfl rfl)
              refine Jicmp_ge (show mx_Sn _ _ 61 (mx_icmp_ge 72 64) from sn_122 61) (by omega) (by omega) (fun q11 => ?_) (fun q11 => ?_)
              · skip
                exact c72 w6_4 w6_5 (by omega) (by omega)
              · skip
                refine mx_J.step (sn_122 64) (fun _ _ => rfl) ?_
                refine mx_J.step (ls2 := [some (.ref 1), some (xI 1), some (xI z1), some (xI z4), some (xI w6_4), some (xI z9), some (xI w6_6), some (xI z9)]) (sn_122 66) (fun _ _ => rfl) ?_
                refine mx_J.step (sn_122 68) (fun _ _ => rfl) ?_
                refine mx_J.step (ls2 := [some (.ref 1), some (xI 1), some (xI z1), some (xI z4), some (xI w6_6), some (xI z9), some (xI w6_6), some (xI z9)]) (sn_122 70) (fun _ _ => rfl) ?_
                exact c72 w6_6 z9 (by omega) (by omega)
        exact c41 (Int.toNat (19 - 0) + 1) (-1) 11 0 none Z4 h4 (by omega) (by omega) (by omega) (by omega) hx4 hG4 fr_rf
      · skip
        refine JcI (z := (-1)) (show mx_Sn _ _ 29 (mx_const (.int (-1)) 30) from sn_122 29) rfl ?_
        exact mx_J.ret (sn_122 30) (fun _ _ => rfl) (hP (-1) Z4 h4 hx4 hG4 (fr_tr (M := [(12, 2), (14, (-1)), (16, (-1)), (17, (-1)), (18, (-1)), (19, (-1)), (42, (-1)), (43, (-1))]) fr_rf (hf4) (M1 := []) rfl rfl) (by omega))
    · skip
      refine mx_J.step (sn_122 12) (fun _ _ => rfl) ?_
      exact mx_J.ret (sn_122 13) (fun _ _ => rfl) (hP z1 Z h hx hG fr_rf (by omega))
theorem ct_122_1_i1 {l : Launch} {D : va_G} {b0 : Nat} {ad : Nat → Nat} {Hb : Heap} {tau : Nat → Int64} {d n s : Nat} {S : Nat → xS} {Z : xZ} {h : mx_H} (hx : XH n s S Z h) (hG : GI n S Z)   : ∃ (z : Int) (Z' : xZ) (h' : mx_H), mx_Ca (tB l D b0 ad Hb tau) (d + 7) 122 [.ref 1, xI 1] h (some (xI z), h') ∧ XH n s S Z' h' ∧ GI n S Z' ∧ fr' [(12, 2), (14, (-1)), (16, (-1)), (17, (-1)), (18, (-1)), (19, (-1)), (42, (-1)), (43, (-1))] Z Z' ∧ ((-6) ≤ z ∧ z ≤ 18) := by
  obtain ⟨r, hca, z, Z', h', e, q⟩ := Jmt (B := tB l D b0 ad Hb tau) (M := mt_122) (mi := 122) (as := [.ref 1, xI 1]) (d := d + 6) (ls := [some (.ref 1), some (xI 1), none, none, none, none, none, none]) rfl rfl rfl rfl rfl rfl (cw_122_1_i1 (l := l) (D := D) (b0 := b0) (ad := ad) (Hb := Hb) (tau := tau) (d := d) (Post := fun r => ∃ (z : Int) (Z' : xZ) (h' : mx_H), r = (some (xI z), h') ∧ XH n s S Z' h' ∧ GI n S Z' ∧ fr' [(12, 2), (14, (-1)), (16, (-1)), (17, (-1)), (18, (-1)), (19, (-1)), (42, (-1)), (43, (-1))] Z Z' ∧ ((-6) ≤ z ∧ z ≤ 18)) hx hG  (fun z Z' h' q1 q2 q3 q4 => ⟨z, Z', h', rfl, q1, q2, q3, q4⟩))
  subst e; exact ⟨z, Z', h', hca, q⟩
set_option maxRecDepth 100000 in
theorem cw_122_1_i2 {l : Launch} {D : va_G} {b0 : Nat} {ad : Nat → Nat} {Hb : Heap} {tau : Nat → Int64} {d n s : Nat} {S : Nat → xS} {Z : xZ} {h : mx_H} {Post : mx_R → Prop} (hx : XH n s S Z h) (hG : GI n S Z)   (hP : ∀ (z : Int) (Z' : xZ) (h' : mx_H), XH n s S Z' h' → GI n S Z' → fr' [(12, 2), (14, (-1)), (16, (-1)), (17, (-1)), (18, (-1)), (19, (-1)), (42, (-1)), (43, (-1))] Z Z' → (-6) ≤ z ∧ z ≤ 18 → Post (some (xI z), h')) : mx_J (tB l D b0 ad Hb tau) mt_122 (d + 6) 0 [some (.ref 1), some (xI 2), none, none, none, none, none, none] [] h Post := by
    have a1 : 1 < n := lt83 (GI_n hG) rfl
    have s1 : S 1 = .inl (11, [2, 0, 0, 0, 2, 2, 2, 2, 2, 2, 2, 2, 2, 2, 2, 2, 2]) := GI_s hG 1 rfl
    have a34 : 34 < n := lt83 (GI_n hG) rfl
    have s34 : S 34 = .inr ((.object "TitheHeap$Tray"), 4, 2) := GI_s hG 34 rfl
    refine mx_J.step (sn_122 0) (fun _ _ => rfl) ?_
    refine mx_J.step (sn_122 1) (fun _ _ => rfl) ?_
    refine JcI (z := 1) (show mx_Sn _ _ 2 (mx_const (.int 1) 3) from sn_122 2) rfl ?_
    refine JcI (z := 0) (show mx_Sn _ _ 3 (mx_const (.int 0) 4) from sn_122 3) rfl ?_
    obtain ⟨z1, hc1, b1⟩ := ct_146_1_i2 (d := d + 4) (l := l) (D := D) (b0 := b0) (ad := ad) (Hb := Hb) (tau := tau) hx hG (show (-1) ≤ 1 ∧ 1 ≤ 1 by omega) (show (-2147483648) ≤ 0 ∧ 0 ≤ 2147483647 by omega)
    refine Jcv hx (show mx_Sn _ _ 4 (mx_callv 146 4 11 7) from sn_122 4) a1 s1 hc1 rfl rfl rfl ?_
    refine mx_J.step (ls2 := [some (.ref 1), some (xI 2), some (xI z1), none, none, none, none, none]) (sn_122 7) (fun _ _ => rfl) ?_
    refine mx_J.step (sn_122 8) (fun _ _ => rfl) ?_
    refine Jif_ge (show mx_Sn _ _ 9 (mx_if_ge 14 12) from sn_122 9) (by omega) (fun q2 => ?_) (fun q2 => ?_)
    · skip
      refine mx_J.step (sn_122 14) (fun _ _ => rfl) ?_
      refine mx_J.step (sn_122 15) (fun _ _ => rfl) ?_
      refine JgetR (g := 10) (b := 34) hx (show mx_Sn _ _ 16 (mx_getf 11 10 19) from sn_122 16) a1 s1 rfl rfl (hG.prr 1 10 rfl) ?_
      refine mx_J.step (sn_122 19) (fun _ _ => rfl) ?_
      refine JaaldR (i := 2) (b := 48) hx (show mx_Sn _ _ 20 (mx_aald 21) from sn_122 20) a34 s34 (by omega) (show Z 34 2 = 48 by have hq := GI_ex hG 34 2; replace hq : ((0 : Int) ≤ 2 → (2 : Int) ≤ 3 → (Z 34 2) = 44 + 2 * 2) := hq; omega) ?_
      obtain ⟨z4, Z4, h4, hc4, hx4, hG4, hf4, b4⟩ := ct_149_1_48 (d := d + 0) (l := l) (D := D) (b0 := b0) (ad := ad) (Hb := Hb) (tau := tau) hx hG 
      refine Jcv hx (show mx_Sn _ _ 21 (mx_callv 149 2 11 24) from sn_122 21) a1 s1 hc4 rfl rfl rfl ?_
      refine mx_J.step (ls2 := [some (.ref 1), some (xI 2), some (xI z1), some (xI z4), none, none, none, none]) (sn_122 24) (fun _ _ => rfl) ?_
      refine mx_J.step (sn_122 25) (fun _ _ => rfl) ?_
      refine Jif_ne (show mx_Sn _ _ 26 (mx_if_ne 31 29) from sn_122 26) (by omega) (fun q5 => ?_) (fun q5 => ?_)
      · skip
        refine JcI (z := (-1)) (show mx_Sn _ _ 31 (mx_const (.int (-1)) 32) from sn_122 31) rfl ?_
        refine mx_J.step (ls2 := [some (.ref 1), some (xI 2), some (xI z1), some (xI z4), some (xI (-1)), none, none, none]) (sn_122 32) (fun _ _ => rfl) ?_
        refine JcI (z := 11) (show mx_Sn _ _ 34 (mx_const (.int 11) 36) from sn_122 34) rfl ?_
        refine mx_J.step (ls2 := [some (.ref 1), some (xI 2), some (xI z1), some (xI z4), some (xI (-1)), some (xI 11), none, none]) (sn_122 36) (fun _ _ => rfl) ?_
        refine JcI (z := 0) (show mx_Sn _ _ 38 (mx_const (.int 0) 39) from sn_122 38) rfl ?_
        refine mx_J.step (ls2 := [some (.ref 1), some (xI 2), some (xI z1), some (xI z4), some (xI (-1)), some (xI 11), some (xI 0), none]) (sn_122 39) (fun _ _ => rfl) ?_
        have c41 : ∀ (m6 : Nat) (w6_4 : Int) (w6_5 : Int) (w6_6 : Int) (u6_7 : Option Value) (Z7 : xZ) (h7 : mx_H), 19 - w6_6 < (m6 : Int) → (-1) ≤ w6_4 ∧ w6_4 ≤ 18 → 0 ≤ w6_5 ∧ w6_5 ≤ 11 → 0 ≤ w6_6 ∧ w6_6 ≤ 19 → XH n s S Z7 h7 → GI n S Z7 → fr' [(42, (-1))] Z4 Z7 → mx_J (tB l D b0 ad Hb tau) mt_122 (d + 6) 41 [some (.ref 1), some (xI 2), some (xI z1), some (xI z4), some (xI w6_4), some (xI w6_5), some (xI w6_6), u6_7] [] h7 Post := by
          intro m6
          induction m6 with
          | zero => intro w6_4 w6_5 w6_6 u6_7 Z7 h7 q6 f6_0 f6_1 f6_2 hx7 hG7 hf7; exact absurd q6 (by omega)
          | succ m6 ih6 =>
            intro w6_4 w6_5 w6_6 u6_7 Z7 h7 q6 f6_0 f6_1 f6_2 hx7 hG7 hf7
            refine mx_J.step (sn_122 41) (fun _ _ => rfl) ?_
            refine JcI (z := 18) (show mx_Sn _ _ 43 (mx_const (.int 18) 45) from sn_122 43) rfl ?_
            refine Jicmp_gt (show mx_Sn _ _ 45 (mx_icmp_gt 78 48) from sn_122 45) (by omega) (by omega) (fun q8 => ?_) (fun q8 => ?_)
            · skip
              refine mx_J.step (sn_122 78) (fun _ _ => rfl) ?_
              exact mx_J.ret (sn_122 80) (fun _ _ => rfl) (hP w6_4 Z7 h7 hx7 hG7 (fr_tr (M := [(12, 2), (14, (-1)), (16, (-1)), (17, (-1)), (18, (-1)), (19, (-1)), (42, (-1)), (43, (-1))]) (fr_tr (M := [(12, 2), (14, (-1)), (16, (-1)), (17, (-1)), (18, (-1)), (19, (-1)), (42, (-1)), (43, (-1))]) fr_rf (hf4) (M1 := []) rfl rfl) (hf7) rfl rfl) (by omega))
            · skip
              refine mx_J.step (sn_122 48) (fun _ _ => rfl) ?_
              refine mx_J.step (sn_122 49) (fun _ _ => rfl) ?_
              refine mx_J.step (sn_122 50) (fun _ _ => rfl) ?_
              obtain ⟨z9, Z9, h9, hc9, hx9, hG9, hf9, b9⟩ := ct_152_1 (d := d + 4) (l := l) (D := D) (b0 := b0) (ad := ad) (Hb := Hb) (tau := tau) hx7 hG7 (show (-2147483648) ≤ z4 ∧ z4 ≤ 2147483647 by omega) (show 0 ≤ w6_6 ∧ w6_6 ≤ 18 by omega)
              refine Jcv hx7 (show mx_Sn _ _ 52 (mx_callv 152 3 11 55) from sn_122 52) a1 s1 hc9 rfl rfl rfl ?_
              refine mx_J.step (ls2 := [some (.ref 1), some (xI 2), some (xI z1), some (xI z4), some (xI w6_4), some (xI w6_5), some (xI w6_6), some (xI z9)]) (sn_122 55) (fun _ _ => rfl) ?_
              refine mx_J.step (sn_122 57) (fun _ _ => rfl) ?_
              refine mx_J.step (sn_122 59) (fun _ _ => rfl) ?_
              have c72 : ∀ (w10_4 : Int) (w10_5 : Int), (-1) ≤ w10_4 ∧ w10_4 ≤ 18 → 0 ≤ w10_5 ∧ w10_5 ≤ 11 → mx_J (tB l D b0 ad Hb tau) mt_122 (d + 6) 72 [some (.ref 1), some (xI 2), some (xI z1), some (xI z4), some (xI w10_4), some (xI w10_5), some (xI w6_6), some (xI z9)] [] h9 Post := by
                intro w10_4 w10_5 f10_0 f10_1
                refine Jiinc (z := w6_6) (cz := 1) (ls2 := [some (.ref 1), some (xI 2), some (xI z1), some (xI z4), some (xI w10_4), some (xI w10_5), some (xI (w6_6 + 1)), some (xI z9)]) (show mx_Sn _ _ 72 (mx_iinc 6 1 75) from sn_122 72) rfl rfl rfl rfl ?_
                refine mx_J.step (sn_122 75) (fun _ _ => rfl) ?_
                exact ih6 w10_4 w10_5 (w6_6 + 1) (some (xI z9)) Z9 h9 (by omega) (by omega) (by omega) (by omega) hx9 hG9 (fr_tr (M := [(42, (-1))]) (fr_tr (M := [(42, (-1))]) fr_rf (hf7) (M1 := []) rfl rfl) (hf9) rfl rfl)
              refine Jicmp_ge (show mx_Sn _ _ 61 (mx_icmp_ge 72 64) from sn_122 61) (by omega) (by omega) (fun q11 => ?_) (fun q11 => ?_)
              · skip
                exact c72 w6_4 w6_5 (by omega) (by omega)
              · skip
                refine mx_J.step (sn_122 64) (fun _ _ => rfl) ?_
                refine mx_J.step (ls2 := [some (.ref 1), some (xI 2), some (xI z1), some (xI z4), some (xI w6_4), some (xI z9), some (xI w6_6), some (xI z9)]) (sn_122 66) (fun _ _ => rfl) ?_
                refine mx_J.step (sn_122 68) (fun _ _ => rfl) ?_
                refine mx_J.step (ls2 := [some (.ref 1), some (xI 2), some (xI z1), some (xI z4), some (xI w6_6), some (xI z9), some (xI w6_6), some (xI z9)]) (sn_122 70) (fun _ _ => rfl) ?_
                exact c72 w6_6 z9 (by omega) (by omega)
        exact c41 (Int.toNat (19 - 0) + 1) (-1) 11 0 none Z4 h4 (by omega) (by omega) (by omega) (by omega) hx4 hG4 fr_rf
      · skip
        refine JcI (z := (-1)) (show mx_Sn _ _ 29 (mx_const (.int (-1)) 30) from sn_122 29) rfl ?_
        exact mx_J.ret (sn_122 30) (fun _ _ => rfl) (hP (-1) Z4 h4 hx4 hG4 (fr_tr (M := [(12, 2), (14, (-1)), (16, (-1)), (17, (-1)), (18, (-1)), (19, (-1)), (42, (-1)), (43, (-1))]) fr_rf (hf4) (M1 := []) rfl rfl) (by omega))
    · skip
      refine mx_J.step (sn_122 12) (fun _ _ => rfl) ?_
      exact mx_J.ret (sn_122 13) (fun _ _ => rfl) (hP z1 Z h hx hG fr_rf (by omega))
theorem ct_122_1_i2 {l : Launch} {D : va_G} {b0 : Nat} {ad : Nat → Nat} {Hb : Heap} {tau : Nat → Int64} {d n s : Nat} {S : Nat → xS} {Z : xZ} {h : mx_H} (hx : XH n s S Z h) (hG : GI n S Z)   : ∃ (z : Int) (Z' : xZ) (h' : mx_H), mx_Ca (tB l D b0 ad Hb tau) (d + 7) 122 [.ref 1, xI 2] h (some (xI z), h') ∧ XH n s S Z' h' ∧ GI n S Z' ∧ fr' [(12, 2), (14, (-1)), (16, (-1)), (17, (-1)), (18, (-1)), (19, (-1)), (42, (-1)), (43, (-1))] Z Z' ∧ ((-6) ≤ z ∧ z ≤ 18) := by
  obtain ⟨r, hca, z, Z', h', e, q⟩ := Jmt (B := tB l D b0 ad Hb tau) (M := mt_122) (mi := 122) (as := [.ref 1, xI 2]) (d := d + 6) (ls := [some (.ref 1), some (xI 2), none, none, none, none, none, none]) rfl rfl rfl rfl rfl rfl (cw_122_1_i2 (l := l) (D := D) (b0 := b0) (ad := ad) (Hb := Hb) (tau := tau) (d := d) (Post := fun r => ∃ (z : Int) (Z' : xZ) (h' : mx_H), r = (some (xI z), h') ∧ XH n s S Z' h' ∧ GI n S Z' ∧ fr' [(12, 2), (14, (-1)), (16, (-1)), (17, (-1)), (18, (-1)), (19, (-1)), (42, (-1)), (43, (-1))] Z Z' ∧ ((-6) ≤ z ∧ z ≤ 18)) hx hG  (fun z Z' h' q1 q2 q3 q4 => ⟨z, Z', h', rfl, q1, q2, q3, q4⟩))
  subst e; exact ⟨z, Z', h', hca, q⟩
set_option maxRecDepth 100000 in
theorem cw_122_1_i3 {l : Launch} {D : va_G} {b0 : Nat} {ad : Nat → Nat} {Hb : Heap} {tau : Nat → Int64} {d n s : Nat} {S : Nat → xS} {Z : xZ} {h : mx_H} {Post : mx_R → Prop} (hx : XH n s S Z h) (hG : GI n S Z)   (hP : ∀ (z : Int) (Z' : xZ) (h' : mx_H), XH n s S Z' h' → GI n S Z' → fr' [(12, 2), (14, (-1)), (16, (-1)), (17, (-1)), (18, (-1)), (19, (-1)), (42, (-1)), (43, (-1))] Z Z' → (-6) ≤ z ∧ z ≤ 18 → Post (some (xI z), h')) : mx_J (tB l D b0 ad Hb tau) mt_122 (d + 6) 0 [some (.ref 1), some (xI 3), none, none, none, none, none, none] [] h Post := by
    have a1 : 1 < n := lt83 (GI_n hG) rfl
    have s1 : S 1 = .inl (11, [2, 0, 0, 0, 2, 2, 2, 2, 2, 2, 2, 2, 2, 2, 2, 2, 2]) := GI_s hG 1 rfl
    have a34 : 34 < n := lt83 (GI_n hG) rfl
    have s34 : S 34 = .inr ((.object "TitheHeap$Tray"), 4, 2) := GI_s hG 34 rfl
    refine mx_J.step (sn_122 0) (fun _ _ => rfl) ?_
    refine mx_J.step (sn_122 1) (fun _ _ => rfl) ?_
    refine JcI (z := 1) (show mx_Sn _ _ 2 (mx_const (.int 1) 3) from sn_122 2) rfl ?_
    refine JcI (z := 0) (show mx_Sn _ _ 3 (mx_const (.int 0) 4) from sn_122 3) rfl ?_
    obtain ⟨z1, hc1, b1⟩ := ct_146_1_i3 (d := d + 4) (l := l) (D := D) (b0 := b0) (ad := ad) (Hb := Hb) (tau := tau) hx hG (show (-1) ≤ 1 ∧ 1 ≤ 1 by omega) (show (-2147483648) ≤ 0 ∧ 0 ≤ 2147483647 by omega)
    refine Jcv hx (show mx_Sn _ _ 4 (mx_callv 146 4 11 7) from sn_122 4) a1 s1 hc1 rfl rfl rfl ?_
    refine mx_J.step (ls2 := [some (.ref 1), some (xI 3), some (xI z1), none, none, none, none, none]) (sn_122 7) (fun _ _ => rfl) ?_
    refine mx_J.step (sn_122 8) (fun _ _ => rfl) ?_
    refine Jif_ge (show mx_Sn _ _ 9 (mx_if_ge 14 12) from sn_122 9) (by omega) (fun q2 => ?_) (fun q2 => ?_)
    · skip
      refine mx_J.step (sn_122 14) (fun _ _ => rfl) ?_
      refine mx_J.step (sn_122 15) (fun _ _ => rfl) ?_
      refine JgetR (g := 10) (b := 34) hx (show mx_Sn _ _ 16 (mx_getf 11 10 19) from sn_122 16) a1 s1 rfl rfl (hG.prr 1 10 rfl) ?_
      refine mx_J.step (sn_122 19) (fun _ _ => rfl) ?_
      refine JaaldR (i := 3) (b := 50) hx (show mx_Sn _ _ 20 (mx_aald 21) from sn_122 20) a34 s34 (by omega) (show Z 34 3 = 50 by have hq := GI_ex hG 34 3; replace hq : ((0 : Int) ≤ 3 → (3 : Int) ≤ 3 → (Z 34 3) = 44 + 2 * 3) := hq; omega) ?_
      obtain ⟨z4, Z4, h4, hc4, hx4, hG4, hf4, b4⟩ := ct_149_1_50 (d := d + 0) (l := l) (D := D) (b0 := b0) (ad := ad) (Hb := Hb) (tau := tau) hx hG 
      refine Jcv hx (show mx_Sn _ _ 21 (mx_callv 149 2 11 24) from sn_122 21) a1 s1 hc4 rfl rfl rfl ?_
      refine mx_J.step (ls2 := [some (.ref 1), some (xI 3), some (xI z1), some (xI z4), none, none, none, none]) (sn_122 24) (fun _ _ => rfl) ?_
      refine mx_J.step (sn_122 25) (fun _ _ => rfl) ?_
      refine Jif_ne (show mx_Sn _ _ 26 (mx_if_ne 31 29) from sn_122 26) (by omega) (fun q5 => ?_) (fun q5 => ?_)
      · skip
        refine JcI (z := (-1)) (show mx_Sn _ _ 31 (mx_const (.int (-1)) 32) from sn_122 31) rfl ?_
        refine mx_J.step (ls2 := [some (.ref 1), some (xI 3), some (xI z1), some (xI z4), some (xI (-1)), none, none, none]) (sn_122 32) (fun _ _ => rfl) ?_
        refine JcI (z := 11) (show mx_Sn _ _ 34 (mx_const (.int 11) 36) from sn_122 34) rfl ?_
        refine mx_J.step (ls2 := [some (.ref 1), some (xI 3), some (xI z1), some (xI z4), some (xI (-1)), some (xI 11), none, none]) (sn_122 36) (fun _ _ => rfl) ?_
        refine JcI (z := 0) (show mx_Sn _ _ 38 (mx_const (.int 0) 39) from sn_122 38) rfl ?_
        refine mx_J.step (ls2 := [some (.ref 1), some (xI 3), some (xI z1), some (xI z4), some (xI (-1)), some (xI 11), some (xI 0), none]) (sn_122 39) (fun _ _ => rfl) ?_
        have c41 : ∀ (m6 : Nat) (w6_4 : Int) (w6_5 : Int) (w6_6 : Int) (u6_7 : Option Value) (Z7 : xZ) (h7 : mx_H), 19 - w6_6 < (m6 : Int) → (-1) ≤ w6_4 ∧ w6_4 ≤ 18 → 0 ≤ w6_5 ∧ w6_5 ≤ 11 → 0 ≤ w6_6 ∧ w6_6 ≤ 19 → XH n s S Z7 h7 → GI n S Z7 → fr' [(42, (-1))] Z4 Z7 → mx_J (tB l D b0 ad Hb tau) mt_122 (d + 6) 41 [some (.ref 1), some (xI 3), some (xI z1), some (xI z4), some (xI w6_4), some (xI w6_5), some (xI w6_6), u6_7] [] h7 Post := by
          intro m6
          induction m6 with
          | zero => intro w6_4 w6_5 w6_6 u6_7 Z7 h7 q6 f6_0 f6_1 f6_2 hx7 hG7 hf7; exact absurd q6 (by omega)
          | succ m6 ih6 =>
            intro w6_4 w6_5 w6_6 u6_7 Z7 h7 q6 f6_0 f6_1 f6_2 hx7 hG7 hf7
            refine mx_J.step (sn_122 41) (fun _ _ => rfl) ?_
            refine JcI (z := 18) (show mx_Sn _ _ 43 (mx_const (.int 18) 45) from sn_122 43) rfl ?_
            refine Jicmp_gt (show mx_Sn _ _ 45 (mx_icmp_gt 78 48) from sn_122 45) (by omega) (by omega) (fun q8 => ?_) (fun q8 => ?_)
            · skip
              refine mx_J.step (sn_122 78) (fun _ _ => rfl) ?_
              exact mx_J.ret (sn_122 80) (fun _ _ => rfl) (hP w6_4 Z7 h7 hx7 hG7 (fr_tr (M := [(12, 2), (14, (-1)), (16, (-1)), (17, (-1)), (18, (-1)), (19, (-1)), (42, (-1)), (43, (-1))]) (fr_tr (M := [(12, 2), (14, (-1)), (16, (-1)), (17, (-1)), (18, (-1)), (19, (-1)), (42, (-1)), (43, (-1))]) fr_rf (hf4) (M1 := []) rfl rfl) (hf7) rfl rfl) (by omega))
            · skip
              refine mx_J.step (sn_122 48) (fun _ _ => rfl) ?_
              refine mx_J.step (sn_122 49) (fun _ _ => rfl) ?_
              refine mx_J.step (sn_122 50) (fun _ _ => rfl) ?_
              obtain ⟨z9, Z9, h9, hc9, hx9, hG9, hf9, b9⟩ := ct_152_1 (d := d + 4) (l := l) (D := D) (b0 := b0) (ad := ad) (Hb := Hb) (tau := tau) hx7 hG7 (show (-2147483648) ≤ z4 ∧ z4 ≤ 2147483647 by omega) (show 0 ≤ w6_6 ∧ w6_6 ≤ 18 by omega)
              refine Jcv hx7 (show mx_Sn _ _ 52 (mx_callv 152 3 11 55) from sn_122 52) a1 s1 hc9 rfl rfl rfl ?_
              refine mx_J.step (ls2 := [some (.ref 1), some (xI 3), some (xI z1), some (xI z4), some (xI w6_4), some (xI w6_5), some (xI w6_6), some (xI z9)]) (sn_122 55) (fun _ _ => rfl) ?_
              refine mx_J.step (sn_122 57) (fun _ _ => rfl) ?_
              refine mx_J.step (sn_122 59) (fun _ _ => rfl) ?_
              have c72 : ∀ (w10_4 : Int) (w10_5 : Int), (-1) ≤ w10_4 ∧ w10_4 ≤ 18 → 0 ≤ w10_5 ∧ w10_5 ≤ 11 → mx_J (tB l D b0 ad Hb tau) mt_122 (d + 6) 72 [some (.ref 1), some (xI 3), some (xI z1), some (xI z4), some (xI w10_4), some (xI w10_5), some (xI w6_6), some (xI z9)] [] h9 Post := by
                intro w10_4 w10_5 f10_0 f10_1
                refine Jiinc (z := w6_6) (cz := 1) (ls2 := [some (.ref 1), some (xI 3), some (xI z1), some (xI z4), some (xI w10_4), some (xI w10_5), some (xI (w6_6 + 1)), some (xI z9)]) (show mx_Sn _ _ 72 (mx_iinc 6 1 75) from sn_122 72) rfl rfl rfl rfl ?_
                refine mx_J.step (sn_122 75) (fun _ _ => rfl) ?_
                exact ih6 w10_4 w10_5 (w6_6 + 1) (some (xI z9)) Z9 h9 (by omega) (by omega) (by omega) (by omega) hx9 hG9 (fr_tr (M := [(42, (-1))]) (fr_tr (M := [(42, (-1))]) fr_rf (hf7) (M1 := []) rfl rfl) (hf9) rfl rfl)
              refine Jicmp_ge (show mx_Sn _ _ 61 (mx_icmp_ge 72 64) from sn_122 61) (by omega) (by omega) (fun q11 => ?_) (fun q11 => ?_)
              · skip
                exact c72 w6_4 w6_5 (by omega) (by omega)
              · skip
                refine mx_J.step (sn_122 64) (fun _ _ => rfl) ?_
                refine mx_J.step (ls2 := [some (.ref 1), some (xI 3), some (xI z1), some (xI z4), some (xI w6_4), some (xI z9), some (xI w6_6), some (xI z9)]) (sn_122 66) (fun _ _ => rfl) ?_
                refine mx_J.step (sn_122 68) (fun _ _ => rfl) ?_
                refine mx_J.step (ls2 := [some (.ref 1), some (xI 3), some (xI z1), some (xI z4), some (xI w6_6), some (xI z9), some (xI w6_6), some (xI z9)]) (sn_122 70) (fun _ _ => rfl) ?_
                exact c72 w6_6 z9 (by omega) (by omega)
        exact c41 (Int.toNat (19 - 0) + 1) (-1) 11 0 none Z4 h4 (by omega) (by omega) (by omega) (by omega) hx4 hG4 fr_rf
      · skip
        refine JcI (z := (-1)) (show mx_Sn _ _ 29 (mx_const (.int (-1)) 30) from sn_122 29) rfl ?_
        exact mx_J.ret (sn_122 30) (fun _ _ => rfl) (hP (-1) Z4 h4 hx4 hG4 (fr_tr (M := [(12, 2), (14, (-1)), (16, (-1)), (17, (-1)), (18, (-1)), (19, (-1)), (42, (-1)), (43, (-1))]) fr_rf (hf4) (M1 := []) rfl rfl) (by omega))
    · skip
      refine mx_J.step (sn_122 12) (fun _ _ => rfl) ?_
      exact mx_J.ret (sn_122 13) (fun _ _ => rfl) (hP z1 Z h hx hG fr_rf (by omega))
theorem ct_122_1_i3 {l : Launch} {D : va_G} {b0 : Nat} {ad : Nat → Nat} {Hb : Heap} {tau : Nat → Int64} {d n s : Nat} {S : Nat → xS} {Z : xZ} {h : mx_H} (hx : XH n s S Z h) (hG : GI n S Z)   : ∃ (z : Int) (Z' : xZ) (h' : mx_H), mx_Ca (tB l D b0 ad Hb tau) (d + 7) 122 [.ref 1, xI 3] h (some (xI z), h') ∧ XH n s S Z' h' ∧ GI n S Z' ∧ fr' [(12, 2), (14, (-1)), (16, (-1)), (17, (-1)), (18, (-1)), (19, (-1)), (42, (-1)), (43, (-1))] Z Z' ∧ ((-6) ≤ z ∧ z ≤ 18) := by
  obtain ⟨r, hca, z, Z', h', e, q⟩ := Jmt (B := tB l D b0 ad Hb tau) (M := mt_122) (mi := 122) (as := [.ref 1, xI 3]) (d := d + 6) (ls := [some (.ref 1), some (xI 3), none, none, none, none, none, none]) rfl rfl rfl rfl rfl rfl (cw_122_1_i3 (l := l) (D := D) (b0 := b0) (ad := ad) (Hb := Hb) (tau := tau) (d := d) (Post := fun r => ∃ (z : Int) (Z' : xZ) (h' : mx_H), r = (some (xI z), h') ∧ XH n s S Z' h' ∧ GI n S Z' ∧ fr' [(12, 2), (14, (-1)), (16, (-1)), (17, (-1)), (18, (-1)), (19, (-1)), (42, (-1)), (43, (-1))] Z Z' ∧ ((-6) ≤ z ∧ z ≤ 18)) hx hG  (fun z Z' h' q1 q2 q3 q4 => ⟨z, Z', h', rfl, q1, q2, q3, q4⟩))
  subst e; exact ⟨z, Z', h', hca, q⟩
set_option maxRecDepth 100000 in
theorem cw_122_1_n {l : Launch} {D : va_G} {b0 : Nat} {ad : Nat → Nat} {Hb : Heap} {tau : Nat → Int64} {d n s : Nat} {S : Nat → xS} {Z : xZ} {h : mx_H} {Post : mx_R → Prop} (hx : XH n s S Z h) (hG : GI n S Z)  {x0 : Int} (p0 : (-2147483648) ≤ x0 ∧ x0 ≤ (-1)) (hP : ∀ z : Int, (-2) ≤ z ∧ z ≤ (-2) → Post (some (xI z), h)) : mx_J (tB l D b0 ad Hb tau) mt_122 (d + 2) 0 [some (.ref 1), some (xI x0), none, none, none, none, none, none] [] h Post := by
    have a1 : 1 < n := lt83 (GI_n hG) rfl
    have s1 : S 1 = .inl (11, [2, 0, 0, 0, 2, 2, 2, 2, 2, 2, 2, 2, 2, 2, 2, 2, 2]) := GI_s hG 1 rfl
    refine mx_J.step (sn_122 0) (fun _ _ => rfl) ?_
    refine mx_J.step (sn_122 1) (fun _ _ => rfl) ?_
    refine JcI (z := 1) (show mx_Sn _ _ 2 (mx_const (.int 1) 3) from sn_122 2) rfl ?_
    refine JcI (z := 0) (show mx_Sn _ _ 3 (mx_const (.int 0) 4) from sn_122 3) rfl ?_
    obtain ⟨z1, hc1, b1⟩ := ct_146_1_n (d := d + 0) (l := l) (D := D) (b0 := b0) (ad := ad) (Hb := Hb) (tau := tau) hx hG (show (-2147483648) ≤ x0 ∧ x0 ≤ (-1) by omega) (show (-1) ≤ 1 ∧ 1 ≤ 1 by omega) (show (-2147483648) ≤ 0 ∧ 0 ≤ 2147483647 by omega)
    refine Jcv hx (show mx_Sn _ _ 4 (mx_callv 146 4 11 7) from sn_122 4) a1 s1 hc1 rfl rfl rfl ?_
    refine mx_J.step (ls2 := [some (.ref 1), some (xI x0), some (xI z1), none, none, none, none, none]) (sn_122 7) (fun _ _ => rfl) ?_
    refine mx_J.step (sn_122 8) (fun _ _ => rfl) ?_
    refine Jif_ge (show mx_Sn _ _ 9 (mx_if_ge 14 12) from sn_122 9) (by omega) (fun q2 => ?_) (fun q2 => ?_)
    · skip
      exfalso; omega
    · skip
      refine mx_J.step (sn_122 12) (fun _ _ => rfl) ?_
      exact mx_J.ret (sn_122 13) (fun _ _ => rfl) (hP z1 (by omega))
theorem ct_122_1_n {l : Launch} {D : va_G} {b0 : Nat} {ad : Nat → Nat} {Hb : Heap} {tau : Nat → Int64} {d n s : Nat} {S : Nat → xS} {Z : xZ} {h : mx_H} (hx : XH n s S Z h) (hG : GI n S Z)  {x0 : Int} (p0 : (-2147483648) ≤ x0 ∧ x0 ≤ (-1)) : ∃ z : Int, mx_Ca (tB l D b0 ad Hb tau) (d + 3) 122 [.ref 1, xI x0] h (some (xI z), h) ∧ ((-2) ≤ z ∧ z ≤ (-2)) := by
  obtain ⟨r, hca, z, e, hp⟩ := Jmt (B := tB l D b0 ad Hb tau) (M := mt_122) (mi := 122) (as := [.ref 1, xI x0]) (d := d + 2) (ls := [some (.ref 1), some (xI x0), none, none, none, none, none, none]) rfl rfl rfl rfl rfl rfl (cw_122_1_n (l := l) (D := D) (b0 := b0) (ad := ad) (Hb := Hb) (tau := tau) (d := d) (Post := fun r => ∃ z : Int, r = (some (xI z), h) ∧ ((-2) ≤ z ∧ z ≤ (-2))) hx hG p0 (fun z hz => ⟨z, rfl, hz⟩))
  subst e; exact ⟨z, hca, hp⟩
set_option maxRecDepth 100000 in
theorem cw_122_1_p {l : Launch} {D : va_G} {b0 : Nat} {ad : Nat → Nat} {Hb : Heap} {tau : Nat → Int64} {d n s : Nat} {S : Nat → xS} {Z : xZ} {h : mx_H} {Post : mx_R → Prop} (hx : XH n s S Z h) (hG : GI n S Z)  {x0 : Int} (p0 : 4 ≤ x0 ∧ x0 ≤ 2147483647) (hP : ∀ z : Int, (-2) ≤ z ∧ z ≤ (-2) → Post (some (xI z), h)) : mx_J (tB l D b0 ad Hb tau) mt_122 (d + 2) 0 [some (.ref 1), some (xI x0), none, none, none, none, none, none] [] h Post := by
    have a1 : 1 < n := lt83 (GI_n hG) rfl
    have s1 : S 1 = .inl (11, [2, 0, 0, 0, 2, 2, 2, 2, 2, 2, 2, 2, 2, 2, 2, 2, 2]) := GI_s hG 1 rfl
    refine mx_J.step (sn_122 0) (fun _ _ => rfl) ?_
    refine mx_J.step (sn_122 1) (fun _ _ => rfl) ?_
    refine JcI (z := 1) (show mx_Sn _ _ 2 (mx_const (.int 1) 3) from sn_122 2) rfl ?_
    refine JcI (z := 0) (show mx_Sn _ _ 3 (mx_const (.int 0) 4) from sn_122 3) rfl ?_
    obtain ⟨z1, hc1, b1⟩ := ct_146_1_p (d := d + 0) (l := l) (D := D) (b0 := b0) (ad := ad) (Hb := Hb) (tau := tau) hx hG (show 4 ≤ x0 ∧ x0 ≤ 2147483647 by omega) (show (-1) ≤ 1 ∧ 1 ≤ 1 by omega) (show (-2147483648) ≤ 0 ∧ 0 ≤ 2147483647 by omega)
    refine Jcv hx (show mx_Sn _ _ 4 (mx_callv 146 4 11 7) from sn_122 4) a1 s1 hc1 rfl rfl rfl ?_
    refine mx_J.step (ls2 := [some (.ref 1), some (xI x0), some (xI z1), none, none, none, none, none]) (sn_122 7) (fun _ _ => rfl) ?_
    refine mx_J.step (sn_122 8) (fun _ _ => rfl) ?_
    refine Jif_ge (show mx_Sn _ _ 9 (mx_if_ge 14 12) from sn_122 9) (by omega) (fun q2 => ?_) (fun q2 => ?_)
    · skip
      exfalso; omega
    · skip
      refine mx_J.step (sn_122 12) (fun _ _ => rfl) ?_
      exact mx_J.ret (sn_122 13) (fun _ _ => rfl) (hP z1 (by omega))
theorem ct_122_1_p {l : Launch} {D : va_G} {b0 : Nat} {ad : Nat → Nat} {Hb : Heap} {tau : Nat → Int64} {d n s : Nat} {S : Nat → xS} {Z : xZ} {h : mx_H} (hx : XH n s S Z h) (hG : GI n S Z)  {x0 : Int} (p0 : 4 ≤ x0 ∧ x0 ≤ 2147483647) : ∃ z : Int, mx_Ca (tB l D b0 ad Hb tau) (d + 3) 122 [.ref 1, xI x0] h (some (xI z), h) ∧ ((-2) ≤ z ∧ z ≤ (-2)) := by
  obtain ⟨r, hca, z, e, hp⟩ := Jmt (B := tB l D b0 ad Hb tau) (M := mt_122) (mi := 122) (as := [.ref 1, xI x0]) (d := d + 2) (ls := [some (.ref 1), some (xI x0), none, none, none, none, none, none]) rfl rfl rfl rfl rfl rfl (cw_122_1_p (l := l) (D := D) (b0 := b0) (ad := ad) (Hb := Hb) (tau := tau) (d := d) (Post := fun r => ∃ z : Int, r = (some (xI z), h) ∧ ((-2) ≤ z ∧ z ≤ (-2))) hx hG p0 (fun z hz => ⟨z, rfl, hz⟩))
  subst e; exact ⟨z, hca, hp⟩
theorem ct_122_1 {l : Launch} {D : va_G} {b0 : Nat} {ad : Nat → Nat} {Hb : Heap} {tau : Nat → Int64} {d n s : Nat} {S : Nat → xS} {Z : xZ} {h : mx_H} (hx : XH n s S Z h) (hG : GI n S Z) {x0 : Int} (p0 : (-2147483648) ≤ x0 ∧ x0 ≤ 2147483647) : ∃ (z : Int) (Z' : xZ) (h' : mx_H), mx_Ca (tB l D b0 ad Hb tau) (d + 7) 122 [.ref 1, xI x0] h (some (xI z), h') ∧ XH n s S Z' h' ∧ GI n S Z' ∧ fr' [(12, 2), (14, (-1)), (16, (-1)), (17, (-1)), (18, (-1)), (19, (-1)), (42, (-1)), (43, (-1))] Z Z' ∧ ((-6) ≤ z ∧ z ≤ 18) := by
  have hc : x0 = 0 ∨ x0 = 1 ∨ x0 = 2 ∨ x0 = 3 ∨ ((-2147483648) ≤ x0 ∧ x0 ≤ (-1)) ∨ (4 ≤ x0 ∧ x0 ≤ 2147483647) := by omega
  rcases hc with hc | hc | hc | hc | hc | hc
  · subst hc
    obtain ⟨z, Z', h', hca, q1, q2, q3, b⟩ := ct_122_1_i0 (d := d + 0) (l := l) (D := D) (b0 := b0) (ad := ad) (Hb := Hb) (tau := tau) hx hG 
    exact ⟨z, Z', h', hca, q1, q2, fr_tr (M1 := []) fr_rf q3 rfl rfl, by omega⟩
  · subst hc
    obtain ⟨z, Z', h', hca, q1, q2, q3, b⟩ := ct_122_1_i1 (d := d + 0) (l := l) (D := D) (b0 := b0) (ad := ad) (Hb := Hb) (tau := tau) hx hG 
    exact ⟨z, Z', h', hca, q1, q2, fr_tr (M1 := []) fr_rf q3 rfl rfl, by omega⟩
  · subst hc
    obtain ⟨z, Z', h', hca, q1, q2, q3, b⟩ := ct_122_1_i2 (d := d + 0) (l := l) (D := D) (b0 := b0) (ad := ad) (Hb := Hb) (tau := tau) hx hG 
    exact ⟨z, Z', h', hca, q1, q2, fr_tr (M1 := []) fr_rf q3 rfl rfl, by omega⟩
  · subst hc
    obtain ⟨z, Z', h', hca, q1, q2, q3, b⟩ := ct_122_1_i3 (d := d + 0) (l := l) (D := D) (b0 := b0) (ad := ad) (Hb := Hb) (tau := tau) hx hG 
    exact ⟨z, Z', h', hca, q1, q2, fr_tr (M1 := []) fr_rf q3 rfl rfl, by omega⟩
  · skip
    obtain ⟨z, hca, b⟩ := ct_122_1_n (d := d + 4) (l := l) (D := D) (b0 := b0) (ad := ad) (Hb := Hb) (tau := tau) hx hG hc
    exact ⟨z, Z, h, hca, hx, hG, fr_rf, by omega⟩
  · skip
    obtain ⟨z, hca, b⟩ := ct_122_1_p (d := d + 4) (l := l) (D := D) (b0 := b0) (ad := ad) (Hb := Hb) (tau := tau) hx hG hc
    exact ⟨z, Z, h, hca, hx, hG, fr_rf, by omega⟩
set_option maxRecDepth 100000 in
theorem cw_108_1_i0 {l : Launch} {D : va_G} {b0 : Nat} {ad : Nat → Nat} {Hb : Heap} {tau : Nat → Int64} {d n s : Nat} {S : Nat → xS} {Z : xZ} {h : mx_H} {Post : mx_R → Prop} (hx : XH n s S Z h) (hG : GI n S Z)   (hP : ∀ (z : Int) (Z' : xZ) (h' : mx_H), XH n s S Z' h' → GI n S Z' → fr' [(14, (-1)), (16, (-1)), (17, (-1)), (18, (-1)), (19, (-1)), (25, 8), (26, (-1)), (27, (-1)), (28, (-1)), (29, (-1)), (42, (-1))] Z Z' → (-2147483648) ≤ z ∧ z ≤ 2147483647 → Post (some (xI z), h')) : mx_J (tB l D b0 ad Hb tau) mt_108 (d + 6) 0 [some (.ref 1), some (xI 0), none] [] h Post := by
    have a1 : 1 < n := lt83 (GI_n hG) rfl
    have s1 : S 1 = .inl (11, [2, 0, 0, 0, 2, 2, 2, 2, 2, 2, 2, 2, 2, 2, 2, 2, 2]) := GI_s hG 1 rfl
    have a25 : 25 < n := lt83 (GI_n hG) rfl
    have s25 : S 25 = .inl (8, [2, 2, 2, 2, 2, 2, 2, 2, 0]) := GI_s hG 25 rfl
    have a36 : 36 < n := lt83 (GI_n hG) rfl
    have s36 : S 36 = .inl (5, [2, 0, 0, 0, 0, 0]) := GI_s hG 36 rfl
    refine mx_J.step (sn_108 0) (fun _ _ => rfl) ?_
    refine mx_J.step (sn_108 1) (fun _ _ => rfl) ?_
    obtain ⟨z1, Z1, h1, hc1, hx1, hG1, hf1, b1⟩ := ct_145_1_i0 (d := d + 3) (l := l) (D := D) (b0 := b0) (ad := ad) (Hb := Hb) (tau := tau) hx hG 
    obtain ⟨bs1_0, b1⟩ := b1
    obtain ⟨bs1_1, b1⟩ := b1
    obtain ⟨bs1_2, b1⟩ := b1
    obtain ⟨bs1_3, b1⟩ := b1
    obtain ⟨bs1_4, b1⟩ := b1
    refine Jcv hx (show mx_Sn _ _ 2 (mx_callv 145 2 11 5) from sn_108 2) a1 s1 hc1 rfl rfl rfl ?_
    refine mx_J.step (ls2 := [some (.ref 1), some (xI 0), some (xI z1)]) (sn_108 5) (fun _ _ => rfl) ?_
    refine mx_J.step (sn_108 6) (fun _ _ => rfl) ?_
    have c29 : ∀ (k2_0 : Int) (Z3 : xZ) (h3 : mx_H), (-2147483648) ≤ k2_0 ∧ k2_0 ≤ 2147483647 → XH n s S Z3 h3 → GI n S Z3 → fr' [(14, (-1)), (16, (-1)), (17, (-1)), (18, (-1)), (19, (-1)), (25, 8), (26, (-1)), (27, (-1)), (28, (-1)), (29, (-1))] Z1 Z3 → mx_J (tB l D b0 ad Hb tau) mt_108 (d + 6) 29 [some (.ref 1), some (xI 0), some (xI z1)] [xI k2_0] h3 Post := by
      intro k2_0 Z3 h3 f2_0 hx3 hG3 hf3
      exact mx_J.ret (sn_108 29) (fun _ _ => rfl) (hP k2_0 Z3 h3 hx3 hG3 (fr_tr (M := [(14, (-1)), (16, (-1)), (17, (-1)), (18, (-1)), (19, (-1)), (25, 8), (26, (-1)), (27, (-1)), (28, (-1)), (29, (-1)), (42, (-1))]) (fr_tr (M := [(14, (-1)), (16, (-1)), (17, (-1)), (18, (-1)), (19, (-1)), (25, 8), (26, (-1)), (27, (-1)), (28, (-1)), (29, (-1)), (42, (-1))]) fr_rf (hf1) (M1 := []) rfl rfl) (hf3) rfl rfl) (by omega))
    refine Jif_ge (show mx_Sn _ _ 7 (mx_if_ge 14 10) from sn_108 7) (by omega) (fun q4 => ?_) (fun q4 => ?_)
    · skip
      refine mx_J.step (sn_108 14) (fun _ _ => rfl) ?_
      refine JgetR (g := 8) (b := 25) hx1 (show mx_Sn _ _ 15 (mx_getf 11 8 18) from sn_108 15) a1 s1 rfl rfl (hG1.prr 1 8 rfl) ?_
      refine mx_J.step (sn_108 18) (fun _ _ => rfl) ?_
      refine JgetR (g := 12) (b := 36) hx1 (show mx_Sn _ _ 19 (mx_getf 11 12 22) from sn_108 19) a1 s1 rfl rfl (hG1.prr 1 12 rfl) ?_
      have b8 : 0 ≤ Z 36 2 ∧ Z 36 2 ≤ 384 := hG.pr 36 2
      refine JgetI (g := 2) (z := Z 36 2) hx1 (show mx_Sn _ _ 22 (mx_getf 5 2 25) from sn_108 22) a36 s36 rfl rfl (hf1 36 2 rfl) ?_
      refine mx_J.step (sn_108 25) (fun _ _ => rfl) ?_
      obtain ⟨z9, Z9, h9, hc9, hx9, hG9, hf9, b9⟩ := ct_61_25 (d := d + 0) (l := l) (D := D) (b0 := b0) (ad := ad) (Hb := Hb) (tau := tau) hx1 hG1 (show 0 ≤ Z 36 2 ∧ Z 36 2 ≤ 384 by omega) (show (-1) ≤ z1 ∧ z1 ≤ 384 by omega)
      refine Jcv hx1 (show mx_Sn _ _ 26 (mx_callv 61 3 8 29) from sn_108 26) a25 s25 hc9 rfl rfl rfl ?_
      exact c29 z9 Z9 h9 (by omega) hx9 hG9 (fr_tr (M := [(14, (-1)), (16, (-1)), (17, (-1)), (18, (-1)), (19, (-1)), (25, 8), (26, (-1)), (27, (-1)), (28, (-1)), (29, (-1))]) fr_rf (hf9) (M1 := []) rfl rfl)
    · skip
      refine mx_J.step (sn_108 10) (fun _ _ => rfl) ?_
      refine mx_J.step (sn_108 11) (fun _ _ => rfl) ?_
      exact c29 z1 Z1 h1 (by omega) hx1 hG1 fr_rf
theorem ct_108_1_i0 {l : Launch} {D : va_G} {b0 : Nat} {ad : Nat → Nat} {Hb : Heap} {tau : Nat → Int64} {d n s : Nat} {S : Nat → xS} {Z : xZ} {h : mx_H} (hx : XH n s S Z h) (hG : GI n S Z)   : ∃ (z : Int) (Z' : xZ) (h' : mx_H), mx_Ca (tB l D b0 ad Hb tau) (d + 7) 108 [.ref 1, xI 0] h (some (xI z), h') ∧ XH n s S Z' h' ∧ GI n S Z' ∧ fr' [(14, (-1)), (16, (-1)), (17, (-1)), (18, (-1)), (19, (-1)), (25, 8), (26, (-1)), (27, (-1)), (28, (-1)), (29, (-1)), (42, (-1))] Z Z' ∧ ((-2147483648) ≤ z ∧ z ≤ 2147483647) := by
  obtain ⟨r, hca, z, Z', h', e, q⟩ := Jmt (B := tB l D b0 ad Hb tau) (M := mt_108) (mi := 108) (as := [.ref 1, xI 0]) (d := d + 6) (ls := [some (.ref 1), some (xI 0), none]) rfl rfl rfl rfl rfl rfl (cw_108_1_i0 (l := l) (D := D) (b0 := b0) (ad := ad) (Hb := Hb) (tau := tau) (d := d) (Post := fun r => ∃ (z : Int) (Z' : xZ) (h' : mx_H), r = (some (xI z), h') ∧ XH n s S Z' h' ∧ GI n S Z' ∧ fr' [(14, (-1)), (16, (-1)), (17, (-1)), (18, (-1)), (19, (-1)), (25, 8), (26, (-1)), (27, (-1)), (28, (-1)), (29, (-1)), (42, (-1))] Z Z' ∧ ((-2147483648) ≤ z ∧ z ≤ 2147483647)) hx hG  (fun z Z' h' q1 q2 q3 q4 => ⟨z, Z', h', rfl, q1, q2, q3, q4⟩))
  subst e; exact ⟨z, Z', h', hca, q⟩
set_option maxRecDepth 100000 in
theorem cw_108_1_i1 {l : Launch} {D : va_G} {b0 : Nat} {ad : Nat → Nat} {Hb : Heap} {tau : Nat → Int64} {d n s : Nat} {S : Nat → xS} {Z : xZ} {h : mx_H} {Post : mx_R → Prop} (hx : XH n s S Z h) (hG : GI n S Z)   (hP : ∀ (z : Int) (Z' : xZ) (h' : mx_H), XH n s S Z' h' → GI n S Z' → fr' [(14, (-1)), (16, (-1)), (17, (-1)), (18, (-1)), (19, (-1)), (25, 8), (26, (-1)), (27, (-1)), (28, (-1)), (29, (-1)), (42, (-1))] Z Z' → (-2147483648) ≤ z ∧ z ≤ 2147483647 → Post (some (xI z), h')) : mx_J (tB l D b0 ad Hb tau) mt_108 (d + 6) 0 [some (.ref 1), some (xI 1), none] [] h Post := by
    have a1 : 1 < n := lt83 (GI_n hG) rfl
    have s1 : S 1 = .inl (11, [2, 0, 0, 0, 2, 2, 2, 2, 2, 2, 2, 2, 2, 2, 2, 2, 2]) := GI_s hG 1 rfl
    have a25 : 25 < n := lt83 (GI_n hG) rfl
    have s25 : S 25 = .inl (8, [2, 2, 2, 2, 2, 2, 2, 2, 0]) := GI_s hG 25 rfl
    have a36 : 36 < n := lt83 (GI_n hG) rfl
    have s36 : S 36 = .inl (5, [2, 0, 0, 0, 0, 0]) := GI_s hG 36 rfl
    refine mx_J.step (sn_108 0) (fun _ _ => rfl) ?_
    refine mx_J.step (sn_108 1) (fun _ _ => rfl) ?_
    obtain ⟨z1, Z1, h1, hc1, hx1, hG1, hf1, b1⟩ := ct_145_1_i1 (d := d + 3) (l := l) (D := D) (b0 := b0) (ad := ad) (Hb := Hb) (tau := tau) hx hG 
    obtain ⟨bs1_0, b1⟩ := b1
    obtain ⟨bs1_1, b1⟩ := b1
    obtain ⟨bs1_2, b1⟩ := b1
    obtain ⟨bs1_3, b1⟩ := b1
    obtain ⟨bs1_4, b1⟩ := b1
    refine Jcv hx (show mx_Sn _ _ 2 (mx_callv 145 2 11 5) from sn_108 2) a1 s1 hc1 rfl rfl rfl ?_
    refine mx_J.step (ls2 := [some (.ref 1), some (xI 1), some (xI z1)]) (sn_108 5) (fun _ _ => rfl) ?_
    refine mx_J.step (sn_108 6) (fun _ _ => rfl) ?_
    have c29 : ∀ (k2_0 : Int) (Z3 : xZ) (h3 : mx_H), (-2147483648) ≤ k2_0 ∧ k2_0 ≤ 2147483647 → XH n s S Z3 h3 → GI n S Z3 → fr' [(14, (-1)), (16, (-1)), (17, (-1)), (18, (-1)), (19, (-1)), (25, 8), (26, (-1)), (27, (-1)), (28, (-1)), (29, (-1))] Z1 Z3 → mx_J (tB l D b0 ad Hb tau) mt_108 (d + 6) 29 [some (.ref 1), some (xI 1), some (xI z1)] [xI k2_0] h3 Post := by
      intro k2_0 Z3 h3 f2_0 hx3 hG3 hf3
      exact mx_J.ret (sn_108 29) (fun _ _ => rfl) (hP k2_0 Z3 h3 hx3 hG3 (fr_tr (M := [(14, (-1)), (16, (-1)), (17, (-1)), (18, (-1)), (19, (-1)), (25, 8), (26, (-1)), (27, (-1)), (28, (-1)), (29, (-1)), (42, (-1))]) (fr_tr (M := [(14, (-1)), (16, (-1)), (17, (-1)), (18, (-1)), (19, (-1)), (25, 8), (26, (-1)), (27, (-1)), (28, (-1)), (29, (-1)), (42, (-1))]) fr_rf (hf1) (M1 := []) rfl rfl) (hf3) rfl rfl) (by omega))
    refine Jif_ge (show mx_Sn _ _ 7 (mx_if_ge 14 10) from sn_108 7) (by omega) (fun q4 => ?_) (fun q4 => ?_)
    · skip
      refine mx_J.step (sn_108 14) (fun _ _ => rfl) ?_
      refine JgetR (g := 8) (b := 25) hx1 (show mx_Sn _ _ 15 (mx_getf 11 8 18) from sn_108 15) a1 s1 rfl rfl (hG1.prr 1 8 rfl) ?_
      refine mx_J.step (sn_108 18) (fun _ _ => rfl) ?_
      refine JgetR (g := 12) (b := 36) hx1 (show mx_Sn _ _ 19 (mx_getf 11 12 22) from sn_108 19) a1 s1 rfl rfl (hG1.prr 1 12 rfl) ?_
      have b8 : 0 ≤ Z 36 2 ∧ Z 36 2 ≤ 384 := hG.pr 36 2
      refine JgetI (g := 2) (z := Z 36 2) hx1 (show mx_Sn _ _ 22 (mx_getf 5 2 25) from sn_108 22) a36 s36 rfl rfl (hf1 36 2 rfl) ?_
      refine mx_J.step (sn_108 25) (fun _ _ => rfl) ?_
      obtain ⟨z9, Z9, h9, hc9, hx9, hG9, hf9, b9⟩ := ct_61_25 (d := d + 0) (l := l) (D := D) (b0 := b0) (ad := ad) (Hb := Hb) (tau := tau) hx1 hG1 (show 0 ≤ Z 36 2 ∧ Z 36 2 ≤ 384 by omega) (show (-1) ≤ z1 ∧ z1 ≤ 384 by omega)
      refine Jcv hx1 (show mx_Sn _ _ 26 (mx_callv 61 3 8 29) from sn_108 26) a25 s25 hc9 rfl rfl rfl ?_
      exact c29 z9 Z9 h9 (by omega) hx9 hG9 (fr_tr (M := [(14, (-1)), (16, (-1)), (17, (-1)), (18, (-1)), (19, (-1)), (25, 8), (26, (-1)), (27, (-1)), (28, (-1)), (29, (-1))]) fr_rf (hf9) (M1 := []) rfl rfl)
    · skip
      refine mx_J.step (sn_108 10) (fun _ _ => rfl) ?_
      refine mx_J.step (sn_108 11) (fun _ _ => rfl) ?_
      exact c29 z1 Z1 h1 (by omega) hx1 hG1 fr_rf
theorem ct_108_1_i1 {l : Launch} {D : va_G} {b0 : Nat} {ad : Nat → Nat} {Hb : Heap} {tau : Nat → Int64} {d n s : Nat} {S : Nat → xS} {Z : xZ} {h : mx_H} (hx : XH n s S Z h) (hG : GI n S Z)   : ∃ (z : Int) (Z' : xZ) (h' : mx_H), mx_Ca (tB l D b0 ad Hb tau) (d + 7) 108 [.ref 1, xI 1] h (some (xI z), h') ∧ XH n s S Z' h' ∧ GI n S Z' ∧ fr' [(14, (-1)), (16, (-1)), (17, (-1)), (18, (-1)), (19, (-1)), (25, 8), (26, (-1)), (27, (-1)), (28, (-1)), (29, (-1)), (42, (-1))] Z Z' ∧ ((-2147483648) ≤ z ∧ z ≤ 2147483647) := by
  obtain ⟨r, hca, z, Z', h', e, q⟩ := Jmt (B := tB l D b0 ad Hb tau) (M := mt_108) (mi := 108) (as := [.ref 1, xI 1]) (d := d + 6) (ls := [some (.ref 1), some (xI 1), none]) rfl rfl rfl rfl rfl rfl (cw_108_1_i1 (l := l) (D := D) (b0 := b0) (ad := ad) (Hb := Hb) (tau := tau) (d := d) (Post := fun r => ∃ (z : Int) (Z' : xZ) (h' : mx_H), r = (some (xI z), h') ∧ XH n s S Z' h' ∧ GI n S Z' ∧ fr' [(14, (-1)), (16, (-1)), (17, (-1)), (18, (-1)), (19, (-1)), (25, 8), (26, (-1)), (27, (-1)), (28, (-1)), (29, (-1)), (42, (-1))] Z Z' ∧ ((-2147483648) ≤ z ∧ z ≤ 2147483647)) hx hG  (fun z Z' h' q1 q2 q3 q4 => ⟨z, Z', h', rfl, q1, q2, q3, q4⟩))
  subst e; exact ⟨z, Z', h', hca, q⟩
set_option maxRecDepth 100000 in
theorem cw_108_1_i2 {l : Launch} {D : va_G} {b0 : Nat} {ad : Nat → Nat} {Hb : Heap} {tau : Nat → Int64} {d n s : Nat} {S : Nat → xS} {Z : xZ} {h : mx_H} {Post : mx_R → Prop} (hx : XH n s S Z h) (hG : GI n S Z)   (hP : ∀ (z : Int) (Z' : xZ) (h' : mx_H), XH n s S Z' h' → GI n S Z' → fr' [(14, (-1)), (16, (-1)), (17, (-1)), (18, (-1)), (19, (-1)), (25, 8), (26, (-1)), (27, (-1)), (28, (-1)), (29, (-1)), (42, (-1))] Z Z' → (-2147483648) ≤ z ∧ z ≤ 2147483647 → Post (some (xI z), h')) : mx_J (tB l D b0 ad Hb tau) mt_108 (d + 6) 0 [some (.ref 1), some (xI 2), none] [] h Post := by
    have a1 : 1 < n := lt83 (GI_n hG) rfl
    have s1 : S 1 = .inl (11, [2, 0, 0, 0, 2, 2, 2, 2, 2, 2, 2, 2, 2, 2, 2, 2, 2]) := GI_s hG 1 rfl
    have a25 : 25 < n := lt83 (GI_n hG) rfl
    have s25 : S 25 = .inl (8, [2, 2, 2, 2, 2, 2, 2, 2, 0]) := GI_s hG 25 rfl
    have a36 : 36 < n := lt83 (GI_n hG) rfl
    have s36 : S 36 = .inl (5, [2, 0, 0, 0, 0, 0]) := GI_s hG 36 rfl
    refine mx_J.step (sn_108 0) (fun _ _ => rfl) ?_
    refine mx_J.step (sn_108 1) (fun _ _ => rfl) ?_
    obtain ⟨z1, Z1, h1, hc1, hx1, hG1, hf1, b1⟩ := ct_145_1_i2 (d := d + 3) (l := l) (D := D) (b0 := b0) (ad := ad) (Hb := Hb) (tau := tau) hx hG 
    obtain ⟨bs1_0, b1⟩ := b1
    obtain ⟨bs1_1, b1⟩ := b1
    obtain ⟨bs1_2, b1⟩ := b1
    obtain ⟨bs1_3, b1⟩ := b1
    obtain ⟨bs1_4, b1⟩ := b1
    refine Jcv hx (show mx_Sn _ _ 2 (mx_callv 145 2 11 5) from sn_108 2) a1 s1 hc1 rfl rfl rfl ?_
    refine mx_J.step (ls2 := [some (.ref 1), some (xI 2), some (xI z1)]) (sn_108 5) (fun _ _ => rfl) ?_
    refine mx_J.step (sn_108 6) (fun _ _ => rfl) ?_
    have c29 : ∀ (k2_0 : Int) (Z3 : xZ) (h3 : mx_H), (-2147483648) ≤ k2_0 ∧ k2_0 ≤ 2147483647 → XH n s S Z3 h3 → GI n S Z3 → fr' [(14, (-1)), (16, (-1)), (17, (-1)), (18, (-1)), (19, (-1)), (25, 8), (26, (-1)), (27, (-1)), (28, (-1)), (29, (-1))] Z1 Z3 → mx_J (tB l D b0 ad Hb tau) mt_108 (d + 6) 29 [some (.ref 1), some (xI 2), some (xI z1)] [xI k2_0] h3 Post := by
      intro k2_0 Z3 h3 f2_0 hx3 hG3 hf3
      exact mx_J.ret (sn_108 29) (fun _ _ => rfl) (hP k2_0 Z3 h3 hx3 hG3 (fr_tr (M := [(14, (-1)), (16, (-1)), (17, (-1)), (18, (-1)), (19, (-1)), (25, 8), (26, (-1)), (27, (-1)), (28, (-1)), (29, (-1)), (42, (-1))]) (fr_tr (M := [(14, (-1)), (16, (-1)), (17, (-1)), (18, (-1)), (19, (-1)), (25, 8), (26, (-1)), (27, (-1)), (28, (-1)), (29, (-1)), (42, (-1))]) fr_rf (hf1) (M1 := []) rfl rfl) (hf3) rfl rfl) (by omega))
    refine Jif_ge (show mx_Sn _ _ 7 (mx_if_ge 14 10) from sn_108 7) (by omega) (fun q4 => ?_) (fun q4 => ?_)
    · skip
      refine mx_J.step (sn_108 14) (fun _ _ => rfl) ?_
      refine JgetR (g := 8) (b := 25) hx1 (show mx_Sn _ _ 15 (mx_getf 11 8 18) from sn_108 15) a1 s1 rfl rfl (hG1.prr 1 8 rfl) ?_
      refine mx_J.step (sn_108 18) (fun _ _ => rfl) ?_
      refine JgetR (g := 12) (b := 36) hx1 (show mx_Sn _ _ 19 (mx_getf 11 12 22) from sn_108 19) a1 s1 rfl rfl (hG1.prr 1 12 rfl) ?_
      have b8 : 0 ≤ Z 36 2 ∧ Z 36 2 ≤ 384 := hG.pr 36 2
      refine JgetI (g := 2) (z := Z 36 2) hx1 (show mx_Sn _ _ 22 (mx_getf 5 2 25) from sn_108 22) a36 s36 rfl rfl (hf1 36 2 rfl) ?_
      refine mx_J.step (sn_108 25) (fun _ _ => rfl) ?_
      obtain ⟨z9, Z9, h9, hc9, hx9, hG9, hf9, b9⟩ := ct_61_25 (d := d + 0) (l := l) (D := D) (b0 := b0) (ad := ad) (Hb := Hb) (tau := tau) hx1 hG1 (show 0 ≤ Z 36 2 ∧ Z 36 2 ≤ 384 by omega) (show (-1) ≤ z1 ∧ z1 ≤ 384 by omega)
      refine Jcv hx1 (show mx_Sn _ _ 26 (mx_callv 61 3 8 29) from sn_108 26) a25 s25 hc9 rfl rfl rfl ?_
      exact c29 z9 Z9 h9 (by omega) hx9 hG9 (fr_tr (M := [(14, (-1)), (16, (-1)), (17, (-1)), (18, (-1)), (19, (-1)), (25, 8), (26, (-1)), (27, (-1)), (28, (-1)), (29, (-1))]) fr_rf (hf9) (M1 := []) rfl rfl)
    · skip
      refine mx_J.step (sn_108 10) (fun _ _ => rfl) ?_
      refine mx_J.step (sn_108 11) (fun _ _ => rfl) ?_
      exact c29 z1 Z1 h1 (by omega) hx1 hG1 fr_rf
theorem ct_108_1_i2 {l : Launch} {D : va_G} {b0 : Nat} {ad : Nat → Nat} {Hb : Heap} {tau : Nat → Int64} {d n s : Nat} {S : Nat → xS} {Z : xZ} {h : mx_H} (hx : XH n s S Z h) (hG : GI n S Z)   : ∃ (z : Int) (Z' : xZ) (h' : mx_H), mx_Ca (tB l D b0 ad Hb tau) (d + 7) 108 [.ref 1, xI 2] h (some (xI z), h') ∧ XH n s S Z' h' ∧ GI n S Z' ∧ fr' [(14, (-1)), (16, (-1)), (17, (-1)), (18, (-1)), (19, (-1)), (25, 8), (26, (-1)), (27, (-1)), (28, (-1)), (29, (-1)), (42, (-1))] Z Z' ∧ ((-2147483648) ≤ z ∧ z ≤ 2147483647) := by
  obtain ⟨r, hca, z, Z', h', e, q⟩ := Jmt (B := tB l D b0 ad Hb tau) (M := mt_108) (mi := 108) (as := [.ref 1, xI 2]) (d := d + 6) (ls := [some (.ref 1), some (xI 2), none]) rfl rfl rfl rfl rfl rfl (cw_108_1_i2 (l := l) (D := D) (b0 := b0) (ad := ad) (Hb := Hb) (tau := tau) (d := d) (Post := fun r => ∃ (z : Int) (Z' : xZ) (h' : mx_H), r = (some (xI z), h') ∧ XH n s S Z' h' ∧ GI n S Z' ∧ fr' [(14, (-1)), (16, (-1)), (17, (-1)), (18, (-1)), (19, (-1)), (25, 8), (26, (-1)), (27, (-1)), (28, (-1)), (29, (-1)), (42, (-1))] Z Z' ∧ ((-2147483648) ≤ z ∧ z ≤ 2147483647)) hx hG  (fun z Z' h' q1 q2 q3 q4 => ⟨z, Z', h', rfl, q1, q2, q3, q4⟩))
  subst e; exact ⟨z, Z', h', hca, q⟩
set_option maxRecDepth 100000 in
theorem cw_108_1_i3 {l : Launch} {D : va_G} {b0 : Nat} {ad : Nat → Nat} {Hb : Heap} {tau : Nat → Int64} {d n s : Nat} {S : Nat → xS} {Z : xZ} {h : mx_H} {Post : mx_R → Prop} (hx : XH n s S Z h) (hG : GI n S Z)   (hP : ∀ (z : Int) (Z' : xZ) (h' : mx_H), XH n s S Z' h' → GI n S Z' → fr' [(14, (-1)), (16, (-1)), (17, (-1)), (18, (-1)), (19, (-1)), (25, 8), (26, (-1)), (27, (-1)), (28, (-1)), (29, (-1)), (42, (-1))] Z Z' → (-2147483648) ≤ z ∧ z ≤ 2147483647 → Post (some (xI z), h')) : mx_J (tB l D b0 ad Hb tau) mt_108 (d + 6) 0 [some (.ref 1), some (xI 3), none] [] h Post := by
    have a1 : 1 < n := lt83 (GI_n hG) rfl
    have s1 : S 1 = .inl (11, [2, 0, 0, 0, 2, 2, 2, 2, 2, 2, 2, 2, 2, 2, 2, 2, 2]) := GI_s hG 1 rfl
    have a25 : 25 < n := lt83 (GI_n hG) rfl
    have s25 : S 25 = .inl (8, [2, 2, 2, 2, 2, 2, 2, 2, 0]) := GI_s hG 25 rfl
    have a36 : 36 < n := lt83 (GI_n hG) rfl
    have s36 : S 36 = .inl (5, [2, 0, 0, 0, 0, 0]) := GI_s hG 36 rfl
    refine mx_J.step (sn_108 0) (fun _ _ => rfl) ?_
    refine mx_J.step (sn_108 1) (fun _ _ => rfl) ?_
    obtain ⟨z1, Z1, h1, hc1, hx1, hG1, hf1, b1⟩ := ct_145_1_i3 (d := d + 3) (l := l) (D := D) (b0 := b0) (ad := ad) (Hb := Hb) (tau := tau) hx hG 
    obtain ⟨bs1_0, b1⟩ := b1
    obtain ⟨bs1_1, b1⟩ := b1
    obtain ⟨bs1_2, b1⟩ := b1
    obtain ⟨bs1_3, b1⟩ := b1
    obtain ⟨bs1_4, b1⟩ := b1
    refine Jcv hx (show mx_Sn _ _ 2 (mx_callv 145 2 11 5) from sn_108 2) a1 s1 hc1 rfl rfl rfl ?_
    refine mx_J.step (ls2 := [some (.ref 1), some (xI 3), some (xI z1)]) (sn_108 5) (fun _ _ => rfl) ?_
    refine mx_J.step (sn_108 6) (fun _ _ => rfl) ?_
    have c29 : ∀ (k2_0 : Int) (Z3 : xZ) (h3 : mx_H), (-2147483648) ≤ k2_0 ∧ k2_0 ≤ 2147483647 → XH n s S Z3 h3 → GI n S Z3 → fr' [(14, (-1)), (16, (-1)), (17, (-1)), (18, (-1)), (19, (-1)), (25, 8), (26, (-1)), (27, (-1)), (28, (-1)), (29, (-1))] Z1 Z3 → mx_J (tB l D b0 ad Hb tau) mt_108 (d + 6) 29 [some (.ref 1), some (xI 3), some (xI z1)] [xI k2_0] h3 Post := by
      intro k2_0 Z3 h3 f2_0 hx3 hG3 hf3
      exact mx_J.ret (sn_108 29) (fun _ _ => rfl) (hP k2_0 Z3 h3 hx3 hG3 (fr_tr (M := [(14, (-1)), (16, (-1)), (17, (-1)), (18, (-1)), (19, (-1)), (25, 8), (26, (-1)), (27, (-1)), (28, (-1)), (29, (-1)), (42, (-1))]) (fr_tr (M := [(14, (-1)), (16, (-1)), (17, (-1)), (18, (-1)), (19, (-1)), (25, 8), (26, (-1)), (27, (-1)), (28, (-1)), (29, (-1)), (42, (-1))]) fr_rf (hf1) (M1 := []) rfl rfl) (hf3) rfl rfl) (by omega))
    refine Jif_ge (show mx_Sn _ _ 7 (mx_if_ge 14 10) from sn_108 7) (by omega) (fun q4 => ?_) (fun q4 => ?_)
    · skip
      refine mx_J.step (sn_108 14) (fun _ _ => rfl) ?_
      refine JgetR (g := 8) (b := 25) hx1 (show mx_Sn _ _ 15 (mx_getf 11 8 18) from sn_108 15) a1 s1 rfl rfl (hG1.prr 1 8 rfl) ?_
      refine mx_J.step (sn_108 18) (fun _ _ => rfl) ?_
      refine JgetR (g := 12) (b := 36) hx1 (show mx_Sn _ _ 19 (mx_getf 11 12 22) from sn_108 19) a1 s1 rfl rfl (hG1.prr 1 12 rfl) ?_
      have b8 : 0 ≤ Z 36 2 ∧ Z 36 2 ≤ 384 := hG.pr 36 2
      refine JgetI (g := 2) (z := Z 36 2) hx1 (show mx_Sn _ _ 22 (mx_getf 5 2 25) from sn_108 22) a36 s36 rfl rfl (hf1 36 2 rfl) ?_
      refine mx_J.step (sn_108 25) (fun _ _ => rfl) ?_
      obtain ⟨z9, Z9, h9, hc9, hx9, hG9, hf9, b9⟩ := ct_61_25 (d := d + 0) (l := l) (D := D) (b0 := b0) (ad := ad) (Hb := Hb) (tau := tau) hx1 hG1 (show 0 ≤ Z 36 2 ∧ Z 36 2 ≤ 384 by omega) (show (-1) ≤ z1 ∧ z1 ≤ 384 by omega)
      refine Jcv hx1 (show mx_Sn _ _ 26 (mx_callv 61 3 8 29) from sn_108 26) a25 s25 hc9 rfl rfl rfl ?_
      exact c29 z9 Z9 h9 (by omega) hx9 hG9 (fr_tr (M := [(14, (-1)), (16, (-1)), (17, (-1)), (18, (-1)), (19, (-1)), (25, 8), (26, (-1)), (27, (-1)), (28, (-1)), (29, (-1))]) fr_rf (hf9) (M1 := []) rfl rfl)
    · skip
      refine mx_J.step (sn_108 10) (fun _ _ => rfl) ?_
      refine mx_J.step (sn_108 11) (fun _ _ => rfl) ?_
      exact c29 z1 Z1 h1 (by omega) hx1 hG1 fr_rf
theorem ct_108_1_i3 {l : Launch} {D : va_G} {b0 : Nat} {ad : Nat → Nat} {Hb : Heap} {tau : Nat → Int64} {d n s : Nat} {S : Nat → xS} {Z : xZ} {h : mx_H} (hx : XH n s S Z h) (hG : GI n S Z)   : ∃ (z : Int) (Z' : xZ) (h' : mx_H), mx_Ca (tB l D b0 ad Hb tau) (d + 7) 108 [.ref 1, xI 3] h (some (xI z), h') ∧ XH n s S Z' h' ∧ GI n S Z' ∧ fr' [(14, (-1)), (16, (-1)), (17, (-1)), (18, (-1)), (19, (-1)), (25, 8), (26, (-1)), (27, (-1)), (28, (-1)), (29, (-1)), (42, (-1))] Z Z' ∧ ((-2147483648) ≤ z ∧ z ≤ 2147483647) := by
  obtain ⟨r, hca, z, Z', h', e, q⟩ := Jmt (B := tB l D b0 ad Hb tau) (M := mt_108) (mi := 108) (as := [.ref 1, xI 3]) (d := d + 6) (ls := [some (.ref 1), some (xI 3), none]) rfl rfl rfl rfl rfl rfl (cw_108_1_i3 (l := l) (D := D) (b0 := b0) (ad := ad) (Hb := Hb) (tau := tau) (d := d) (Post := fun r => ∃ (z : Int) (Z' : xZ) (h' : mx_H), r = (some (xI z), h') ∧ XH n s S Z' h' ∧ GI n S Z' ∧ fr' [(14, (-1)), (16, (-1)), (17, (-1)), (18, (-1)), (19, (-1)), (25, 8), (26, (-1)), (27, (-1)), (28, (-1)), (29, (-1)), (42, (-1))] Z Z' ∧ ((-2147483648) ≤ z ∧ z ≤ 2147483647)) hx hG  (fun z Z' h' q1 q2 q3 q4 => ⟨z, Z', h', rfl, q1, q2, q3, q4⟩))
  subst e; exact ⟨z, Z', h', hca, q⟩
set_option maxRecDepth 100000 in
theorem cw_108_1_n {l : Launch} {D : va_G} {b0 : Nat} {ad : Nat → Nat} {Hb : Heap} {tau : Nat → Int64} {d n s : Nat} {S : Nat → xS} {Z : xZ} {h : mx_H} {Post : mx_R → Prop} (hx : XH n s S Z h) (hG : GI n S Z)  {x0 : Int} (p0 : (-2147483648) ≤ x0 ∧ x0 ≤ (-1)) (hP : ∀ z : Int, (-2) ≤ z ∧ z ≤ (-2) → Post (some (xI z), h)) : mx_J (tB l D b0 ad Hb tau) mt_108 (d + 2) 0 [some (.ref 1), some (xI x0), none] [] h Post := by
    have a1 : 1 < n := lt83 (GI_n hG) rfl
    have s1 : S 1 = .inl (11, [2, 0, 0, 0, 2, 2, 2, 2, 2, 2, 2, 2, 2, 2, 2, 2, 2]) := GI_s hG 1 rfl
    refine mx_J.step (sn_108 0) (fun _ _ => rfl) ?_
    refine mx_J.step (sn_108 1) (fun _ _ => rfl) ?_
    obtain ⟨z1, hc1, b1⟩ := ct_145_1_n (d := d + 0) (l := l) (D := D) (b0 := b0) (ad := ad) (Hb := Hb) (tau := tau) hx hG (show (-2147483648) ≤ x0 ∧ x0 ≤ (-1) by omega)
    obtain ⟨bs1_0, b1⟩ := b1
    obtain ⟨bs1_1, b1⟩ := b1
    obtain ⟨bs1_2, b1⟩ := b1
    obtain ⟨bs1_3, b1⟩ := b1
    obtain ⟨bs1_4, b1⟩ := b1
    refine Jcv hx (show mx_Sn _ _ 2 (mx_callv 145 2 11 5) from sn_108 2) a1 s1 hc1 rfl rfl rfl ?_
    refine mx_J.step (ls2 := [some (.ref 1), some (xI x0), some (xI z1)]) (sn_108 5) (fun _ _ => rfl) ?_
    refine mx_J.step (sn_108 6) (fun _ _ => rfl) ?_
    refine Jif_ge (show mx_Sn _ _ 7 (mx_if_ge 14 10) from sn_108 7) (by omega) (fun q2 => ?_) (fun q2 => ?_)
    · skip
      exfalso; omega
    · skip
      refine mx_J.step (sn_108 10) (fun _ _ => rfl) ?_
      refine mx_J.step (sn_108 11) (fun _ _ => rfl) ?_
      exact mx_J.ret (sn_108 29) (fun _ _ => rfl) (hP z1 (by omega))
theorem ct_108_1_n {l : Launch} {D : va_G} {b0 : Nat} {ad : Nat → Nat} {Hb : Heap} {tau : Nat → Int64} {d n s : Nat} {S : Nat → xS} {Z : xZ} {h : mx_H} (hx : XH n s S Z h) (hG : GI n S Z)  {x0 : Int} (p0 : (-2147483648) ≤ x0 ∧ x0 ≤ (-1)) : ∃ z : Int, mx_Ca (tB l D b0 ad Hb tau) (d + 3) 108 [.ref 1, xI x0] h (some (xI z), h) ∧ ((-2) ≤ z ∧ z ≤ (-2)) := by
  obtain ⟨r, hca, z, e, hp⟩ := Jmt (B := tB l D b0 ad Hb tau) (M := mt_108) (mi := 108) (as := [.ref 1, xI x0]) (d := d + 2) (ls := [some (.ref 1), some (xI x0), none]) rfl rfl rfl rfl rfl rfl (cw_108_1_n (l := l) (D := D) (b0 := b0) (ad := ad) (Hb := Hb) (tau := tau) (d := d) (Post := fun r => ∃ z : Int, r = (some (xI z), h) ∧ ((-2) ≤ z ∧ z ≤ (-2))) hx hG p0 (fun z hz => ⟨z, rfl, hz⟩))
  subst e; exact ⟨z, hca, hp⟩
set_option maxRecDepth 100000 in
theorem cw_108_1_p {l : Launch} {D : va_G} {b0 : Nat} {ad : Nat → Nat} {Hb : Heap} {tau : Nat → Int64} {d n s : Nat} {S : Nat → xS} {Z : xZ} {h : mx_H} {Post : mx_R → Prop} (hx : XH n s S Z h) (hG : GI n S Z)  {x0 : Int} (p0 : 4 ≤ x0 ∧ x0 ≤ 2147483647) (hP : ∀ z : Int, (-2) ≤ z ∧ z ≤ (-2) → Post (some (xI z), h)) : mx_J (tB l D b0 ad Hb tau) mt_108 (d + 2) 0 [some (.ref 1), some (xI x0), none] [] h Post := by
    have a1 : 1 < n := lt83 (GI_n hG) rfl
    have s1 : S 1 = .inl (11, [2, 0, 0, 0, 2, 2, 2, 2, 2, 2, 2, 2, 2, 2, 2, 2, 2]) := GI_s hG 1 rfl
    refine mx_J.step (sn_108 0) (fun _ _ => rfl) ?_
    refine mx_J.step (sn_108 1) (fun _ _ => rfl) ?_
    obtain ⟨z1, hc1, b1⟩ := ct_145_1_p (d := d + 0) (l := l) (D := D) (b0 := b0) (ad := ad) (Hb := Hb) (tau := tau) hx hG (show 4 ≤ x0 ∧ x0 ≤ 2147483647 by omega)
    obtain ⟨bs1_0, b1⟩ := b1
    obtain ⟨bs1_1, b1⟩ := b1
    obtain ⟨bs1_2, b1⟩ := b1
    obtain ⟨bs1_3, b1⟩ := b1
    obtain ⟨bs1_4, b1⟩ := b1
    refine Jcv hx (show mx_Sn _ _ 2 (mx_callv 145 2 11 5) from sn_108 2) a1 s1 hc1 rfl rfl rfl ?_
    refine mx_J.step (ls2 := [some (.ref 1), some (xI x0), some (xI z1)]) (sn_108 5) (fun _ _ => rfl) ?_
    refine mx_J.step (sn_108 6) (fun _ _ => rfl) ?_
    refine Jif_ge (show mx_Sn _ _ 7 (mx_if_ge 14 10) from sn_108 7) (by omega) (fun q2 => ?_) (fun q2 => ?_)
    · skip
      exfalso; omega
    · skip
      refine mx_J.step (sn_108 10) (fun _ _ => rfl) ?_
      refine mx_J.step (sn_108 11) (fun _ _ => rfl) ?_
      exact mx_J.ret (sn_108 29) (fun _ _ => rfl) (hP z1 (by omega))
theorem ct_108_1_p {l : Launch} {D : va_G} {b0 : Nat} {ad : Nat → Nat} {Hb : Heap} {tau : Nat → Int64} {d n s : Nat} {S : Nat → xS} {Z : xZ} {h : mx_H} (hx : XH n s S Z h) (hG : GI n S Z)  {x0 : Int} (p0 : 4 ≤ x0 ∧ x0 ≤ 2147483647) : ∃ z : Int, mx_Ca (tB l D b0 ad Hb tau) (d + 3) 108 [.ref 1, xI x0] h (some (xI z), h) ∧ ((-2) ≤ z ∧ z ≤ (-2)) := by
  obtain ⟨r, hca, z, e, hp⟩ := Jmt (B := tB l D b0 ad Hb tau) (M := mt_108) (mi := 108) (as := [.ref 1, xI x0]) (d := d + 2) (ls := [some (.ref 1), some (xI x0), none]) rfl rfl rfl rfl rfl rfl (cw_108_1_p (l := l) (D := D) (b0 := b0) (ad := ad) (Hb := Hb) (tau := tau) (d := d) (Post := fun r => ∃ z : Int, r = (some (xI z), h) ∧ ((-2) ≤ z ∧ z ≤ (-2))) hx hG p0 (fun z hz => ⟨z, rfl, hz⟩))
  subst e; exact ⟨z, hca, hp⟩
theorem ct_108_1 {l : Launch} {D : va_G} {b0 : Nat} {ad : Nat → Nat} {Hb : Heap} {tau : Nat → Int64} {d n s : Nat} {S : Nat → xS} {Z : xZ} {h : mx_H} (hx : XH n s S Z h) (hG : GI n S Z) {x0 : Int} (p0 : (-2147483648) ≤ x0 ∧ x0 ≤ 2147483647) : ∃ (z : Int) (Z' : xZ) (h' : mx_H), mx_Ca (tB l D b0 ad Hb tau) (d + 7) 108 [.ref 1, xI x0] h (some (xI z), h') ∧ XH n s S Z' h' ∧ GI n S Z' ∧ fr' [(14, (-1)), (16, (-1)), (17, (-1)), (18, (-1)), (19, (-1)), (25, 8), (26, (-1)), (27, (-1)), (28, (-1)), (29, (-1)), (42, (-1))] Z Z' ∧ ((-2147483648) ≤ z ∧ z ≤ 2147483647) := by
  have hc : x0 = 0 ∨ x0 = 1 ∨ x0 = 2 ∨ x0 = 3 ∨ ((-2147483648) ≤ x0 ∧ x0 ≤ (-1)) ∨ (4 ≤ x0 ∧ x0 ≤ 2147483647) := by omega
  rcases hc with hc | hc | hc | hc | hc | hc
  · subst hc
    obtain ⟨z, Z', h', hca, q1, q2, q3, b⟩ := ct_108_1_i0 (d := d + 0) (l := l) (D := D) (b0 := b0) (ad := ad) (Hb := Hb) (tau := tau) hx hG 
    exact ⟨z, Z', h', hca, q1, q2, fr_tr (M1 := []) fr_rf q3 rfl rfl, by omega⟩
  · subst hc
    obtain ⟨z, Z', h', hca, q1, q2, q3, b⟩ := ct_108_1_i1 (d := d + 0) (l := l) (D := D) (b0 := b0) (ad := ad) (Hb := Hb) (tau := tau) hx hG 
    exact ⟨z, Z', h', hca, q1, q2, fr_tr (M1 := []) fr_rf q3 rfl rfl, by omega⟩
  · subst hc
    obtain ⟨z, Z', h', hca, q1, q2, q3, b⟩ := ct_108_1_i2 (d := d + 0) (l := l) (D := D) (b0 := b0) (ad := ad) (Hb := Hb) (tau := tau) hx hG 
    exact ⟨z, Z', h', hca, q1, q2, fr_tr (M1 := []) fr_rf q3 rfl rfl, by omega⟩
  · subst hc
    obtain ⟨z, Z', h', hca, q1, q2, q3, b⟩ := ct_108_1_i3 (d := d + 0) (l := l) (D := D) (b0 := b0) (ad := ad) (Hb := Hb) (tau := tau) hx hG 
    exact ⟨z, Z', h', hca, q1, q2, fr_tr (M1 := []) fr_rf q3 rfl rfl, by omega⟩
  · skip
    obtain ⟨z, hca, b⟩ := ct_108_1_n (d := d + 4) (l := l) (D := D) (b0 := b0) (ad := ad) (Hb := Hb) (tau := tau) hx hG hc
    exact ⟨z, Z, h, hca, hx, hG, fr_rf, by omega⟩
  · skip
    obtain ⟨z, hca, b⟩ := ct_108_1_p (d := d + 4) (l := l) (D := D) (b0 := b0) (ad := ad) (Hb := Hb) (tau := tau) hx hG hc
    exact ⟨z, Z, h, hca, hx, hG, fr_rf, by omega⟩
set_option maxRecDepth 100000 in
theorem cw_113_1_i0 {l : Launch} {D : va_G} {b0 : Nat} {ad : Nat → Nat} {Hb : Heap} {tau : Nat → Int64} {d n s : Nat} {S : Nat → xS} {Z : xZ} {h : mx_H} {Post : mx_R → Prop} (hx : XH n s S Z h) (hG : GI n S Z)   (hP : ∀ (z : Int) (Z' : xZ) (h' : mx_H), XH n s S Z' h' → GI n S Z' → fr' [(42, (-1))] Z Z' → (((0 : Int) < 0 ∨ 3 < (0 : Int)) → z = -2) ∧ (Z 7 4 = Z 36 1 → (0 : Int) = 0 → (Z 44 3 = 1 → z = -6) ∧ (Z 44 3 = 0 → TO (Z 45) (Z 44 2) (Z 36 1) z)) ∧ (Z 7 4 = Z 36 1 → (0 : Int) = 1 → (Z 46 3 = 1 → z = -6) ∧ (Z 46 3 = 0 → TO (Z 47) (Z 46 2) (Z 36 1) z)) ∧ (Z 7 4 = Z 36 1 → (0 : Int) = 2 → (Z 48 3 = 1 → z = -6) ∧ (Z 48 3 = 0 → TO (Z 49) (Z 48 2) (Z 36 1) z)) ∧ (Z 7 4 = Z 36 1 → (0 : Int) = 3 → (Z 50 3 = 1 → z = -6) ∧ (Z 50 3 = 0 → TO (Z 51) (Z 50 2) (Z 36 1) z)) ∧ (-6) ≤ z ∧ z ≤ 384 → Post (some (xI z), h')) : mx_J (tB l D b0 ad Hb tau) mt_113 (d + 3) 0 [some (.ref 1), some (xI 0)] [] h Post := by
    have a1 : 1 < n := lt83 (GI_n hG) rfl
    have s1 : S 1 = .inl (11, [2, 0, 0, 0, 2, 2, 2, 2, 2, 2, 2, 2, 2, 2, 2, 2, 2]) := GI_s hG 1 rfl
    refine mx_J.step (sn_113 0) (fun _ _ => rfl) ?_
    refine mx_J.step (sn_113 1) (fun _ _ => rfl) ?_
    obtain ⟨z1, Z1, h1, hc1, hx1, hG1, hf1, b1⟩ := ct_145_1_i0 (d := d + 0) (l := l) (D := D) (b0 := b0) (ad := ad) (Hb := Hb) (tau := tau) hx hG 
    obtain ⟨bs1_0, b1⟩ := b1
    obtain ⟨bs1_1, b1⟩ := b1
    obtain ⟨bs1_2, b1⟩ := b1
    obtain ⟨bs1_3, b1⟩ := b1
    obtain ⟨bs1_4, b1⟩ := b1
    refine Jcv hx (show mx_Sn _ _ 2 (mx_callv 145 2 11 5) from sn_113 2) a1 s1 hc1 rfl rfl rfl ?_
    exact mx_J.ret (sn_113 5) (fun _ _ => rfl) (hP z1 Z1 h1 hx1 hG1 (fr_tr (M := [(42, (-1))]) fr_rf (hf1) (M1 := []) rfl rfl) ⟨(bs1_0), (bs1_1), (bs1_2), (bs1_3), (bs1_4), by omega⟩)
theorem ct_113_1_i0 {l : Launch} {D : va_G} {b0 : Nat} {ad : Nat → Nat} {Hb : Heap} {tau : Nat → Int64} {d n s : Nat} {S : Nat → xS} {Z : xZ} {h : mx_H} (hx : XH n s S Z h) (hG : GI n S Z)   : ∃ (z : Int) (Z' : xZ) (h' : mx_H), mx_Ca (tB l D b0 ad Hb tau) (d + 4) 113 [.ref 1, xI 0] h (some (xI z), h') ∧ XH n s S Z' h' ∧ GI n S Z' ∧ fr' [(42, (-1))] Z Z' ∧ ((((0 : Int) < 0 ∨ 3 < (0 : Int)) → z = -2) ∧ (Z 7 4 = Z 36 1 → (0 : Int) = 0 → (Z 44 3 = 1 → z = -6) ∧ (Z 44 3 = 0 → TO (Z 45) (Z 44 2) (Z 36 1) z)) ∧ (Z 7 4 = Z 36 1 → (0 : Int) = 1 → (Z 46 3 = 1 → z = -6) ∧ (Z 46 3 = 0 → TO (Z 47) (Z 46 2) (Z 36 1) z)) ∧ (Z 7 4 = Z 36 1 → (0 : Int) = 2 → (Z 48 3 = 1 → z = -6) ∧ (Z 48 3 = 0 → TO (Z 49) (Z 48 2) (Z 36 1) z)) ∧ (Z 7 4 = Z 36 1 → (0 : Int) = 3 → (Z 50 3 = 1 → z = -6) ∧ (Z 50 3 = 0 → TO (Z 51) (Z 50 2) (Z 36 1) z)) ∧ (-6) ≤ z ∧ z ≤ 384) := by
  obtain ⟨r, hca, z, Z', h', e, q⟩ := Jmt (B := tB l D b0 ad Hb tau) (M := mt_113) (mi := 113) (as := [.ref 1, xI 0]) (d := d + 3) (ls := [some (.ref 1), some (xI 0)]) rfl rfl rfl rfl rfl rfl (cw_113_1_i0 (l := l) (D := D) (b0 := b0) (ad := ad) (Hb := Hb) (tau := tau) (d := d) (Post := fun r => ∃ (z : Int) (Z' : xZ) (h' : mx_H), r = (some (xI z), h') ∧ XH n s S Z' h' ∧ GI n S Z' ∧ fr' [(42, (-1))] Z Z' ∧ ((((0 : Int) < 0 ∨ 3 < (0 : Int)) → z = -2) ∧ (Z 7 4 = Z 36 1 → (0 : Int) = 0 → (Z 44 3 = 1 → z = -6) ∧ (Z 44 3 = 0 → TO (Z 45) (Z 44 2) (Z 36 1) z)) ∧ (Z 7 4 = Z 36 1 → (0 : Int) = 1 → (Z 46 3 = 1 → z = -6) ∧ (Z 46 3 = 0 → TO (Z 47) (Z 46 2) (Z 36 1) z)) ∧ (Z 7 4 = Z 36 1 → (0 : Int) = 2 → (Z 48 3 = 1 → z = -6) ∧ (Z 48 3 = 0 → TO (Z 49) (Z 48 2) (Z 36 1) z)) ∧ (Z 7 4 = Z 36 1 → (0 : Int) = 3 → (Z 50 3 = 1 → z = -6) ∧ (Z 50 3 = 0 → TO (Z 51) (Z 50 2) (Z 36 1) z)) ∧ (-6) ≤ z ∧ z ≤ 384)) hx hG  (fun z Z' h' q1 q2 q3 q4 => ⟨z, Z', h', rfl, q1, q2, q3, q4⟩))
  subst e; exact ⟨z, Z', h', hca, q⟩
set_option maxRecDepth 100000 in
theorem cw_113_1_i1 {l : Launch} {D : va_G} {b0 : Nat} {ad : Nat → Nat} {Hb : Heap} {tau : Nat → Int64} {d n s : Nat} {S : Nat → xS} {Z : xZ} {h : mx_H} {Post : mx_R → Prop} (hx : XH n s S Z h) (hG : GI n S Z)   (hP : ∀ (z : Int) (Z' : xZ) (h' : mx_H), XH n s S Z' h' → GI n S Z' → fr' [(42, (-1))] Z Z' → (((1 : Int) < 0 ∨ 3 < (1 : Int)) → z = -2) ∧ (Z 7 4 = Z 36 1 → (1 : Int) = 0 → (Z 44 3 = 1 → z = -6) ∧ (Z 44 3 = 0 → TO (Z 45) (Z 44 2) (Z 36 1) z)) ∧ (Z 7 4 = Z 36 1 → (1 : Int) = 1 → (Z 46 3 = 1 → z = -6) ∧ (Z 46 3 = 0 → TO (Z 47) (Z 46 2) (Z 36 1) z)) ∧ (Z 7 4 = Z 36 1 → (1 : Int) = 2 → (Z 48 3 = 1 → z = -6) ∧ (Z 48 3 = 0 → TO (Z 49) (Z 48 2) (Z 36 1) z)) ∧ (Z 7 4 = Z 36 1 → (1 : Int) = 3 → (Z 50 3 = 1 → z = -6) ∧ (Z 50 3 = 0 → TO (Z 51) (Z 50 2) (Z 36 1) z)) ∧ (-6) ≤ z ∧ z ≤ 384 → Post (some (xI z), h')) : mx_J (tB l D b0 ad Hb tau) mt_113 (d + 3) 0 [some (.ref 1), some (xI 1)] [] h Post := by
    have a1 : 1 < n := lt83 (GI_n hG) rfl
    have s1 : S 1 = .inl (11, [2, 0, 0, 0, 2, 2, 2, 2, 2, 2, 2, 2, 2, 2, 2, 2, 2]) := GI_s hG 1 rfl
    refine mx_J.step (sn_113 0) (fun _ _ => rfl) ?_
    refine mx_J.step (sn_113 1) (fun _ _ => rfl) ?_
    obtain ⟨z1, Z1, h1, hc1, hx1, hG1, hf1, b1⟩ := ct_145_1_i1 (d := d + 0) (l := l) (D := D) (b0 := b0) (ad := ad) (Hb := Hb) (tau := tau) hx hG 
    obtain ⟨bs1_0, b1⟩ := b1
    obtain ⟨bs1_1, b1⟩ := b1
    obtain ⟨bs1_2, b1⟩ := b1
    obtain ⟨bs1_3, b1⟩ := b1
    obtain ⟨bs1_4, b1⟩ := b1
    refine Jcv hx (show mx_Sn _ _ 2 (mx_callv 145 2 11 5) from sn_113 2) a1 s1 hc1 rfl rfl rfl ?_
    exact mx_J.ret (sn_113 5) (fun _ _ => rfl) (hP z1 Z1 h1 hx1 hG1 (fr_tr (M := [(42, (-1))]) fr_rf (hf1) (M1 := []) rfl rfl) ⟨(bs1_0), (bs1_1), (bs1_2), (bs1_3), (bs1_4), by omega⟩)
theorem ct_113_1_i1 {l : Launch} {D : va_G} {b0 : Nat} {ad : Nat → Nat} {Hb : Heap} {tau : Nat → Int64} {d n s : Nat} {S : Nat → xS} {Z : xZ} {h : mx_H} (hx : XH n s S Z h) (hG : GI n S Z)   : ∃ (z : Int) (Z' : xZ) (h' : mx_H), mx_Ca (tB l D b0 ad Hb tau) (d + 4) 113 [.ref 1, xI 1] h (some (xI z), h') ∧ XH n s S Z' h' ∧ GI n S Z' ∧ fr' [(42, (-1))] Z Z' ∧ ((((1 : Int) < 0 ∨ 3 < (1 : Int)) → z = -2) ∧ (Z 7 4 = Z 36 1 → (1 : Int) = 0 → (Z 44 3 = 1 → z = -6) ∧ (Z 44 3 = 0 → TO (Z 45) (Z 44 2) (Z 36 1) z)) ∧ (Z 7 4 = Z 36 1 → (1 : Int) = 1 → (Z 46 3 = 1 → z = -6) ∧ (Z 46 3 = 0 → TO (Z 47) (Z 46 2) (Z 36 1) z)) ∧ (Z 7 4 = Z 36 1 → (1 : Int) = 2 → (Z 48 3 = 1 → z = -6) ∧ (Z 48 3 = 0 → TO (Z 49) (Z 48 2) (Z 36 1) z)) ∧ (Z 7 4 = Z 36 1 → (1 : Int) = 3 → (Z 50 3 = 1 → z = -6) ∧ (Z 50 3 = 0 → TO (Z 51) (Z 50 2) (Z 36 1) z)) ∧ (-6) ≤ z ∧ z ≤ 384) := by
  obtain ⟨r, hca, z, Z', h', e, q⟩ := Jmt (B := tB l D b0 ad Hb tau) (M := mt_113) (mi := 113) (as := [.ref 1, xI 1]) (d := d + 3) (ls := [some (.ref 1), some (xI 1)]) rfl rfl rfl rfl rfl rfl (cw_113_1_i1 (l := l) (D := D) (b0 := b0) (ad := ad) (Hb := Hb) (tau := tau) (d := d) (Post := fun r => ∃ (z : Int) (Z' : xZ) (h' : mx_H), r = (some (xI z), h') ∧ XH n s S Z' h' ∧ GI n S Z' ∧ fr' [(42, (-1))] Z Z' ∧ ((((1 : Int) < 0 ∨ 3 < (1 : Int)) → z = -2) ∧ (Z 7 4 = Z 36 1 → (1 : Int) = 0 → (Z 44 3 = 1 → z = -6) ∧ (Z 44 3 = 0 → TO (Z 45) (Z 44 2) (Z 36 1) z)) ∧ (Z 7 4 = Z 36 1 → (1 : Int) = 1 → (Z 46 3 = 1 → z = -6) ∧ (Z 46 3 = 0 → TO (Z 47) (Z 46 2) (Z 36 1) z)) ∧ (Z 7 4 = Z 36 1 → (1 : Int) = 2 → (Z 48 3 = 1 → z = -6) ∧ (Z 48 3 = 0 → TO (Z 49) (Z 48 2) (Z 36 1) z)) ∧ (Z 7 4 = Z 36 1 → (1 : Int) = 3 → (Z 50 3 = 1 → z = -6) ∧ (Z 50 3 = 0 → TO (Z 51) (Z 50 2) (Z 36 1) z)) ∧ (-6) ≤ z ∧ z ≤ 384)) hx hG  (fun z Z' h' q1 q2 q3 q4 => ⟨z, Z', h', rfl, q1, q2, q3, q4⟩))
  subst e; exact ⟨z, Z', h', hca, q⟩
set_option maxRecDepth 100000 in
theorem cw_113_1_i2 {l : Launch} {D : va_G} {b0 : Nat} {ad : Nat → Nat} {Hb : Heap} {tau : Nat → Int64} {d n s : Nat} {S : Nat → xS} {Z : xZ} {h : mx_H} {Post : mx_R → Prop} (hx : XH n s S Z h) (hG : GI n S Z)   (hP : ∀ (z : Int) (Z' : xZ) (h' : mx_H), XH n s S Z' h' → GI n S Z' → fr' [(42, (-1))] Z Z' → (((2 : Int) < 0 ∨ 3 < (2 : Int)) → z = -2) ∧ (Z 7 4 = Z 36 1 → (2 : Int) = 0 → (Z 44 3 = 1 → z = -6) ∧ (Z 44 3 = 0 → TO (Z 45) (Z 44 2) (Z 36 1) z)) ∧ (Z 7 4 = Z 36 1 → (2 : Int) = 1 → (Z 46 3 = 1 → z = -6) ∧ (Z 46 3 = 0 → TO (Z 47) (Z 46 2) (Z 36 1) z)) ∧ (Z 7 4 = Z 36 1 → (2 : Int) = 2 → (Z 48 3 = 1 → z = -6) ∧ (Z 48 3 = 0 → TO (Z 49) (Z 48 2) (Z 36 1) z)) ∧ (Z 7 4 = Z 36 1 → (2 : Int) = 3 → (Z 50 3 = 1 → z = -6) ∧ (Z 50 3 = 0 → TO (Z 51) (Z 50 2) (Z 36 1) z)) ∧ (-6) ≤ z ∧ z ≤ 384 → Post (some (xI z), h')) : mx_J (tB l D b0 ad Hb tau) mt_113 (d + 3) 0 [some (.ref 1), some (xI 2)] [] h Post := by
    have a1 : 1 < n := lt83 (GI_n hG) rfl
    have s1 : S 1 = .inl (11, [2, 0, 0, 0, 2, 2, 2, 2, 2, 2, 2, 2, 2, 2, 2, 2, 2]) := GI_s hG 1 rfl
    refine mx_J.step (sn_113 0) (fun _ _ => rfl) ?_
    refine mx_J.step (sn_113 1) (fun _ _ => rfl) ?_
    obtain ⟨z1, Z1, h1, hc1, hx1, hG1, hf1, b1⟩ := ct_145_1_i2 (d := d + 0) (l := l) (D := D) (b0 := b0) (ad := ad) (Hb := Hb) (tau := tau) hx hG 
    obtain ⟨bs1_0, b1⟩ := b1
    obtain ⟨bs1_1, b1⟩ := b1
    obtain ⟨bs1_2, b1⟩ := b1
    obtain ⟨bs1_3, b1⟩ := b1
    obtain ⟨bs1_4, b1⟩ := b1
    refine Jcv hx (show mx_Sn _ _ 2 (mx_callv 145 2 11 5) from sn_113 2) a1 s1 hc1 rfl rfl rfl ?_
    exact mx_J.ret (sn_113 5) (fun _ _ => rfl) (hP z1 Z1 h1 hx1 hG1 (fr_tr (M := [(42, (-1))]) fr_rf (hf1) (M1 := []) rfl rfl) ⟨(bs1_0), (bs1_1), (bs1_2), (bs1_3), (bs1_4), by omega⟩)
theorem ct_113_1_i2 {l : Launch} {D : va_G} {b0 : Nat} {ad : Nat → Nat} {Hb : Heap} {tau : Nat → Int64} {d n s : Nat} {S : Nat → xS} {Z : xZ} {h : mx_H} (hx : XH n s S Z h) (hG : GI n S Z)   : ∃ (z : Int) (Z' : xZ) (h' : mx_H), mx_Ca (tB l D b0 ad Hb tau) (d + 4) 113 [.ref 1, xI 2] h (some (xI z), h') ∧ XH n s S Z' h' ∧ GI n S Z' ∧ fr' [(42, (-1))] Z Z' ∧ ((((2 : Int) < 0 ∨ 3 < (2 : Int)) → z = -2) ∧ (Z 7 4 = Z 36 1 → (2 : Int) = 0 → (Z 44 3 = 1 → z = -6) ∧ (Z 44 3 = 0 → TO (Z 45) (Z 44 2) (Z 36 1) z)) ∧ (Z 7 4 = Z 36 1 → (2 : Int) = 1 → (Z 46 3 = 1 → z = -6) ∧ (Z 46 3 = 0 → TO (Z 47) (Z 46 2) (Z 36 1) z)) ∧ (Z 7 4 = Z 36 1 → (2 : Int) = 2 → (Z 48 3 = 1 → z = -6) ∧ (Z 48 3 = 0 → TO (Z 49) (Z 48 2) (Z 36 1) z)) ∧ (Z 7 4 = Z 36 1 → (2 : Int) = 3 → (Z 50 3 = 1 → z = -6) ∧ (Z 50 3 = 0 → TO (Z 51) (Z 50 2) (Z 36 1) z)) ∧ (-6) ≤ z ∧ z ≤ 384) := by
  obtain ⟨r, hca, z, Z', h', e, q⟩ := Jmt (B := tB l D b0 ad Hb tau) (M := mt_113) (mi := 113) (as := [.ref 1, xI 2]) (d := d + 3) (ls := [some (.ref 1), some (xI 2)]) rfl rfl rfl rfl rfl rfl (cw_113_1_i2 (l := l) (D := D) (b0 := b0) (ad := ad) (Hb := Hb) (tau := tau) (d := d) (Post := fun r => ∃ (z : Int) (Z' : xZ) (h' : mx_H), r = (some (xI z), h') ∧ XH n s S Z' h' ∧ GI n S Z' ∧ fr' [(42, (-1))] Z Z' ∧ ((((2 : Int) < 0 ∨ 3 < (2 : Int)) → z = -2) ∧ (Z 7 4 = Z 36 1 → (2 : Int) = 0 → (Z 44 3 = 1 → z = -6) ∧ (Z 44 3 = 0 → TO (Z 45) (Z 44 2) (Z 36 1) z)) ∧ (Z 7 4 = Z 36 1 → (2 : Int) = 1 → (Z 46 3 = 1 → z = -6) ∧ (Z 46 3 = 0 → TO (Z 47) (Z 46 2) (Z 36 1) z)) ∧ (Z 7 4 = Z 36 1 → (2 : Int) = 2 → (Z 48 3 = 1 → z = -6) ∧ (Z 48 3 = 0 → TO (Z 49) (Z 48 2) (Z 36 1) z)) ∧ (Z 7 4 = Z 36 1 → (2 : Int) = 3 → (Z 50 3 = 1 → z = -6) ∧ (Z 50 3 = 0 → TO (Z 51) (Z 50 2) (Z 36 1) z)) ∧ (-6) ≤ z ∧ z ≤ 384)) hx hG  (fun z Z' h' q1 q2 q3 q4 => ⟨z, Z', h', rfl, q1, q2, q3, q4⟩))
  subst e; exact ⟨z, Z', h', hca, q⟩
set_option maxRecDepth 100000 in
theorem cw_113_1_i3 {l : Launch} {D : va_G} {b0 : Nat} {ad : Nat → Nat} {Hb : Heap} {tau : Nat → Int64} {d n s : Nat} {S : Nat → xS} {Z : xZ} {h : mx_H} {Post : mx_R → Prop} (hx : XH n s S Z h) (hG : GI n S Z)   (hP : ∀ (z : Int) (Z' : xZ) (h' : mx_H), XH n s S Z' h' → GI n S Z' → fr' [(42, (-1))] Z Z' → (((3 : Int) < 0 ∨ 3 < (3 : Int)) → z = -2) ∧ (Z 7 4 = Z 36 1 → (3 : Int) = 0 → (Z 44 3 = 1 → z = -6) ∧ (Z 44 3 = 0 → TO (Z 45) (Z 44 2) (Z 36 1) z)) ∧ (Z 7 4 = Z 36 1 → (3 : Int) = 1 → (Z 46 3 = 1 → z = -6) ∧ (Z 46 3 = 0 → TO (Z 47) (Z 46 2) (Z 36 1) z)) ∧ (Z 7 4 = Z 36 1 → (3 : Int) = 2 → (Z 48 3 = 1 → z = -6) ∧ (Z 48 3 = 0 → TO (Z 49) (Z 48 2) (Z 36 1) z)) ∧ (Z 7 4 = Z 36 1 → (3 : Int) = 3 → (Z 50 3 = 1 → z = -6) ∧ (Z 50 3 = 0 → TO (Z 51) (Z 50 2) (Z 36 1) z)) ∧ (-6) ≤ z ∧ z ≤ 384 → Post (some (xI z), h')) : mx_J (tB l D b0 ad Hb tau) mt_113 (d + 3) 0 [some (.ref 1), some (xI 3)] [] h Post := by
    have a1 : 1 < n := lt83 (GI_n hG) rfl
    have s1 : S 1 = .inl (11, [2, 0, 0, 0, 2, 2, 2, 2, 2, 2, 2, 2, 2, 2, 2, 2, 2]) := GI_s hG 1 rfl
    refine mx_J.step (sn_113 0) (fun _ _ => rfl) ?_
    refine mx_J.step (sn_113 1) (fun _ _ => rfl) ?_
    obtain ⟨z1, Z1, h1, hc1, hx1, hG1, hf1, b1⟩ := ct_145_1_i3 (d := d + 0) (l := l) (D := D) (b0 := b0) (ad := ad) (Hb := Hb) (tau := tau) hx hG 
    obtain ⟨bs1_0, b1⟩ := b1
    obtain ⟨bs1_1, b1⟩ := b1
    obtain ⟨bs1_2, b1⟩ := b1
    obtain ⟨bs1_3, b1⟩ := b1
    obtain ⟨bs1_4, b1⟩ := b1
    refine Jcv hx (show mx_Sn _ _ 2 (mx_callv 145 2 11 5) from sn_113 2) a1 s1 hc1 rfl rfl rfl ?_
    exact mx_J.ret (sn_113 5) (fun _ _ => rfl) (hP z1 Z1 h1 hx1 hG1 (fr_tr (M := [(42, (-1))]) fr_rf (hf1) (M1 := []) rfl rfl) ⟨(bs1_0), (bs1_1), (bs1_2), (bs1_3), (bs1_4), by omega⟩)
theorem ct_113_1_i3 {l : Launch} {D : va_G} {b0 : Nat} {ad : Nat → Nat} {Hb : Heap} {tau : Nat → Int64} {d n s : Nat} {S : Nat → xS} {Z : xZ} {h : mx_H} (hx : XH n s S Z h) (hG : GI n S Z)   : ∃ (z : Int) (Z' : xZ) (h' : mx_H), mx_Ca (tB l D b0 ad Hb tau) (d + 4) 113 [.ref 1, xI 3] h (some (xI z), h') ∧ XH n s S Z' h' ∧ GI n S Z' ∧ fr' [(42, (-1))] Z Z' ∧ ((((3 : Int) < 0 ∨ 3 < (3 : Int)) → z = -2) ∧ (Z 7 4 = Z 36 1 → (3 : Int) = 0 → (Z 44 3 = 1 → z = -6) ∧ (Z 44 3 = 0 → TO (Z 45) (Z 44 2) (Z 36 1) z)) ∧ (Z 7 4 = Z 36 1 → (3 : Int) = 1 → (Z 46 3 = 1 → z = -6) ∧ (Z 46 3 = 0 → TO (Z 47) (Z 46 2) (Z 36 1) z)) ∧ (Z 7 4 = Z 36 1 → (3 : Int) = 2 → (Z 48 3 = 1 → z = -6) ∧ (Z 48 3 = 0 → TO (Z 49) (Z 48 2) (Z 36 1) z)) ∧ (Z 7 4 = Z 36 1 → (3 : Int) = 3 → (Z 50 3 = 1 → z = -6) ∧ (Z 50 3 = 0 → TO (Z 51) (Z 50 2) (Z 36 1) z)) ∧ (-6) ≤ z ∧ z ≤ 384) := by
  obtain ⟨r, hca, z, Z', h', e, q⟩ := Jmt (B := tB l D b0 ad Hb tau) (M := mt_113) (mi := 113) (as := [.ref 1, xI 3]) (d := d + 3) (ls := [some (.ref 1), some (xI 3)]) rfl rfl rfl rfl rfl rfl (cw_113_1_i3 (l := l) (D := D) (b0 := b0) (ad := ad) (Hb := Hb) (tau := tau) (d := d) (Post := fun r => ∃ (z : Int) (Z' : xZ) (h' : mx_H), r = (some (xI z), h') ∧ XH n s S Z' h' ∧ GI n S Z' ∧ fr' [(42, (-1))] Z Z' ∧ ((((3 : Int) < 0 ∨ 3 < (3 : Int)) → z = -2) ∧ (Z 7 4 = Z 36 1 → (3 : Int) = 0 → (Z 44 3 = 1 → z = -6) ∧ (Z 44 3 = 0 → TO (Z 45) (Z 44 2) (Z 36 1) z)) ∧ (Z 7 4 = Z 36 1 → (3 : Int) = 1 → (Z 46 3 = 1 → z = -6) ∧ (Z 46 3 = 0 → TO (Z 47) (Z 46 2) (Z 36 1) z)) ∧ (Z 7 4 = Z 36 1 → (3 : Int) = 2 → (Z 48 3 = 1 → z = -6) ∧ (Z 48 3 = 0 → TO (Z 49) (Z 48 2) (Z 36 1) z)) ∧ (Z 7 4 = Z 36 1 → (3 : Int) = 3 → (Z 50 3 = 1 → z = -6) ∧ (Z 50 3 = 0 → TO (Z 51) (Z 50 2) (Z 36 1) z)) ∧ (-6) ≤ z ∧ z ≤ 384)) hx hG  (fun z Z' h' q1 q2 q3 q4 => ⟨z, Z', h', rfl, q1, q2, q3, q4⟩))
  subst e; exact ⟨z, Z', h', hca, q⟩
set_option maxRecDepth 100000 in
theorem cw_113_1_n {l : Launch} {D : va_G} {b0 : Nat} {ad : Nat → Nat} {Hb : Heap} {tau : Nat → Int64} {d n s : Nat} {S : Nat → xS} {Z : xZ} {h : mx_H} {Post : mx_R → Prop} (hx : XH n s S Z h) (hG : GI n S Z)  {x0 : Int} (p0 : (-2147483648) ≤ x0 ∧ x0 ≤ (-1)) (hP : ∀ z : Int, ((x0 < 0 ∨ 3 < x0) → z = -2) ∧ (Z 7 4 = Z 36 1 → x0 = 0 → (Z 44 3 = 1 → z = -6) ∧ (Z 44 3 = 0 → TO (Z 45) (Z 44 2) (Z 36 1) z)) ∧ (Z 7 4 = Z 36 1 → x0 = 1 → (Z 46 3 = 1 → z = -6) ∧ (Z 46 3 = 0 → TO (Z 47) (Z 46 2) (Z 36 1) z)) ∧ (Z 7 4 = Z 36 1 → x0 = 2 → (Z 48 3 = 1 → z = -6) ∧ (Z 48 3 = 0 → TO (Z 49) (Z 48 2) (Z 36 1) z)) ∧ (Z 7 4 = Z 36 1 → x0 = 3 → (Z 50 3 = 1 → z = -6) ∧ (Z 50 3 = 0 → TO (Z 51) (Z 50 2) (Z 36 1) z)) ∧ (-2) ≤ z ∧ z ≤ (-2) → Post (some (xI z), h)) : mx_J (tB l D b0 ad Hb tau) mt_113 (d + 2) 0 [some (.ref 1), some (xI x0)] [] h Post := by
    have a1 : 1 < n := lt83 (GI_n hG) rfl
    have s1 : S 1 = .inl (11, [2, 0, 0, 0, 2, 2, 2, 2, 2, 2, 2, 2, 2, 2, 2, 2, 2]) := GI_s hG 1 rfl
    refine mx_J.step (sn_113 0) (fun _ _ => rfl) ?_
    refine mx_J.step (sn_113 1) (fun _ _ => rfl) ?_
    obtain ⟨z1, hc1, b1⟩ := ct_145_1_n (d := d + 0) (l := l) (D := D) (b0 := b0) (ad := ad) (Hb := Hb) (tau := tau) hx hG (show (-2147483648) ≤ x0 ∧ x0 ≤ (-1) by omega)
    obtain ⟨bs1_0, b1⟩ := b1
    obtain ⟨bs1_1, b1⟩ := b1
    obtain ⟨bs1_2, b1⟩ := b1
    obtain ⟨bs1_3, b1⟩ := b1
    obtain ⟨bs1_4, b1⟩ := b1
    refine Jcv hx (show mx_Sn _ _ 2 (mx_callv 145 2 11 5) from sn_113 2) a1 s1 hc1 rfl rfl rfl ?_
    exact mx_J.ret (sn_113 5) (fun _ _ => rfl) (hP z1 ⟨(bs1_0), (bs1_1), (bs1_2), (bs1_3), (bs1_4), by omega⟩)
theorem ct_113_1_n {l : Launch} {D : va_G} {b0 : Nat} {ad : Nat → Nat} {Hb : Heap} {tau : Nat → Int64} {d n s : Nat} {S : Nat → xS} {Z : xZ} {h : mx_H} (hx : XH n s S Z h) (hG : GI n S Z)  {x0 : Int} (p0 : (-2147483648) ≤ x0 ∧ x0 ≤ (-1)) : ∃ z : Int, mx_Ca (tB l D b0 ad Hb tau) (d + 3) 113 [.ref 1, xI x0] h (some (xI z), h) ∧ (((x0 < 0 ∨ 3 < x0) → z = -2) ∧ (Z 7 4 = Z 36 1 → x0 = 0 → (Z 44 3 = 1 → z = -6) ∧ (Z 44 3 = 0 → TO (Z 45) (Z 44 2) (Z 36 1) z)) ∧ (Z 7 4 = Z 36 1 → x0 = 1 → (Z 46 3 = 1 → z = -6) ∧ (Z 46 3 = 0 → TO (Z 47) (Z 46 2) (Z 36 1) z)) ∧ (Z 7 4 = Z 36 1 → x0 = 2 → (Z 48 3 = 1 → z = -6) ∧ (Z 48 3 = 0 → TO (Z 49) (Z 48 2) (Z 36 1) z)) ∧ (Z 7 4 = Z 36 1 → x0 = 3 → (Z 50 3 = 1 → z = -6) ∧ (Z 50 3 = 0 → TO (Z 51) (Z 50 2) (Z 36 1) z)) ∧ (-2) ≤ z ∧ z ≤ (-2)) := by
  obtain ⟨r, hca, z, e, hp⟩ := Jmt (B := tB l D b0 ad Hb tau) (M := mt_113) (mi := 113) (as := [.ref 1, xI x0]) (d := d + 2) (ls := [some (.ref 1), some (xI x0)]) rfl rfl rfl rfl rfl rfl (cw_113_1_n (l := l) (D := D) (b0 := b0) (ad := ad) (Hb := Hb) (tau := tau) (d := d) (Post := fun r => ∃ z : Int, r = (some (xI z), h) ∧ (((x0 < 0 ∨ 3 < x0) → z = -2) ∧ (Z 7 4 = Z 36 1 → x0 = 0 → (Z 44 3 = 1 → z = -6) ∧ (Z 44 3 = 0 → TO (Z 45) (Z 44 2) (Z 36 1) z)) ∧ (Z 7 4 = Z 36 1 → x0 = 1 → (Z 46 3 = 1 → z = -6) ∧ (Z 46 3 = 0 → TO (Z 47) (Z 46 2) (Z 36 1) z)) ∧ (Z 7 4 = Z 36 1 → x0 = 2 → (Z 48 3 = 1 → z = -6) ∧ (Z 48 3 = 0 → TO (Z 49) (Z 48 2) (Z 36 1) z)) ∧ (Z 7 4 = Z 36 1 → x0 = 3 → (Z 50 3 = 1 → z = -6) ∧ (Z 50 3 = 0 → TO (Z 51) (Z 50 2) (Z 36 1) z)) ∧ (-2) ≤ z ∧ z ≤ (-2))) hx hG p0 (fun z hz => ⟨z, rfl, hz⟩))
  subst e; exact ⟨z, hca, hp⟩
set_option maxRecDepth 100000 in
theorem cw_113_1_p {l : Launch} {D : va_G} {b0 : Nat} {ad : Nat → Nat} {Hb : Heap} {tau : Nat → Int64} {d n s : Nat} {S : Nat → xS} {Z : xZ} {h : mx_H} {Post : mx_R → Prop} (hx : XH n s S Z h) (hG : GI n S Z)  {x0 : Int} (p0 : 4 ≤ x0 ∧ x0 ≤ 2147483647) (hP : ∀ z : Int, ((x0 < 0 ∨ 3 < x0) → z = -2) ∧ (Z 7 4 = Z 36 1 → x0 = 0 → (Z 44 3 = 1 → z = -6) ∧ (Z 44 3 = 0 → TO (Z 45) (Z 44 2) (Z 36 1) z)) ∧ (Z 7 4 = Z 36 1 → x0 = 1 → (Z 46 3 = 1 → z = -6) ∧ (Z 46 3 = 0 → TO (Z 47) (Z 46 2) (Z 36 1) z)) ∧ (Z 7 4 = Z 36 1 → x0 = 2 → (Z 48 3 = 1 → z = -6) ∧ (Z 48 3 = 0 → TO (Z 49) (Z 48 2) (Z 36 1) z)) ∧ (Z 7 4 = Z 36 1 → x0 = 3 → (Z 50 3 = 1 → z = -6) ∧ (Z 50 3 = 0 → TO (Z 51) (Z 50 2) (Z 36 1) z)) ∧ (-2) ≤ z ∧ z ≤ (-2) → Post (some (xI z), h)) : mx_J (tB l D b0 ad Hb tau) mt_113 (d + 2) 0 [some (.ref 1), some (xI x0)] [] h Post := by
    have a1 : 1 < n := lt83 (GI_n hG) rfl
    have s1 : S 1 = .inl (11, [2, 0, 0, 0, 2, 2, 2, 2, 2, 2, 2, 2, 2, 2, 2, 2, 2]) := GI_s hG 1 rfl
    refine mx_J.step (sn_113 0) (fun _ _ => rfl) ?_
    refine mx_J.step (sn_113 1) (fun _ _ => rfl) ?_
    obtain ⟨z1, hc1, b1⟩ := ct_145_1_p (d := d + 0) (l := l) (D := D) (b0 := b0) (ad := ad) (Hb := Hb) (tau := tau) hx hG (show 4 ≤ x0 ∧ x0 ≤ 2147483647 by omega)
    obtain ⟨bs1_0, b1⟩ := b1
    obtain ⟨bs1_1, b1⟩ := b1
    obtain ⟨bs1_2, b1⟩ := b1
    obtain ⟨bs1_3, b1⟩ := b1
    obtain ⟨bs1_4, b1⟩ := b1
    refine Jcv hx (show mx_Sn _ _ 2 (mx_callv 145 2 11 5) from sn_113 2) a1 s1 hc1 rfl rfl rfl ?_
    exact mx_J.ret (sn_113 5) (fun _ _ => rfl) (hP z1 ⟨(bs1_0), (bs1_1), (bs1_2), (bs1_3), (bs1_4), by omega⟩)
theorem ct_113_1_p {l : Launch} {D : va_G} {b0 : Nat} {ad : Nat → Nat} {Hb : Heap} {tau : Nat → Int64} {d n s : Nat} {S : Nat → xS} {Z : xZ} {h : mx_H} (hx : XH n s S Z h) (hG : GI n S Z)  {x0 : Int} (p0 : 4 ≤ x0 ∧ x0 ≤ 2147483647) : ∃ z : Int, mx_Ca (tB l D b0 ad Hb tau) (d + 3) 113 [.ref 1, xI x0] h (some (xI z), h) ∧ (((x0 < 0 ∨ 3 < x0) → z = -2) ∧ (Z 7 4 = Z 36 1 → x0 = 0 → (Z 44 3 = 1 → z = -6) ∧ (Z 44 3 = 0 → TO (Z 45) (Z 44 2) (Z 36 1) z)) ∧ (Z 7 4 = Z 36 1 → x0 = 1 → (Z 46 3 = 1 → z = -6) ∧ (Z 46 3 = 0 → TO (Z 47) (Z 46 2) (Z 36 1) z)) ∧ (Z 7 4 = Z 36 1 → x0 = 2 → (Z 48 3 = 1 → z = -6) ∧ (Z 48 3 = 0 → TO (Z 49) (Z 48 2) (Z 36 1) z)) ∧ (Z 7 4 = Z 36 1 → x0 = 3 → (Z 50 3 = 1 → z = -6) ∧ (Z 50 3 = 0 → TO (Z 51) (Z 50 2) (Z 36 1) z)) ∧ (-2) ≤ z ∧ z ≤ (-2)) := by
  obtain ⟨r, hca, z, e, hp⟩ := Jmt (B := tB l D b0 ad Hb tau) (M := mt_113) (mi := 113) (as := [.ref 1, xI x0]) (d := d + 2) (ls := [some (.ref 1), some (xI x0)]) rfl rfl rfl rfl rfl rfl (cw_113_1_p (l := l) (D := D) (b0 := b0) (ad := ad) (Hb := Hb) (tau := tau) (d := d) (Post := fun r => ∃ z : Int, r = (some (xI z), h) ∧ (((x0 < 0 ∨ 3 < x0) → z = -2) ∧ (Z 7 4 = Z 36 1 → x0 = 0 → (Z 44 3 = 1 → z = -6) ∧ (Z 44 3 = 0 → TO (Z 45) (Z 44 2) (Z 36 1) z)) ∧ (Z 7 4 = Z 36 1 → x0 = 1 → (Z 46 3 = 1 → z = -6) ∧ (Z 46 3 = 0 → TO (Z 47) (Z 46 2) (Z 36 1) z)) ∧ (Z 7 4 = Z 36 1 → x0 = 2 → (Z 48 3 = 1 → z = -6) ∧ (Z 48 3 = 0 → TO (Z 49) (Z 48 2) (Z 36 1) z)) ∧ (Z 7 4 = Z 36 1 → x0 = 3 → (Z 50 3 = 1 → z = -6) ∧ (Z 50 3 = 0 → TO (Z 51) (Z 50 2) (Z 36 1) z)) ∧ (-2) ≤ z ∧ z ≤ (-2))) hx hG p0 (fun z hz => ⟨z, rfl, hz⟩))
  subst e; exact ⟨z, hca, hp⟩
theorem ct_113_1 {l : Launch} {D : va_G} {b0 : Nat} {ad : Nat → Nat} {Hb : Heap} {tau : Nat → Int64} {d n s : Nat} {S : Nat → xS} {Z : xZ} {h : mx_H} (hx : XH n s S Z h) (hG : GI n S Z) {x0 : Int} (p0 : (-2147483648) ≤ x0 ∧ x0 ≤ 2147483647) : ∃ (z : Int) (Z' : xZ) (h' : mx_H), mx_Ca (tB l D b0 ad Hb tau) (d + 4) 113 [.ref 1, xI x0] h (some (xI z), h') ∧ XH n s S Z' h' ∧ GI n S Z' ∧ fr' [(42, (-1))] Z Z' ∧ (((x0 < 0 ∨ 3 < x0) → z = -2) ∧ (Z 7 4 = Z 36 1 → x0 = 0 → (Z 44 3 = 1 → z = -6) ∧ (Z 44 3 = 0 → TO (Z 45) (Z 44 2) (Z 36 1) z)) ∧ (Z 7 4 = Z 36 1 → x0 = 1 → (Z 46 3 = 1 → z = -6) ∧ (Z 46 3 = 0 → TO (Z 47) (Z 46 2) (Z 36 1) z)) ∧ (Z 7 4 = Z 36 1 → x0 = 2 → (Z 48 3 = 1 → z = -6) ∧ (Z 48 3 = 0 → TO (Z 49) (Z 48 2) (Z 36 1) z)) ∧ (Z 7 4 = Z 36 1 → x0 = 3 → (Z 50 3 = 1 → z = -6) ∧ (Z 50 3 = 0 → TO (Z 51) (Z 50 2) (Z 36 1) z)) ∧ (-6) ≤ z ∧ z ≤ 384) := by
  have hc : x0 = 0 ∨ x0 = 1 ∨ x0 = 2 ∨ x0 = 3 ∨ ((-2147483648) ≤ x0 ∧ x0 ≤ (-1)) ∨ (4 ≤ x0 ∧ x0 ≤ 2147483647) := by omega
  rcases hc with hc | hc | hc | hc | hc | hc
  · subst hc
    obtain ⟨z, Z', h', hca, q1, q2, q3, b⟩ := ct_113_1_i0 (d := d + 0) (l := l) (D := D) (b0 := b0) (ad := ad) (Hb := Hb) (tau := tau) hx hG 
    exact ⟨z, Z', h', hca, q1, q2, fr_tr (M1 := []) fr_rf q3 rfl rfl, ⟨b.1, b.2.1, b.2.2.1, b.2.2.2.1, b.2.2.2.2.1, Int.le_trans (by decide) b.2.2.2.2.2.1, Int.le_trans b.2.2.2.2.2.2 (by decide)⟩⟩
  · subst hc
    obtain ⟨z, Z', h', hca, q1, q2, q3, b⟩ := ct_113_1_i1 (d := d + 0) (l := l) (D := D) (b0 := b0) (ad := ad) (Hb := Hb) (tau := tau) hx hG 
    exact ⟨z, Z', h', hca, q1, q2, fr_tr (M1 := []) fr_rf q3 rfl rfl, ⟨b.1, b.2.1, b.2.2.1, b.2.2.2.1, b.2.2.2.2.1, Int.le_trans (by decide) b.2.2.2.2.2.1, Int.le_trans b.2.2.2.2.2.2 (by decide)⟩⟩
  · subst hc
    obtain ⟨z, Z', h', hca, q1, q2, q3, b⟩ := ct_113_1_i2 (d := d + 0) (l := l) (D := D) (b0 := b0) (ad := ad) (Hb := Hb) (tau := tau) hx hG 
    exact ⟨z, Z', h', hca, q1, q2, fr_tr (M1 := []) fr_rf q3 rfl rfl, ⟨b.1, b.2.1, b.2.2.1, b.2.2.2.1, b.2.2.2.2.1, Int.le_trans (by decide) b.2.2.2.2.2.1, Int.le_trans b.2.2.2.2.2.2 (by decide)⟩⟩
  · subst hc
    obtain ⟨z, Z', h', hca, q1, q2, q3, b⟩ := ct_113_1_i3 (d := d + 0) (l := l) (D := D) (b0 := b0) (ad := ad) (Hb := Hb) (tau := tau) hx hG 
    exact ⟨z, Z', h', hca, q1, q2, fr_tr (M1 := []) fr_rf q3 rfl rfl, ⟨b.1, b.2.1, b.2.2.1, b.2.2.2.1, b.2.2.2.2.1, Int.le_trans (by decide) b.2.2.2.2.2.1, Int.le_trans b.2.2.2.2.2.2 (by decide)⟩⟩
  · skip
    obtain ⟨z, hca, b⟩ := ct_113_1_n (d := d + 1) (l := l) (D := D) (b0 := b0) (ad := ad) (Hb := Hb) (tau := tau) hx hG hc
    exact ⟨z, Z, h, hca, hx, hG, fr_rf, ⟨b.1, b.2.1, b.2.2.1, b.2.2.2.1, b.2.2.2.2.1, Int.le_trans (by decide) b.2.2.2.2.2.1, Int.le_trans b.2.2.2.2.2.2 (by decide)⟩⟩
  · skip
    obtain ⟨z, hca, b⟩ := ct_113_1_p (d := d + 1) (l := l) (D := D) (b0 := b0) (ad := ad) (Hb := Hb) (tau := tau) hx hG hc
    exact ⟨z, Z, h, hca, hx, hG, fr_rf, ⟨b.1, b.2.1, b.2.2.1, b.2.2.2.1, b.2.2.2.2.1, Int.le_trans (by decide) b.2.2.2.2.2.1, Int.le_trans b.2.2.2.2.2.2 (by decide)⟩⟩
set_option maxRecDepth 100000 in
theorem cw_116_1_i0 {l : Launch} {D : va_G} {b0 : Nat} {ad : Nat → Nat} {Hb : Heap} {tau : Nat → Int64} {d n s : Nat} {S : Nat → xS} {Z : xZ} {h : mx_H} {Post : mx_R → Prop} (hx : XH n s S Z h) (hG : GI n S Z)   (hP : ∀ (z : Int) (Z' : xZ) (h' : mx_H), XH n s S Z' h' → GI n S Z' → fr' [(42, (-1))] Z Z' → (-6) ≤ z ∧ z ≤ 1 → Post (some (xI z), h')) : mx_J (tB l D b0 ad Hb tau) mt_116 (d + 3) 0 [some (.ref 1), some (xI 0), none] [] h Post := by
    have a1 : 1 < n := lt83 (GI_n hG) rfl
    have s1 : S 1 = .inl (11, [2, 0, 0, 0, 2, 2, 2, 2, 2, 2, 2, 2, 2, 2, 2, 2, 2]) := GI_s hG 1 rfl
    have a7 : 7 < n := lt83 (GI_n hG) rfl
    have s7 : S 7 = .inl (0, [2, 2, 2, 2, 0, 0]) := GI_s hG 7 rfl
    have a36 : 36 < n := lt83 (GI_n hG) rfl
    have s36 : S 36 = .inl (5, [2, 0, 0, 0, 0, 0]) := GI_s hG 36 rfl
    refine mx_J.step (sn_116 0) (fun _ _ => rfl) ?_
    refine mx_J.step (sn_116 1) (fun _ _ => rfl) ?_
    obtain ⟨z1, Z1, h1, hc1, hx1, hG1, hf1, b1⟩ := ct_145_1_i0 (d := d + 0) (l := l) (D := D) (b0 := b0) (ad := ad) (Hb := Hb) (tau := tau) hx hG 
    obtain ⟨bs1_0, b1⟩ := b1
    obtain ⟨bs1_1, b1⟩ := b1
    obtain ⟨bs1_2, b1⟩ := b1
    obtain ⟨bs1_3, b1⟩ := b1
    obtain ⟨bs1_4, b1⟩ := b1
    refine Jcv hx (show mx_Sn _ _ 2 (mx_callv 145 2 11 5) from sn_116 2) a1 s1 hc1 rfl rfl rfl ?_
    refine mx_J.step (ls2 := [some (.ref 1), some (xI 0), some (xI z1)]) (sn_116 5) (fun _ _ => rfl) ?_
    refine mx_J.step (sn_116 6) (fun _ _ => rfl) ?_
    refine Jif_ge (show mx_Sn _ _ 7 (mx_if_ge 12 10) from sn_116 7) (by omega) (fun q2 => ?_) (fun q2 => ?_)
    · skip
      refine mx_J.step (sn_116 12) (fun _ _ => rfl) ?_
      refine JgetR (g := 5) (b := 7) hx1 (show mx_Sn _ _ 13 (mx_getf 11 5 16) from sn_116 13) a1 s1 rfl rfl (hG1.prr 1 5 rfl) ?_
      refine mx_J.step (sn_116 16) (fun _ _ => rfl) ?_
      refine JgetR (g := 12) (b := 36) hx1 (show mx_Sn _ _ 17 (mx_getf 11 12 20) from sn_116 17) a1 s1 rfl rfl (hG1.prr 1 12 rfl) ?_
      have b6 : 0 ≤ Z 36 2 ∧ Z 36 2 ≤ 384 := hG.pr 36 2
      refine JgetI (g := 2) (z := Z 36 2) hx1 (show mx_Sn _ _ 20 (mx_getf 5 2 23) from sn_116 20) a36 s36 rfl rfl (hf1 36 2 rfl) ?_
      refine mx_J.step (sn_116 23) (fun _ _ => rfl) ?_
      obtain ⟨z7, hc7, b7⟩ := ct_10_7 (d := d + 0) (l := l) (D := D) (b0 := b0) (ad := ad) (Hb := Hb) (tau := tau) hx1 hG1 (show (-2147483648) ≤ Z 36 2 ∧ Z 36 2 ≤ 2147483647 by omega) (show (-2147483648) ≤ z1 ∧ z1 ≤ 2147483647 by omega)
      refine Jcv hx1 (show mx_Sn _ _ 24 (mx_callv 10 3 0 27) from sn_116 24) a7 s7 hc7 rfl rfl rfl ?_
      have c35 : ∀ (k8_0 : Int), 0 ≤ k8_0 ∧ k8_0 ≤ 1 → mx_J (tB l D b0 ad Hb tau) mt_116 (d + 3) 35 [some (.ref 1), some (xI 0), some (xI z1)] [xI k8_0] h1 Post := by
        intro k8_0 f8_0
        exact mx_J.ret (sn_116 35) (fun _ _ => rfl) (hP k8_0 Z1 h1 hx1 hG1 (fr_tr (M := [(42, (-1))]) fr_rf (hf1) (M1 := []) rfl rfl) (by omega))
      refine Jif_eq (show mx_Sn _ _ 27 (mx_if_eq 34 30) from sn_116 27) (by omega) (fun q9 => ?_) (fun q9 => ?_)
      · skip
        refine JcI (z := 0) (show mx_Sn _ _ 34 (mx_const (.int 0) 35) from sn_116 34) rfl ?_
        exact c35 0 (by omega)
      · skip
        refine JcI (z := 1) (show mx_Sn _ _ 30 (mx_const (.int 1) 31) from sn_116 30) rfl ?_
        refine mx_J.step (sn_116 31) (fun _ _ => rfl) ?_
        exact c35 1 (by omega)
    · skip
      refine mx_J.step (sn_116 10) (fun _ _ => rfl) ?_
      exact mx_J.ret (sn_116 11) (fun _ _ => rfl) (hP z1 Z1 h1 hx1 hG1 (fr_tr (M := [(42, (-1))]) fr_rf (hf1) (M1 := []) rfl rfl) (by omega))
theorem ct_116_1_i0 {l : Launch} {D : va_G} {b0 : Nat} {ad : Nat → Nat} {Hb : Heap} {tau : Nat → Int64} {d n s : Nat} {S : Nat → xS} {Z : xZ} {h : mx_H} (hx : XH n s S Z h) (hG : GI n S Z)   : ∃ (z : Int) (Z' : xZ) (h' : mx_H), mx_Ca (tB l D b0 ad Hb tau) (d + 4) 116 [.ref 1, xI 0] h (some (xI z), h') ∧ XH n s S Z' h' ∧ GI n S Z' ∧ fr' [(42, (-1))] Z Z' ∧ ((-6) ≤ z ∧ z ≤ 1) := by
  obtain ⟨r, hca, z, Z', h', e, q⟩ := Jmt (B := tB l D b0 ad Hb tau) (M := mt_116) (mi := 116) (as := [.ref 1, xI 0]) (d := d + 3) (ls := [some (.ref 1), some (xI 0), none]) rfl rfl rfl rfl rfl rfl (cw_116_1_i0 (l := l) (D := D) (b0 := b0) (ad := ad) (Hb := Hb) (tau := tau) (d := d) (Post := fun r => ∃ (z : Int) (Z' : xZ) (h' : mx_H), r = (some (xI z), h') ∧ XH n s S Z' h' ∧ GI n S Z' ∧ fr' [(42, (-1))] Z Z' ∧ ((-6) ≤ z ∧ z ≤ 1)) hx hG  (fun z Z' h' q1 q2 q3 q4 => ⟨z, Z', h', rfl, q1, q2, q3, q4⟩))
  subst e; exact ⟨z, Z', h', hca, q⟩
set_option maxRecDepth 100000 in
theorem cw_116_1_i1 {l : Launch} {D : va_G} {b0 : Nat} {ad : Nat → Nat} {Hb : Heap} {tau : Nat → Int64} {d n s : Nat} {S : Nat → xS} {Z : xZ} {h : mx_H} {Post : mx_R → Prop} (hx : XH n s S Z h) (hG : GI n S Z)   (hP : ∀ (z : Int) (Z' : xZ) (h' : mx_H), XH n s S Z' h' → GI n S Z' → fr' [(42, (-1))] Z Z' → (-6) ≤ z ∧ z ≤ 1 → Post (some (xI z), h')) : mx_J (tB l D b0 ad Hb tau) mt_116 (d + 3) 0 [some (.ref 1), some (xI 1), none] [] h Post := by
    have a1 : 1 < n := lt83 (GI_n hG) rfl
    have s1 : S 1 = .inl (11, [2, 0, 0, 0, 2, 2, 2, 2, 2, 2, 2, 2, 2, 2, 2, 2, 2]) := GI_s hG 1 rfl
    have a7 : 7 < n := lt83 (GI_n hG) rfl
    have s7 : S 7 = .inl (0, [2, 2, 2, 2, 0, 0]) := GI_s hG 7 rfl
    have a36 : 36 < n := lt83 (GI_n hG) rfl
    have s36 : S 36 = .inl (5, [2, 0, 0, 0, 0, 0]) := GI_s hG 36 rfl
    refine mx_J.step (sn_116 0) (fun _ _ => rfl) ?_
    refine mx_J.step (sn_116 1) (fun _ _ => rfl) ?_
    obtain ⟨z1, Z1, h1, hc1, hx1, hG1, hf1, b1⟩ := ct_145_1_i1 (d := d + 0) (l := l) (D := D) (b0 := b0) (ad := ad) (Hb := Hb) (tau := tau) hx hG 
    obtain ⟨bs1_0, b1⟩ := b1
    obtain ⟨bs1_1, b1⟩ := b1
    obtain ⟨bs1_2, b1⟩ := b1
    obtain ⟨bs1_3, b1⟩ := b1
    obtain ⟨bs1_4, b1⟩ := b1
    refine Jcv hx (show mx_Sn _ _ 2 (mx_callv 145 2 11 5) from sn_116 2) a1 s1 hc1 rfl rfl rfl ?_
    refine mx_J.step (ls2 := [some (.ref 1), some (xI 1), some (xI z1)]) (sn_116 5) (fun _ _ => rfl) ?_
    refine mx_J.step (sn_116 6) (fun _ _ => rfl) ?_
    refine Jif_ge (show mx_Sn _ _ 7 (mx_if_ge 12 10) from sn_116 7) (by omega) (fun q2 => ?_) (fun q2 => ?_)
    · skip
      refine mx_J.step (sn_116 12) (fun _ _ => rfl) ?_
      refine JgetR (g := 5) (b := 7) hx1 (show mx_Sn _ _ 13 (mx_getf 11 5 16) from sn_116 13) a1 s1 rfl rfl (hG1.prr 1 5 rfl) ?_
      refine mx_J.step (sn_116 16) (fun _ _ => rfl) ?_
      refine JgetR (g := 12) (b := 36) hx1 (show mx_Sn _ _ 17 (mx_getf 11 12 20) from sn_116 17) a1 s1 rfl rfl (hG1.prr 1 12 rfl) ?_
      have b6 : 0 ≤ Z 36 2 ∧ Z 36 2 ≤ 384 := hG.pr 36 2
      refine JgetI (g := 2) (z := Z 36 2) hx1 (show mx_Sn _ _ 20 (mx_getf 5 2 23) from sn_116 20) a36 s36 rfl rfl (hf1 36 2 rfl) ?_
      refine mx_J.step (sn_116 23) (fun _ _ => rfl) ?_
      obtain ⟨z7, hc7, b7⟩ := ct_10_7 (d := d + 0) (l := l) (D := D) (b0 := b0) (ad := ad) (Hb := Hb) (tau := tau) hx1 hG1 (show (-2147483648) ≤ Z 36 2 ∧ Z 36 2 ≤ 2147483647 by omega) (show (-2147483648) ≤ z1 ∧ z1 ≤ 2147483647 by omega)
      refine Jcv hx1 (show mx_Sn _ _ 24 (mx_callv 10 3 0 27) from sn_116 24) a7 s7 hc7 rfl rfl rfl ?_
      have c35 : ∀ (k8_0 : Int), 0 ≤ k8_0 ∧ k8_0 ≤ 1 → mx_J (tB l D b0 ad Hb tau) mt_116 (d + 3) 35 [some (.ref 1), some (xI 1), some (xI z1)] [xI k8_0] h1 Post := by
        intro k8_0 f8_0
        exact mx_J.ret (sn_116 35) (fun _ _ => rfl) (hP k8_0 Z1 h1 hx1 hG1 (fr_tr (M := [(42, (-1))]) fr_rf (hf1) (M1 := []) rfl rfl) (by omega))
      refine Jif_eq (show mx_Sn _ _ 27 (mx_if_eq 34 30) from sn_116 27) (by omega) (fun q9 => ?_) (fun q9 => ?_)
      · skip
        refine JcI (z := 0) (show mx_Sn _ _ 34 (mx_const (.int 0) 35) from sn_116 34) rfl ?_
        exact c35 0 (by omega)
      · skip
        refine JcI (z := 1) (show mx_Sn _ _ 30 (mx_const (.int 1) 31) from sn_116 30) rfl ?_
        refine mx_J.step (sn_116 31) (fun _ _ => rfl) ?_
        exact c35 1 (by omega)
    · skip
      refine mx_J.step (sn_116 10) (fun _ _ => rfl) ?_
      exact mx_J.ret (sn_116 11) (fun _ _ => rfl) (hP z1 Z1 h1 hx1 hG1 (fr_tr (M := [(42, (-1))]) fr_rf (hf1) (M1 := []) rfl rfl) (by omega))
theorem ct_116_1_i1 {l : Launch} {D : va_G} {b0 : Nat} {ad : Nat → Nat} {Hb : Heap} {tau : Nat → Int64} {d n s : Nat} {S : Nat → xS} {Z : xZ} {h : mx_H} (hx : XH n s S Z h) (hG : GI n S Z)   : ∃ (z : Int) (Z' : xZ) (h' : mx_H), mx_Ca (tB l D b0 ad Hb tau) (d + 4) 116 [.ref 1, xI 1] h (some (xI z), h') ∧ XH n s S Z' h' ∧ GI n S Z' ∧ fr' [(42, (-1))] Z Z' ∧ ((-6) ≤ z ∧ z ≤ 1) := by
  obtain ⟨r, hca, z, Z', h', e, q⟩ := Jmt (B := tB l D b0 ad Hb tau) (M := mt_116) (mi := 116) (as := [.ref 1, xI 1]) (d := d + 3) (ls := [some (.ref 1), some (xI 1), none]) rfl rfl rfl rfl rfl rfl (cw_116_1_i1 (l := l) (D := D) (b0 := b0) (ad := ad) (Hb := Hb) (tau := tau) (d := d) (Post := fun r => ∃ (z : Int) (Z' : xZ) (h' : mx_H), r = (some (xI z), h') ∧ XH n s S Z' h' ∧ GI n S Z' ∧ fr' [(42, (-1))] Z Z' ∧ ((-6) ≤ z ∧ z ≤ 1)) hx hG  (fun z Z' h' q1 q2 q3 q4 => ⟨z, Z', h', rfl, q1, q2, q3, q4⟩))
  subst e; exact ⟨z, Z', h', hca, q⟩
set_option maxRecDepth 100000 in
theorem cw_116_1_i2 {l : Launch} {D : va_G} {b0 : Nat} {ad : Nat → Nat} {Hb : Heap} {tau : Nat → Int64} {d n s : Nat} {S : Nat → xS} {Z : xZ} {h : mx_H} {Post : mx_R → Prop} (hx : XH n s S Z h) (hG : GI n S Z)   (hP : ∀ (z : Int) (Z' : xZ) (h' : mx_H), XH n s S Z' h' → GI n S Z' → fr' [(42, (-1))] Z Z' → (-6) ≤ z ∧ z ≤ 1 → Post (some (xI z), h')) : mx_J (tB l D b0 ad Hb tau) mt_116 (d + 3) 0 [some (.ref 1), some (xI 2), none] [] h Post := by
    have a1 : 1 < n := lt83 (GI_n hG) rfl
    have s1 : S 1 = .inl (11, [2, 0, 0, 0, 2, 2, 2, 2, 2, 2, 2, 2, 2, 2, 2, 2, 2]) := GI_s hG 1 rfl
    have a7 : 7 < n := lt83 (GI_n hG) rfl
    have s7 : S 7 = .inl (0, [2, 2, 2, 2, 0, 0]) := GI_s hG 7 rfl
    have a36 : 36 < n := lt83 (GI_n hG) rfl
    have s36 : S 36 = .inl (5, [2, 0, 0, 0, 0, 0]) := GI_s hG 36 rfl
    refine mx_J.step (sn_116 0) (fun _ _ => rfl) ?_
    refine mx_J.step (sn_116 1) (fun _ _ => rfl) ?_
    obtain ⟨z1, Z1, h1, hc1, hx1, hG1, hf1, b1⟩ := ct_145_1_i2 (d := d + 0) (l := l) (D := D) (b0 := b0) (ad := ad) (Hb := Hb) (tau := tau) hx hG 
    obtain ⟨bs1_0, b1⟩ := b1
    obtain ⟨bs1_1, b1⟩ := b1
    obtain ⟨bs1_2, b1⟩ := b1
    obtain ⟨bs1_3, b1⟩ := b1
    obtain ⟨bs1_4, b1⟩ := b1
    refine Jcv hx (show mx_Sn _ _ 2 (mx_callv 145 2 11 5) from sn_116 2) a1 s1 hc1 rfl rfl rfl ?_
    refine mx_J.step (ls2 := [some (.ref 1), some (xI 2), some (xI z1)]) (sn_116 5) (fun _ _ => rfl) ?_
    refine mx_J.step (sn_116 6) (fun _ _ => rfl) ?_
    refine Jif_ge (show mx_Sn _ _ 7 (mx_if_ge 12 10) from sn_116 7) (by omega) (fun q2 => ?_) (fun q2 => ?_)
    · skip
      refine mx_J.step (sn_116 12) (fun _ _ => rfl) ?_
      refine JgetR (g := 5) (b := 7) hx1 (show mx_Sn _ _ 13 (mx_getf 11 5 16) from sn_116 13) a1 s1 rfl rfl (hG1.prr 1 5 rfl) ?_
      refine mx_J.step (sn_116 16) (fun _ _ => rfl) ?_
      refine JgetR (g := 12) (b := 36) hx1 (show mx_Sn _ _ 17 (mx_getf 11 12 20) from sn_116 17) a1 s1 rfl rfl (hG1.prr 1 12 rfl) ?_
      have b6 : 0 ≤ Z 36 2 ∧ Z 36 2 ≤ 384 := hG.pr 36 2
      refine JgetI (g := 2) (z := Z 36 2) hx1 (show mx_Sn _ _ 20 (mx_getf 5 2 23) from sn_116 20) a36 s36 rfl rfl (hf1 36 2 rfl) ?_
      refine mx_J.step (sn_116 23) (fun _ _ => rfl) ?_
      obtain ⟨z7, hc7, b7⟩ := ct_10_7 (d := d + 0) (l := l) (D := D) (b0 := b0) (ad := ad) (Hb := Hb) (tau := tau) hx1 hG1 (show (-2147483648) ≤ Z 36 2 ∧ Z 36 2 ≤ 2147483647 by omega) (show (-2147483648) ≤ z1 ∧ z1 ≤ 2147483647 by omega)
      refine Jcv hx1 (show mx_Sn _ _ 24 (mx_callv 10 3 0 27) from sn_116 24) a7 s7 hc7 rfl rfl rfl ?_
      have c35 : ∀ (k8_0 : Int), 0 ≤ k8_0 ∧ k8_0 ≤ 1 → mx_J (tB l D b0 ad Hb tau) mt_116 (d + 3) 35 [some (.ref 1), some (xI 2), some (xI z1)] [xI k8_0] h1 Post := by
        intro k8_0 f8_0
        exact mx_J.ret (sn_116 35) (fun _ _ => rfl) (hP k8_0 Z1 h1 hx1 hG1 (fr_tr (M := [(42, (-1))]) fr_rf (hf1) (M1 := []) rfl rfl) (by omega))
      refine Jif_eq (show mx_Sn _ _ 27 (mx_if_eq 34 30) from sn_116 27) (by omega) (fun q9 => ?_) (fun q9 => ?_)
      · skip
        refine JcI (z := 0) (show mx_Sn _ _ 34 (mx_const (.int 0) 35) from sn_116 34) rfl ?_
        exact c35 0 (by omega)
      · skip
        refine JcI (z := 1) (show mx_Sn _ _ 30 (mx_const (.int 1) 31) from sn_116 30) rfl ?_
        refine mx_J.step (sn_116 31) (fun _ _ => rfl) ?_
        exact c35 1 (by omega)
    · skip
      refine mx_J.step (sn_116 10) (fun _ _ => rfl) ?_
      exact mx_J.ret (sn_116 11) (fun _ _ => rfl) (hP z1 Z1 h1 hx1 hG1 (fr_tr (M := [(42, (-1))]) fr_rf (hf1) (M1 := []) rfl rfl) (by omega))
theorem ct_116_1_i2 {l : Launch} {D : va_G} {b0 : Nat} {ad : Nat → Nat} {Hb : Heap} {tau : Nat → Int64} {d n s : Nat} {S : Nat → xS} {Z : xZ} {h : mx_H} (hx : XH n s S Z h) (hG : GI n S Z)   : ∃ (z : Int) (Z' : xZ) (h' : mx_H), mx_Ca (tB l D b0 ad Hb tau) (d + 4) 116 [.ref 1, xI 2] h (some (xI z), h') ∧ XH n s S Z' h' ∧ GI n S Z' ∧ fr' [(42, (-1))] Z Z' ∧ ((-6) ≤ z ∧ z ≤ 1) := by
  obtain ⟨r, hca, z, Z', h', e, q⟩ := Jmt (B := tB l D b0 ad Hb tau) (M := mt_116) (mi := 116) (as := [.ref 1, xI 2]) (d := d + 3) (ls := [some (.ref 1), some (xI 2), none]) rfl rfl rfl rfl rfl rfl (cw_116_1_i2 (l := l) (D := D) (b0 := b0) (ad := ad) (Hb := Hb) (tau := tau) (d := d) (Post := fun r => ∃ (z : Int) (Z' : xZ) (h' : mx_H), r = (some (xI z), h') ∧ XH n s S Z' h' ∧ GI n S Z' ∧ fr' [(42, (-1))] Z Z' ∧ ((-6) ≤ z ∧ z ≤ 1)) hx hG  (fun z Z' h' q1 q2 q3 q4 => ⟨z, Z', h', rfl, q1, q2, q3, q4⟩))
  subst e; exact ⟨z, Z', h', hca, q⟩
set_option maxRecDepth 100000 in
theorem cw_116_1_i3 {l : Launch} {D : va_G} {b0 : Nat} {ad : Nat → Nat} {Hb : Heap} {tau : Nat → Int64} {d n s : Nat} {S : Nat → xS} {Z : xZ} {h : mx_H} {Post : mx_R → Prop} (hx : XH n s S Z h) (hG : GI n S Z)   (hP : ∀ (z : Int) (Z' : xZ) (h' : mx_H), XH n s S Z' h' → GI n S Z' → fr' [(42, (-1))] Z Z' → (-6) ≤ z ∧ z ≤ 1 → Post (some (xI z), h')) : mx_J (tB l D b0 ad Hb tau) mt_116 (d + 3) 0 [some (.ref 1), some (xI 3), none] [] h Post := by
    have a1 : 1 < n := lt83 (GI_n hG) rfl
    have s1 : S 1 = .inl (11, [2, 0, 0, 0, 2, 2, 2, 2, 2, 2, 2, 2, 2, 2, 2, 2, 2]) := GI_s hG 1 rfl
    have a7 : 7 < n := lt83 (GI_n hG) rfl
    have s7 : S 7 = .inl (0, [2, 2, 2, 2, 0, 0]) := GI_s hG 7 rfl
    have a36 : 36 < n := lt83 (GI_n hG) rfl
    have s36 : S 36 = .inl (5, [2, 0, 0, 0, 0, 0]) := GI_s hG 36 rfl
    refine mx_J.step (sn_116 0) (fun _ _ => rfl) ?_
    refine mx_J.step (sn_116 1) (fun _ _ => rfl) ?_
    obtain ⟨z1, Z1, h1, hc1, hx1, hG1, hf1, b1⟩ := ct_145_1_i3 (d := d + 0) (l := l) (D := D) (b0 := b0) (ad := ad) (Hb := Hb) (tau := tau) hx hG 
    obtain ⟨bs1_0, b1⟩ := b1
    obtain ⟨bs1_1, b1⟩ := b1
    obtain ⟨bs1_2, b1⟩ := b1
    obtain ⟨bs1_3, b1⟩ := b1
    obtain ⟨bs1_4, b1⟩ := b1
    refine Jcv hx (show mx_Sn _ _ 2 (mx_callv 145 2 11 5) from sn_116 2) a1 s1 hc1 rfl rfl rfl ?_
    refine mx_J.step (ls2 := [some (.ref 1), some (xI 3), some (xI z1)]) (sn_116 5) (fun _ _ => rfl) ?_
    refine mx_J.step (sn_116 6) (fun _ _ => rfl) ?_
    refine Jif_ge (show mx_Sn _ _ 7 (mx_if_ge 12 10) from sn_116 7) (by omega) (fun q2 => ?_) (fun q2 => ?_)
    · skip
      refine mx_J.step (sn_116 12) (fun _ _ => rfl) ?_
      refine JgetR (g := 5) (b := 7) hx1 (show mx_Sn _ _ 13 (mx_getf 11 5 16) from sn_116 13) a1 s1 rfl rfl (hG1.prr 1 5 rfl) ?_
      refine mx_J.step (sn_116 16) (fun _ _ => rfl) ?_
      refine JgetR (g := 12) (b := 36) hx1 (show mx_Sn _ _ 17 (mx_getf 11 12 20) from sn_116 17) a1 s1 rfl rfl (hG1.prr 1 12 rfl) ?_
      have b6 : 0 ≤ Z 36 2 ∧ Z 36 2 ≤ 384 := hG.pr 36 2
      refine JgetI (g := 2) (z := Z 36 2) hx1 (show mx_Sn _ _ 20 (mx_getf 5 2 23) from sn_116 20) a36 s36 rfl rfl (hf1 36 2 rfl) ?_
      refine mx_J.step (sn_116 23) (fun _ _ => rfl) ?_
      obtain ⟨z7, hc7, b7⟩ := ct_10_7 (d := d + 0) (l := l) (D := D) (b0 := b0) (ad := ad) (Hb := Hb) (tau := tau) hx1 hG1 (show (-2147483648) ≤ Z 36 2 ∧ Z 36 2 ≤ 2147483647 by omega) (show (-2147483648) ≤ z1 ∧ z1 ≤ 2147483647 by omega)
      refine Jcv hx1 (show mx_Sn _ _ 24 (mx_callv 10 3 0 27) from sn_116 24) a7 s7 hc7 rfl rfl rfl ?_
      have c35 : ∀ (k8_0 : Int), 0 ≤ k8_0 ∧ k8_0 ≤ 1 → mx_J (tB l D b0 ad Hb tau) mt_116 (d + 3) 35 [some (.ref 1), some (xI 3), some (xI z1)] [xI k8_0] h1 Post := by
        intro k8_0 f8_0
        exact mx_J.ret (sn_116 35) (fun _ _ => rfl) (hP k8_0 Z1 h1 hx1 hG1 (fr_tr (M := [(42, (-1))]) fr_rf (hf1) (M1 := []) rfl rfl) (by omega))
      refine Jif_eq (show mx_Sn _ _ 27 (mx_if_eq 34 30) from sn_116 27) (by omega) (fun q9 => ?_) (fun q9 => ?_)
      · skip
        refine JcI (z := 0) (show mx_Sn _ _ 34 (mx_const (.int 0) 35) from sn_116 34) rfl ?_
        exact c35 0 (by omega)
      · skip
        refine JcI (z := 1) (show mx_Sn _ _ 30 (mx_const (.int 1) 31) from sn_116 30) rfl ?_
        refine mx_J.step (sn_116 31) (fun _ _ => rfl) ?_
        exact c35 1 (by omega)
    · skip
      refine mx_J.step (sn_116 10) (fun _ _ => rfl) ?_
      exact mx_J.ret (sn_116 11) (fun _ _ => rfl) (hP z1 Z1 h1 hx1 hG1 (fr_tr (M := [(42, (-1))]) fr_rf (hf1) (M1 := []) rfl rfl) (by omega))
theorem ct_116_1_i3 {l : Launch} {D : va_G} {b0 : Nat} {ad : Nat → Nat} {Hb : Heap} {tau : Nat → Int64} {d n s : Nat} {S : Nat → xS} {Z : xZ} {h : mx_H} (hx : XH n s S Z h) (hG : GI n S Z)   : ∃ (z : Int) (Z' : xZ) (h' : mx_H), mx_Ca (tB l D b0 ad Hb tau) (d + 4) 116 [.ref 1, xI 3] h (some (xI z), h') ∧ XH n s S Z' h' ∧ GI n S Z' ∧ fr' [(42, (-1))] Z Z' ∧ ((-6) ≤ z ∧ z ≤ 1) := by
  obtain ⟨r, hca, z, Z', h', e, q⟩ := Jmt (B := tB l D b0 ad Hb tau) (M := mt_116) (mi := 116) (as := [.ref 1, xI 3]) (d := d + 3) (ls := [some (.ref 1), some (xI 3), none]) rfl rfl rfl rfl rfl rfl (cw_116_1_i3 (l := l) (D := D) (b0 := b0) (ad := ad) (Hb := Hb) (tau := tau) (d := d) (Post := fun r => ∃ (z : Int) (Z' : xZ) (h' : mx_H), r = (some (xI z), h') ∧ XH n s S Z' h' ∧ GI n S Z' ∧ fr' [(42, (-1))] Z Z' ∧ ((-6) ≤ z ∧ z ≤ 1)) hx hG  (fun z Z' h' q1 q2 q3 q4 => ⟨z, Z', h', rfl, q1, q2, q3, q4⟩))
  subst e; exact ⟨z, Z', h', hca, q⟩
set_option maxRecDepth 100000 in
theorem cw_116_1_n {l : Launch} {D : va_G} {b0 : Nat} {ad : Nat → Nat} {Hb : Heap} {tau : Nat → Int64} {d n s : Nat} {S : Nat → xS} {Z : xZ} {h : mx_H} {Post : mx_R → Prop} (hx : XH n s S Z h) (hG : GI n S Z)  {x0 : Int} (p0 : (-2147483648) ≤ x0 ∧ x0 ≤ (-1)) (hP : ∀ z : Int, (-2) ≤ z ∧ z ≤ (-2) → Post (some (xI z), h)) : mx_J (tB l D b0 ad Hb tau) mt_116 (d + 2) 0 [some (.ref 1), some (xI x0), none] [] h Post := by
    have a1 : 1 < n := lt83 (GI_n hG) rfl
    have s1 : S 1 = .inl (11, [2, 0, 0, 0, 2, 2, 2, 2, 2, 2, 2, 2, 2, 2, 2, 2, 2]) := GI_s hG 1 rfl
    refine mx_J.step (sn_116 0) (fun _ _ => rfl) ?_
    refine mx_J.step (sn_116 1) (fun _ _ => rfl) ?_
    obtain ⟨z1, hc1, b1⟩ := ct_145_1_n (d := d + 0) (l := l) (D := D) (b0 := b0) (ad := ad) (Hb := Hb) (tau := tau) hx hG (show (-2147483648) ≤ x0 ∧ x0 ≤ (-1) by omega)
    obtain ⟨bs1_0, b1⟩ := b1
    obtain ⟨bs1_1, b1⟩ := b1
    obtain ⟨bs1_2, b1⟩ := b1
    obtain ⟨bs1_3, b1⟩ := b1
    obtain ⟨bs1_4, b1⟩ := b1
    refine Jcv hx (show mx_Sn _ _ 2 (mx_callv 145 2 11 5) from sn_116 2) a1 s1 hc1 rfl rfl rfl ?_
    refine mx_J.step (ls2 := [some (.ref 1), some (xI x0), some (xI z1)]) (sn_116 5) (fun _ _ => rfl) ?_
    refine mx_J.step (sn_116 6) (fun _ _ => rfl) ?_
    refine Jif_ge (show mx_Sn _ _ 7 (mx_if_ge 12 10) from sn_116 7) (by omega) (fun q2 => ?_) (fun q2 => ?_)
    · skip
      exfalso; omega
    · skip
      refine mx_J.step (sn_116 10) (fun _ _ => rfl) ?_
      exact mx_J.ret (sn_116 11) (fun _ _ => rfl) (hP z1 (by omega))
theorem ct_116_1_n {l : Launch} {D : va_G} {b0 : Nat} {ad : Nat → Nat} {Hb : Heap} {tau : Nat → Int64} {d n s : Nat} {S : Nat → xS} {Z : xZ} {h : mx_H} (hx : XH n s S Z h) (hG : GI n S Z)  {x0 : Int} (p0 : (-2147483648) ≤ x0 ∧ x0 ≤ (-1)) : ∃ z : Int, mx_Ca (tB l D b0 ad Hb tau) (d + 3) 116 [.ref 1, xI x0] h (some (xI z), h) ∧ ((-2) ≤ z ∧ z ≤ (-2)) := by
  obtain ⟨r, hca, z, e, hp⟩ := Jmt (B := tB l D b0 ad Hb tau) (M := mt_116) (mi := 116) (as := [.ref 1, xI x0]) (d := d + 2) (ls := [some (.ref 1), some (xI x0), none]) rfl rfl rfl rfl rfl rfl (cw_116_1_n (l := l) (D := D) (b0 := b0) (ad := ad) (Hb := Hb) (tau := tau) (d := d) (Post := fun r => ∃ z : Int, r = (some (xI z), h) ∧ ((-2) ≤ z ∧ z ≤ (-2))) hx hG p0 (fun z hz => ⟨z, rfl, hz⟩))
  subst e; exact ⟨z, hca, hp⟩
set_option maxRecDepth 100000 in
theorem cw_116_1_p {l : Launch} {D : va_G} {b0 : Nat} {ad : Nat → Nat} {Hb : Heap} {tau : Nat → Int64} {d n s : Nat} {S : Nat → xS} {Z : xZ} {h : mx_H} {Post : mx_R → Prop} (hx : XH n s S Z h) (hG : GI n S Z)  {x0 : Int} (p0 : 4 ≤ x0 ∧ x0 ≤ 2147483647) (hP : ∀ z : Int, (-2) ≤ z ∧ z ≤ (-2) → Post (some (xI z), h)) : mx_J (tB l D b0 ad Hb tau) mt_116 (d + 2) 0 [some (.ref 1), some (xI x0), none] [] h Post := by
    have a1 : 1 < n := lt83 (GI_n hG) rfl
    have s1 : S 1 = .inl (11, [2, 0, 0, 0, 2, 2, 2, 2, 2, 2, 2, 2, 2, 2, 2, 2, 2]) := GI_s hG 1 rfl
    refine mx_J.step (sn_116 0) (fun _ _ => rfl) ?_
    refine mx_J.step (sn_116 1) (fun _ _ => rfl) ?_
    obtain ⟨z1, hc1, b1⟩ := ct_145_1_p (d := d + 0) (l := l) (D := D) (b0 := b0) (ad := ad) (Hb := Hb) (tau := tau) hx hG (show 4 ≤ x0 ∧ x0 ≤ 2147483647 by omega)
    obtain ⟨bs1_0, b1⟩ := b1
    obtain ⟨bs1_1, b1⟩ := b1
    obtain ⟨bs1_2, b1⟩ := b1
    obtain ⟨bs1_3, b1⟩ := b1
    obtain ⟨bs1_4, b1⟩ := b1
    refine Jcv hx (show mx_Sn _ _ 2 (mx_callv 145 2 11 5) from sn_116 2) a1 s1 hc1 rfl rfl rfl ?_
    refine mx_J.step (ls2 := [some (.ref 1), some (xI x0), some (xI z1)]) (sn_116 5) (fun _ _ => rfl) ?_
    refine mx_J.step (sn_116 6) (fun _ _ => rfl) ?_
    refine Jif_ge (show mx_Sn _ _ 7 (mx_if_ge 12 10) from sn_116 7) (by omega) (fun q2 => ?_) (fun q2 => ?_)
    · skip
      exfalso; omega
    · skip
      refine mx_J.step (sn_116 10) (fun _ _ => rfl) ?_
      exact mx_J.ret (sn_116 11) (fun _ _ => rfl) (hP z1 (by omega))
theorem ct_116_1_p {l : Launch} {D : va_G} {b0 : Nat} {ad : Nat → Nat} {Hb : Heap} {tau : Nat → Int64} {d n s : Nat} {S : Nat → xS} {Z : xZ} {h : mx_H} (hx : XH n s S Z h) (hG : GI n S Z)  {x0 : Int} (p0 : 4 ≤ x0 ∧ x0 ≤ 2147483647) : ∃ z : Int, mx_Ca (tB l D b0 ad Hb tau) (d + 3) 116 [.ref 1, xI x0] h (some (xI z), h) ∧ ((-2) ≤ z ∧ z ≤ (-2)) := by
  obtain ⟨r, hca, z, e, hp⟩ := Jmt (B := tB l D b0 ad Hb tau) (M := mt_116) (mi := 116) (as := [.ref 1, xI x0]) (d := d + 2) (ls := [some (.ref 1), some (xI x0), none]) rfl rfl rfl rfl rfl rfl (cw_116_1_p (l := l) (D := D) (b0 := b0) (ad := ad) (Hb := Hb) (tau := tau) (d := d) (Post := fun r => ∃ z : Int, r = (some (xI z), h) ∧ ((-2) ≤ z ∧ z ≤ (-2))) hx hG p0 (fun z hz => ⟨z, rfl, hz⟩))
  subst e; exact ⟨z, hca, hp⟩
theorem ct_116_1 {l : Launch} {D : va_G} {b0 : Nat} {ad : Nat → Nat} {Hb : Heap} {tau : Nat → Int64} {d n s : Nat} {S : Nat → xS} {Z : xZ} {h : mx_H} (hx : XH n s S Z h) (hG : GI n S Z) {x0 : Int} (p0 : (-2147483648) ≤ x0 ∧ x0 ≤ 2147483647) : ∃ (z : Int) (Z' : xZ) (h' : mx_H), mx_Ca (tB l D b0 ad Hb tau) (d + 4) 116 [.ref 1, xI x0] h (some (xI z), h') ∧ XH n s S Z' h' ∧ GI n S Z' ∧ fr' [(42, (-1))] Z Z' ∧ ((-6) ≤ z ∧ z ≤ 1) := by
  have hc : x0 = 0 ∨ x0 = 1 ∨ x0 = 2 ∨ x0 = 3 ∨ ((-2147483648) ≤ x0 ∧ x0 ≤ (-1)) ∨ (4 ≤ x0 ∧ x0 ≤ 2147483647) := by omega
  rcases hc with hc | hc | hc | hc | hc | hc
  · subst hc
    obtain ⟨z, Z', h', hca, q1, q2, q3, b⟩ := ct_116_1_i0 (d := d + 0) (l := l) (D := D) (b0 := b0) (ad := ad) (Hb := Hb) (tau := tau) hx hG 
    exact ⟨z, Z', h', hca, q1, q2, fr_tr (M1 := []) fr_rf q3 rfl rfl, by omega⟩
  · subst hc
    obtain ⟨z, Z', h', hca, q1, q2, q3, b⟩ := ct_116_1_i1 (d := d + 0) (l := l) (D := D) (b0 := b0) (ad := ad) (Hb := Hb) (tau := tau) hx hG 
    exact ⟨z, Z', h', hca, q1, q2, fr_tr (M1 := []) fr_rf q3 rfl rfl, by omega⟩
  · subst hc
    obtain ⟨z, Z', h', hca, q1, q2, q3, b⟩ := ct_116_1_i2 (d := d + 0) (l := l) (D := D) (b0 := b0) (ad := ad) (Hb := Hb) (tau := tau) hx hG 
    exact ⟨z, Z', h', hca, q1, q2, fr_tr (M1 := []) fr_rf q3 rfl rfl, by omega⟩
  · subst hc
    obtain ⟨z, Z', h', hca, q1, q2, q3, b⟩ := ct_116_1_i3 (d := d + 0) (l := l) (D := D) (b0 := b0) (ad := ad) (Hb := Hb) (tau := tau) hx hG 
    exact ⟨z, Z', h', hca, q1, q2, fr_tr (M1 := []) fr_rf q3 rfl rfl, by omega⟩
  · skip
    obtain ⟨z, hca, b⟩ := ct_116_1_n (d := d + 1) (l := l) (D := D) (b0 := b0) (ad := ad) (Hb := Hb) (tau := tau) hx hG hc
    exact ⟨z, Z, h, hca, hx, hG, fr_rf, by omega⟩
  · skip
    obtain ⟨z, hca, b⟩ := ct_116_1_p (d := d + 1) (l := l) (D := D) (b0 := b0) (ad := ad) (Hb := Hb) (tau := tau) hx hG hc
    exact ⟨z, Z, h, hca, hx, hG, fr_rf, by omega⟩
set_option maxRecDepth 100000 in
theorem cw_102_1_i0 {l : Launch} {D : va_G} {b0 : Nat} {ad : Nat → Nat} {Hb : Heap} {tau : Nat → Int64} {d n s : Nat} {S : Nat → xS} {Z : xZ} {h : mx_H} {Post : mx_R → Prop} (hx : XH n s S Z h) (hG : GI n S Z)   (hP : ∀ (z : Int) (Z' : xZ) (h' : mx_H), XH n s S Z' h' → GI n S Z' → fr' [(12, 2), (14, (-1)), (16, (-1)), (17, (-1)), (18, (-1)), (19, (-1)), (36, 0), (36, 1), (36, 2), (36, 3), (36, 4), (38, 0), (38, 1), (38, 2), (38, 3), (38, 4), (40, 1), (41, (-1)), (42, (-1))] Z Z' → (-6) ≤ z ∧ z ≤ 40 ∧ (Z' 36 1 = Z 36 1) → Post (some (xI z), h')) : mx_J (tB l D b0 ad Hb tau) mt_102 (d + 7) 0 [some (.ref 1), some (xI 0), none] [] h Post := by
    have a1 : 1 < n := lt83 (GI_n hG) rfl
    have s1 : S 1 = .inl (11, [2, 0, 0, 0, 2, 2, 2, 2, 2, 2, 2, 2, 2, 2, 2, 2, 2]) := GI_s hG 1 rfl
    have a34 : 34 < n := lt83 (GI_n hG) rfl
    have s34 : S 34 = .inr ((.object "TitheHeap$Tray"), 4, 2) := GI_s hG 34 rfl
    have a38 : 38 < n := lt83 (GI_n hG) rfl
    have s38 : S 38 = .inl (5, [2, 0, 0, 0, 0, 0]) := GI_s hG 38 rfl
    have a44 : 44 < n := lt83 (GI_n hG) rfl
    have s44 : S 44 = .inl (10, [2, 0, 0, 0]) := GI_s hG 44 rfl
    refine mx_J.step (sn_102 0) (fun _ _ => rfl) ?_
    refine mx_J.step (sn_102 1) (fun _ _ => rfl) ?_
    obtain ⟨z1, hc1, b1⟩ := ct_144_1_y (d := d + 6) (l := l) (D := D) (b0 := b0) (ad := ad) (Hb := Hb) (tau := tau) hx hG (show 0 ≤ 0 ∧ 0 ≤ 3 by omega)
    refine Jcv hx (show mx_Sn _ _ 2 (mx_callv 144 2 11 5) from sn_102 2) a1 s1 hc1 rfl rfl rfl ?_
    refine Jif_eq (show mx_Sn _ _ 5 (mx_if_eq 11 8) from sn_102 5) (by omega) (fun q2 => ?_) (fun q2 => ?_)
    · skip
      refine mx_J.step (sn_102 11) (fun _ _ => rfl) ?_
      refine JgetR (g := 10) (b := 34) hx (show mx_Sn _ _ 12 (mx_getf 11 10 15) from sn_102 12) a1 s1 rfl rfl (hG.prr 1 10 rfl) ?_
      refine mx_J.step (sn_102 15) (fun _ _ => rfl) ?_
      refine JaaldR (i := 0) (b := 44) hx (show mx_Sn _ _ 16 (mx_aald 17) from sn_102 16) a34 s34 (by omega) (show Z 34 0 = 44 by have hq := GI_ex hG 34 0; replace hq : ((0 : Int) ≤ 0 → (0 : Int) ≤ 3 → (Z 34 0) = 44 + 2 * 0) := hq; omega) ?_
      have b5 : 0 ≤ Z 44 3 ∧ Z 44 3 ≤ 1 := hG.pr 44 3
      refine JgetI (g := 3) (z := Z 44 3) hx (show mx_Sn _ _ 17 (mx_getf 10 3 20) from sn_102 17) a44 s44 rfl rfl rfl ?_
      refine Jif_eq (show mx_Sn _ _ 20 (mx_if_eq 26 23) from sn_102 20) (by omega) (fun q6 => ?_) (fun q6 => ?_)
      · skip
        refine mx_J.step (sn_102 26) (fun _ _ => rfl) ?_
        refine JgetR (g := 13) (b := 38) hx (show mx_Sn _ _ 27 (mx_getf 11 13 30) from sn_102 27) a1 s1 rfl rfl (hG.prr 1 13 rfl) ?_
        refine mx_J.step (sn_102 30) (fun _ _ => rfl) ?_
        refine JgetR (g := 12) (b := 36) hx (show mx_Sn _ _ 31 (mx_getf 11 12 34) from sn_102 31) a1 s1 rfl rfl (hG.prr 1 12 rfl) ?_
        have b10 : 1 ≤ Z 36 1 ∧ Z 36 1 ≤ 18 := hG.pr 36 1
        obtain ⟨Z9, h9, hc9, hx9, hG9, hf9, b9⟩ := ct_33_38_36 (d := d + 6) (l := l) (D := D) (b0 := b0) (ad := ad) (Hb := Hb) (tau := tau) hx hG 
        have b11 : 1 ≤ Z9 38 1 ∧ Z9 38 1 ≤ 18 := hG9.pr 38 1
        refine Jcv0 hx (show mx_Sn _ _ 34 (mx_callv 33 2 5 37) from sn_102 34) a38 s38 hc9 rfl rfl rfl ?_
        refine mx_J.step (sn_102 37) (fun _ _ => rfl) ?_
        refine mx_J.step (sn_102 38) (fun _ _ => rfl) ?_
        refine JgetR (g := 10) (b := 34) hx9 (show mx_Sn _ _ 39 (mx_getf 11 10 42) from sn_102 39) a1 s1 rfl rfl (hG9.prr 1 10 rfl) ?_
        refine mx_J.step (sn_102 42) (fun _ _ => rfl) ?_
        refine JaaldR (i := 0) (b := 44) hx9 (show mx_Sn _ _ 43 (mx_aald 44) from sn_102 43) a34 s34 (by omega) (show Z9 34 0 = 44 by have hq := GI_ex hG9 34 0; replace hq : ((0 : Int) ≤ 0 → (0 : Int) ≤ 3 → (Z9 34 0) = 44 + 2 * 0) := hq; omega) ?_
        obtain ⟨z13, Z13, h13, hc13, hx13, hG13, hf13, b13⟩ := ct_138_1_44 (d := d + 0) (l := l) (D := D) (b0 := b0) (ad := ad) (Hb := Hb) (tau := tau) hx9 hG9 
        refine Jcv hx9 (show mx_Sn _ _ 44 (mx_callv 138 2 11 47) from sn_102 44) a1 s1 hc13 rfl rfl rfl ?_
        refine mx_J.step (ls2 := [some (.ref 1), some (xI 0), some (xI z13)]) (sn_102 47) (fun _ _ => rfl) ?_
        refine mx_J.step (sn_102 48) (fun _ _ => rfl) ?_
        have c56 : ∀  (Z15 : xZ) (h15 : mx_H), (Z15 36 1 = Z 36 1) → XH n s S Z15 h15 → GI n S Z15 → fr' [(12, 2), (17, (-1)), (36, 0), (36, 1), (36, 2), (36, 3), (36, 4), (40, 1), (41, (-1))] Z13 Z15 → mx_J (tB l D b0 ad Hb tau) mt_102 (d + 7) 56 [some (.ref 1), some (xI 0), some (xI z13)] [] h15 Post := by
          intro Z15 h15 f14_0 hx15 hG15 hf15
          have b16 : 1 ≤ Z15 36 1 ∧ Z15 36 1 ≤ 18 := hG15.pr 36 1
          refine mx_J.step (sn_102 56) (fun _ _ => rfl) ?_
          exact mx_J.ret (sn_102 57) (fun _ _ => rfl) (hP z13 Z15 h15 hx15 hG15 (fr_tr (M := [(12, 2), (14, (-1)), (16, (-1)), (17, (-1)), (18, (-1)), (19, (-1)), (36, 0), (36, 1), (36, 2), (36, 3), (36, 4), (38, 0), (38, 1), (38, 2), (38, 3), (38, 4), (40, 1), (41, (-1)), (42, (-1))]) (fr_tr (M := [(12, 2), (14, (-1)), (16, (-1)), (17, (-1)), (18, (-1)), (19, (-1)), (36, 0), (36, 1), (36, 2), (36, 3), (36, 4), (38, 0), (38, 1), (38, 2), (38, 3), (38, 4), (40, 1), (41, (-1)), (42, (-1))]) (fr_tr (M := [(12, 2), (14, (-1)), (16, (-1)), (17, (-1)), (18, (-1)), (19, (-1)), (36, 0), (36, 1), (36, 2), (36, 3), (36, 4), (38, 0), (38, 1), (38, 2), (38, 3), (38, 4), (40, 1), (41, (-1)), (42, (-1))]) fr_rf (hf9) (M1 := []) rfl rfl) (hf13) rfl rfl) (hf15) rfl rfl) (by omega))
        refine Jif_le (show mx_Sn _ _ 49 (mx_if_le 56 52) from sn_102 49) (by omega) (fun q17 => ?_) (fun q17 => ?_)
        · skip
          have eq18 : Z13 36 1 = Z 36 1 := ((hf13 36 1 rfl).trans (hf9 36 1 rfl))
          exact c56 Z13 h13 (by omega) hx13 hG13 fr_rf
        · skip
          refine mx_J.step (sn_102 52) (fun _ _ => rfl) ?_
          have eq20 : Z13 38 1 = Z9 38 1 := (hf13 38 1 rfl)
          obtain ⟨Z19, h19, hc19, hx19, hG19, hf19, b19⟩ := ct_137_1 (d := d + 4) (l := l) (D := D) (b0 := b0) (ad := ad) (Hb := Hb) (tau := tau) hx13 hG13 
          try rw [eq20] at b19
          have b21 : 1 ≤ Z19 36 1 ∧ Z19 36 1 ≤ 18 := hG19.pr 36 1
          refine Jcv0 hx13 (show mx_Sn _ _ 53 (mx_callv 137 1 11 56) from sn_102 53) a1 s1 hc19 rfl rfl rfl ?_
          exact c56 Z19 h19 (by omega) hx19 hG19 (fr_tr (M := [(12, 2), (17, (-1)), (36, 0), (36, 1), (36, 2), (36, 3), (36, 4), (40, 1), (41, (-1))]) fr_rf (hf19) (M1 := []) rfl rfl)
      · skip
        refine JcI (z := (-6)) (show mx_Sn _ _ 23 (mx_const (.int (-6)) 25) from sn_102 23) rfl ?_
        have b22 : 1 ≤ Z 36 1 ∧ Z 36 1 ≤ 18 := hG.pr 36 1
        exact mx_J.ret (sn_102 25) (fun _ _ => rfl) (hP (-6) Z h hx hG fr_rf (by omega))
    · skip
      exfalso; omega
theorem ct_102_1_i0 {l : Launch} {D : va_G} {b0 : Nat} {ad : Nat → Nat} {Hb : Heap} {tau : Nat → Int64} {d n s : Nat} {S : Nat → xS} {Z : xZ} {h : mx_H} (hx : XH n s S Z h) (hG : GI n S Z)   : ∃ (z : Int) (Z' : xZ) (h' : mx_H), mx_Ca (tB l D b0 ad Hb tau) (d + 8) 102 [.ref 1, xI 0] h (some (xI z), h') ∧ XH n s S Z' h' ∧ GI n S Z' ∧ fr' [(12, 2), (14, (-1)), (16, (-1)), (17, (-1)), (18, (-1)), (19, (-1)), (36, 0), (36, 1), (36, 2), (36, 3), (36, 4), (38, 0), (38, 1), (38, 2), (38, 3), (38, 4), (40, 1), (41, (-1)), (42, (-1))] Z Z' ∧ ((-6) ≤ z ∧ z ≤ 40 ∧ (Z' 36 1 = Z 36 1)) := by
  obtain ⟨r, hca, z, Z', h', e, q⟩ := Jmt (B := tB l D b0 ad Hb tau) (M := mt_102) (mi := 102) (as := [.ref 1, xI 0]) (d := d + 7) (ls := [some (.ref 1), some (xI 0), none]) rfl rfl rfl rfl rfl rfl (cw_102_1_i0 (l := l) (D := D) (b0 := b0) (ad := ad) (Hb := Hb) (tau := tau) (d := d) (Post := fun r => ∃ (z : Int) (Z' : xZ) (h' : mx_H), r = (some (xI z), h') ∧ XH n s S Z' h' ∧ GI n S Z' ∧ fr' [(12, 2), (14, (-1)), (16, (-1)), (17, (-1)), (18, (-1)), (19, (-1)), (36, 0), (36, 1), (36, 2), (36, 3), (36, 4), (38, 0), (38, 1), (38, 2), (38, 3), (38, 4), (40, 1), (41, (-1)), (42, (-1))] Z Z' ∧ ((-6) ≤ z ∧ z ≤ 40 ∧ (Z' 36 1 = Z 36 1))) hx hG  (fun z Z' h' q1 q2 q3 q4 => ⟨z, Z', h', rfl, q1, q2, q3, q4⟩))
  subst e; exact ⟨z, Z', h', hca, q⟩
set_option maxRecDepth 100000 in
theorem cw_102_1_i1 {l : Launch} {D : va_G} {b0 : Nat} {ad : Nat → Nat} {Hb : Heap} {tau : Nat → Int64} {d n s : Nat} {S : Nat → xS} {Z : xZ} {h : mx_H} {Post : mx_R → Prop} (hx : XH n s S Z h) (hG : GI n S Z)   (hP : ∀ (z : Int) (Z' : xZ) (h' : mx_H), XH n s S Z' h' → GI n S Z' → fr' [(12, 2), (14, (-1)), (16, (-1)), (17, (-1)), (18, (-1)), (19, (-1)), (36, 0), (36, 1), (36, 2), (36, 3), (36, 4), (38, 0), (38, 1), (38, 2), (38, 3), (38, 4), (40, 1), (41, (-1)), (42, (-1))] Z Z' → (-6) ≤ z ∧ z ≤ 40 ∧ (Z' 36 1 = Z 36 1) → Post (some (xI z), h')) : mx_J (tB l D b0 ad Hb tau) mt_102 (d + 7) 0 [some (.ref 1), some (xI 1), none] [] h Post := by
    have a1 : 1 < n := lt83 (GI_n hG) rfl
    have s1 : S 1 = .inl (11, [2, 0, 0, 0, 2, 2, 2, 2, 2, 2, 2, 2, 2, 2, 2, 2, 2]) := GI_s hG 1 rfl
    have a34 : 34 < n := lt83 (GI_n hG) rfl
    have s34 : S 34 = .inr ((.object "TitheHeap$Tray"), 4, 2) := GI_s hG 34 rfl
    have a38 : 38 < n := lt83 (GI_n hG) rfl
    have s38 : S 38 = .inl (5, [2, 0, 0, 0, 0, 0]) := GI_s hG 38 rfl
    have a46 : 46 < n := lt83 (GI_n hG) rfl
    have s46 : S 46 = .inl (10, [2, 0, 0, 0]) := GI_s hG 46 rfl
    refine mx_J.step (sn_102 0) (fun _ _ => rfl) ?_
    refine mx_J.step (sn_102 1) (fun _ _ => rfl) ?_
    obtain ⟨z1, hc1, b1⟩ := ct_144_1_y (d := d + 6) (l := l) (D := D) (b0 := b0) (ad := ad) (Hb := Hb) (tau := tau) hx hG (show 0 ≤ 1 ∧ 1 ≤ 3 by omega)
    refine Jcv hx (show mx_Sn _ _ 2 (mx_callv 144 2 11 5) from sn_102 2) a1 s1 hc1 rfl rfl rfl ?_
    refine Jif_eq (show mx_Sn _ _ 5 (mx_if_eq 11 8) from sn_102 5) (by omega) (fun q2 => ?_) (fun q2 => ?_)
    · skip
      refine mx_J.step (sn_102 11) (fun _ _ => rfl) ?_
      refine JgetR (g := 10) (b := 34) hx (show mx_Sn _ _ 12 (mx_getf 11 10 15) from sn_102 12) a1 s1 rfl rfl (hG.prr 1 10 rfl) ?_
      refine mx_J.step (sn_102 15) (fun _ _ => rfl) ?_
      refine JaaldR (i := 1) (b := 46) hx (show mx_Sn _ _ 16 (mx_aald 17) from sn_102 16) a34 s34 (by omega) (show Z 34 1 = 46 by have hq := GI_ex hG 34 1; replace hq : ((0 : Int) ≤ 1 → (1 : Int) ≤ 3 → (Z 34 1) = 44 + 2 * 1) := hq; omega) ?_
      have b5 : 0 ≤ Z 46 3 ∧ Z 46 3 ≤ 1 := hG.pr 46 3
      refine JgetI (g := 3) (z := Z 46 3) hx (show mx_Sn _ _ 17 (mx_getf 10 3 20) from sn_102 17) a46 s46 rfl rfl rfl ?_
      refine Jif_eq (show mx_Sn _ _ 20 (mx_if_eq 26 23) from sn_102 20) (by omega) (fun q6 => ?_) (fun q6 => ?_)
      · skip
        refine mx_J.step (sn_102 26) (fun _ _ => rfl) ?_
        refine JgetR (g := 13) (b := 38) hx (show mx_Sn _ _ 27 (mx_getf 11 13 30) from sn_102 27) a1 s1 rfl rfl (hG.prr 1 13 rfl) ?_
        refine mx_J.step (sn_102 30) (fun _ _ => rfl) ?_
        refine JgetR (g := 12) (b := 36) hx (show mx_Sn _ _ 31 (mx_getf 11 12 34) from sn_102 31) a1 s1 rfl rfl (hG.prr 1 12 rfl) ?_
        have b10 : 1 ≤ Z 36 1 ∧ Z 36 1 ≤ 18 := hG.pr 36 1
        obtain ⟨Z9, h9, hc9, hx9, hG9, hf9, b9⟩ := ct_33_38_36 (d := d + 6) (l := l) (D := D) (b0 := b0) (ad := ad) (Hb := Hb) (tau := tau) hx hG 
        have b11 : 1 ≤ Z9 38 1 ∧ Z9 38 1 ≤ 18 := hG9.pr 38 1
        refine Jcv0 hx (show mx_Sn _ _ 34 (mx_callv 33 2 5 37) from sn_102 34) a38 s38 hc9 rfl rfl rfl ?_
        refine mx_J.step (sn_102 37) (fun _ _ => rfl) ?_
        refine mx_J.step (sn_102 38) (fun _ _ => rfl) ?_
        refine JgetR (g := 10) (b := 34) hx9 (show mx_Sn _ _ 39 (mx_getf 11 10 42) from sn_102 39) a1 s1 rfl rfl (hG9.prr 1 10 rfl) ?_
        refine mx_J.step (sn_102 42) (fun _ _ => rfl) ?_
        refine JaaldR (i := 1) (b := 46) hx9 (show mx_Sn _ _ 43 (mx_aald 44) from sn_102 43) a34 s34 (by omega) (show Z9 34 1 = 46 by have hq := GI_ex hG9 34 1; replace hq : ((0 : Int) ≤ 1 → (1 : Int) ≤ 3 → (Z9 34 1) = 44 + 2 * 1) := hq; omega) ?_
        obtain ⟨z13, Z13, h13, hc13, hx13, hG13, hf13, b13⟩ := ct_138_1_46 (d := d + 0) (l := l) (D := D) (b0 := b0) (ad := ad) (Hb := Hb) (tau := tau) hx9 hG9 
        refine Jcv hx9 (show mx_Sn _ _ 44 (mx_callv 138 2 11 47) from sn_102 44) a1 s1 hc13 rfl rfl rfl ?_
        refine mx_J.step (ls2 := [some (.ref 1), some (xI 1), some (xI z13)]) (sn_102 47) (fun _ _ => rfl) ?_
        refine mx_J.step (sn_102 48) (fun _ _ => rfl) ?_
        have c56 : ∀  (Z15 : xZ) (h15 : mx_H), (Z15 36 1 = Z 36 1) → XH n s S Z15 h15 → GI n S Z15 → fr' [(12, 2), (17, (-1)), (36, 0), (36, 1), (36, 2), (36, 3), (36, 4), (40, 1), (41, (-1))] Z13 Z15 → mx_J (tB l D b0 ad Hb tau) mt_102 (d + 7) 56 [some (.ref 1), some (xI 1), some (xI z13)] [] h15 Post := by
          intro Z15 h15 f14_0 hx15 hG15 hf15
          have b16 : 1 ≤ Z15 36 1 ∧ Z15 36 1 ≤ 18 := hG15.pr 36 1
          refine mx_J.step (sn_102 56) (fun _ _ => rfl) ?_
          exact mx_J.ret (sn_102 57) (fun _ _ => rfl) (hP z13 Z15 h15 hx15 hG15 (fr_tr (M := [(12, 2), (14, (-1)), (16, (-1)), (17, (-1)), (18, (-1)), (19, (-1)), (36, 0), (36, 1), (36, 2), (36, 3), (36, 4), (38, 0), (38, 1), (38, 2), (38, 3), (38, 4), (40, 1), (41, (-1)), (42, (-1))]) (fr_tr (M := [(12, 2), (14, (-1)), (16, (-1)), (17, (-1)), (18, (-1)), (19, (-1)), (36, 0), (36, 1), (36, 2), (36, 3), (36, 4), (38, 0), (38, 1), (38, 2), (38, 3), (38, 4), (40, 1), (41, (-1)), (42, (-1))]) (fr_tr (M := [(12, 2), (14, (-1)), (16, (-1)), (17, (-1)), (18, (-1)), (19, (-1)), (36, 0), (36, 1), (36, 2), (36, 3), (36, 4), (38, 0), (38, 1), (38, 2), (38, 3), (38, 4), (40, 1), (41, (-1)), (42, (-1))]) fr_rf (hf9) (M1 := []) rfl rfl) (hf13) rfl rfl) (hf15) rfl rfl) (by omega))
        refine Jif_le (show mx_Sn _ _ 49 (mx_if_le 56 52) from sn_102 49) (by omega) (fun q17 => ?_) (fun q17 => ?_)
        · skip
          have eq18 : Z13 36 1 = Z 36 1 := ((hf13 36 1 rfl).trans (hf9 36 1 rfl))
          exact c56 Z13 h13 (by omega) hx13 hG13 fr_rf
        · skip
          refine mx_J.step (sn_102 52) (fun _ _ => rfl) ?_
          have eq20 : Z13 38 1 = Z9 38 1 := (hf13 38 1 rfl)
          obtain ⟨Z19, h19, hc19, hx19, hG19, hf19, b19⟩ := ct_137_1 (d := d + 4) (l := l) (D := D) (b0 := b0) (ad := ad) (Hb := Hb) (tau := tau) hx13 hG13 
          try rw [eq20] at b19
          have b21 : 1 ≤ Z19 36 1 ∧ Z19 36 1 ≤ 18 := hG19.pr 36 1
          refine Jcv0 hx13 (show mx_Sn _ _ 53 (mx_callv 137 1 11 56) from sn_102 53) a1 s1 hc19 rfl rfl rfl ?_
          exact c56 Z19 h19 (by omega) hx19 hG19 (fr_tr (M := [(12, 2), (17, (-1)), (36, 0), (36, 1), (36, 2), (36, 3), (36, 4), (40, 1), (41, (-1))]) fr_rf (hf19) (M1 := []) rfl rfl)
      · skip
        refine JcI (z := (-6)) (show mx_Sn _ _ 23 (mx_const (.int (-6)) 25) from sn_102 23) rfl ?_
        have b22 : 1 ≤ Z 36 1 ∧ Z 36 1 ≤ 18 := hG.pr 36 1
        exact mx_J.ret (sn_102 25) (fun _ _ => rfl) (hP (-6) Z h hx hG fr_rf (by omega))
    · skip
      exfalso; omega
theorem ct_102_1_i1 {l : Launch} {D : va_G} {b0 : Nat} {ad : Nat → Nat} {Hb : Heap} {tau : Nat → Int64} {d n s : Nat} {S : Nat → xS} {Z : xZ} {h : mx_H} (hx : XH n s S Z h) (hG : GI n S Z)   : ∃ (z : Int) (Z' : xZ) (h' : mx_H), mx_Ca (tB l D b0 ad Hb tau) (d + 8) 102 [.ref 1, xI 1] h (some (xI z), h') ∧ XH n s S Z' h' ∧ GI n S Z' ∧ fr' [(12, 2), (14, (-1)), (16, (-1)), (17, (-1)), (18, (-1)), (19, (-1)), (36, 0), (36, 1), (36, 2), (36, 3), (36, 4), (38, 0), (38, 1), (38, 2), (38, 3), (38, 4), (40, 1), (41, (-1)), (42, (-1))] Z Z' ∧ ((-6) ≤ z ∧ z ≤ 40 ∧ (Z' 36 1 = Z 36 1)) := by
  obtain ⟨r, hca, z, Z', h', e, q⟩ := Jmt (B := tB l D b0 ad Hb tau) (M := mt_102) (mi := 102) (as := [.ref 1, xI 1]) (d := d + 7) (ls := [some (.ref 1), some (xI 1), none]) rfl rfl rfl rfl rfl rfl (cw_102_1_i1 (l := l) (D := D) (b0 := b0) (ad := ad) (Hb := Hb) (tau := tau) (d := d) (Post := fun r => ∃ (z : Int) (Z' : xZ) (h' : mx_H), r = (some (xI z), h') ∧ XH n s S Z' h' ∧ GI n S Z' ∧ fr' [(12, 2), (14, (-1)), (16, (-1)), (17, (-1)), (18, (-1)), (19, (-1)), (36, 0), (36, 1), (36, 2), (36, 3), (36, 4), (38, 0), (38, 1), (38, 2), (38, 3), (38, 4), (40, 1), (41, (-1)), (42, (-1))] Z Z' ∧ ((-6) ≤ z ∧ z ≤ 40 ∧ (Z' 36 1 = Z 36 1))) hx hG  (fun z Z' h' q1 q2 q3 q4 => ⟨z, Z', h', rfl, q1, q2, q3, q4⟩))
  subst e; exact ⟨z, Z', h', hca, q⟩
set_option maxRecDepth 100000 in
theorem cw_102_1_i2 {l : Launch} {D : va_G} {b0 : Nat} {ad : Nat → Nat} {Hb : Heap} {tau : Nat → Int64} {d n s : Nat} {S : Nat → xS} {Z : xZ} {h : mx_H} {Post : mx_R → Prop} (hx : XH n s S Z h) (hG : GI n S Z)   (hP : ∀ (z : Int) (Z' : xZ) (h' : mx_H), XH n s S Z' h' → GI n S Z' → fr' [(12, 2), (14, (-1)), (16, (-1)), (17, (-1)), (18, (-1)), (19, (-1)), (36, 0), (36, 1), (36, 2), (36, 3), (36, 4), (38, 0), (38, 1), (38, 2), (38, 3), (38, 4), (40, 1), (41, (-1)), (42, (-1))] Z Z' → (-6) ≤ z ∧ z ≤ 40 ∧ (Z' 36 1 = Z 36 1) → Post (some (xI z), h')) : mx_J (tB l D b0 ad Hb tau) mt_102 (d + 7) 0 [some (.ref 1), some (xI 2), none] [] h Post := by
    have a1 : 1 < n := lt83 (GI_n hG) rfl
    have s1 : S 1 = .inl (11, [2, 0, 0, 0, 2, 2, 2, 2, 2, 2, 2, 2, 2, 2, 2, 2, 2]) := GI_s hG 1 rfl
    have a34 : 34 < n := lt83 (GI_n hG) rfl
    have s34 : S 34 = .inr ((.object "TitheHeap$Tray"), 4, 2) := GI_s hG 34 rfl
    have a38 : 38 < n := lt83 (GI_n hG) rfl
    have s38 : S 38 = .inl (5, [2, 0, 0, 0, 0, 0]) := GI_s hG 38 rfl
    have a48 : 48 < n := lt83 (GI_n hG) rfl
    have s48 : S 48 = .inl (10, [2, 0, 0, 0]) := GI_s hG 48 rfl
    refine mx_J.step (sn_102 0) (fun _ _ => rfl) ?_
    refine mx_J.step (sn_102 1) (fun _ _ => rfl) ?_
    obtain ⟨z1, hc1, b1⟩ := ct_144_1_y (d := d + 6) (l := l) (D := D) (b0 := b0) (ad := ad) (Hb := Hb) (tau := tau) hx hG (show 0 ≤ 2 ∧ 2 ≤ 3 by omega)
    refine Jcv hx (show mx_Sn _ _ 2 (mx_callv 144 2 11 5) from sn_102 2) a1 s1 hc1 rfl rfl rfl ?_
    refine Jif_eq (show mx_Sn _ _ 5 (mx_if_eq 11 8) from sn_102 5) (by omega) (fun q2 => ?_) (fun q2 => ?_)
    · skip
      refine mx_J.step (sn_102 11) (fun _ _ => rfl) ?_
      refine JgetR (g := 10) (b := 34) hx (show mx_Sn _ _ 12 (mx_getf 11 10 15) from sn_102 12) a1 s1 rfl rfl (hG.prr 1 10 rfl) ?_
      refine mx_J.step (sn_102 15) (fun _ _ => rfl) ?_
      refine JaaldR (i := 2) (b := 48) hx (show mx_Sn _ _ 16 (mx_aald 17) from sn_102 16) a34 s34 (by omega) (show Z 34 2 = 48 by have hq := GI_ex hG 34 2; replace hq : ((0 : Int) ≤ 2 → (2 : Int) ≤ 3 → (Z 34 2) = 44 + 2 * 2) := hq; omega) ?_
      have b5 : 0 ≤ Z 48 3 ∧ Z 48 3 ≤ 1 := hG.pr 48 3
      refine JgetI (g := 3) (z := Z 48 3) hx (show mx_Sn _ _ 17 (mx_getf 10 3 20) from sn_102 17) a48 s48 rfl rfl rfl ?_
      refine Jif_eq (show mx_Sn _ _ 20 (mx_if_eq 26 23) from sn_102 20) (by omega) (fun q6 => ?_) (fun q6 => ?_)
      · skip
        refine mx_J.step (sn_102 26) (fun _ _ => rfl) ?_
        refine JgetR (g := 13) (b := 38) hx (show mx_Sn _ _ 27 (mx_getf 11 13 30) from sn_102 27) a1 s1 rfl rfl (hG.prr 1 13 rfl) ?_
        refine mx_J.step (sn_102 30) (fun _ _ => rfl) ?_
        refine JgetR (g := 12) (b := 36) hx (show mx_Sn _ _ 31 (mx_getf 11 12 34) from sn_102 31) a1 s1 rfl rfl (hG.prr 1 12 rfl) ?_
        have b10 : 1 ≤ Z 36 1 ∧ Z 36 1 ≤ 18 := hG.pr 36 1
        obtain ⟨Z9, h9, hc9, hx9, hG9, hf9, b9⟩ := ct_33_38_36 (d := d + 6) (l := l) (D := D) (b0 := b0) (ad := ad) (Hb := Hb) (tau := tau) hx hG 
        have b11 : 1 ≤ Z9 38 1 ∧ Z9 38 1 ≤ 18 := hG9.pr 38 1
        refine Jcv0 hx (show mx_Sn _ _ 34 (mx_callv 33 2 5 37) from sn_102 34) a38 s38 hc9 rfl rfl rfl ?_
        refine mx_J.step (sn_102 37) (fun _ _ => rfl) ?_
        refine mx_J.step (sn_102 38) (fun _ _ => rfl) ?_
        refine JgetR (g := 10) (b := 34) hx9 (show mx_Sn _ _ 39 (mx_getf 11 10 42) from sn_102 39) a1 s1 rfl rfl (hG9.prr 1 10 rfl) ?_
        refine mx_J.step (sn_102 42) (fun _ _ => rfl) ?_
        refine JaaldR (i := 2) (b := 48) hx9 (show mx_Sn _ _ 43 (mx_aald 44) from sn_102 43) a34 s34 (by omega) (show Z9 34 2 = 48 by have hq := GI_ex hG9 34 2; replace hq : ((0 : Int) ≤ 2 → (2 : Int) ≤ 3 → (Z9 34 2) = 44 + 2 * 2) := hq; omega) ?_
        obtain ⟨z13, Z13, h13, hc13, hx13, hG13, hf13, b13⟩ := ct_138_1_48 (d := d + 0) (l := l) (D := D) (b0 := b0) (ad := ad) (Hb := Hb) (tau := tau) hx9 hG9 
        refine Jcv hx9 (show mx_Sn _ _ 44 (mx_callv 138 2 11 47) from sn_102 44) a1 s1 hc13 rfl rfl rfl ?_
        refine mx_J.step (ls2 := [some (.ref 1), some (xI 2), some (xI z13)]) (sn_102 47) (fun _ _ => rfl) ?_
        refine mx_J.step (sn_102 48) (fun _ _ => rfl) ?_
        have c56 : ∀  (Z15 : xZ) (h15 : mx_H), (Z15 36 1 = Z 36 1) → XH n s S Z15 h15 → GI n S Z15 → fr' [(12, 2), (17, (-1)), (36, 0), (36, 1), (36, 2), (36, 3), (36, 4), (40, 1), (41, (-1))] Z13 Z15 → mx_J (tB l D b0 ad Hb tau) mt_102 (d + 7) 56 [some (.ref 1), some (xI 2), some (xI z13)] [] h15 Post := by
          intro Z15 h15 f14_0 hx15 hG15 hf15
          have b16 : 1 ≤ Z15 36 1 ∧ Z15 36 1 ≤ 18 := hG15.pr 36 1
          refine mx_J.step (sn_102 56) (fun _ _ => rfl) ?_
          exact mx_J.ret (sn_102 57) (fun _ _ => rfl) (hP z13 Z15 h15 hx15 hG15 (fr_tr (M := [(12, 2), (14, (-1)), (16, (-1)), (17, (-1)), (18, (-1)), (19, (-1)), (36, 0), (36, 1), (36, 2), (36, 3), (36, 4), (38, 0), (38, 1), (38, 2), (38, 3), (38, 4), (40, 1), (41, (-1)), (42, (-1))]) (fr_tr (M := [(12, 2), (14, (-1)), (16, (-1)), (17, (-1)), (18, (-1)), (19, (-1)), (36, 0), (36, 1), (36, 2), (36, 3), (36, 4), (38, 0), (38, 1), (38, 2), (38, 3), (38, 4), (40, 1), (41, (-1)), (42, (-1))]) (fr_tr (M := [(12, 2), (14, (-1)), (16, (-1)), (17, (-1)), (18, (-1)), (19, (-1)), (36, 0), (36, 1), (36, 2), (36, 3), (36, 4), (38, 0), (38, 1), (38, 2), (38, 3), (38, 4), (40, 1), (41, (-1)), (42, (-1))]) fr_rf (hf9) (M1 := []) rfl rfl) (hf13) rfl rfl) (hf15) rfl rfl) (by omega))
        refine Jif_le (show mx_Sn _ _ 49 (mx_if_le 56 52) from sn_102 49) (by omega) (fun q17 => ?_) (fun q17 => ?_)
        · skip
          have eq18 : Z13 36 1 = Z 36 1 := ((hf13 36 1 rfl).trans (hf9 36 1 rfl))
          exact c56 Z13 h13 (by omega) hx13 hG13 fr_rf
        · skip
          refine mx_J.step (sn_102 52) (fun _ _ => rfl) ?_
          have eq20 : Z13 38 1 = Z9 38 1 := (hf13 38 1 rfl)
          obtain ⟨Z19, h19, hc19, hx19, hG19, hf19, b19⟩ := ct_137_1 (d := d + 4) (l := l) (D := D) (b0 := b0) (ad := ad) (Hb := Hb) (tau := tau) hx13 hG13 
          try rw [eq20] at b19
          have b21 : 1 ≤ Z19 36 1 ∧ Z19 36 1 ≤ 18 := hG19.pr 36 1
          refine Jcv0 hx13 (show mx_Sn _ _ 53 (mx_callv 137 1 11 56) from sn_102 53) a1 s1 hc19 rfl rfl rfl ?_
          exact c56 Z19 h19 (by omega) hx19 hG19 (fr_tr (M := [(12, 2), (17, (-1)), (36, 0), (36, 1), (36, 2), (36, 3), (36, 4), (40, 1), (41, (-1))]) fr_rf (hf19) (M1 := []) rfl rfl)
      · skip
        refine JcI (z := (-6)) (show mx_Sn _ _ 23 (mx_const (.int (-6)) 25) from sn_102 23) rfl ?_
        have b22 : 1 ≤ Z 36 1 ∧ Z 36 1 ≤ 18 := hG.pr 36 1
        exact mx_J.ret (sn_102 25) (fun _ _ => rfl) (hP (-6) Z h hx hG fr_rf (by omega))
    · skip
      exfalso; omega
theorem ct_102_1_i2 {l : Launch} {D : va_G} {b0 : Nat} {ad : Nat → Nat} {Hb : Heap} {tau : Nat → Int64} {d n s : Nat} {S : Nat → xS} {Z : xZ} {h : mx_H} (hx : XH n s S Z h) (hG : GI n S Z)   : ∃ (z : Int) (Z' : xZ) (h' : mx_H), mx_Ca (tB l D b0 ad Hb tau) (d + 8) 102 [.ref 1, xI 2] h (some (xI z), h') ∧ XH n s S Z' h' ∧ GI n S Z' ∧ fr' [(12, 2), (14, (-1)), (16, (-1)), (17, (-1)), (18, (-1)), (19, (-1)), (36, 0), (36, 1), (36, 2), (36, 3), (36, 4), (38, 0), (38, 1), (38, 2), (38, 3), (38, 4), (40, 1), (41, (-1)), (42, (-1))] Z Z' ∧ ((-6) ≤ z ∧ z ≤ 40 ∧ (Z' 36 1 = Z 36 1)) := by
  obtain ⟨r, hca, z, Z', h', e, q⟩ := Jmt (B := tB l D b0 ad Hb tau) (M := mt_102) (mi := 102) (as := [.ref 1, xI 2]) (d := d + 7) (ls := [some (.ref 1), some (xI 2), none]) rfl rfl rfl rfl rfl rfl (cw_102_1_i2 (l := l) (D := D) (b0 := b0) (ad := ad) (Hb := Hb) (tau := tau) (d := d) (Post := fun r => ∃ (z : Int) (Z' : xZ) (h' : mx_H), r = (some (xI z), h') ∧ XH n s S Z' h' ∧ GI n S Z' ∧ fr' [(12, 2), (14, (-1)), (16, (-1)), (17, (-1)), (18, (-1)), (19, (-1)), (36, 0), (36, 1), (36, 2), (36, 3), (36, 4), (38, 0), (38, 1), (38, 2), (38, 3), (38, 4), (40, 1), (41, (-1)), (42, (-1))] Z Z' ∧ ((-6) ≤ z ∧ z ≤ 40 ∧ (Z' 36 1 = Z 36 1))) hx hG  (fun z Z' h' q1 q2 q3 q4 => ⟨z, Z', h', rfl, q1, q2, q3, q4⟩))
  subst e; exact ⟨z, Z', h', hca, q⟩
set_option maxRecDepth 100000 in
theorem cw_102_1_i3 {l : Launch} {D : va_G} {b0 : Nat} {ad : Nat → Nat} {Hb : Heap} {tau : Nat → Int64} {d n s : Nat} {S : Nat → xS} {Z : xZ} {h : mx_H} {Post : mx_R → Prop} (hx : XH n s S Z h) (hG : GI n S Z)   (hP : ∀ (z : Int) (Z' : xZ) (h' : mx_H), XH n s S Z' h' → GI n S Z' → fr' [(12, 2), (14, (-1)), (16, (-1)), (17, (-1)), (18, (-1)), (19, (-1)), (36, 0), (36, 1), (36, 2), (36, 3), (36, 4), (38, 0), (38, 1), (38, 2), (38, 3), (38, 4), (40, 1), (41, (-1)), (42, (-1))] Z Z' → (-6) ≤ z ∧ z ≤ 40 ∧ (Z' 36 1 = Z 36 1) → Post (some (xI z), h')) : mx_J (tB l D b0 ad Hb tau) mt_102 (d + 7) 0 [some (.ref 1), some (xI 3), none] [] h Post := by
    have a1 : 1 < n := lt83 (GI_n hG) rfl
    have s1 : S 1 = .inl (11, [2, 0, 0, 0, 2, 2, 2, 2, 2, 2, 2, 2, 2, 2, 2, 2, 2]) := GI_s hG 1 rfl
    have a34 : 34 < n := lt83 (GI_n hG) rfl
    have s34 : S 34 = .inr ((.object "TitheHeap$Tray"), 4, 2) := GI_s hG 34 rfl
    have a38 : 38 < n := lt83 (GI_n hG) rfl
    have s38 : S 38 = .inl (5, [2, 0, 0, 0, 0, 0]) := GI_s hG 38 rfl
    have a50 : 50 < n := lt83 (GI_n hG) rfl
    have s50 : S 50 = .inl (10, [2, 0, 0, 0]) := GI_s hG 50 rfl
    refine mx_J.step (sn_102 0) (fun _ _ => rfl) ?_
    refine mx_J.step (sn_102 1) (fun _ _ => rfl) ?_
    obtain ⟨z1, hc1, b1⟩ := ct_144_1_y (d := d + 6) (l := l) (D := D) (b0 := b0) (ad := ad) (Hb := Hb) (tau := tau) hx hG (show 0 ≤ 3 ∧ 3 ≤ 3 by omega)
    refine Jcv hx (show mx_Sn _ _ 2 (mx_callv 144 2 11 5) from sn_102 2) a1 s1 hc1 rfl rfl rfl ?_
    refine Jif_eq (show mx_Sn _ _ 5 (mx_if_eq 11 8) from sn_102 5) (by omega) (fun q2 => ?_) (fun q2 => ?_)
    · skip
      refine mx_J.step (sn_102 11) (fun _ _ => rfl) ?_
      refine JgetR (g := 10) (b := 34) hx (show mx_Sn _ _ 12 (mx_getf 11 10 15) from sn_102 12) a1 s1 rfl rfl (hG.prr 1 10 rfl) ?_
      refine mx_J.step (sn_102 15) (fun _ _ => rfl) ?_
      refine JaaldR (i := 3) (b := 50) hx (show mx_Sn _ _ 16 (mx_aald 17) from sn_102 16) a34 s34 (by omega) (show Z 34 3 = 50 by have hq := GI_ex hG 34 3; replace hq : ((0 : Int) ≤ 3 → (3 : Int) ≤ 3 → (Z 34 3) = 44 + 2 * 3) := hq; omega) ?_
      have b5 : 0 ≤ Z 50 3 ∧ Z 50 3 ≤ 1 := hG.pr 50 3
      refine JgetI (g := 3) (z := Z 50 3) hx (show mx_Sn _ _ 17 (mx_getf 10 3 20) from sn_102 17) a50 s50 rfl rfl rfl ?_
      refine Jif_eq (show mx_Sn _ _ 20 (mx_if_eq 26 23) from sn_102 20) (by omega) (fun q6 => ?_) (fun q6 => ?_)
      · skip
        refine mx_J.step (sn_102 26) (fun _ _ => rfl) ?_
        refine JgetR (g := 13) (b := 38) hx (show mx_Sn _ _ 27 (mx_getf 11 13 30) from sn_102 27) a1 s1 rfl rfl (hG.prr 1 13 rfl) ?_
        refine mx_J.step (sn_102 30) (fun _ _ => rfl) ?_
        refine JgetR (g := 12) (b := 36) hx (show mx_Sn _ _ 31 (mx_getf 11 12 34) from sn_102 31) a1 s1 rfl rfl (hG.prr 1 12 rfl) ?_
        have b10 : 1 ≤ Z 36 1 ∧ Z 36 1 ≤ 18 := hG.pr 36 1
        obtain ⟨Z9, h9, hc9, hx9, hG9, hf9, b9⟩ := ct_33_38_36 (d := d + 6) (l := l) (D := D) (b0 := b0) (ad := ad) (Hb := Hb) (tau := tau) hx hG 
        have b11 : 1 ≤ Z9 38 1 ∧ Z9 38 1 ≤ 18 := hG9.pr 38 1
        refine Jcv0 hx (show mx_Sn _ _ 34 (mx_callv 33 2 5 37) from sn_102 34) a38 s38 hc9 rfl rfl rfl ?_
        refine mx_J.step (sn_102 37) (fun _ _ => rfl) ?_
        refine mx_J.step (sn_102 38) (fun _ _ => rfl) ?_
        refine JgetR (g := 10) (b := 34) hx9 (show mx_Sn _ _ 39 (mx_getf 11 10 42) from sn_102 39) a1 s1 rfl rfl (hG9.prr 1 10 rfl) ?_
        refine mx_J.step (sn_102 42) (fun _ _ => rfl) ?_
        refine JaaldR (i := 3) (b := 50) hx9 (show mx_Sn _ _ 43 (mx_aald 44) from sn_102 43) a34 s34 (by omega) (show Z9 34 3 = 50 by have hq := GI_ex hG9 34 3; replace hq : ((0 : Int) ≤ 3 → (3 : Int) ≤ 3 → (Z9 34 3) = 44 + 2 * 3) := hq; omega) ?_
        obtain ⟨z13, Z13, h13, hc13, hx13, hG13, hf13, b13⟩ := ct_138_1_50 (d := d + 0) (l := l) (D := D) (b0 := b0) (ad := ad) (Hb := Hb) (tau := tau) hx9 hG9 
        refine Jcv hx9 (show mx_Sn _ _ 44 (mx_callv 138 2 11 47) from sn_102 44) a1 s1 hc13 rfl rfl rfl ?_
        refine mx_J.step (ls2 := [some (.ref 1), some (xI 3), some (xI z13)]) (sn_102 47) (fun _ _ => rfl) ?_
        refine mx_J.step (sn_102 48) (fun _ _ => rfl) ?_
        have c56 : ∀  (Z15 : xZ) (h15 : mx_H), (Z15 36 1 = Z 36 1) → XH n s S Z15 h15 → GI n S Z15 → fr' [(12, 2), (17, (-1)), (36, 0), (36, 1), (36, 2), (36, 3), (36, 4), (40, 1), (41, (-1))] Z13 Z15 → mx_J (tB l D b0 ad Hb tau) mt_102 (d + 7) 56 [some (.ref 1), some (xI 3), some (xI z13)] [] h15 Post := by
          intro Z15 h15 f14_0 hx15 hG15 hf15
          have b16 : 1 ≤ Z15 36 1 ∧ Z15 36 1 ≤ 18 := hG15.pr 36 1
          refine mx_J.step (sn_102 56) (fun _ _ => rfl) ?_
          exact mx_J.ret (sn_102 57) (fun _ _ => rfl) (hP z13 Z15 h15 hx15 hG15 (fr_tr (M := [(12, 2), (14, (-1)), (16, (-1)), (17, (-1)), (18, (-1)), (19, (-1)), (36, 0), (36, 1), (36, 2), (36, 3), (36, 4), (38, 0), (38, 1), (38, 2), (38, 3), (38, 4), (40, 1), (41, (-1)), (42, (-1))]) (fr_tr (M := [(12, 2), (14, (-1)), (16, (-1)), (17, (-1)), (18, (-1)), (19, (-1)), (36, 0), (36, 1), (36, 2), (36, 3), (36, 4), (38, 0), (38, 1), (38, 2), (38, 3), (38, 4), (40, 1), (41, (-1)), (42, (-1))]) (fr_tr (M := [(12, 2), (14, (-1)), (16, (-1)), (17, (-1)), (18, (-1)), (19, (-1)), (36, 0), (36, 1), (36, 2), (36, 3), (36, 4), (38, 0), (38, 1), (38, 2), (38, 3), (38, 4), (40, 1), (41, (-1)), (42, (-1))]) fr_rf (hf9) (M1 := []) rfl rfl) (hf13) rfl rfl) (hf15) rfl rfl) (by omega))
        refine Jif_le (show mx_Sn _ _ 49 (mx_if_le 56 52) from sn_102 49) (by omega) (fun q17 => ?_) (fun q17 => ?_)
        · skip
          have eq18 : Z13 36 1 = Z 36 1 := ((hf13 36 1 rfl).trans (hf9 36 1 rfl))
          exact c56 Z13 h13 (by omega) hx13 hG13 fr_rf
        · skip
          refine mx_J.step (sn_102 52) (fun _ _ => rfl) ?_
          have eq20 : Z13 38 1 = Z9 38 1 := (hf13 38 1 rfl)
          obtain ⟨Z19, h19, hc19, hx19, hG19, hf19, b19⟩ := ct_137_1 (d := d + 4) (l := l) (D := D) (b0 := b0) (ad := ad) (Hb := Hb) (tau := tau) hx13 hG13 
          try rw [eq20] at b19
          have b21 : 1 ≤ Z19 36 1 ∧ Z19 36 1 ≤ 18 := hG19.pr 36 1
          refine Jcv0 hx13 (show mx_Sn _ _ 53 (mx_callv 137 1 11 56) from sn_102 53) a1 s1 hc19 rfl rfl rfl ?_
          exact c56 Z19 h19 (by omega) hx19 hG19 (fr_tr (M := [(12, 2), (17, (-1)), (36, 0), (36, 1), (36, 2), (36, 3), (36, 4), (40, 1), (41, (-1))]) fr_rf (hf19) (M1 := []) rfl rfl)
      · skip
        refine JcI (z := (-6)) (show mx_Sn _ _ 23 (mx_const (.int (-6)) 25) from sn_102 23) rfl ?_
        have b22 : 1 ≤ Z 36 1 ∧ Z 36 1 ≤ 18 := hG.pr 36 1
        exact mx_J.ret (sn_102 25) (fun _ _ => rfl) (hP (-6) Z h hx hG fr_rf (by omega))
    · skip
      exfalso; omega
theorem ct_102_1_i3 {l : Launch} {D : va_G} {b0 : Nat} {ad : Nat → Nat} {Hb : Heap} {tau : Nat → Int64} {d n s : Nat} {S : Nat → xS} {Z : xZ} {h : mx_H} (hx : XH n s S Z h) (hG : GI n S Z)   : ∃ (z : Int) (Z' : xZ) (h' : mx_H), mx_Ca (tB l D b0 ad Hb tau) (d + 8) 102 [.ref 1, xI 3] h (some (xI z), h') ∧ XH n s S Z' h' ∧ GI n S Z' ∧ fr' [(12, 2), (14, (-1)), (16, (-1)), (17, (-1)), (18, (-1)), (19, (-1)), (36, 0), (36, 1), (36, 2), (36, 3), (36, 4), (38, 0), (38, 1), (38, 2), (38, 3), (38, 4), (40, 1), (41, (-1)), (42, (-1))] Z Z' ∧ ((-6) ≤ z ∧ z ≤ 40 ∧ (Z' 36 1 = Z 36 1)) := by
  obtain ⟨r, hca, z, Z', h', e, q⟩ := Jmt (B := tB l D b0 ad Hb tau) (M := mt_102) (mi := 102) (as := [.ref 1, xI 3]) (d := d + 7) (ls := [some (.ref 1), some (xI 3), none]) rfl rfl rfl rfl rfl rfl (cw_102_1_i3 (l := l) (D := D) (b0 := b0) (ad := ad) (Hb := Hb) (tau := tau) (d := d) (Post := fun r => ∃ (z : Int) (Z' : xZ) (h' : mx_H), r = (some (xI z), h') ∧ XH n s S Z' h' ∧ GI n S Z' ∧ fr' [(12, 2), (14, (-1)), (16, (-1)), (17, (-1)), (18, (-1)), (19, (-1)), (36, 0), (36, 1), (36, 2), (36, 3), (36, 4), (38, 0), (38, 1), (38, 2), (38, 3), (38, 4), (40, 1), (41, (-1)), (42, (-1))] Z Z' ∧ ((-6) ≤ z ∧ z ≤ 40 ∧ (Z' 36 1 = Z 36 1))) hx hG  (fun z Z' h' q1 q2 q3 q4 => ⟨z, Z', h', rfl, q1, q2, q3, q4⟩))
  subst e; exact ⟨z, Z', h', hca, q⟩
set_option maxRecDepth 100000 in
theorem cw_102_1_n {l : Launch} {D : va_G} {b0 : Nat} {ad : Nat → Nat} {Hb : Heap} {tau : Nat → Int64} {d n s : Nat} {S : Nat → xS} {Z : xZ} {h : mx_H} {Post : mx_R → Prop} (hx : XH n s S Z h) (hG : GI n S Z)  {x0 : Int} (p0 : (-2147483648) ≤ x0 ∧ x0 ≤ (-1)) (hP : ∀ z : Int, (-2) ≤ z ∧ z ≤ (-2) ∧ (Z 36 1 = Z 36 1) → Post (some (xI z), h)) : mx_J (tB l D b0 ad Hb tau) mt_102 (d + 1) 0 [some (.ref 1), some (xI x0), none] [] h Post := by
    have a1 : 1 < n := lt83 (GI_n hG) rfl
    have s1 : S 1 = .inl (11, [2, 0, 0, 0, 2, 2, 2, 2, 2, 2, 2, 2, 2, 2, 2, 2, 2]) := GI_s hG 1 rfl
    refine mx_J.step (sn_102 0) (fun _ _ => rfl) ?_
    refine mx_J.step (sn_102 1) (fun _ _ => rfl) ?_
    obtain ⟨z1, hc1, b1⟩ := ct_144_1_n (d := d + 0) (l := l) (D := D) (b0 := b0) (ad := ad) (Hb := Hb) (tau := tau) hx hG (show (-2147483648) ≤ x0 ∧ x0 ≤ (-1) by omega)
    refine Jcv hx (show mx_Sn _ _ 2 (mx_callv 144 2 11 5) from sn_102 2) a1 s1 hc1 rfl rfl rfl ?_
    refine Jif_eq (show mx_Sn _ _ 5 (mx_if_eq 11 8) from sn_102 5) (by omega) (fun q2 => ?_) (fun q2 => ?_)
    · skip
      exfalso; omega
    · skip
      refine JcI (z := (-2)) (show mx_Sn _ _ 8 (mx_const (.int (-2)) 10) from sn_102 8) rfl ?_
      have b3 : 1 ≤ Z 36 1 ∧ Z 36 1 ≤ 18 := hG.pr 36 1
      exact mx_J.ret (sn_102 10) (fun _ _ => rfl) (hP (-2) (by omega))
theorem ct_102_1_n {l : Launch} {D : va_G} {b0 : Nat} {ad : Nat → Nat} {Hb : Heap} {tau : Nat → Int64} {d n s : Nat} {S : Nat → xS} {Z : xZ} {h : mx_H} (hx : XH n s S Z h) (hG : GI n S Z)  {x0 : Int} (p0 : (-2147483648) ≤ x0 ∧ x0 ≤ (-1)) : ∃ z : Int, mx_Ca (tB l D b0 ad Hb tau) (d + 2) 102 [.ref 1, xI x0] h (some (xI z), h) ∧ ((-2) ≤ z ∧ z ≤ (-2) ∧ (Z 36 1 = Z 36 1)) := by
  obtain ⟨r, hca, z, e, hp⟩ := Jmt (B := tB l D b0 ad Hb tau) (M := mt_102) (mi := 102) (as := [.ref 1, xI x0]) (d := d + 1) (ls := [some (.ref 1), some (xI x0), none]) rfl rfl rfl rfl rfl rfl (cw_102_1_n (l := l) (D := D) (b0 := b0) (ad := ad) (Hb := Hb) (tau := tau) (d := d) (Post := fun r => ∃ z : Int, r = (some (xI z), h) ∧ ((-2) ≤ z ∧ z ≤ (-2) ∧ (Z 36 1 = Z 36 1))) hx hG p0 (fun z hz => ⟨z, rfl, hz⟩))
  subst e; exact ⟨z, hca, hp⟩
set_option maxRecDepth 100000 in
theorem cw_102_1_p {l : Launch} {D : va_G} {b0 : Nat} {ad : Nat → Nat} {Hb : Heap} {tau : Nat → Int64} {d n s : Nat} {S : Nat → xS} {Z : xZ} {h : mx_H} {Post : mx_R → Prop} (hx : XH n s S Z h) (hG : GI n S Z)  {x0 : Int} (p0 : 4 ≤ x0 ∧ x0 ≤ 2147483647) (hP : ∀ z : Int, (-2) ≤ z ∧ z ≤ (-2) ∧ (Z 36 1 = Z 36 1) → Post (some (xI z), h)) : mx_J (tB l D b0 ad Hb tau) mt_102 (d + 1) 0 [some (.ref 1), some (xI x0), none] [] h Post := by
    have a1 : 1 < n := lt83 (GI_n hG) rfl
    have s1 : S 1 = .inl (11, [2, 0, 0, 0, 2, 2, 2, 2, 2, 2, 2, 2, 2, 2, 2, 2, 2]) := GI_s hG 1 rfl
    refine mx_J.step (sn_102 0) (fun _ _ => rfl) ?_
    refine mx_J.step (sn_102 1) (fun _ _ => rfl) ?_
    obtain ⟨z1, hc1, b1⟩ := ct_144_1_p (d := d + 0) (l := l) (D := D) (b0 := b0) (ad := ad) (Hb := Hb) (tau := tau) hx hG (show 4 ≤ x0 ∧ x0 ≤ 2147483647 by omega)
    refine Jcv hx (show mx_Sn _ _ 2 (mx_callv 144 2 11 5) from sn_102 2) a1 s1 hc1 rfl rfl rfl ?_
    refine Jif_eq (show mx_Sn _ _ 5 (mx_if_eq 11 8) from sn_102 5) (by omega) (fun q2 => ?_) (fun q2 => ?_)
    · skip
      exfalso; omega
    · skip
      refine JcI (z := (-2)) (show mx_Sn _ _ 8 (mx_const (.int (-2)) 10) from sn_102 8) rfl ?_
      have b3 : 1 ≤ Z 36 1 ∧ Z 36 1 ≤ 18 := hG.pr 36 1
      exact mx_J.ret (sn_102 10) (fun _ _ => rfl) (hP (-2) (by omega))
theorem ct_102_1_p {l : Launch} {D : va_G} {b0 : Nat} {ad : Nat → Nat} {Hb : Heap} {tau : Nat → Int64} {d n s : Nat} {S : Nat → xS} {Z : xZ} {h : mx_H} (hx : XH n s S Z h) (hG : GI n S Z)  {x0 : Int} (p0 : 4 ≤ x0 ∧ x0 ≤ 2147483647) : ∃ z : Int, mx_Ca (tB l D b0 ad Hb tau) (d + 2) 102 [.ref 1, xI x0] h (some (xI z), h) ∧ ((-2) ≤ z ∧ z ≤ (-2) ∧ (Z 36 1 = Z 36 1)) := by
  obtain ⟨r, hca, z, e, hp⟩ := Jmt (B := tB l D b0 ad Hb tau) (M := mt_102) (mi := 102) (as := [.ref 1, xI x0]) (d := d + 1) (ls := [some (.ref 1), some (xI x0), none]) rfl rfl rfl rfl rfl rfl (cw_102_1_p (l := l) (D := D) (b0 := b0) (ad := ad) (Hb := Hb) (tau := tau) (d := d) (Post := fun r => ∃ z : Int, r = (some (xI z), h) ∧ ((-2) ≤ z ∧ z ≤ (-2) ∧ (Z 36 1 = Z 36 1))) hx hG p0 (fun z hz => ⟨z, rfl, hz⟩))
  subst e; exact ⟨z, hca, hp⟩
theorem ct_102_1 {l : Launch} {D : va_G} {b0 : Nat} {ad : Nat → Nat} {Hb : Heap} {tau : Nat → Int64} {d n s : Nat} {S : Nat → xS} {Z : xZ} {h : mx_H} (hx : XH n s S Z h) (hG : GI n S Z) {x0 : Int} (p0 : (-2147483648) ≤ x0 ∧ x0 ≤ 2147483647) : ∃ (z : Int) (Z' : xZ) (h' : mx_H), mx_Ca (tB l D b0 ad Hb tau) (d + 8) 102 [.ref 1, xI x0] h (some (xI z), h') ∧ XH n s S Z' h' ∧ GI n S Z' ∧ fr' [(12, 2), (14, (-1)), (16, (-1)), (17, (-1)), (18, (-1)), (19, (-1)), (36, 0), (36, 1), (36, 2), (36, 3), (36, 4), (38, 0), (38, 1), (38, 2), (38, 3), (38, 4), (40, 1), (41, (-1)), (42, (-1))] Z Z' ∧ ((-6) ≤ z ∧ z ≤ 40 ∧ (Z' 36 1 = Z 36 1)) := by
  have hc : x0 = 0 ∨ x0 = 1 ∨ x0 = 2 ∨ x0 = 3 ∨ ((-2147483648) ≤ x0 ∧ x0 ≤ (-1)) ∨ (4 ≤ x0 ∧ x0 ≤ 2147483647) := by omega
  rcases hc with hc | hc | hc | hc | hc | hc
  · subst hc
    obtain ⟨z, Z', h', hca, q1, q2, q3, b⟩ := ct_102_1_i0 (d := d + 0) (l := l) (D := D) (b0 := b0) (ad := ad) (Hb := Hb) (tau := tau) hx hG 
    exact ⟨z, Z', h', hca, q1, q2, fr_tr (M1 := []) fr_rf q3 rfl rfl, ⟨Int.le_trans (by decide) b.1, Int.le_trans b.2.1 (by decide), b.2.2⟩⟩
  · subst hc
    obtain ⟨z, Z', h', hca, q1, q2, q3, b⟩ := ct_102_1_i1 (d := d + 0) (l := l) (D := D) (b0 := b0) (ad := ad) (Hb := Hb) (tau := tau) hx hG 
    exact ⟨z, Z', h', hca, q1, q2, fr_tr (M1 := []) fr_rf q3 rfl rfl, ⟨Int.le_trans (by decide) b.1, Int.le_trans b.2.1 (by decide), b.2.2⟩⟩
  · subst hc
    obtain ⟨z, Z', h', hca, q1, q2, q3, b⟩ := ct_102_1_i2 (d := d + 0) (l := l) (D := D) (b0 := b0) (ad := ad) (Hb := Hb) (tau := tau) hx hG 
    exact ⟨z, Z', h', hca, q1, q2, fr_tr (M1 := []) fr_rf q3 rfl rfl, ⟨Int.le_trans (by decide) b.1, Int.le_trans b.2.1 (by decide), b.2.2⟩⟩
  · subst hc
    obtain ⟨z, Z', h', hca, q1, q2, q3, b⟩ := ct_102_1_i3 (d := d + 0) (l := l) (D := D) (b0 := b0) (ad := ad) (Hb := Hb) (tau := tau) hx hG 
    exact ⟨z, Z', h', hca, q1, q2, fr_tr (M1 := []) fr_rf q3 rfl rfl, ⟨Int.le_trans (by decide) b.1, Int.le_trans b.2.1 (by decide), b.2.2⟩⟩
  · skip
    obtain ⟨z, hca, b⟩ := ct_102_1_n (d := d + 6) (l := l) (D := D) (b0 := b0) (ad := ad) (Hb := Hb) (tau := tau) hx hG hc
    exact ⟨z, Z, h, hca, hx, hG, fr_rf, ⟨Int.le_trans (by decide) b.1, Int.le_trans b.2.1 (by decide), b.2.2⟩⟩
  · skip
    obtain ⟨z, hca, b⟩ := ct_102_1_p (d := d + 6) (l := l) (D := D) (b0 := b0) (ad := ad) (Hb := Hb) (tau := tau) hx hG hc
    exact ⟨z, Z, h, hca, hx, hG, fr_rf, ⟨Int.le_trans (by decide) b.1, Int.le_trans b.2.1 (by decide), b.2.2⟩⟩
set_option maxRecDepth 100000 in
theorem cw_101_1_i0 {l : Launch} {D : va_G} {b0 : Nat} {ad : Nat → Nat} {Hb : Heap} {tau : Nat → Int64} {d n s : Nat} {S : Nat → xS} {Z : xZ} {h : mx_H} {Post : mx_R → Prop} (hx : XH n s S Z h) (hG : GI n S Z)  {x1 : Int} (p1 : (-2147483648) ≤ x1 ∧ x1 ≤ 2147483647) (hP : ∀ (z : Int) (Z' : xZ) (h' : mx_H), XH n s S Z' h' → GI n S Z' → fr' [(12, 2), (14, (-1)), (16, (-1)), (17, (-1)), (18, (-1)), (19, (-1)), (38, 0), (38, 1), (38, 2), (38, 3), (38, 4), (42, (-1))] Z Z' → (-6) ≤ z ∧ z ≤ 384 → Post (some (xI z), h')) : mx_J (tB l D b0 ad Hb tau) mt_101 (d + 7) 0 [some (.ref 1), some (xI 0), some (xI x1), none, none] [] h Post := by
    have a1 : 1 < n := lt83 (GI_n hG) rfl
    have s1 : S 1 = .inl (11, [2, 0, 0, 0, 2, 2, 2, 2, 2, 2, 2, 2, 2, 2, 2, 2, 2]) := GI_s hG 1 rfl
    have a7 : 7 < n := lt83 (GI_n hG) rfl
    have s7 : S 7 = .inl (0, [2, 2, 2, 2, 0, 0]) := GI_s hG 7 rfl
    have a12 : 12 < n := lt83 (GI_n hG) rfl
    have s12 : S 12 = .inl (4, [2, 2, 0, 2, 2, 2, 2, 2, 2]) := GI_s hG 12 rfl
    have a34 : 34 < n := lt83 (GI_n hG) rfl
    have s34 : S 34 = .inr ((.object "TitheHeap$Tray"), 4, 2) := GI_s hG 34 rfl
    have a36 : 36 < n := lt83 (GI_n hG) rfl
    have s36 : S 36 = .inl (5, [2, 0, 0, 0, 0, 0]) := GI_s hG 36 rfl
    have a38 : 38 < n := lt83 (GI_n hG) rfl
    have s38 : S 38 = .inl (5, [2, 0, 0, 0, 0, 0]) := GI_s hG 38 rfl
    have a44 : 44 < n := lt83 (GI_n hG) rfl
    have s44 : S 44 = .inl (10, [2, 0, 0, 0]) := GI_s hG 44 rfl
    refine mx_J.step (sn_101 0) (fun _ _ => rfl) ?_
    refine mx_J.step (sn_101 1) (fun _ _ => rfl) ?_
    obtain ⟨z1, hc1, b1⟩ := ct_144_1_y (d := d + 6) (l := l) (D := D) (b0 := b0) (ad := ad) (Hb := Hb) (tau := tau) hx hG (show 0 ≤ 0 ∧ 0 ≤ 3 by omega)
    refine Jcv hx (show mx_Sn _ _ 2 (mx_callv 144 2 11 5) from sn_101 2) a1 s1 hc1 rfl rfl rfl ?_
    have c17 : mx_J (tB l D b0 ad Hb tau) mt_101 (d + 7) 17 [some (.ref 1), some (xI 0), some (xI x1), none, none] [] h Post := by
      refine JcI (z := (-2)) (show mx_Sn _ _ 17 (mx_const (.int (-2)) 19) from sn_101 17) rfl ?_
      exact mx_J.ret (sn_101 19) (fun _ _ => rfl) (hP (-2) Z h hx hG fr_rf (by omega))
    refine Jif_ne (show mx_Sn _ _ 5 (mx_if_ne 17 8) from sn_101 5) (by omega) (fun q3 => ?_) (fun q3 => ?_)
    · skip
      exact c17 
    · skip
      refine mx_J.step (sn_101 8) (fun _ _ => rfl) ?_
      refine Jif_lt (show mx_Sn _ _ 9 (mx_if_lt 17 12) from sn_101 9) (by omega) (fun q4 => ?_) (fun q4 => ?_)
      · skip
        exact c17 
      · skip
        refine mx_J.step (sn_101 12) (fun _ _ => rfl) ?_
        refine JcI (z := 3) (show mx_Sn _ _ 13 (mx_const (.int 3) 14) from sn_101 13) rfl ?_
        refine Jicmp_le (show mx_Sn _ _ 14 (mx_icmp_le 20 17) from sn_101 14) (by omega) (by omega) (fun q5 => ?_) (fun q5 => ?_)
        · skip
          refine mx_J.step (sn_101 20) (fun _ _ => rfl) ?_
          refine JgetR (g := 10) (b := 34) hx (show mx_Sn _ _ 21 (mx_getf 11 10 24) from sn_101 21) a1 s1 rfl rfl (hG.prr 1 10 rfl) ?_
          refine mx_J.step (sn_101 24) (fun _ _ => rfl) ?_
          refine JaaldR (i := 0) (b := 44) hx (show mx_Sn _ _ 25 (mx_aald 26) from sn_101 25) a34 s34 (by omega) (show Z 34 0 = 44 by have hq := GI_ex hG 34 0; replace hq : ((0 : Int) ≤ 0 → (0 : Int) ≤ 3 → (Z 34 0) = 44 + 2 * 0) := hq; omega) ?_
          have b8 : 0 ≤ Z 44 3 ∧ Z 44 3 ≤ 1 := hG.pr 44 3
          refine JgetI (g := 3) (z := Z 44 3) hx (show mx_Sn _ _ 26 (mx_getf 10 3 29) from sn_101 26) a44 s44 rfl rfl rfl ?_
          refine Jif_eq (show mx_Sn _ _ 29 (mx_if_eq 35 32) from sn_101 29) (by omega) (fun q9 => ?_) (fun q9 => ?_)
          · skip
            refine mx_J.step (sn_101 35) (fun _ _ => rfl) ?_
            refine JgetR (g := 13) (b := 38) hx (show mx_Sn _ _ 36 (mx_getf 11 13 39) from sn_101 36) a1 s1 rfl rfl (hG.prr 1 13 rfl) ?_
            refine mx_J.step (sn_101 39) (fun _ _ => rfl) ?_
            refine JgetR (g := 12) (b := 36) hx (show mx_Sn _ _ 40 (mx_getf 11 12 43) from sn_101 40) a1 s1 rfl rfl (hG.prr 1 12 rfl) ?_
            have b13 : 1 ≤ Z 36 1 ∧ Z 36 1 ≤ 18 := hG.pr 36 1
            obtain ⟨Z12, h12, hc12, hx12, hG12, hf12, b12⟩ := ct_33_38_36 (d := d + 6) (l := l) (D := D) (b0 := b0) (ad := ad) (Hb := Hb) (tau := tau) hx hG 
            have b14 : 1 ≤ Z12 38 1 ∧ Z12 38 1 ≤ 18 := hG12.pr 38 1
            refine Jcv0 hx (show mx_Sn _ _ 43 (mx_callv 33 2 5 46) from sn_101 43) a38 s38 hc12 rfl rfl rfl ?_
            refine mx_J.step (sn_101 46) (fun _ _ => rfl) ?_
            refine mx_J.step (sn_101 47) (fun _ _ => rfl) ?_
            refine JgetR (g := 10) (b := 34) hx12 (show mx_Sn _ _ 48 (mx_getf 11 10 51) from sn_101 48) a1 s1 rfl rfl (hG12.prr 1 10 rfl) ?_
            refine mx_J.step (sn_101 51) (fun _ _ => rfl) ?_
            refine JaaldR (i := 0) (b := 44) hx12 (show mx_Sn _ _ 52 (mx_aald 53) from sn_101 52) a34 s34 (by omega) (show Z12 34 0 = 44 by have hq := GI_ex hG12 34 0; replace hq : ((0 : Int) ≤ 0 → (0 : Int) ≤ 3 → (Z12 34 0) = 44 + 2 * 0) := hq; omega) ?_
            obtain ⟨z16, Z16, h16, hc16, hx16, hG16, hf16, b16⟩ := ct_138_1_44 (d := d + 0) (l := l) (D := D) (b0 := b0) (ad := ad) (Hb := Hb) (tau := tau) hx12 hG12 
            refine Jcv hx12 (show mx_Sn _ _ 53 (mx_callv 138 2 11 56) from sn_101 53) a1 s1 hc16 rfl rfl rfl ?_
            refine mx_J.step (ls2 := [some (.ref 1), some (xI 0), some (xI x1), some (xI z16), none]) (sn_101 56) (fun _ _ => rfl) ?_
            refine mx_J.step (sn_101 57) (fun _ _ => rfl) ?_
            refine mx_J.step (sn_101 58) (fun _ _ => rfl) ?_
            refine JgetR (g := 10) (b := 34) hx16 (show mx_Sn _ _ 59 (mx_getf 11 10 62) from sn_101 59) a1 s1 rfl rfl (hG16.prr 1 10 rfl) ?_
            refine mx_J.step (sn_101 62) (fun _ _ => rfl) ?_
            refine JaaldR (i := 0) (b := 44) hx16 (show mx_Sn _ _ 63 (mx_aald 64) from sn_101 63) a34 s34 (by omega) (show Z16 34 0 = 44 by have hq := GI_ex hG16 34 0; replace hq : ((0 : Int) ≤ 0 → (0 : Int) ≤ 3 → (Z16 34 0) = 44 + 2 * 0) := hq; omega) ?_
            have b19 : 0 ≤ Z 44 2 ∧ Z 44 2 ≤ 40 := hG.pr 44 2
            refine JgetI (g := 2) (z := Z 44 2) hx16 (show mx_Sn _ _ 64 (mx_getf 10 2 67) from sn_101 64) a44 s44 rfl rfl ((hf16 44 2 rfl).trans (hf12 44 2 rfl)) ?_
            have c92 : ∀ (k20_0 : Int) (Z21 : xZ) (h21 : mx_H), 0 ≤ k20_0 ∧ k20_0 ≤ 2 → XH n s S Z21 h21 → GI n S Z21 → fr' [(12, 2), (14, (-1)), (16, (-1)), (17, (-1)), (18, (-1)), (19, (-1)), (38, 2), (38, 3), (38, 4), (42, (-1))] Z16 Z21 → mx_J (tB l D b0 ad Hb tau) mt_101 (d + 7) 92 [some (.ref 1), some (xI 0), some (xI x1), some (xI z16), none] [xI k20_0] h21 Post := by
              intro k20_0 Z21 h21 f20_0 hx21 hG21 hf21
              refine mx_J.step (ls2 := [some (.ref 1), some (xI 0), some (xI x1), some (xI z16), some (xI k20_0)]) (sn_101 92) (fun _ _ => rfl) ?_
              refine mx_J.step (sn_101 94) (fun _ _ => rfl) ?_
              refine JgetR (g := 6) (b := 12) hx21 (show mx_Sn _ _ 95 (mx_getf 11 6 98) from sn_101 95) a1 s1 rfl rfl (hG21.prr 1 6 rfl) ?_
              refine mx_J.step (sn_101 98) (fun _ _ => rfl) ?_
              refine JgetR (g := 12) (b := 36) hx21 (show mx_Sn _ _ 99 (mx_getf 11 12 102) from sn_101 99) a1 s1 rfl rfl (hG21.prr 1 12 rfl) ?_
              have b25 : 0 ≤ Z 36 3 ∧ Z 36 3 ≤ 9 := hG.pr 36 3
              refine JgetI (g := 3) (z := Z 36 3) hx21 (show mx_Sn _ _ 102 (mx_getf 5 3 105) from sn_101 102) a36 s36 rfl rfl ((hf21 36 3 rfl).trans ((hf16 36 3 rfl).trans (hf12 36 3 rfl))) ?_
              obtain ⟨Z26, h26, hc26, hx26, hG26, hf26⟩ := ct_25_12 (d := d + 6) (l := l) (D := D) (b0 := b0) (ad := ad) (Hb := Hb) (tau := tau) hx21 hG21 (show 0 ≤ Z 36 3 ∧ Z 36 3 ≤ 9 by omega)
              refine Jcv0 hx21 (show mx_Sn _ _ 105 (mx_callv 25 2 4 108) from sn_101 105) a12 s12 hc26 rfl rfl rfl ?_
              refine mx_J.step (sn_101 108) (fun _ _ => rfl) ?_
              refine Jtsw (z := x1) (show mx_Sn _ _ 109 (mx_tsw 0 2 [136, 147, 150] 165) from sn_101 109) (by omega) (fun q27 => ?_) (fun q27 => ?_)
              · skip
                refine mx_J.step (sn_101 165) (fun _ _ => rfl) ?_
                refine JgetR (g := 13) (b := 38) hx26 (show mx_Sn _ _ 166 (mx_getf 11 13 169) from sn_101 166) a1 s1 rfl rfl (hG26.prr 1 13 rfl) ?_
                have b30 : 0 ≤ Z21 38 2 ∧ Z21 38 2 ≤ 384 := hG21.pr 38 2
                refine JgetI (g := 2) (z := Z21 38 2) hx26 (show mx_Sn _ _ 169 (mx_getf 5 2 172) from sn_101 169) a38 s38 rfl rfl (hf26 38 2 rfl) ?_
                exact mx_J.ret (sn_101 172) (fun _ _ => rfl) (hP (Z21 38 2) Z26 h26 hx26 hG26 (fr_tr (M := [(12, 2), (14, (-1)), (16, (-1)), (17, (-1)), (18, (-1)), (19, (-1)), (38, 0), (38, 1), (38, 2), (38, 3), (38, 4), (42, (-1))]) (fr_tr (M := [(12, 2), (14, (-1)), (16, (-1)), (17, (-1)), (18, (-1)), (19, (-1)), (38, 0), (38, 1), (38, 2), (38, 3), (38, 4), (42, (-1))]) (fr_tr (M := [(12, 2), (14, (-1)), (16, (-1)), (17, (-1)), (18, (-1)), (19, (-1)), (38, 0), (38, 1), (38, 2), (38, 3), (38, 4), (42, (-1))]) (fr_tr (M := [(12, 2), (14, (-1)), (16, (-1)), (17, (-1)), (18, (-1)), (19, (-1)), (38, 0), (38, 1), (38, 2), (38, 3), (38, 4), (42, (-1))]) fr_rf (hf12) (M1 := []) rfl rfl) (hf16) rfl rfl) (hf21) rfl rfl) (hf26) rfl rfl) (by omega))
              · skip
                have e27 : x1 = 0 ∨ x1 = 1 ∨ x1 = 2 := by omega
                rcases e27 with e27 | e27 | e27
                · refine ⟨136, by rw [e27]; rfl, ?_⟩
                  refine mx_J.step (sn_101 136) (fun _ _ => rfl) ?_
                  have c146 : ∀ (k31_0 : Int), (-1) ≤ k31_0 ∧ k31_0 ≤ 40 → mx_J (tB l D b0 ad Hb tau) mt_101 (d + 7) 146 [some (.ref 1), some (xI 0), some (xI x1), some (xI z16), some (xI k20_0)] [xI k31_0] h26 Post := by
                    intro k31_0 f31_0
                    exact mx_J.ret (sn_101 146) (fun _ _ => rfl) (hP k31_0 Z26 h26 hx26 hG26 (fr_tr (M := [(12, 2), (14, (-1)), (16, (-1)), (17, (-1)), (18, (-1)), (19, (-1)), (38, 0), (38, 1), (38, 2), (38, 3), (38, 4), (42, (-1))]) (fr_tr (M := [(12, 2), (14, (-1)), (16, (-1)), (17, (-1)), (18, (-1)), (19, (-1)), (38, 0), (38, 1), (38, 2), (38, 3), (38, 4), (42, (-1))]) (fr_tr (M := [(12, 2), (14, (-1)), (16, (-1)), (17, (-1)), (18, (-1)), (19, (-1)), (38, 0), (38, 1), (38, 2), (38, 3), (38, 4), (42, (-1))]) (fr_tr (M := [(12, 2), (14, (-1)), (16, (-1)), (17, (-1)), (18, (-1)), (19, (-1)), (38, 0), (38, 1), (38, 2), (38, 3), (38, 4), (42, (-1))]) fr_rf (hf12) (M1 := []) rfl rfl) (hf16) rfl rfl) (hf21) rfl rfl) (hf26) rfl rfl) (by omega))
                  refine Jif_ne (show mx_Sn _ _ 138 (mx_if_ne 145 141) from sn_101 138) (by omega) (fun q32 => ?_) (fun q32 => ?_)
                  · skip
                    refine mx_J.step (sn_101 145) (fun _ _ => rfl) ?_
                    exact c146 z16 (by omega)
                  · skip
                    refine JcI (z := (-1)) (show mx_Sn _ _ 141 (mx_const (.int (-1)) 142) from sn_101 141) rfl ?_
                    refine mx_J.step (sn_101 142) (fun _ _ => rfl) ?_
                    exact c146 (-1) (by omega)
                · refine ⟨147, by rw [e27]; rfl, ?_⟩
                  refine mx_J.step (sn_101 147) (fun _ _ => rfl) ?_
                  exact mx_J.ret (sn_101 149) (fun _ _ => rfl) (hP k20_0 Z26 h26 hx26 hG26 (fr_tr (M := [(12, 2), (14, (-1)), (16, (-1)), (17, (-1)), (18, (-1)), (19, (-1)), (38, 0), (38, 1), (38, 2), (38, 3), (38, 4), (42, (-1))]) (fr_tr (M := [(12, 2), (14, (-1)), (16, (-1)), (17, (-1)), (18, (-1)), (19, (-1)), (38, 0), (38, 1), (38, 2), (38, 3), (38, 4), (42, (-1))]) (fr_tr (M := [(12, 2), (14, (-1)), (16, (-1)), (17, (-1)), (18, (-1)), (19, (-1)), (38, 0), (38, 1), (38, 2), (38, 3), (38, 4), (42, (-1))]) (fr_tr (M := [(12, 2), (14, (-1)), (16, (-1)), (17, (-1)), (18, (-1)), (19, (-1)), (38, 0), (38, 1), (38, 2), (38, 3), (38, 4), (42, (-1))]) fr_rf (hf12) (M1 := []) rfl rfl) (hf16) rfl rfl) (hf21) rfl rfl) (hf26) rfl rfl) (by omega))
                · refine ⟨150, by rw [e27]; rfl, ?_⟩
                  refine mx_J.step (sn_101 150) (fun _ _ => rfl) ?_
                  refine JgetR (g := 5) (b := 7) hx26 (show mx_Sn _ _ 151 (mx_getf 11 5 154) from sn_101 151) a1 s1 rfl rfl (hG26.prr 1 5 rfl) ?_
                  refine mx_J.step (sn_101 154) (fun _ _ => rfl) ?_
                  refine JgetR (g := 13) (b := 38) hx26 (show mx_Sn _ _ 155 (mx_getf 11 13 158) from sn_101 155) a1 s1 rfl rfl (hG26.prr 1 13 rfl) ?_
                  have b36 : 0 ≤ Z21 38 2 ∧ Z21 38 2 ≤ 384 := hG21.pr 38 2
                  refine JgetI (g := 2) (z := Z21 38 2) hx26 (show mx_Sn _ _ 158 (mx_getf 5 2 161) from sn_101 158) a38 s38 rfl rfl (hf26 38 2 rfl) ?_
                  have eq38 : Z26 7 5 = Z 7 5 := ((hf26 7 5 rfl).trans ((hf21 7 5 rfl).trans ((hf16 7 5 rfl).trans (hf12 7 5 rfl))))
                  have b39 : 0 ≤ Z 7 5 ∧ Z 7 5 ≤ 385 := hG.pr 7 5
                  have eq40 : Z26 10 (Z21 38 2) = Z 10 (Z21 38 2) := ((hf26 10 (Z21 38 2) rfl).trans ((hf21 10 (Z21 38 2) rfl).trans ((hf16 10 (Z21 38 2) rfl).trans (hf12 10 (Z21 38 2) rfl))))
                  have b41 : 0 ≤ Z 10 (Z21 38 2) ∧ Z 10 (Z21 38 2) ≤ 18 := hG.pr 10 (Z21 38 2)
                  obtain ⟨z37, hc37, b37⟩ := ct_5_7 (d := d + 6) (l := l) (D := D) (b0 := b0) (ad := ad) (Hb := Hb) (tau := tau) hx26 hG26 (show (-2147483648) ≤ Z21 38 2 ∧ Z21 38 2 ≤ 2147483647 by omega)
                  try rw [eq38] at b37
                  try rw [eq40] at b37
                  refine Jcv hx26 (show mx_Sn _ _ 161 (mx_callv 5 2 0 164) from sn_101 161) a7 s7 hc37 rfl rfl rfl ?_
                  exact mx_J.ret (sn_101 164) (fun _ _ => rfl) (hP z37 Z26 h26 hx26 hG26 (fr_tr (M := [(12, 2), (14, (-1)), (16, (-1)), (17, (-1)), (18, (-1)), (19, (-1)), (38, 0), (38, 1), (38, 2), (38, 3), (38, 4), (42, (-1))]) (fr_tr (M := [(12, 2), (14, (-1)), (16, (-1)), (17, (-1)), (18, (-1)), (19, (-1)), (38, 0), (38, 1), (38, 2), (38, 3), (38, 4), (42, (-1))]) (fr_tr (M := [(12, 2), (14, (-1)), (16, (-1)), (17, (-1)), (18, (-1)), (19, (-1)), (38, 0), (38, 1), (38, 2), (38, 3), (38, 4), (42, (-1))]) (fr_tr (M := [(12, 2), (14, (-1)), (16, (-1)), (17, (-1)), (18, (-1)), (19, (-1)), (38, 0), (38, 1), (38, 2), (38, 3), (38, 4), (42, (-1))]) fr_rf (hf12) (M1 := []) rfl rfl) (hf16) rfl rfl) (hf21) rfl rfl) (hf26) rfl rfl) (by omega))
            refine Jicmp_ge (show mx_Sn _ _ 67 (mx_icmp_ge 91 70) from sn_101 67) (by omega) (by omega) (fun q42 => ?_) (fun q42 => ?_)
            · skip
              refine JcI (z := 0) (show mx_Sn _ _ 91 (mx_const (.int 0) 92) from sn_101 91) rfl ?_
              exact c92 0 Z16 h16 (by omega) hx16 hG16 fr_rf
            · skip
              refine mx_J.step (sn_101 70) (fun _ _ => rfl) ?_
              refine mx_J.step (sn_101 71) (fun _ _ => rfl) ?_
              refine JgetR (g := 13) (b := 38) hx16 (show mx_Sn _ _ 72 (mx_getf 11 13 75) from sn_101 72) a1 s1 rfl rfl (hG16.prr 1 13 rfl) ?_
              refine mx_J.step (sn_101 75) (fun _ _ => rfl) ?_
              refine JgetR (g := 10) (b := 34) hx16 (show mx_Sn _ _ 76 (mx_getf 11 10 79) from sn_101 76) a1 s1 rfl rfl (hG16.prr 1 10 rfl) ?_
              refine mx_J.step (sn_101 79) (fun _ _ => rfl) ?_
              refine JaaldR (i := 0) (b := 44) hx16 (show mx_Sn _ _ 80 (mx_aald 81) from sn_101 80) a34 s34 (by omega) (show Z16 34 0 = 44 by have hq := GI_ex hG16 34 0; replace hq : ((0 : Int) ≤ 0 → (0 : Int) ≤ 3 → (Z16 34 0) = 44 + 2 * 0) := hq; omega) ?_
              refine mx_J.step (sn_101 81) (fun _ _ => rfl) ?_
              have eq46 : Z16 45 z16 = Z 45 z16 := ((hf16 45 z16 rfl).trans (hf12 45 z16 rfl))
              have b47 : (-9223372036854775808) ≤ Z 45 z16 ∧ Z 45 z16 ≤ 9223372036854775807 := hG.pr 45 z16
              obtain ⟨z45, hc45, b45⟩ := ct_85_44 (d := d + 6) (l := l) (D := D) (b0 := b0) (ad := ad) (Hb := Hb) (tau := tau) hx16 hG16 (show (-2147483648) ≤ z16 ∧ z16 ≤ 2147483647 by omega)
              try rw [eq46] at b45
              refine Jcv hx16 (show mx_Sn _ _ 82 (mx_callv 85 2 10 85) from sn_101 82) a44 s44 hc45 rfl rfl rfl ?_
              obtain ⟨z48, Z48, h48, hc48, hx48, hG48, hf48, b48⟩ := ct_139_1_38 (d := d + 1) (l := l) (D := D) (b0 := b0) (ad := ad) (Hb := Hb) (tau := tau) hx16 hG16 (show (-9223372036854775808) ≤ z45 ∧ z45 ≤ 9223372036854775807 by omega)
              refine Jcv hx16 (show mx_Sn _ _ 85 (mx_callv 139 3 11 88) from sn_101 85) a1 s1 hc48 rfl rfl rfl ?_
              refine mx_J.step (sn_101 88) (fun _ _ => rfl) ?_
              exact c92 z48 Z48 h48 (by omega) hx48 hG48 (fr_tr (M := [(12, 2), (14, (-1)), (16, (-1)), (17, (-1)), (18, (-1)), (19, (-1)), (38, 2), (38, 3), (38, 4), (42, (-1))]) fr_rf (hf48) (M1 := []) rfl rfl)
          · skip
            refine JcI (z := (-6)) (show mx_Sn _ _ 32 (mx_const (.int (-6)) 34) from sn_101 32) rfl ?_
            exact mx_J.ret (sn_101 34) (fun _ _ => rfl) (hP (-6) Z h hx hG fr_rf (by omega))
        · skip
          exact c17 
theorem ct_101_1_i0 {l : Launch} {D : va_G} {b0 : Nat} {ad : Nat → Nat} {Hb : Heap} {tau : Nat → Int64} {d n s : Nat} {S : Nat → xS} {Z : xZ} {h : mx_H} (hx : XH n s S Z h) (hG : GI n S Z)  {x1 : Int} (p1 : (-2147483648) ≤ x1 ∧ x1 ≤ 2147483647) : ∃ (z : Int) (Z' : xZ) (h' : mx_H), mx_Ca (tB l D b0 ad Hb tau) (d + 8) 101 [.ref 1, xI 0, xI x1] h (some (xI z), h') ∧ XH n s S Z' h' ∧ GI n S Z' ∧ fr' [(12, 2), (14, (-1)), (16, (-1)), (17, (-1)), (18, (-1)), (19, (-1)), (38, 0), (38, 1), (38, 2), (38, 3), (38, 4), (42, (-1))] Z Z' ∧ ((-6) ≤ z ∧ z ≤ 384) := by
  obtain ⟨r, hca, z, Z', h', e, q⟩ := Jmt (B := tB l D b0 ad Hb tau) (M := mt_101) (mi := 101) (as := [.ref 1, xI 0, xI x1]) (d := d + 7) (ls := [some (.ref 1), some (xI 0), some (xI x1), none, none]) rfl rfl rfl rfl rfl rfl (cw_101_1_i0 (l := l) (D := D) (b0 := b0) (ad := ad) (Hb := Hb) (tau := tau) (d := d) (Post := fun r => ∃ (z : Int) (Z' : xZ) (h' : mx_H), r = (some (xI z), h') ∧ XH n s S Z' h' ∧ GI n S Z' ∧ fr' [(12, 2), (14, (-1)), (16, (-1)), (17, (-1)), (18, (-1)), (19, (-1)), (38, 0), (38, 1), (38, 2), (38, 3), (38, 4), (42, (-1))] Z Z' ∧ ((-6) ≤ z ∧ z ≤ 384)) hx hG p1 (fun z Z' h' q1 q2 q3 q4 => ⟨z, Z', h', rfl, q1, q2, q3, q4⟩))
  subst e; exact ⟨z, Z', h', hca, q⟩
