set_option maxRecDepth 100000 in
theorem cw_240_56 {l : Launch} {D : va_G} {b0 : Nat} {ad : Nat → Nat} {Hb : Heap} {tau : Nat → Int64} {d n s : Nat} {S : Nat → xS} {Z : xZ} {h : mx_H} {Post : mx_R → Prop} (hx : XH n s S Z h) (hG : GI n S Z)  {x0 : Int} (p0 : 0 ≤ x0 ∧ x0 ≤ 3) (k0 : Z 81 x0 ≤ 18) (hP : ∀ (z : Int) (Z' : xZ) (h' : mx_H), XH n s S Z' h' → GI n S Z' → fr' [(62, (-1))] Z Z' → 0 ≤ z ∧ z ≤ 384 → Post (some (xI z), h')) : mx_J (tB l D b0 ad Hb tau) mt_240 (d + 2) 0 [some (.ref 56), some (xI x0), none] [] h Post := by
    have a56 : 56 < n := lt83 (GI_n hG) rfl
    have s56 : S 56 = .inl (12, [0, 2, 2, 2, 2, 0, 0, 0, 0, 0, 0, 0, 0, 0, 0, 2, 2, 2, 0, 2, 2, 2, 0, 0, 2, 2, 2, 2, 2, 2, 0, 0, 2, 2, 2, 2, 2, 2, 2, 2, 2, 2]) := GI_s hG 56 rfl
    have a62 : 62 < n := lt83 (GI_n hG) rfl
    have s62 : S 62 = .inr (.int, 20, 0) := GI_s hG 62 rfl
    have a81 : 81 < n := lt83 (GI_n hG) rfl
    have s81 : S 81 = .inr (.int, 4, 0) := GI_s hG 81 rfl
    have a82 : 82 < n := lt83 (GI_n hG) rfl
    have s82 : S 82 = .inr (.long, 160, 1) := GI_s hG 82 rfl
    refine mx_J.step (sn_240 0) (fun _ _ => rfl) ?_
    obtain ⟨Z1, h1, hc1, hx1, hG1, hf1, b1⟩ := ct_186_56 (d := d + 1) (l := l) (D := D) (b0 := b0) (ad := ad) (Hb := Hb) (tau := tau) hx hG 
    have bs1_0 := b1
    clear b1
    refine Jcv0 hx (show mx_Sn _ _ 1 (mx_callv 186 1 12 4) from sn_240 1) a56 s56 hc1 rfl rfl rfl ?_
    refine JcI (z := 0) (show mx_Sn _ _ 4 (mx_const (.int 0) 5) from sn_240 4) rfl ?_
    refine mx_J.step (ls2 := [some (.ref 56), some (xI x0), some (xI 0)]) (sn_240 5) (fun _ _ => rfl) ?_
    have c6 : ∀ (m2 : Nat) (w2_2 : Int) (Z3 : xZ) (h3 : mx_H), 40 - w2_2 < (m2 : Int) → 0 ≤ w2_2 ∧ w2_2 ≤ 40 → XH n s S Z3 h3 → GI n S Z3 → fr' [(62, (-1))] Z1 Z3 → mx_J (tB l D b0 ad Hb tau) mt_240 (d + 2) 6 [some (.ref 56), some (xI x0), some (xI w2_2)] [] h3 Post := by
      intro m2
      induction m2 with
      | zero => intro w2_2 Z3 h3 q2 f2_0 hx3 hG3 hf3; exact absurd q2 (by omega)
      | succ m2 ih2 =>
        intro w2_2 Z3 h3 q2 f2_0 hx3 hG3 hf3
        refine mx_J.step (sn_240 6) (fun _ _ => rfl) ?_
        refine mx_J.step (sn_240 7) (fun _ _ => rfl) ?_
        refine JgetR (g := 40) (b := 81) hx3 (show mx_Sn _ _ 8 (mx_getf 12 40 11) from sn_240 8) a56 s56 rfl rfl (hG3.prr 56 40 rfl) ?_
        refine mx_J.step (sn_240 11) (fun _ _ => rfl) ?_
        have b5 : 0 ≤ Z 81 x0 ∧ Z 81 x0 ≤ 40 := hG.pr 81 x0
        refine JialdI (z := Z 81 x0) hx3 (show mx_Sn _ _ 12 (mx_iald 13) from sn_240 12) a81 s81 (by omega) ((hf3 81 x0 rfl).trans (hf1 81 x0 rfl)) ?_
        refine Jicmp_ge (show mx_Sn _ _ 13 (mx_icmp_ge 40 16) from sn_240 13) (by omega) (by omega) (fun q6 => ?_) (fun q6 => ?_)
        · skip
          refine mx_J.step (sn_240 40) (fun _ _ => rfl) ?_
          have eq8 : Z3 56 18 = Z 56 18 := ((hf3 56 18 rfl).trans (hf1 56 18 rfl))
          have b9 : 0 ≤ Z 56 18 ∧ Z 56 18 ≤ 385 := hG.pr 56 18
          obtain ⟨z7, Z7, h7, hc7, hx7, hG7, hf7, b7⟩ := ct_188_56 (d := d + 0) (l := l) (D := D) (b0 := b0) (ad := ad) (Hb := Hb) (tau := tau) hx3 hG3 
          try rw [eq8] at b7
          refine Jcv hx3 (show mx_Sn _ _ 41 (mx_callv 188 1 12 44) from sn_240 41) a56 s56 hc7 rfl rfl rfl ?_
          have eq10 : Z7 81 x0 = Z 81 x0 := ((hf7 81 x0 rfl).trans ((hf3 81 x0 rfl).trans (hf1 81 x0 rfl)))
          exact mx_J.ret (sn_240 44) (fun _ _ => rfl) (hP z7 Z7 h7 hx7 hG7 (fr_tr (M := [(62, (-1))]) (fr_tr (M := [(62, (-1))]) (fr_tr (M := [(62, (-1))]) fr_rf (hf1) (M1 := []) rfl rfl) (hf3) rfl rfl) (hf7) rfl rfl) (by omega))
        · skip
          refine mx_J.step (sn_240 16) (fun _ _ => rfl) ?_
          refine JgetR (g := 16) (b := 62) hx3 (show mx_Sn _ _ 17 (mx_getf 12 16 20) from sn_240 17) a56 s56 rfl rfl (hG3.prr 56 16 rfl) ?_
          refine mx_J.step (sn_240 20) (fun _ _ => rfl) ?_
          refine mx_J.step (sn_240 21) (fun _ _ => rfl) ?_
          refine JgetR (g := 41) (b := 82) hx3 (show mx_Sn _ _ 22 (mx_getf 12 41 25) from sn_240 22) a56 s56 rfl rfl (hG3.prr 56 41 rfl) ?_
          refine JcI (z := 40) (show mx_Sn _ _ 25 (mx_const (.int 40) 27) from sn_240 25) rfl ?_
          refine mx_J.step (sn_240 27) (fun _ _ => rfl) ?_
          refine Jimul (show mx_Sn _ _ 28 (mx_imul 29) from sn_240 28) ?_
          refine mx_J.step (sn_240 29) (fun _ _ => rfl) ?_
          refine Jiadd (show mx_Sn _ _ 30 (mx_iadd 31) from sn_240 30) ?_
          have b13 : (-9223372036854775808) ≤ Z 82 ((40 * x0) + w2_2) ∧ Z 82 ((40 * x0) + w2_2) ≤ 9223372036854775807 := hG.pr 82 ((40 * x0) + w2_2)
          refine JlaldL (z := Z 82 ((40 * x0) + w2_2)) hx3 (show mx_Sn _ _ 31 (mx_lald 32) from sn_240 31) a82 s82 (by omega) ((hf3 82 ((40 * x0) + w2_2) rfl).trans (hf1 82 ((40 * x0) + w2_2) rfl)) ?_
          refine Jl2i (show mx_Sn _ _ 32 (mx_l2i 33) from sn_240 32) (Jnorm fun y14 hy14 hq14 => ?_)
          refine JiastI hx3 (show mx_Sn _ _ 33 (mx_iast 1 34) from sn_240 33) a62 s62 rfl (by omega) (fun Z15 h15 hx15 hE15 => ?_)
          have hG15 := GI_up hG3 hE15 (show (-2147483648) ≤ y14 ∧ y14 ≤ 2147483647 by omega) trivial rfl
          refine Jiinc (z := w2_2) (cz := 1) (ls2 := [some (.ref 56), some (xI x0), some (xI (w2_2 + 1))]) (show mx_Sn _ _ 34 (mx_iinc 2 1 37) from sn_240 34) rfl rfl rfl rfl ?_
          refine mx_J.step (sn_240 37) (fun _ _ => rfl) ?_
          exact ih2 (w2_2 + 1) Z15 h15 (by omega) (by omega) hx15 hG15 (fr_tr (M := [(62, (-1))]) (fr_tr (M := [(62, (-1))]) fr_rf (hf3) (M1 := []) rfl rfl) (fr_ua hE15) rfl rfl)
    exact c6 (Int.toNat (40 - 0) + 1) 0 Z1 h1 (by omega) (by omega) hx1 hG1 fr_rf
theorem ct_240_56 {l : Launch} {D : va_G} {b0 : Nat} {ad : Nat → Nat} {Hb : Heap} {tau : Nat → Int64} {d n s : Nat} {S : Nat → xS} {Z : xZ} {h : mx_H} (hx : XH n s S Z h) (hG : GI n S Z)  {x0 : Int} (p0 : 0 ≤ x0 ∧ x0 ≤ 3) (k0 : Z 81 x0 ≤ 18) : ∃ (z : Int) (Z' : xZ) (h' : mx_H), mx_Ca (tB l D b0 ad Hb tau) (d + 3) 240 [.ref 56, xI x0] h (some (xI z), h') ∧ XH n s S Z' h' ∧ GI n S Z' ∧ fr' [(62, (-1))] Z Z' ∧ (0 ≤ z ∧ z ≤ 384) := by
  obtain ⟨r, hca, z, Z', h', e, q⟩ := Jmt (B := tB l D b0 ad Hb tau) (M := mt_240) (mi := 240) (as := [.ref 56, xI x0]) (d := d + 2) (ls := [some (.ref 56), some (xI x0), none]) rfl rfl rfl rfl rfl rfl (cw_240_56 (l := l) (D := D) (b0 := b0) (ad := ad) (Hb := Hb) (tau := tau) (d := d) (Post := fun r => ∃ (z : Int) (Z' : xZ) (h' : mx_H), r = (some (xI z), h') ∧ XH n s S Z' h' ∧ GI n S Z' ∧ fr' [(62, (-1))] Z Z' ∧ (0 ≤ z ∧ z ≤ 384)) hx hG p0 k0 (fun z Z' h' q1 q2 q3 q4 => ⟨z, Z', h', rfl, q1, q2, q3, q4⟩))
  subst e; exact ⟨z, Z', h', hca, q⟩
set_option maxRecDepth 100000 in
theorem cw_241_56 {l : Launch} {D : va_G} {b0 : Nat} {ad : Nat → Nat} {Hb : Heap} {tau : Nat → Int64} {d n s : Nat} {S : Nat → xS} {Z : xZ} {h : mx_H} {Post : mx_R → Prop} (hx : XH n s S Z h) (hG : GI n S Z)  {x0 : Int} (p0 : (-2147483648) ≤ x0 ∧ x0 ≤ 2147483647) (hP : ∀ (z : Int) (Z' : xZ) (h' : mx_H), XH n s S Z' h' → GI n S Z' → fr' [(56, 0), (62, (-1)), (64, (-1)), (65, (-1)), (73, (-1)), (74, (-1))] Z Z' → (-6) ≤ z ∧ z ≤ 268435455 → Post (some (xI z), h')) : mx_J (tB l D b0 ad Hb tau) mt_241 (d + 7) 0 [some (.ref 56), some (xI x0), none] [] h Post := by
    have a56 : 56 < n := lt83 (GI_n hG) rfl
    have s56 : S 56 = .inl (12, [0, 2, 2, 2, 2, 0, 0, 0, 0, 0, 0, 0, 0, 0, 0, 2, 2, 2, 0, 2, 2, 2, 0, 0, 2, 2, 2, 2, 2, 2, 0, 0, 2, 2, 2, 2, 2, 2, 2, 2, 2, 2]) := GI_s hG 56 rfl
    refine mx_J.step (sn_241 0) (fun _ _ => rfl) ?_
    refine JcI (z := 0) (show mx_Sn _ _ 1 (mx_const (.int 0) 2) from sn_241 1) rfl ?_
    refine JputI (g := 0) hx (show mx_Sn _ _ 2 (mx_putf 1 12 0 (.int) 5) from sn_241 2) a56 s56 rfl rfl rfl rfl (fun Z1 h1 hx1 hE1 => ?_)
    have hG1 := GI_up hG hE1 (show (-2147483648) ≤ 0 ∧ 0 ≤ 2147483647 by omega) trivial rfl
    refine mx_J.step (sn_241 5) (fun _ _ => rfl) ?_
    refine mx_J.step (sn_241 6) (fun _ _ => rfl) ?_
    have eq3 : Z1 81 x0 = Z 81 x0 := (up_nk hE1 rfl)
    have b4 : 0 ≤ Z 81 x0 ∧ Z 81 x0 ≤ 40 := hG.pr 81 x0
    obtain ⟨z2, hc2, b2⟩ := ct_239_56 (d := d + 4) (l := l) (D := D) (b0 := b0) (ad := ad) (Hb := Hb) (tau := tau) hx1 hG1 (show (-2147483648) ≤ x0 ∧ x0 ≤ 2147483647 by omega)
    try rw [eq3] at b2
    refine Jcv hx1 (show mx_Sn _ _ 7 (mx_callv 239 2 12 10) from sn_241 7) a56 s56 hc2 rfl rfl rfl ?_
    refine mx_J.step (ls2 := [some (.ref 56), some (xI x0), some (xI z2)]) (sn_241 10) (fun _ _ => rfl) ?_
    refine mx_J.step (sn_241 11) (fun _ _ => rfl) ?_
    have c31 : ∀ (k5_0 : Int) (Z6 : xZ) (h6 : mx_H), (-6) ≤ k5_0 ∧ k5_0 ≤ 268435455 → XH n s S Z6 h6 → GI n S Z6 → fr' [(62, (-1)), (64, (-1)), (65, (-1)), (73, (-1)), (74, (-1))] Z1 Z6 → mx_J (tB l D b0 ad Hb tau) mt_241 (d + 7) 31 [some (.ref 56), some (xI x0), some (xI z2)] [xI k5_0] h6 Post := by
      intro k5_0 Z6 h6 f5_0 hx6 hG6 hf6
      exact mx_J.ret (sn_241 31) (fun _ _ => rfl) (hP k5_0 Z6 h6 hx6 hG6 (fr_tr (M := [(56, 0), (62, (-1)), (64, (-1)), (65, (-1)), (73, (-1)), (74, (-1))]) (fr_tr (M := [(56, 0), (62, (-1)), (64, (-1)), (65, (-1)), (73, (-1)), (74, (-1))]) fr_rf (fr_up hE1) (M1 := []) rfl rfl) (hf6) rfl rfl) (by omega))
    refine Jif_eq (show mx_Sn _ _ 12 (mx_if_eq 19 15) from sn_241 12) (by omega) (fun q7 => ?_) (fun q7 => ?_)
    · skip
      refine mx_J.step (sn_241 19) (fun _ _ => rfl) ?_
      refine mx_J.step (sn_241 20) (fun _ _ => rfl) ?_
      refine mx_J.step (sn_241 21) (fun _ _ => rfl) ?_
      have eq9 : Z1 81 x0 = Z 81 x0 := (up_nk hE1 rfl)
      obtain ⟨z8, Z8, h8, hc8, hx8, hG8, hf8, b8⟩ := ct_240_56 (d := d + 4) (l := l) (D := D) (b0 := b0) (ad := ad) (Hb := Hb) (tau := tau) hx1 hG1 (show 0 ≤ x0 ∧ x0 ≤ 3 by omega) (show Z1 81 x0 ≤ 18 by first | omega | (simp only [eq9]; omega))
      try rw [eq9] at b8
      refine Jcv hx1 (show mx_Sn _ _ 22 (mx_callv 240 2 12 25) from sn_241 22) a56 s56 hc8 rfl rfl rfl ?_
      have eq11 : Z8 56 18 = Z 56 18 := ((hf8 56 18 rfl).trans (up_ni hE1 (by decide)))
      have b12 : 0 ≤ Z 56 18 ∧ Z 56 18 ≤ 385 := hG.pr 56 18
      obtain ⟨z10, Z10, h10, hc10, hx10, hG10, hf10, b10⟩ := ct_237_56 (d := d + 0) (l := l) (D := D) (b0 := b0) (ad := ad) (Hb := Hb) (tau := tau) hx8 hG8 (show 0 ≤ z8 ∧ z8 ≤ 384 by omega)
      try rw [eq11] at b10
      refine Jcv hx8 (show mx_Sn _ _ 25 (mx_callv 237 2 12 28) from sn_241 25) a56 s56 hc10 rfl rfl rfl ?_
      obtain ⟨z13, hc13, b13⟩ := ct_238_ (d := d + 6) (l := l) (D := D) (b0 := b0) (ad := ad) (Hb := Hb) (tau := tau) hx10 hG10 (show 0 ≤ z10 ∧ z10 ≤ 268435456 by omega)
      refine Jcs (show mx_Sn _ _ 28 (mx_calls 238 1 31) from sn_241 28) hc13 rfl rfl rfl ?_
      exact c31 z13 Z10 h10 (by omega) hx10 hG10 (fr_tr (M := [(62, (-1)), (64, (-1)), (65, (-1)), (73, (-1)), (74, (-1))]) (fr_tr (M := [(62, (-1)), (64, (-1)), (65, (-1)), (73, (-1)), (74, (-1))]) fr_rf (hf8) (M1 := []) rfl rfl) (hf10) rfl rfl)
    · skip
      refine mx_J.step (sn_241 15) (fun _ _ => rfl) ?_
      refine mx_J.step (sn_241 16) (fun _ _ => rfl) ?_
      exact c31 z2 Z1 h1 (by omega) hx1 hG1 fr_rf
theorem ct_241_56 {l : Launch} {D : va_G} {b0 : Nat} {ad : Nat → Nat} {Hb : Heap} {tau : Nat → Int64} {d n s : Nat} {S : Nat → xS} {Z : xZ} {h : mx_H} (hx : XH n s S Z h) (hG : GI n S Z)  {x0 : Int} (p0 : (-2147483648) ≤ x0 ∧ x0 ≤ 2147483647) : ∃ (z : Int) (Z' : xZ) (h' : mx_H), mx_Ca (tB l D b0 ad Hb tau) (d + 8) 241 [.ref 56, xI x0] h (some (xI z), h') ∧ XH n s S Z' h' ∧ GI n S Z' ∧ fr' [(56, 0), (62, (-1)), (64, (-1)), (65, (-1)), (73, (-1)), (74, (-1))] Z Z' ∧ ((-6) ≤ z ∧ z ≤ 268435455) := by
  obtain ⟨r, hca, z, Z', h', e, q⟩ := Jmt (B := tB l D b0 ad Hb tau) (M := mt_241) (mi := 241) (as := [.ref 56, xI x0]) (d := d + 7) (ls := [some (.ref 56), some (xI x0), none]) rfl rfl rfl rfl rfl rfl (cw_241_56 (l := l) (D := D) (b0 := b0) (ad := ad) (Hb := Hb) (tau := tau) (d := d) (Post := fun r => ∃ (z : Int) (Z' : xZ) (h' : mx_H), r = (some (xI z), h') ∧ XH n s S Z' h' ∧ GI n S Z' ∧ fr' [(56, 0), (62, (-1)), (64, (-1)), (65, (-1)), (73, (-1)), (74, (-1))] Z Z' ∧ ((-6) ≤ z ∧ z ≤ 268435455)) hx hG p0 (fun z Z' h' q1 q2 q3 q4 => ⟨z, Z', h', rfl, q1, q2, q3, q4⟩))
  subst e; exact ⟨z, Z', h', hca, q⟩
set_option maxRecDepth 100000 in
theorem cw_239_56_n {l : Launch} {D : va_G} {b0 : Nat} {ad : Nat → Nat} {Hb : Heap} {tau : Nat → Int64} {d n s : Nat} {S : Nat → xS} {Z : xZ} {h : mx_H} {Post : mx_R → Prop} {T : Int → Int} {g1 : Int} {g2 : Int} (hx : XH n s S Z h) (hG : GI n S Z)  {x0 : Int} (p0 : (-2147483648) ≤ x0 ∧ x0 ≤ 2147483647) (k0 : (0 ≤ x0 → x0 ≤ 3 → ∀ j : Int, 0 ≤ j → Z 82 (40 * x0 + j) = T j)) (k1 : (0 ≤ x0 → x0 ≤ 3 → Z 81 x0 = g1)) (k2 : Z 57 1 = g2) (hP : ∀ z : Int, (0 ≤ x0 → x0 ≤ 3 → ¬ Z 80 x0 = -1 → TN T g1 g2 z) ∧ (-6) ≤ z ∧ z ≤ 0 ∧ (((x0 < 0 ∨ 3 < x0) → z = -2) ∧ (0 ≤ x0 → x0 ≤ 3 → Z 80 x0 = -1 → z = -6) ∧ (z = 0 → 0 ≤ x0 ∧ x0 ≤ 3 ∧ 1 ≤ Z 81 x0 ∧ Z 81 x0 ≤ 18 ∧ ¬ Z 80 x0 = -1)) → Post (some (xI z), h)) : mx_J (tB l D b0 ad Hb tau) mt_239 (d + 2) 0 [some (.ref 56), some (xI x0), none, none, none] [] h Post := by
    have a56 : 56 < n := lt83 (GI_n hG) rfl
    have s56 : S 56 = .inl (12, [0, 2, 2, 2, 2, 0, 0, 0, 0, 0, 0, 0, 0, 0, 0, 2, 2, 2, 0, 2, 2, 2, 0, 0, 2, 2, 2, 2, 2, 2, 0, 0, 2, 2, 2, 2, 2, 2, 2, 2, 2, 2]) := GI_s hG 56 rfl
    have a57 : 57 < n := lt83 (GI_n hG) rfl
    have s57 : S 57 = .inr (.int, 2886, 0) := GI_s hG 57 rfl
    have a81 : 81 < n := lt83 (GI_n hG) rfl
    have s81 : S 81 = .inr (.int, 4, 0) := GI_s hG 81 rfl
    have a82 : 82 < n := lt83 (GI_n hG) rfl
    have s82 : S 82 = .inr (.long, 160, 1) := GI_s hG 82 rfl
    refine mx_J.step (sn_239 0) (fun _ _ => rfl) ?_
    refine mx_J.step (sn_239 1) (fun _ _ => rfl) ?_
    have b2 : (-1) ≤ Z 80 x0 ∧ Z 80 x0 ≤ 3 := hG.pr 80 x0
    obtain ⟨z1, hc1, b1⟩ := ct_220_56 (d := d + 0) (l := l) (D := D) (b0 := b0) (ad := ad) (Hb := Hb) (tau := tau) hx hG (show (-2147483648) ≤ x0 ∧ x0 ≤ 2147483647 by omega)
    refine Jcv hx (show mx_Sn _ _ 2 (mx_callv 220 2 12 5) from sn_239 2) a56 s56 hc1 rfl rfl rfl ?_
    refine mx_J.step (ls2 := [some (.ref 56), some (xI x0), some (xI z1), none, none]) (sn_239 5) (fun _ _ => rfl) ?_
    refine mx_J.step (sn_239 6) (fun _ _ => rfl) ?_
    refine Jif_eq (show mx_Sn _ _ 7 (mx_if_eq 12 10) from sn_239 7) (by omega) (fun q3 => ?_) (fun q3 => ?_)
    · skip
      have kj := k0 (by omega) (by omega)
      have kn := k1 (by omega) (by omega)
      refine mx_J.step (sn_239 12) (fun _ _ => rfl) ?_
      refine JgetR (g := 40) (b := 81) hx (show mx_Sn _ _ 13 (mx_getf 12 40 16) from sn_239 13) a56 s56 rfl rfl (hG.prr 56 40 rfl) ?_
      refine mx_J.step (sn_239 16) (fun _ _ => rfl) ?_
      have b5 : 0 ≤ Z 81 x0 ∧ Z 81 x0 ≤ 40 := hG.pr 81 x0
      refine JialdI (z := Z 81 x0) hx (show mx_Sn _ _ 17 (mx_iald 18) from sn_239 17) a81 s81 (by omega) rfl ?_
      refine Ji2l (show mx_Sn _ _ 18 (mx_i2l 19) from sn_239 18) (by omega) ?_
      refine JcL (z := 1) (show mx_Sn _ _ 19 (mx_const (.long 1) 20) from sn_239 19) rfl ?_
      refine JcL (z := 18) (show mx_Sn _ _ 20 (mx_const (.long 18) 23) from sn_239 20) rfl ?_
      obtain ⟨z6, hc6, b6⟩ := ct_154_ (d := d + 1) (l := l) (D := D) (b0 := b0) (ad := ad) (Hb := Hb) (tau := tau) hx hG (show (-9223372036854775808) ≤ Z 81 x0 ∧ Z 81 x0 ≤ 9223372036854775807 by omega) (show (-9223372036854775808) ≤ 1 ∧ 1 ≤ 9223372036854775807 by omega) (show (-9223372036854775808) ≤ 18 ∧ 18 ≤ 9223372036854775807 by omega)
      refine Jcs (show mx_Sn _ _ 23 (mx_calls 154 3 26) from sn_239 23) hc6 rfl rfl rfl ?_
      refine Jif_ne (show mx_Sn _ _ 26 (mx_if_ne 32 29) from sn_239 26) (by omega) (fun q7 => ?_) (fun q7 => ?_)
      · skip
        refine JcI (z := 0) (show mx_Sn _ _ 32 (mx_const (.int 0) 33) from sn_239 32) rfl ?_
        refine mx_J.step (ls2 := [some (.ref 56), some (xI x0), some (xI z1), some (xI 0), none]) (sn_239 33) (fun _ _ => rfl) ?_
        refine JcI (z := 0) (show mx_Sn _ _ 34 (mx_const (.int 0) 35) from sn_239 34) rfl ?_
        refine mx_J.step (ls2 := [some (.ref 56), some (xI x0), some (xI z1), some (xI 0), some (xI 0)]) (sn_239 35) (fun _ _ => rfl) ?_
        have c37 : ∀ (m8 : Nat) (w8_3 : Int) (w8_4 : Int), 40 - w8_4 < (m8 : Int) → 0 ≤ w8_3 ∧ w8_3 ≤ 720 → 0 ≤ w8_4 ∧ w8_4 ≤ 40 → INR T w8_4 → w8_3 = lsm (pfx T (w8_4).toNat) → (w8_4 ≤ Z 81 x0 ∧ 0 ≤ w8_3 ∧ w8_3 ≤ 18 * w8_4) → mx_J (tB l D b0 ad Hb tau) mt_239 (d + 2) 37 [some (.ref 56), some (xI x0), some (xI z1), some (xI w8_3), some (xI w8_4)] [] h Post := by
          intro m8
          induction m8 with
          | zero => intro w8_3 w8_4 q8 f8_0 f8_1 f8_2 f8_3 f8_4; exact absurd q8 (by omega)
          | succ m8 ih8 =>
            intro w8_3 w8_4 q8 f8_0 f8_1 f8_2 f8_3 f8_4
            refine mx_J.step (sn_239 37) (fun _ _ => rfl) ?_
            refine mx_J.step (sn_239 39) (fun _ _ => rfl) ?_
            refine JgetR (g := 40) (b := 81) hx (show mx_Sn _ _ 40 (mx_getf 12 40 43) from sn_239 40) a56 s56 rfl rfl (hG.prr 56 40 rfl) ?_
            refine mx_J.step (sn_239 43) (fun _ _ => rfl) ?_
            refine JialdI (z := Z 81 x0) hx (show mx_Sn _ _ 44 (mx_iald 45) from sn_239 44) a81 s81 (by omega) rfl ?_
            refine Jicmp_ge (show mx_Sn _ _ 45 (mx_icmp_ge 91 48) from sn_239 45) (by omega) (by omega) (fun q10 => ?_) (fun q10 => ?_)
            · skip
              refine mx_J.step (sn_239 91) (fun _ _ => rfl) ?_
              refine mx_J.step (sn_239 92) (fun _ _ => rfl) ?_
              refine JgetR (g := 1) (b := 57) hx (show mx_Sn _ _ 93 (mx_getf 12 1 96) from sn_239 93) a56 s56 rfl rfl (hG.prr 56 1 rfl) ?_
              refine JcI (z := 1) (show mx_Sn _ _ 96 (mx_const (.int 1) 97) from sn_239 96) rfl ?_
              have b12 : 0 ≤ Z 57 1 ∧ Z 57 1 ≤ 18 := by have hq := GI_ex hG 57 1; replace hq : f57 (1 % 962) (Z 57 1) := hq; unfold f57 at hq; omega
              have b13 : (-2147483648) ≤ Z 57 1 ∧ Z 57 1 ≤ 2147483647 := hG.pr 57 1
              refine JialdI (z := Z 57 1) hx (show mx_Sn _ _ 97 (mx_iald 98) from sn_239 97) a57 s57 (by omega) rfl ?_
              have c107 : ∀ (k14_0 : Int), (-5) ≤ k14_0 ∧ k14_0 ≤ 0 → ((w8_3 = Z 57 1 → k14_0 = 0) ∧ (¬ w8_3 = Z 57 1 → k14_0 = -5)) → mx_J (tB l D b0 ad Hb tau) mt_239 (d + 2) 107 [some (.ref 56), some (xI x0), some (xI z1), some (xI w8_3), some (xI w8_4)] [xI k14_0] h Post := by
                intro k14_0 f14_0 f14_1
                exact mx_J.ret (sn_239 107) (fun _ _ => rfl) (hP k14_0 ⟨(fun _ _ _ => TN_e (t := w8_3) (by omega) (by omega) (inr_m (by assumption) (by omega)) (lsp_m (by assumption) (by omega)) (by omega)), by omega⟩)
              refine Jicmp_ne (show mx_Sn _ _ 98 (mx_icmp_ne 105 101) from sn_239 98) (by omega) (by omega) (fun q15 => ?_) (fun q15 => ?_)
              · skip
                refine JcI (z := (-5)) (show mx_Sn _ _ 105 (mx_const (.int (-5)) 107) from sn_239 105) rfl ?_
                exact c107 (-5) (by omega) (by omega)
              · skip
                refine JcI (z := 0) (show mx_Sn _ _ 101 (mx_const (.int 0) 102) from sn_239 101) rfl ?_
                refine mx_J.step (sn_239 102) (fun _ _ => rfl) ?_
                exact c107 0 (by omega) (by omega)
            · skip
              refine mx_J.step (sn_239 48) (fun _ _ => rfl) ?_
              refine JgetR (g := 41) (b := 82) hx (show mx_Sn _ _ 49 (mx_getf 12 41 52) from sn_239 49) a56 s56 rfl rfl (hG.prr 56 41 rfl) ?_
              refine JcI (z := 40) (show mx_Sn _ _ 52 (mx_const (.int 40) 54) from sn_239 52) rfl ?_
              refine mx_J.step (sn_239 54) (fun _ _ => rfl) ?_
              refine Jimul (show mx_Sn _ _ 55 (mx_imul 56) from sn_239 55) ?_
              refine mx_J.step (sn_239 56) (fun _ _ => rfl) ?_
              refine Jiadd (show mx_Sn _ _ 58 (mx_iadd 59) from sn_239 58) ?_
              have b17 : (-9223372036854775808) ≤ Z 82 ((40 * x0) + w8_4) ∧ Z 82 ((40 * x0) + w8_4) ≤ 9223372036854775807 := hG.pr 82 ((40 * x0) + w8_4)
              refine JlaldL (z := Z 82 ((40 * x0) + w8_4)) hx (show mx_Sn _ _ 59 (mx_lald 60) from sn_239 59) a82 s82 (by omega) rfl ?_
              obtain ⟨z18, hc18, b18⟩ := ct_208_ (d := d + 0) (l := l) (D := D) (b0 := b0) (ad := ad) (Hb := Hb) (tau := tau) hx hG (show (-9223372036854775808) ≤ Z 82 ((40 * x0) + w8_4) ∧ Z 82 ((40 * x0) + w8_4) ≤ 9223372036854775807 by omega)
              refine Jcs (show mx_Sn _ _ 60 (mx_calls 208 1 63) from sn_239 60) hc18 rfl rfl rfl ?_
              refine Jif_ne (show mx_Sn _ _ 63 (mx_if_ne 69 66) from sn_239 63) (by omega) (fun q19 => ?_) (fun q19 => ?_)
              · skip
                refine mx_J.step (sn_239 69) (fun _ _ => rfl) ?_
                refine mx_J.step (sn_239 70) (fun _ _ => rfl) ?_
                refine JgetR (g := 41) (b := 82) hx (show mx_Sn _ _ 71 (mx_getf 12 41 74) from sn_239 71) a56 s56 rfl rfl (hG.prr 56 41 rfl) ?_
                refine JcI (z := 40) (show mx_Sn _ _ 74 (mx_const (.int 40) 76) from sn_239 74) rfl ?_
                refine mx_J.step (sn_239 76) (fun _ _ => rfl) ?_
                refine Jimul (show mx_Sn _ _ 77 (mx_imul 78) from sn_239 77) ?_
                refine mx_J.step (sn_239 78) (fun _ _ => rfl) ?_
                refine Jiadd (show mx_Sn _ _ 80 (mx_iadd 81) from sn_239 80) ?_
                refine JlaldL (z := Z 82 ((40 * x0) + w8_4)) hx (show mx_Sn _ _ 81 (mx_lald 82) from sn_239 81) a82 s82 (by omega) rfl ?_
                refine Jl2i (show mx_Sn _ _ 82 (mx_l2i 83) from sn_239 82) ?_
                refine Jiadd (show mx_Sn _ _ 83 (mx_iadd 84) from sn_239 83) ?_
                refine mx_J.step (ls2 := [some (.ref 56), some (xI x0), some (xI z1), some (xI (w8_3 + (Z 82 ((40 * x0) + w8_4)))), some (xI w8_4)]) (sn_239 84) (fun _ _ => rfl) ?_
                have q9 := kj w8_4 (by omega)
                refine Jiinc (z := w8_4) (cz := 1) (ls2 := [some (.ref 56), some (xI x0), some (xI z1), some (xI (w8_3 + (Z 82 ((40 * x0) + w8_4)))), some (xI (w8_4 + 1))]) (show mx_Sn _ _ 85 (mx_iinc 4 1 88) from sn_239 85) rfl rfl rfl rfl ?_
                refine mx_J.step (sn_239 88) (fun _ _ => rfl) ?_
                exact ih8 (w8_3 + (Z 82 ((40 * x0) + w8_4))) (w8_4 + 1) (by omega) (by omega) (by omega) (inr_s (by assumption) (by omega)) (lsp_s (by assumption) (by omega) (by omega)) (by omega)
              · skip
                refine JcI (z := (-3)) (show mx_Sn _ _ 66 (mx_const (.int (-3)) 68) from sn_239 66) rfl ?_
                have b21 : 0 ≤ Z 57 1 ∧ Z 57 1 ≤ 18 := by have hq := GI_ex hG 57 1; replace hq : f57 (1 % 962) (Z 57 1) := hq; unfold f57 at hq; omega
                have b22 : (-2147483648) ≤ Z 57 1 ∧ Z 57 1 ≤ 2147483647 := hG.pr 57 1
                exact mx_J.ret (sn_239 68) (fun _ _ => rfl) (hP (-3) ⟨(fun _ _ _ => TN_3 (j := w8_4) (by omega) (by omega) (by omega) (by omega) (by have q := kj w8_4 (by omega); omega) rfl), by omega⟩)
        exact c37 (Int.toNat (40 - 0) + 1) 0 0 (by omega) (by omega) (by omega) (inr_0) (lsp_0) (by omega)
      · skip
        refine JcI (z := (-4)) (show mx_Sn _ _ 29 (mx_const (.int (-4)) 31) from sn_239 29) rfl ?_
        have b23 : 0 ≤ Z 57 1 ∧ Z 57 1 ≤ 18 := by have hq := GI_ex hG 57 1; replace hq : f57 (1 % 962) (Z 57 1) := hq; unfold f57 at hq; omega
        have b24 : (-2147483648) ≤ Z 57 1 ∧ Z 57 1 ≤ 2147483647 := hG.pr 57 1
        exact mx_J.ret (sn_239 31) (fun _ _ => rfl) (hP (-4) ⟨(fun _ _ _ => TN_4 (by omega) rfl), by omega⟩)
    · skip
      refine mx_J.step (sn_239 10) (fun _ _ => rfl) ?_
      have b25 : 0 ≤ Z 81 x0 ∧ Z 81 x0 ≤ 40 := hG.pr 81 x0
      have b26 : 0 ≤ Z 57 1 ∧ Z 57 1 ≤ 18 := by have hq := GI_ex hG 57 1; replace hq : f57 (1 % 962) (Z 57 1) := hq; unfold f57 at hq; omega
      have b27 : (-2147483648) ≤ Z 57 1 ∧ Z 57 1 ≤ 2147483647 := hG.pr 57 1
      exact mx_J.ret (sn_239 11) (fun _ _ => rfl) (hP z1 ⟨(fun _ _ _ => False.elim (by omega)), by omega⟩)
theorem ct_239_56_n {l : Launch} {D : va_G} {b0 : Nat} {ad : Nat → Nat} {Hb : Heap} {tau : Nat → Int64} {d n s : Nat} {S : Nat → xS} {Z : xZ} {h : mx_H} {T : Int → Int} {g1 : Int} {g2 : Int} (hx : XH n s S Z h) (hG : GI n S Z)  {x0 : Int} (p0 : (-2147483648) ≤ x0 ∧ x0 ≤ 2147483647) (k0 : (0 ≤ x0 → x0 ≤ 3 → ∀ j : Int, 0 ≤ j → Z 82 (40 * x0 + j) = T j)) (k1 : (0 ≤ x0 → x0 ≤ 3 → Z 81 x0 = g1)) (k2 : Z 57 1 = g2) : ∃ z : Int, mx_Ca (tB l D b0 ad Hb tau) (d + 3) 239 [.ref 56, xI x0] h (some (xI z), h) ∧ ((0 ≤ x0 → x0 ≤ 3 → ¬ Z 80 x0 = -1 → TN T g1 g2 z) ∧ (-6) ≤ z ∧ z ≤ 0 ∧ (((x0 < 0 ∨ 3 < x0) → z = -2) ∧ (0 ≤ x0 → x0 ≤ 3 → Z 80 x0 = -1 → z = -6) ∧ (z = 0 → 0 ≤ x0 ∧ x0 ≤ 3 ∧ 1 ≤ Z 81 x0 ∧ Z 81 x0 ≤ 18 ∧ ¬ Z 80 x0 = -1))) := by
  obtain ⟨r, hca, z, e, hp⟩ := Jmt (B := tB l D b0 ad Hb tau) (M := mt_239) (mi := 239) (as := [.ref 56, xI x0]) (d := d + 2) (ls := [some (.ref 56), some (xI x0), none, none, none]) rfl rfl rfl rfl rfl rfl (cw_239_56_n (l := l) (D := D) (b0 := b0) (ad := ad) (Hb := Hb) (tau := tau) (d := d) (Post := fun r => ∃ z : Int, r = (some (xI z), h) ∧ ((0 ≤ x0 → x0 ≤ 3 → ¬ Z 80 x0 = -1 → TN T g1 g2 z) ∧ (-6) ≤ z ∧ z ≤ 0 ∧ (((x0 < 0 ∨ 3 < x0) → z = -2) ∧ (0 ≤ x0 → x0 ≤ 3 → Z 80 x0 = -1 → z = -6) ∧ (z = 0 → 0 ≤ x0 ∧ x0 ≤ 3 ∧ 1 ≤ Z 81 x0 ∧ Z 81 x0 ≤ 18 ∧ ¬ Z 80 x0 = -1)))) hx hG p0 k0 k1 k2 (fun z hz => ⟨z, rfl, hz⟩))
  subst e; exact ⟨z, hca, hp⟩
set_option maxRecDepth 100000 in
theorem cw_240_56_n {l : Launch} {D : va_G} {b0 : Nat} {ad : Nat → Nat} {Hb : Heap} {tau : Nat → Int64} {d n s : Nat} {S : Nat → xS} {Z : xZ} {h : mx_H} {Post : mx_R → Prop} {T : Int → Int} {g1 : Int} {g2 : Int} (hx : XH n s S Z h) (hG : GI n S Z)  {x0 : Int} (p0 : 0 ≤ x0 ∧ x0 ≤ 3) (k0 : (∀ j : Int, 0 ≤ j → Z 82 (40 * x0 + j) = T j)) (k1 : Z 81 x0 = g1) (k2 : Z 57 1 = g2) (k3 : INR T g1) (k4 : lsm (pfx T g1.toNat) = g2) (k5 : RTB Z g2) (k6 : (1 ≤ g2 ∧ g2 ≤ 18)) (k7 : (1 ≤ g1 ∧ g1 ≤ 18)) (hP : ∀ (z : Int) (Z' : xZ) (h' : mx_H), XH n s S Z' h' → GI n S Z' → fr' [(62, (-1))] Z Z' → z = nmN g2 (fun v => ctl v (pfx T g1.toNat)) ∧ 0 ≤ z ∧ z ≤ 384 → Post (some (xI z), h')) : mx_J (tB l D b0 ad Hb tau) mt_240 (d + 2) 0 [some (.ref 56), some (xI x0), none] [] h Post := by
    have a56 : 56 < n := lt83 (GI_n hG) rfl
    have s56 : S 56 = .inl (12, [0, 2, 2, 2, 2, 0, 0, 0, 0, 0, 0, 0, 0, 0, 0, 2, 2, 2, 0, 2, 2, 2, 0, 0, 2, 2, 2, 2, 2, 2, 0, 0, 2, 2, 2, 2, 2, 2, 2, 2, 2, 2]) := GI_s hG 56 rfl
    have a62 : 62 < n := lt83 (GI_n hG) rfl
    have s62 : S 62 = .inr (.int, 20, 0) := GI_s hG 62 rfl
    have a81 : 81 < n := lt83 (GI_n hG) rfl
    have s81 : S 81 = .inr (.int, 4, 0) := GI_s hG 81 rfl
    have a82 : 82 < n := lt83 (GI_n hG) rfl
    have s82 : S 82 = .inr (.long, 160, 1) := GI_s hG 82 rfl
    refine mx_J.step (sn_240 0) (fun _ _ => rfl) ?_
    obtain ⟨Z1, h1, hc1, hx1, hG1, hf1, b1⟩ := ct_186_56 (d := d + 1) (l := l) (D := D) (b0 := b0) (ad := ad) (Hb := Hb) (tau := tau) hx hG 
    have bs1_0 := b1
    clear b1
    refine Jcv0 hx (show mx_Sn _ _ 1 (mx_callv 186 1 12 4) from sn_240 1) a56 s56 hc1 rfl rfl rfl ?_
    refine JcI (z := 0) (show mx_Sn _ _ 4 (mx_const (.int 0) 5) from sn_240 4) rfl ?_
    refine mx_J.step (ls2 := [some (.ref 56), some (xI x0), some (xI 0)]) (sn_240 5) (fun _ _ => rfl) ?_
    have c6 : ∀ (m2 : Nat) (w2_2 : Int) (Z3 : xZ) (h3 : mx_H), 40 - w2_2 < (m2 : Int) → 0 ≤ w2_2 ∧ w2_2 ≤ 40 → HPF Z3 T w2_2 → w2_2 ≤ Z 81 x0 → XH n s S Z3 h3 → GI n S Z3 → fr' [(62, (-1))] Z1 Z3 → mx_J (tB l D b0 ad Hb tau) mt_240 (d + 2) 6 [some (.ref 56), some (xI x0), some (xI w2_2)] [] h3 Post := by
      intro m2
      induction m2 with
      | zero => intro w2_2 Z3 h3 q2 f2_0 f2_1 f2_2 hx3 hG3 hf3; exact absurd q2 (by omega)
      | succ m2 ih2 =>
        intro w2_2 Z3 h3 q2 f2_0 f2_1 f2_2 hx3 hG3 hf3
        refine mx_J.step (sn_240 6) (fun _ _ => rfl) ?_
        refine mx_J.step (sn_240 7) (fun _ _ => rfl) ?_
        refine JgetR (g := 40) (b := 81) hx3 (show mx_Sn _ _ 8 (mx_getf 12 40 11) from sn_240 8) a56 s56 rfl rfl (hG3.prr 56 40 rfl) ?_
        refine mx_J.step (sn_240 11) (fun _ _ => rfl) ?_
        have b5 : 0 ≤ Z 81 x0 ∧ Z 81 x0 ≤ 40 := hG.pr 81 x0
        refine JialdI (z := Z 81 x0) hx3 (show mx_Sn _ _ 12 (mx_iald 13) from sn_240 12) a81 s81 (by omega) ((hf3 81 x0 rfl).trans (hf1 81 x0 rfl)) ?_
        refine Jicmp_ge (show mx_Sn _ _ 13 (mx_icmp_ge 40 16) from sn_240 13) (by omega) (by omega) (fun q6 => ?_) (fun q6 => ?_)
        · skip
          refine mx_J.step (sn_240 40) (fun _ _ => rfl) ?_
          have eq8 : Z3 56 18 = Z 56 18 := ((hf3 56 18 rfl).trans (hf1 56 18 rfl))
          have b9 : 0 ≤ Z 56 18 ∧ Z 56 18 ≤ 385 := hG.pr 56 18
          obtain ⟨z7, Z7, h7, hc7, hx7, hG7, hf7, b7⟩ := ct_188_56_n (g0 := (nmN g2 (fun v => ctl v (pfx T g1.toNat)))) (g2 := g2) (d := d + 0) (l := l) (D := D) (b0 := b0) (ad := ad) (Hb := Hb) (tau := tau) hx3 hG3  (RTB_c k5 (fun i => ((hf3 61 i rfl).trans (hf1 61 i rfl)))) (npr_t (k := w2_2) (by assumption) (by omega) k6 k7 k3 k4) (((hf3 57 1 rfl).trans (hf1 57 1 rfl)).trans k2)
          try rw [eq8] at b7
          obtain ⟨bs7_0, b7⟩ := b7
          refine Jcv hx3 (show mx_Sn _ _ 41 (mx_callv 188 1 12 44) from sn_240 41) a56 s56 hc7 rfl rfl rfl ?_
          have eq10 : Z7 81 x0 = Z 81 x0 := ((hf7 81 x0 rfl).trans ((hf3 81 x0 rfl).trans (hf1 81 x0 rfl)))
          have eq11 : Z7 57 1 = Z 57 1 := ((hf7 57 1 rfl).trans ((hf3 57 1 rfl).trans (hf1 57 1 rfl)))
          have b12 : 0 ≤ Z 57 1 ∧ Z 57 1 ≤ 18 := by have hq := GI_ex hG 57 1; replace hq : f57 (1 % 962) (Z 57 1) := hq; unfold f57 at hq; omega
          have b13 : (-2147483648) ≤ Z 57 1 ∧ Z 57 1 ≤ 2147483647 := hG.pr 57 1
          exact mx_J.ret (sn_240 44) (fun _ _ => rfl) (hP z7 Z7 h7 hx7 hG7 (fr_tr (M := [(62, (-1))]) (fr_tr (M := [(62, (-1))]) (fr_tr (M := [(62, (-1))]) fr_rf (hf1) (M1 := []) rfl rfl) (hf3) rfl rfl) (hf7) rfl rfl) ⟨(bs7_0), by omega⟩)
        · skip
          refine mx_J.step (sn_240 16) (fun _ _ => rfl) ?_
          refine JgetR (g := 16) (b := 62) hx3 (show mx_Sn _ _ 17 (mx_getf 12 16 20) from sn_240 17) a56 s56 rfl rfl (hG3.prr 56 16 rfl) ?_
          refine mx_J.step (sn_240 20) (fun _ _ => rfl) ?_
          refine mx_J.step (sn_240 21) (fun _ _ => rfl) ?_
          refine JgetR (g := 41) (b := 82) hx3 (show mx_Sn _ _ 22 (mx_getf 12 41 25) from sn_240 22) a56 s56 rfl rfl (hG3.prr 56 41 rfl) ?_
          refine JcI (z := 40) (show mx_Sn _ _ 25 (mx_const (.int 40) 27) from sn_240 25) rfl ?_
          refine mx_J.step (sn_240 27) (fun _ _ => rfl) ?_
          refine Jimul (show mx_Sn _ _ 28 (mx_imul 29) from sn_240 28) ?_
          refine mx_J.step (sn_240 29) (fun _ _ => rfl) ?_
          refine Jiadd (show mx_Sn _ _ 30 (mx_iadd 31) from sn_240 30) ?_
          have b16 : (-9223372036854775808) ≤ Z 82 ((40 * x0) + w2_2) ∧ Z 82 ((40 * x0) + w2_2) ≤ 9223372036854775807 := hG.pr 82 ((40 * x0) + w2_2)
          refine JlaldL (z := Z 82 ((40 * x0) + w2_2)) hx3 (show mx_Sn _ _ 31 (mx_lald 32) from sn_240 31) a82 s82 (by omega) ((hf3 82 ((40 * x0) + w2_2) rfl).trans (hf1 82 ((40 * x0) + w2_2) rfl)) ?_
          have q8 := k0 w2_2 (by omega)
          have q7 := k3 w2_2 (by omega) (by omega)
          refine Jl2i (show mx_Sn _ _ 32 (mx_l2i 33) from sn_240 32) ?_
          refine JiastI hx3 (show mx_Sn _ _ 33 (mx_iast 1 34) from sn_240 33) a62 s62 rfl (by omega) (fun Z17 h17 hx17 hE17 => ?_)
          have hG17 := GI_up hG3 hE17 (show (-2147483648) ≤ Z 82 ((40 * x0) + w2_2) ∧ Z 82 ((40 * x0) + w2_2) ≤ 2147483647 by omega) trivial rfl
          have hp1 := hpf_s (a := T) (k := w2_2) (by assumption) hE17 (by omega)
          refine Jiinc (z := w2_2) (cz := 1) (ls2 := [some (.ref 56), some (xI x0), some (xI (w2_2 + 1))]) (show mx_Sn _ _ 34 (mx_iinc 2 1 37) from sn_240 34) rfl rfl rfl rfl ?_
          refine mx_J.step (sn_240 37) (fun _ _ => rfl) ?_
          exact ih2 (w2_2 + 1) Z17 h17 (by omega) (by omega) (hp1) (by omega) hx17 hG17 (fr_tr (M := [(62, (-1))]) (fr_tr (M := [(62, (-1))]) fr_rf (hf3) (M1 := []) rfl rfl) (fr_ua hE17) rfl rfl)
    exact c6 (Int.toNat (40 - 0) + 1) 0 Z1 h1 (by omega) (by omega) (hpf_0 (by assumption)) (by omega) hx1 hG1 fr_rf
theorem ct_240_56_n {l : Launch} {D : va_G} {b0 : Nat} {ad : Nat → Nat} {Hb : Heap} {tau : Nat → Int64} {d n s : Nat} {S : Nat → xS} {Z : xZ} {h : mx_H} {T : Int → Int} {g1 : Int} {g2 : Int} (hx : XH n s S Z h) (hG : GI n S Z)  {x0 : Int} (p0 : 0 ≤ x0 ∧ x0 ≤ 3) (k0 : (∀ j : Int, 0 ≤ j → Z 82 (40 * x0 + j) = T j)) (k1 : Z 81 x0 = g1) (k2 : Z 57 1 = g2) (k3 : INR T g1) (k4 : lsm (pfx T g1.toNat) = g2) (k5 : RTB Z g2) (k6 : (1 ≤ g2 ∧ g2 ≤ 18)) (k7 : (1 ≤ g1 ∧ g1 ≤ 18)) : ∃ (z : Int) (Z' : xZ) (h' : mx_H), mx_Ca (tB l D b0 ad Hb tau) (d + 3) 240 [.ref 56, xI x0] h (some (xI z), h') ∧ XH n s S Z' h' ∧ GI n S Z' ∧ fr' [(62, (-1))] Z Z' ∧ (z = nmN g2 (fun v => ctl v (pfx T g1.toNat)) ∧ 0 ≤ z ∧ z ≤ 384) := by
  obtain ⟨r, hca, z, Z', h', e, q⟩ := Jmt (B := tB l D b0 ad Hb tau) (M := mt_240) (mi := 240) (as := [.ref 56, xI x0]) (d := d + 2) (ls := [some (.ref 56), some (xI x0), none]) rfl rfl rfl rfl rfl rfl (cw_240_56_n (l := l) (D := D) (b0 := b0) (ad := ad) (Hb := Hb) (tau := tau) (d := d) (Post := fun r => ∃ (z : Int) (Z' : xZ) (h' : mx_H), r = (some (xI z), h') ∧ XH n s S Z' h' ∧ GI n S Z' ∧ fr' [(62, (-1))] Z Z' ∧ (z = nmN g2 (fun v => ctl v (pfx T g1.toNat)) ∧ 0 ≤ z ∧ z ≤ 384)) hx hG p0 k0 k1 k2 k3 k4 k5 k6 k7 (fun z Z' h' q1 q2 q3 q4 => ⟨z, Z', h', rfl, q1, q2, q3, q4⟩))
  subst e; exact ⟨z, Z', h', hca, q⟩
set_option maxRecDepth 100000 in
theorem cw_249_56 {l : Launch} {D : va_G} {b0 : Nat} {ad : Nat → Nat} {Hb : Heap} {tau : Nat → Int64} {d n s : Nat} {S : Nat → xS} {Z : xZ} {h : mx_H} {Post : mx_R → Prop} (hx : XH n s S Z h) (hG : GI n S Z)  {x0 : Int} (p0 : (-2147483648) ≤ x0 ∧ x0 ≤ 2147483647) (k0 : RTB Z (Z 57 1)) (k1 : 1 ≤ Z 57 1) (hP : ∀ (z : Int) (Z' : xZ) (h' : mx_H), XH n s S Z' h' → GI n S Z' → fr' [(56, 0), (62, (-1))] Z Z' → (0 ≤ x0 → x0 ≤ 3 → ¬ Z 80 x0 = -1 → TO (fun j => Z 82 (40 * x0 + j)) (Z 81 x0) (Z 57 1) z) ∧ (-6) ≤ z ∧ z ≤ 384 ∧ (((x0 < 0 ∨ 3 < x0) → z = -2) ∧ (0 ≤ x0 → x0 ≤ 3 → Z 80 x0 = -1 → z = -6)) → Post (some (xI z), h')) : mx_J (tB l D b0 ad Hb tau) mt_249 (d + 3) 0 [some (.ref 56), some (xI x0), none] [] h Post := by
    have a56 : 56 < n := lt83 (GI_n hG) rfl
    have s56 : S 56 = .inl (12, [0, 2, 2, 2, 2, 0, 0, 0, 0, 0, 0, 0, 0, 0, 0, 2, 2, 2, 0, 2, 2, 2, 0, 0, 2, 2, 2, 2, 2, 2, 0, 0, 2, 2, 2, 2, 2, 2, 2, 2, 2, 2]) := GI_s hG 56 rfl
    refine mx_J.step (sn_249 0) (fun _ _ => rfl) ?_
    refine JcI (z := 0) (show mx_Sn _ _ 1 (mx_const (.int 0) 2) from sn_249 1) rfl ?_
    refine JputI (g := 0) hx (show mx_Sn _ _ 2 (mx_putf 1 12 0 (.int) 5) from sn_249 2) a56 s56 rfl rfl rfl rfl (fun Z1 h1 hx1 hE1 => ?_)
    have hG1 := GI_up hG hE1 (show (-2147483648) ≤ 0 ∧ 0 ≤ 2147483647 by omega) trivial rfl
    refine mx_J.step (sn_249 5) (fun _ _ => rfl) ?_
    refine mx_J.step (sn_249 6) (fun _ _ => rfl) ?_
    have eq3 : Z1 81 x0 = Z 81 x0 := (up_nk hE1 rfl)
    have b4 : 0 ≤ Z 81 x0 ∧ Z 81 x0 ≤ 40 := hG.pr 81 x0
    have eq5 : Z1 80 x0 = Z 80 x0 := (up_nk hE1 rfl)
    have b6 : (-1) ≤ Z 80 x0 ∧ Z 80 x0 ≤ 3 := hG.pr 80 x0
    have eq7 : Z1 57 1 = Z 57 1 := (up_nk hE1 rfl)
    have b8 : 0 ≤ Z 57 1 ∧ Z 57 1 ≤ 18 := by have hq := GI_ex hG 57 1; replace hq : f57 (1 % 962) (Z 57 1) := hq; unfold f57 at hq; omega
    have b9 : (-2147483648) ≤ Z 57 1 ∧ Z 57 1 ≤ 2147483647 := hG.pr 57 1
    obtain ⟨z2, hc2, b2⟩ := ct_239_56_n (T := (fun j => Z 82 (40 * x0 + j))) (g1 := (Z 81 x0)) (g2 := (Z 57 1)) (d := d + 0) (l := l) (D := D) (b0 := b0) (ad := ad) (Hb := Hb) (tau := tau) hx1 hG1 (show (-2147483648) ≤ x0 ∧ x0 ≤ 2147483647 by omega) (fun _ _ j _ => (show ∀ i, Z1 82 i = Z 82 i from (fun i => (up_nk hE1 rfl))) (40 * x0 + j)) (fun _ _ => (show ∀ i, Z1 81 i = Z 81 i from (fun i => (up_nk hE1 rfl))) x0) ((up_nk hE1 rfl))
    try rw [eq3] at b2
    try rw [eq5] at b2
    try rw [eq7] at b2
    obtain ⟨bs2_0, b2⟩ := b2
    refine Jcv hx1 (show mx_Sn _ _ 7 (mx_callv 239 2 12 10) from sn_249 7) a56 s56 hc2 rfl rfl rfl ?_
    refine mx_J.step (ls2 := [some (.ref 56), some (xI x0), some (xI z2)]) (sn_249 10) (fun _ _ => rfl) ?_
    refine mx_J.step (sn_249 11) (fun _ _ => rfl) ?_
    have tn := bs2_0
    have c80 : Z1 80 x0 = Z 80 x0 := (show ∀ i, Z1 80 i = Z 80 i from (fun i => (up_nk hE1 rfl))) x0
    have c24 : ∀ (k10_0 : Int) (Z11 : xZ) (h11 : mx_H), (-6) ≤ k10_0 ∧ k10_0 ≤ 384 → (0 ≤ x0 → x0 ≤ 3 → ¬ Z 80 x0 = -1 → TO (fun j => Z 82 (40 * x0 + j)) (Z 81 x0) (Z 57 1) k10_0) → (((x0 < 0 ∨ 3 < x0) → k10_0 = -2) ∧ (0 ≤ x0 → x0 ≤ 3 → Z 80 x0 = -1 → k10_0 = -6)) → XH n s S Z11 h11 → GI n S Z11 → fr' [(62, (-1))] Z1 Z11 → mx_J (tB l D b0 ad Hb tau) mt_249 (d + 3) 24 [some (.ref 56), some (xI x0), some (xI z2)] [xI k10_0] h11 Post := by
      intro k10_0 Z11 h11 f10_0 f10_1 f10_2 hx11 hG11 hf11
      have eq12 : Z11 80 x0 = Z 80 x0 := ((hf11 80 x0 rfl).trans (up_nk hE1 rfl))
      have eq13 : Z11 81 x0 = Z 81 x0 := ((hf11 81 x0 rfl).trans (up_nk hE1 rfl))
      exact mx_J.ret (sn_249 24) (fun _ _ => rfl) (hP k10_0 Z11 h11 hx11 hG11 (fr_tr (M := [(56, 0), (62, (-1))]) (fr_tr (M := [(56, 0), (62, (-1))]) fr_rf (fr_up hE1) (M1 := []) rfl rfl) (hf11) rfl rfl) ⟨(by assumption), by omega⟩)
    refine Jif_eq (show mx_Sn _ _ 12 (mx_if_eq 19 15) from sn_249 12) (by omega) (fun q14 => ?_) (fun q14 => ?_)
    · skip
      refine mx_J.step (sn_249 19) (fun _ _ => rfl) ?_
      refine mx_J.step (sn_249 20) (fun _ _ => rfl) ?_
      have t9 := TN_0 (tn (by omega) (by omega) (by omega)) (by omega)
      have eq16 : Z1 81 x0 = Z 81 x0 := (up_nk hE1 rfl)
      have eq17 : Z1 57 1 = Z 57 1 := (up_nk hE1 rfl)
      obtain ⟨z15, Z15, h15, hc15, hx15, hG15, hf15, b15⟩ := ct_240_56_n (T := (fun j => Z 82 (40 * x0 + j))) (g1 := (Z 81 x0)) (g2 := (Z 57 1)) (d := d + 0) (l := l) (D := D) (b0 := b0) (ad := ad) (Hb := Hb) (tau := tau) hx1 hG1 (show 0 ≤ x0 ∧ x0 ≤ 3 by omega) (fun j _ => (show ∀ i, Z1 82 i = Z 82 i from (fun i => (up_nk hE1 rfl))) (40 * x0 + j)) ((show ∀ i, Z1 81 i = Z 81 i from (fun i => (up_nk hE1 rfl))) x0) ((up_nk hE1 rfl)) (t9.2.2.1) (t9.2.2.2) (RTB_c k0 (fun i => (up_nk hE1 rfl))) (⟨k1, by have hq := GB_ex (GI_gb hG) 57 1; replace hq : f57 (1 % 962) (Z 57 1) := hq; unfold f57 at hq; omega⟩) (⟨t9.1, t9.2.1⟩)
      try rw [eq16] at b15
      try rw [eq17] at b15
      obtain ⟨bs15_0, b15⟩ := b15
      refine Jcv hx1 (show mx_Sn _ _ 21 (mx_callv 240 2 12 24) from sn_249 21) a56 s56 hc15 rfl rfl rfl ?_
      exact c24 z15 Z15 h15 (by omega) (fun a b c => TN_y (tn a b (by omega)) (by omega) bs15_0) (by omega) hx15 hG15 (fr_tr (M := [(62, (-1))]) fr_rf (hf15) (M1 := []) rfl rfl)
    · skip
      refine mx_J.step (sn_249 15) (fun _ _ => rfl) ?_
      refine mx_J.step (sn_249 16) (fun _ _ => rfl) ?_
      exact c24 z2 Z1 h1 (by omega) (fun a b c => TN_n (tn a b (by omega)) (by omega)) (by omega) hx1 hG1 fr_rf
theorem ct_249_56 {l : Launch} {D : va_G} {b0 : Nat} {ad : Nat → Nat} {Hb : Heap} {tau : Nat → Int64} {d n s : Nat} {S : Nat → xS} {Z : xZ} {h : mx_H} (hx : XH n s S Z h) (hG : GI n S Z)  {x0 : Int} (p0 : (-2147483648) ≤ x0 ∧ x0 ≤ 2147483647) (k0 : RTB Z (Z 57 1)) (k1 : 1 ≤ Z 57 1) : ∃ (z : Int) (Z' : xZ) (h' : mx_H), mx_Ca (tB l D b0 ad Hb tau) (d + 4) 249 [.ref 56, xI x0] h (some (xI z), h') ∧ XH n s S Z' h' ∧ GI n S Z' ∧ fr' [(56, 0), (62, (-1))] Z Z' ∧ ((0 ≤ x0 → x0 ≤ 3 → ¬ Z 80 x0 = -1 → TO (fun j => Z 82 (40 * x0 + j)) (Z 81 x0) (Z 57 1) z) ∧ (-6) ≤ z ∧ z ≤ 384 ∧ (((x0 < 0 ∨ 3 < x0) → z = -2) ∧ (0 ≤ x0 → x0 ≤ 3 → Z 80 x0 = -1 → z = -6))) := by
  obtain ⟨r, hca, z, Z', h', e, q⟩ := Jmt (B := tB l D b0 ad Hb tau) (M := mt_249) (mi := 249) (as := [.ref 56, xI x0]) (d := d + 3) (ls := [some (.ref 56), some (xI x0), none]) rfl rfl rfl rfl rfl rfl (cw_249_56 (l := l) (D := D) (b0 := b0) (ad := ad) (Hb := Hb) (tau := tau) (d := d) (Post := fun r => ∃ (z : Int) (Z' : xZ) (h' : mx_H), r = (some (xI z), h') ∧ XH n s S Z' h' ∧ GI n S Z' ∧ fr' [(56, 0), (62, (-1))] Z Z' ∧ ((0 ≤ x0 → x0 ≤ 3 → ¬ Z 80 x0 = -1 → TO (fun j => Z 82 (40 * x0 + j)) (Z 81 x0) (Z 57 1) z) ∧ (-6) ≤ z ∧ z ≤ 384 ∧ (((x0 < 0 ∨ 3 < x0) → z = -2) ∧ (0 ≤ x0 → x0 ≤ 3 → Z 80 x0 = -1 → z = -6)))) hx hG p0 k0 k1 (fun z Z' h' q1 q2 q3 q4 => ⟨z, Z', h', rfl, q1, q2, q3, q4⟩))
  subst e; exact ⟨z, Z', h', hca, q⟩
set_option maxRecDepth 100000 in
theorem cw_253_56 {l : Launch} {D : va_G} {b0 : Nat} {ad : Nat → Nat} {Hb : Heap} {tau : Nat → Int64} {d n s : Nat} {S : Nat → xS} {Z : xZ} {h : mx_H} {Post : mx_R → Prop} (hx : XH n s S Z h) (hG : GI n S Z)  {x0 : Int} (p0 : (-2147483648) ≤ x0 ∧ x0 ≤ 2147483647) (hP : ∀ (z : Int) (Z' : xZ) (h' : mx_H), XH n s S Z' h' → GI n S Z' → fr' [(56, 0), (62, (-1))] Z Z' → (-6) ≤ z ∧ z ≤ 1 → Post (some (xI z), h')) : mx_J (tB l D b0 ad Hb tau) mt_253 (d + 3) 0 [some (.ref 56), some (xI x0), none] [] h Post := by
    have a56 : 56 < n := lt83 (GI_n hG) rfl
    have s56 : S 56 = .inl (12, [0, 2, 2, 2, 2, 0, 0, 0, 0, 0, 0, 0, 0, 0, 0, 2, 2, 2, 0, 2, 2, 2, 0, 0, 2, 2, 2, 2, 2, 2, 0, 0, 2, 2, 2, 2, 2, 2, 2, 2, 2, 2]) := GI_s hG 56 rfl
    have a57 : 57 < n := lt83 (GI_n hG) rfl
    have s57 : S 57 = .inr (.int, 2886, 0) := GI_s hG 57 rfl
    refine mx_J.step (sn_253 0) (fun _ _ => rfl) ?_
    refine JcI (z := 0) (show mx_Sn _ _ 1 (mx_const (.int 0) 2) from sn_253 1) rfl ?_
    refine JputI (g := 0) hx (show mx_Sn _ _ 2 (mx_putf 1 12 0 (.int) 5) from sn_253 2) a56 s56 rfl rfl rfl rfl (fun Z1 h1 hx1 hE1 => ?_)
    have hG1 := GI_up hG hE1 (show (-2147483648) ≤ 0 ∧ 0 ≤ 2147483647 by omega) trivial rfl
    refine mx_J.step (sn_253 5) (fun _ _ => rfl) ?_
    refine mx_J.step (sn_253 6) (fun _ _ => rfl) ?_
    have eq3 : Z1 81 x0 = Z 81 x0 := (up_nk hE1 rfl)
    have b4 : 0 ≤ Z 81 x0 ∧ Z 81 x0 ≤ 40 := hG.pr 81 x0
    obtain ⟨z2, hc2, b2⟩ := ct_239_56 (d := d + 0) (l := l) (D := D) (b0 := b0) (ad := ad) (Hb := Hb) (tau := tau) hx1 hG1 (show (-2147483648) ≤ x0 ∧ x0 ≤ 2147483647 by omega)
    try rw [eq3] at b2
    refine Jcv hx1 (show mx_Sn _ _ 7 (mx_callv 239 2 12 10) from sn_253 7) a56 s56 hc2 rfl rfl rfl ?_
    refine mx_J.step (ls2 := [some (.ref 56), some (xI x0), some (xI z2)]) (sn_253 10) (fun _ _ => rfl) ?_
    refine mx_J.step (sn_253 11) (fun _ _ => rfl) ?_
    have c43 : ∀ (k5_0 : Int) (Z6 : xZ) (h6 : mx_H), (-6) ≤ k5_0 ∧ k5_0 ≤ 1 → XH n s S Z6 h6 → GI n S Z6 → fr' [(62, (-1))] Z1 Z6 → mx_J (tB l D b0 ad Hb tau) mt_253 (d + 3) 43 [some (.ref 56), some (xI x0), some (xI z2)] [xI k5_0] h6 Post := by
      intro k5_0 Z6 h6 f5_0 hx6 hG6 hf6
      exact mx_J.ret (sn_253 43) (fun _ _ => rfl) (hP k5_0 Z6 h6 hx6 hG6 (fr_tr (M := [(56, 0), (62, (-1))]) (fr_tr (M := [(56, 0), (62, (-1))]) fr_rf (fr_up hE1) (M1 := []) rfl rfl) (hf6) rfl rfl) (by omega))
    refine Jif_eq (show mx_Sn _ _ 12 (mx_if_eq 19 15) from sn_253 12) (by omega) (fun q7 => ?_) (fun q7 => ?_)
    · skip
      refine mx_J.step (sn_253 19) (fun _ _ => rfl) ?_
      refine mx_J.step (sn_253 20) (fun _ _ => rfl) ?_
      refine JgetR (g := 1) (b := 57) hx1 (show mx_Sn _ _ 21 (mx_getf 12 1 24) from sn_253 21) a56 s56 rfl rfl (hG1.prr 56 1 rfl) ?_
      refine JcI (z := 27) (show mx_Sn _ _ 24 (mx_const (.int 27) 26) from sn_253 24) rfl ?_
      have b9 := GI_st hG 27
      have b10 : 0 ≤ Z 56 18 ∧ Z 56 18 ≤ 385 := hG.pr 56 18
      have b11 : 0 ≤ Z 57 27 ∧ Z 57 27 ≤ 384 := by have hq := GI_ex hG 57 27; replace hq : f57 (27 % 962) (Z 57 27) := hq; unfold f57 at hq; omega
      have b12 : (-2147483648) ≤ Z 57 27 ∧ Z 57 27 ≤ 2147483647 := hG.pr 57 27
      refine JialdI (z := Z 57 27) hx1 (show mx_Sn _ _ 26 (mx_iald 27) from sn_253 26) a57 s57 (by omega) (up_nk hE1 rfl) ?_
      refine mx_J.step (sn_253 27) (fun _ _ => rfl) ?_
      refine mx_J.step (sn_253 28) (fun _ _ => rfl) ?_
      have eq14 : Z1 81 x0 = Z 81 x0 := (up_nk hE1 rfl)
      obtain ⟨z13, Z13, h13, hc13, hx13, hG13, hf13, b13⟩ := ct_240_56 (d := d + 0) (l := l) (D := D) (b0 := b0) (ad := ad) (Hb := Hb) (tau := tau) hx1 hG1 (show 0 ≤ x0 ∧ x0 ≤ 3 by omega) (show Z1 81 x0 ≤ 18 by first | omega | (simp only [eq14]; omega))
      try rw [eq14] at b13
      refine Jcv hx1 (show mx_Sn _ _ 29 (mx_callv 240 2 12 32) from sn_253 29) a56 s56 hc13 rfl rfl rfl ?_
      obtain ⟨z15, hc15, b15⟩ := ct_252_56 (d := d + 1) (l := l) (D := D) (b0 := b0) (ad := ad) (Hb := Hb) (tau := tau) hx13 hG13 (show 0 ≤ Z 57 27 ∧ Z 57 27 ≤ 384 by omega) (show 0 ≤ z13 ∧ z13 ≤ 384 by omega)
      refine Jcv hx13 (show mx_Sn _ _ 32 (mx_callv 252 3 12 35) from sn_253 32) a56 s56 hc15 rfl rfl rfl ?_
      refine Jif_eq (show mx_Sn _ _ 35 (mx_if_eq 42 38) from sn_253 35) (by omega) (fun q16 => ?_) (fun q16 => ?_)
      · skip
        refine JcI (z := 0) (show mx_Sn _ _ 42 (mx_const (.int 0) 43) from sn_253 42) rfl ?_
        exact c43 0 Z13 h13 (by omega) hx13 hG13 (fr_tr (M := [(62, (-1))]) fr_rf (hf13) (M1 := []) rfl rfl)
      · skip
        refine JcI (z := 1) (show mx_Sn _ _ 38 (mx_const (.int 1) 39) from sn_253 38) rfl ?_
        refine mx_J.step (sn_253 39) (fun _ _ => rfl) ?_
        exact c43 1 Z13 h13 (by omega) hx13 hG13 (fr_tr (M := [(62, (-1))]) fr_rf (hf13) (M1 := []) rfl rfl)
    · skip
      refine mx_J.step (sn_253 15) (fun _ _ => rfl) ?_
      refine mx_J.step (sn_253 16) (fun _ _ => rfl) ?_
      exact c43 z2 Z1 h1 (by omega) hx1 hG1 fr_rf
theorem ct_253_56 {l : Launch} {D : va_G} {b0 : Nat} {ad : Nat → Nat} {Hb : Heap} {tau : Nat → Int64} {d n s : Nat} {S : Nat → xS} {Z : xZ} {h : mx_H} (hx : XH n s S Z h) (hG : GI n S Z)  {x0 : Int} (p0 : (-2147483648) ≤ x0 ∧ x0 ≤ 2147483647) : ∃ (z : Int) (Z' : xZ) (h' : mx_H), mx_Ca (tB l D b0 ad Hb tau) (d + 4) 253 [.ref 56, xI x0] h (some (xI z), h') ∧ XH n s S Z' h' ∧ GI n S Z' ∧ fr' [(56, 0), (62, (-1))] Z Z' ∧ ((-6) ≤ z ∧ z ≤ 1) := by
  obtain ⟨r, hca, z, Z', h', e, q⟩ := Jmt (B := tB l D b0 ad Hb tau) (M := mt_253) (mi := 253) (as := [.ref 56, xI x0]) (d := d + 3) (ls := [some (.ref 56), some (xI x0), none]) rfl rfl rfl rfl rfl rfl (cw_253_56 (l := l) (D := D) (b0 := b0) (ad := ad) (Hb := Hb) (tau := tau) (d := d) (Post := fun r => ∃ (z : Int) (Z' : xZ) (h' : mx_H), r = (some (xI z), h') ∧ XH n s S Z' h' ∧ GI n S Z' ∧ fr' [(56, 0), (62, (-1))] Z Z' ∧ ((-6) ≤ z ∧ z ≤ 1)) hx hG p0 (fun z Z' h' q1 q2 q3 q4 => ⟨z, Z', h', rfl, q1, q2, q3, q4⟩))
  subst e; exact ⟨z, Z', h', hca, q⟩
set_option maxRecDepth 100000 in
theorem cw_242_56 {l : Launch} {D : va_G} {b0 : Nat} {ad : Nat → Nat} {Hb : Heap} {tau : Nat → Int64} {d n s : Nat} {S : Nat → xS} {Z : xZ} {h : mx_H} {Post : mx_R → Prop} (hx : XH n s S Z h) (hG : GI n S Z)  {x0 x1 : Int} (p0 : (-2147483648) ≤ x0 ∧ x0 ≤ 2147483647) (p1 : (-2147483648) ≤ x1 ∧ x1 ≤ 2147483647) (hP : ∀ (z : Int) (Z' : xZ) (h' : mx_H), XH n s S Z' h' → GI n S Z' → fr' [(56, 0), (62, (-1)), (64, (-1)), (65, (-1)), (73, (-1)), (74, (-1))] Z Z' → (-6) ≤ z ∧ z ≤ 18 → Post (some (xI z), h')) : mx_J (tB l D b0 ad Hb tau) mt_242 (d + 7) 0 [some (.ref 56), some (xI x0), some (xI x1), none, none, none, none] [] h Post := by
    have a56 : 56 < n := lt83 (GI_n hG) rfl
    have s56 : S 56 = .inl (12, [0, 2, 2, 2, 2, 0, 0, 0, 0, 0, 0, 0, 0, 0, 0, 2, 2, 2, 0, 2, 2, 2, 0, 0, 2, 2, 2, 2, 2, 2, 0, 0, 2, 2, 2, 2, 2, 2, 2, 2, 2, 2]) := GI_s hG 56 rfl
    have a57 : 57 < n := lt83 (GI_n hG) rfl
    have s57 : S 57 = .inr (.int, 2886, 0) := GI_s hG 57 rfl
    have a73 : 73 < n := lt83 (GI_n hG) rfl
    have s73 : S 73 = .inr (.int, 7315, 0) := GI_s hG 73 rfl
    have a74 : 74 < n := lt83 (GI_n hG) rfl
    have s74 : S 74 = .inr (.int, 385, 0) := GI_s hG 74 rfl
    refine mx_J.step (sn_242 0) (fun _ _ => rfl) ?_
    refine JcI (z := 0) (show mx_Sn _ _ 1 (mx_const (.int 0) 2) from sn_242 1) rfl ?_
    refine JputI (g := 0) hx (show mx_Sn _ _ 2 (mx_putf 1 12 0 (.int) 5) from sn_242 2) a56 s56 rfl rfl rfl rfl (fun Z1 h1 hx1 hE1 => ?_)
    have hG1 := GI_up hG hE1 (show (-2147483648) ≤ 0 ∧ 0 ≤ 2147483647 by omega) trivial rfl
    refine mx_J.step (sn_242 5) (fun _ _ => rfl) ?_
    refine mx_J.step (sn_242 6) (fun _ _ => rfl) ?_
    have eq3 : Z1 81 x0 = Z 81 x0 := (up_nk hE1 rfl)
    have b4 : 0 ≤ Z 81 x0 ∧ Z 81 x0 ≤ 40 := hG.pr 81 x0
    obtain ⟨z2, hc2, b2⟩ := ct_239_56 (d := d + 4) (l := l) (D := D) (b0 := b0) (ad := ad) (Hb := Hb) (tau := tau) hx1 hG1 (show (-2147483648) ≤ x0 ∧ x0 ≤ 2147483647 by omega)
    try rw [eq3] at b2
    refine Jcv hx1 (show mx_Sn _ _ 7 (mx_callv 239 2 12 10) from sn_242 7) a56 s56 hc2 rfl rfl rfl ?_
    refine mx_J.step (ls2 := [some (.ref 56), some (xI x0), some (xI x1), some (xI z2), none, none, none]) (sn_242 10) (fun _ _ => rfl) ?_
    refine mx_J.step (sn_242 11) (fun _ _ => rfl) ?_
    refine Jif_eq (show mx_Sn _ _ 12 (mx_if_eq 17 15) from sn_242 12) (by omega) (fun q5 => ?_) (fun q5 => ?_)
    · skip
      refine mx_J.step (sn_242 17) (fun _ _ => rfl) ?_
      refine Jif_ge (show mx_Sn _ _ 18 (mx_if_ge 24 21) from sn_242 18) (by omega) (fun q6 => ?_) (fun q6 => ?_)
      · skip
        refine mx_J.step (sn_242 24) (fun _ _ => rfl) ?_
        refine mx_J.step (sn_242 25) (fun _ _ => rfl) ?_
        refine mx_J.step (sn_242 26) (fun _ _ => rfl) ?_
        have eq8 : Z1 81 x0 = Z 81 x0 := (up_nk hE1 rfl)
        obtain ⟨z7, Z7, h7, hc7, hx7, hG7, hf7, b7⟩ := ct_240_56 (d := d + 4) (l := l) (D := D) (b0 := b0) (ad := ad) (Hb := Hb) (tau := tau) hx1 hG1 (show 0 ≤ x0 ∧ x0 ≤ 3 by omega) (show Z1 81 x0 ≤ 18 by first | omega | (simp only [eq8]; omega))
        try rw [eq8] at b7
        refine Jcv hx1 (show mx_Sn _ _ 27 (mx_callv 240 2 12 30) from sn_242 27) a56 s56 hc7 rfl rfl rfl ?_
        have eq10 : Z7 56 18 = Z 56 18 := ((hf7 56 18 rfl).trans (up_ni hE1 (by decide)))
        have b11 : 0 ≤ Z 56 18 ∧ Z 56 18 ≤ 385 := hG.pr 56 18
        obtain ⟨z9, Z9, h9, hc9, hx9, hG9, hf9, b9⟩ := ct_237_56 (d := d + 0) (l := l) (D := D) (b0 := b0) (ad := ad) (Hb := Hb) (tau := tau) hx7 hG7 (show 0 ≤ z7 ∧ z7 ≤ 384 by omega)
        try rw [eq10] at b9
        refine Jcv hx7 (show mx_Sn _ _ 30 (mx_callv 237 2 12 33) from sn_242 30) a56 s56 hc9 rfl rfl rfl ?_
        refine mx_J.step (sn_242 33) (fun _ _ => rfl) ?_
        refine mx_J.step (sn_242 34) (fun _ _ => rfl) ?_
        refine JgetR (g := 1) (b := 57) hx9 (show mx_Sn _ _ 35 (mx_getf 12 1 38) from sn_242 35) a56 s56 rfl rfl (hG9.prr 56 1 rfl) ?_
        refine JcI (z := 27) (show mx_Sn _ _ 38 (mx_const (.int 27) 40) from sn_242 38) rfl ?_
        have b13 := GI_st hG 27
        have b14 : 0 ≤ Z 57 27 ∧ Z 57 27 ≤ 384 := by have hq := GI_ex hG 57 27; replace hq : f57 (27 % 962) (Z 57 27) := hq; unfold f57 at hq; omega
        have b15 : (-2147483648) ≤ Z 57 27 ∧ Z 57 27 ≤ 2147483647 := hG.pr 57 27
        refine JialdI (z := Z 57 27) hx9 (show mx_Sn _ _ 40 (mx_iald 41) from sn_242 40) a57 s57 (by omega) ((hf9 57 27 rfl).trans ((hf7 57 27 rfl).trans (up_nk hE1 rfl))) ?_
        refine mx_J.step (ls2 := [some (.ref 56), some (xI x0), some (xI x1), some (xI z2), some (xI (Z 57 27)), none, none]) (sn_242 41) (fun _ _ => rfl) ?_
        refine JcI (z := 0) (show mx_Sn _ _ 43 (mx_const (.int 0) 44) from sn_242 43) rfl ?_
        refine mx_J.step (ls2 := [some (.ref 56), some (xI x0), some (xI x1), some (xI z2), some (xI (Z 57 27)), some (xI 0), none]) (sn_242 44) (fun _ _ => rfl) ?_
        have c46 : ∀ (m16 : Nat) (w16_4 : Int) (w16_5 : Int) (u16_6 : Option Value), (((Z9 74 w16_4).toNat : Nat) : Int) < (m16 : Int) → 0 ≤ w16_4 ∧ w16_4 ≤ 384 → (-2147483648) ≤ w16_5 ∧ w16_5 ≤ 2147483647 → w16_4 < Z 56 18 → mx_J (tB l D b0 ad Hb tau) mt_242 (d + 7) 46 [some (.ref 56), some (xI x0), some (xI x1), some (xI z2), some (xI w16_4), some (xI w16_5), u16_6] [] h9 Post := by
          intro m16
          induction m16 with
          | zero => intro w16_4 w16_5 u16_6 q16 f16_0 f16_1 f16_2; exact absurd q16 (by omega)
          | succ m16 ih16 =>
            intro w16_4 w16_5 u16_6 q16 f16_0 f16_1 f16_2
            refine mx_J.step (sn_242 46) (fun _ _ => rfl) ?_
            refine JgetR (g := 33) (b := 74) hx9 (show mx_Sn _ _ 47 (mx_getf 12 33 50) from sn_242 47) a56 s56 rfl rfl (hG9.prr 56 33 rfl) ?_
            refine mx_J.step (sn_242 50) (fun _ _ => rfl) ?_
            have b18 : 0 ≤ Z9 74 w16_4 ∧ Z9 74 w16_4 ≤ 268435456 := hG9.pr 74 w16_4
            refine JialdI (z := Z9 74 w16_4) hx9 (show mx_Sn _ _ 52 (mx_iald 53) from sn_242 52) a74 s74 (by omega) rfl ?_
            have c126 : mx_J (tB l D b0 ad Hb tau) mt_242 (d + 7) 126 [some (.ref 56), some (xI x0), some (xI x1), some (xI z2), some (xI w16_4), some (xI w16_5), u16_6] [] h9 Post := by
              refine JcI (z := (-1)) (show mx_Sn _ _ 126 (mx_const (.int (-1)) 127) from sn_242 126) rfl ?_
              exact mx_J.ret (sn_242 127) (fun _ _ => rfl) (hP (-1) Z9 h9 hx9 hG9 (fr_tr (M := [(56, 0), (62, (-1)), (64, (-1)), (65, (-1)), (73, (-1)), (74, (-1))]) (fr_tr (M := [(56, 0), (62, (-1)), (64, (-1)), (65, (-1)), (73, (-1)), (74, (-1))]) (fr_tr (M := [(56, 0), (62, (-1)), (64, (-1)), (65, (-1)), (73, (-1)), (74, (-1))]) fr_rf (fr_up hE1) (M1 := []) rfl rfl) (hf7) rfl rfl) (hf9) rfl rfl) (by omega))
            refine Jif_le (show mx_Sn _ _ 53 (mx_if_le 126 56) from sn_242 53) (by omega) (fun q20 => ?_) (fun q20 => ?_)
            · skip
              exact c126 
            · skip
              refine mx_J.step (sn_242 56) (fun _ _ => rfl) ?_
              refine JgetR (g := 33) (b := 74) hx9 (show mx_Sn _ _ 57 (mx_getf 12 33 60) from sn_242 57) a56 s56 rfl rfl (hG9.prr 56 33 rfl) ?_
              refine mx_J.step (sn_242 60) (fun _ _ => rfl) ?_
              refine JialdI (z := Z9 74 w16_4) hx9 (show mx_Sn _ _ 62 (mx_iald 63) from sn_242 62) a74 s74 (by omega) rfl ?_
              refine JcI (z := 268435456) (show mx_Sn _ _ 63 (mx_const (.int 268435456) 66) from sn_242 63) rfl ?_
              refine Jicmp_ge (show mx_Sn _ _ 66 (mx_icmp_ge 126 69) from sn_242 66) (by omega) (by omega) (fun q22 => ?_) (fun q22 => ?_)
              · skip
                exact c126 
              · skip
                refine JcI (z := 0) (show mx_Sn _ _ 69 (mx_const (.int 0) 70) from sn_242 69) rfl ?_
                refine mx_J.step (ls2 := [some (.ref 56), some (xI x0), some (xI x1), some (xI z2), some (xI w16_4), some (xI w16_5), some (xI 0)]) (sn_242 70) (fun _ _ => rfl) ?_
                have c72 : ∀ (m23 : Nat) (w23_6 : Int), 19 - w23_6 < (m23 : Int) → 0 ≤ w23_6 ∧ w23_6 ≤ 18 → NF Z9 w16_4 w23_6 → mx_J (tB l D b0 ad Hb tau) mt_242 (d + 7) 72 [some (.ref 56), some (xI x0), some (xI x1), some (xI z2), some (xI w16_4), some (xI w16_5), some (xI w23_6)] [] h9 Post := by
                  intro m23
                  induction m23 with
                  | zero => intro w23_6 q23 f23_0 f23_1; exact absurd q23 (by omega)
                  | succ m23 ih23 =>
                    intro w23_6 q23 f23_0 f23_1
                    refine mx_J.step (sn_242 72) (fun _ _ => rfl) ?_
                    refine mx_J.step (sn_242 73) (fun _ _ => rfl) ?_
                    refine mx_J.step (sn_242 75) (fun _ _ => rfl) ?_
                    obtain ⟨z24, hc24, b24⟩ := ct_236_56 (d := d + 6) (l := l) (D := D) (b0 := b0) (ad := ad) (Hb := Hb) (tau := tau) hx9 hG9 (show 0 ≤ w16_4 ∧ w16_4 ≤ 384 by omega) (show 0 ≤ w23_6 ∧ w23_6 ≤ 18 by omega)
                    refine Jcv hx9 (show mx_Sn _ _ 77 (mx_callv 236 3 12 80) from sn_242 77) a56 s56 hc24 rfl rfl rfl ?_
                    refine mx_J.step (sn_242 80) (fun _ _ => rfl) ?_
                    refine JgetR (g := 33) (b := 74) hx9 (show mx_Sn _ _ 81 (mx_getf 12 33 84) from sn_242 81) a56 s56 rfl rfl (hG9.prr 56 33 rfl) ?_
                    refine mx_J.step (sn_242 84) (fun _ _ => rfl) ?_
                    refine JialdI (z := Z9 74 w16_4) hx9 (show mx_Sn _ _ 86 (mx_iald 87) from sn_242 86) a74 s74 (by omega) rfl ?_
                    refine Jicmp_eq (show mx_Sn _ _ 87 (mx_icmp_eq 96 90) from sn_242 87) (by omega) (by omega) (fun q26 => ?_) (fun q26 => ?_)
                    · skip
                      refine mx_J.step (sn_242 96) (fun _ _ => rfl) ?_
                      refine mx_J.step (sn_242 98) (fun _ _ => rfl) ?_
                      refine Jicmp_ne (show mx_Sn _ _ 99 (mx_icmp_ne 105 102) from sn_242 99) (by omega) (by omega) (fun q27 => ?_) (fun q27 => ?_)
                      · skip
                        have fe := fb_e Z9 w16_4 w23_6
                        have a7 := ai_at (Z := Z9) (c := 73) (i := 19 * w16_4 + w23_6) (len := 19 * Z 56 18) (lo := -1) (hi := Z 56 18 - 1) (by omega) (by omega)
                        refine mx_J.step (sn_242 105) (fun _ _ => rfl) ?_
                        refine JgetR (g := 32) (b := 73) hx9 (show mx_Sn _ _ 106 (mx_getf 12 32 109) from sn_242 106) a56 s56 rfl rfl (hG9.prr 56 32 rfl) ?_
                        refine JcI (z := 19) (show mx_Sn _ _ 109 (mx_const (.int 19) 111) from sn_242 109) rfl ?_
                        refine mx_J.step (sn_242 111) (fun _ _ => rfl) ?_
                        refine Jimul (show mx_Sn _ _ 113 (mx_imul 114) from sn_242 113) ?_
                        refine mx_J.step (sn_242 114) (fun _ _ => rfl) ?_
                        refine Jiadd (show mx_Sn _ _ 116 (mx_iadd 117) from sn_242 116) ?_
                        have b29 : (-1) ≤ Z9 73 ((19 * w16_4) + w23_6) ∧ Z9 73 ((19 * w16_4) + w23_6) ≤ 384 := hG9.pr 73 ((19 * w16_4) + w23_6)
                        refine JialdI (z := Z9 73 ((19 * w16_4) + w23_6)) hx9 (show mx_Sn _ _ 117 (mx_iald 118) from sn_242 117) a73 s73 (by omega) rfl ?_
                        refine mx_J.step (ls2 := [some (.ref 56), some (xI x0), some (xI x1), some (xI z2), some (xI (Z9 73 ((19 * w16_4) + w23_6))), some (xI w16_5), some (xI w23_6)]) (sn_242 118) (fun _ _ => rfl) ?_
                        refine JiincN (z := w16_5) (cz := 1) (show mx_Sn _ _ 120 (mx_iinc 5 1 123) from sn_242 120) rfl rfl rfl (fun y30 hy30 hq30 => ?_)
                        show mx_J _ _ _ _ [some (.ref 56), some (xI x0), some (xI x1), some (xI z2), some (xI (Z9 73 ((19 * w16_4) + w23_6))), some (xI y30), some (xI w23_6)] _ _ _
                        refine mx_J.step (sn_242 123) (fun _ _ => rfl) ?_
                        exact ih16 (Z9 73 ((19 * w16_4) + w23_6)) y30 (some (xI w23_6)) (by omega) (by omega) (by omega) (by omega)
                      · skip
                        refine mx_J.step (sn_242 102) (fun _ _ => rfl) ?_
                        exact mx_J.ret (sn_242 104) (fun _ _ => rfl) (hP w23_6 Z9 h9 hx9 hG9 (fr_tr (M := [(56, 0), (62, (-1)), (64, (-1)), (65, (-1)), (73, (-1)), (74, (-1))]) (fr_tr (M := [(56, 0), (62, (-1)), (64, (-1)), (65, (-1)), (73, (-1)), (74, (-1))]) (fr_tr (M := [(56, 0), (62, (-1)), (64, (-1)), (65, (-1)), (73, (-1)), (74, (-1))]) fr_rf (fr_up hE1) (M1 := []) rfl rfl) (hf7) rfl rfl) (hf9) rfl rfl) (by omega))
                    · skip
                      have nl := nf_l (Z := Z9) (m := Z 56 18) (s := w16_4) (d := w23_6 + 1) (by omega) (by omega) (nf_s (by assumption) (by omega)) (by omega) (by omega) (by omega)
                      refine Jiinc (z := w23_6) (cz := 1) (ls2 := [some (.ref 56), some (xI x0), some (xI x1), some (xI z2), some (xI w16_4), some (xI w16_5), some (xI (w23_6 + 1))]) (show mx_Sn _ _ 90 (mx_iinc 6 1 93) from sn_242 90) rfl rfl rfl rfl ?_
                      refine mx_J.step (sn_242 93) (fun _ _ => rfl) ?_
                      exact ih23 (w23_6 + 1) (by omega) (by omega) (by first | exact nf_0 (by omega) | exact nf_s (by assumption) (by omega))
                exact c72 (Int.toNat (19 - 0) + 1) 0 (by omega) (by omega) (by first | exact nf_0 (by omega) | exact nf_s (by assumption) (by omega))
        exact c46 (Int.toNat ((((Z9 74 (Z 57 27)).toNat : Nat) : Int)) + 1) (Z 57 27) 0 none (by omega) (by omega) (by omega) (by omega)
      · skip
        refine JcI (z := (-3)) (show mx_Sn _ _ 21 (mx_const (.int (-3)) 23) from sn_242 21) rfl ?_
        exact mx_J.ret (sn_242 23) (fun _ _ => rfl) (hP (-3) Z1 h1 hx1 hG1 (fr_tr (M := [(56, 0), (62, (-1)), (64, (-1)), (65, (-1)), (73, (-1)), (74, (-1))]) fr_rf (fr_up hE1) (M1 := []) rfl rfl) (by omega))
    · skip
      refine mx_J.step (sn_242 15) (fun _ _ => rfl) ?_
      exact mx_J.ret (sn_242 16) (fun _ _ => rfl) (hP z2 Z1 h1 hx1 hG1 (fr_tr (M := [(56, 0), (62, (-1)), (64, (-1)), (65, (-1)), (73, (-1)), (74, (-1))]) fr_rf (fr_up hE1) (M1 := []) rfl rfl) (by omega))
theorem ct_242_56 {l : Launch} {D : va_G} {b0 : Nat} {ad : Nat → Nat} {Hb : Heap} {tau : Nat → Int64} {d n s : Nat} {S : Nat → xS} {Z : xZ} {h : mx_H} (hx : XH n s S Z h) (hG : GI n S Z)  {x0 x1 : Int} (p0 : (-2147483648) ≤ x0 ∧ x0 ≤ 2147483647) (p1 : (-2147483648) ≤ x1 ∧ x1 ≤ 2147483647) : ∃ (z : Int) (Z' : xZ) (h' : mx_H), mx_Ca (tB l D b0 ad Hb tau) (d + 8) 242 [.ref 56, xI x0, xI x1] h (some (xI z), h') ∧ XH n s S Z' h' ∧ GI n S Z' ∧ fr' [(56, 0), (62, (-1)), (64, (-1)), (65, (-1)), (73, (-1)), (74, (-1))] Z Z' ∧ ((-6) ≤ z ∧ z ≤ 18) := by
  obtain ⟨r, hca, z, Z', h', e, q⟩ := Jmt (B := tB l D b0 ad Hb tau) (M := mt_242) (mi := 242) (as := [.ref 56, xI x0, xI x1]) (d := d + 7) (ls := [some (.ref 56), some (xI x0), some (xI x1), none, none, none, none]) rfl rfl rfl rfl rfl rfl (cw_242_56 (l := l) (D := D) (b0 := b0) (ad := ad) (Hb := Hb) (tau := tau) (d := d) (Post := fun r => ∃ (z : Int) (Z' : xZ) (h' : mx_H), r = (some (xI z), h') ∧ XH n s S Z' h' ∧ GI n S Z' ∧ fr' [(56, 0), (62, (-1)), (64, (-1)), (65, (-1)), (73, (-1)), (74, (-1))] Z Z' ∧ ((-6) ≤ z ∧ z ≤ 18)) hx hG p0 p1 (fun z Z' h' q1 q2 q3 q4 => ⟨z, Z', h', rfl, q1, q2, q3, q4⟩))
  subst e; exact ⟨z, Z', h', hca, q⟩
set_option maxRecDepth 100000 in
theorem cw_245_56 {l : Launch} {D : va_G} {b0 : Nat} {ad : Nat → Nat} {Hb : Heap} {tau : Nat → Int64} {d n s : Nat} {S : Nat → xS} {Z : xZ} {h : mx_H} {Post : mx_R → Prop} (hx : XH n s S Z h) (hG : GI n S Z)  {x0 x1 : Int} (p0 : (-2147483648) ≤ x0 ∧ x0 ≤ 2147483647) (p1 : (-2147483648) ≤ x1 ∧ x1 ≤ 2147483647) (hP : ∀ (z : Int) (Z' : xZ) (h' : mx_H), XH n s S Z' h' → GI n S Z' → fr' [(56, 0), (62, (-1)), (64, (-1)), (65, (-1)), (73, (-1)), (76, (-1)), (77, (-1))] Z Z' → (-9223372036854775808) ≤ z ∧ z ≤ 9223372036854775807 → Post (some (xL z), h')) : mx_J (tB l D b0 ad Hb tau) mt_245 (d + 6) 0 [some (.ref 56), some (xI x0), some (xI x1), none, none, none] [] h Post := by
    have a56 : 56 < n := lt83 (GI_n hG) rfl
    have s56 : S 56 = .inl (12, [0, 2, 2, 2, 2, 0, 0, 0, 0, 0, 0, 0, 0, 0, 0, 2, 2, 2, 0, 2, 2, 2, 0, 0, 2, 2, 2, 2, 2, 2, 0, 0, 2, 2, 2, 2, 2, 2, 2, 2, 2, 2]) := GI_s hG 56 rfl
    have a73 : 73 < n := lt83 (GI_n hG) rfl
    have s73 : S 73 = .inr (.int, 7315, 0) := GI_s hG 73 rfl
    have a76 : 76 < n := lt83 (GI_n hG) rfl
    have s76 : S 76 = .inr (.long, 385, 1) := GI_s hG 76 rfl
    have a77 : 77 < n := lt83 (GI_n hG) rfl
    have s77 : S 77 = .inr (.long, 385, 1) := GI_s hG 77 rfl
    refine mx_J.step (sn_245 0) (fun _ _ => rfl) ?_
    refine JcI (z := 0) (show mx_Sn _ _ 1 (mx_const (.int 0) 2) from sn_245 1) rfl ?_
    refine JputI (g := 0) hx (show mx_Sn _ _ 2 (mx_putf 1 12 0 (.int) 5) from sn_245 2) a56 s56 rfl rfl rfl rfl (fun Z1 h1 hx1 hE1 => ?_)
    have hG1 := GI_up hG hE1 (show (-2147483648) ≤ 0 ∧ 0 ≤ 2147483647 by omega) trivial rfl
    refine mx_J.step (sn_245 5) (fun _ _ => rfl) ?_
    refine Ji2l (show mx_Sn _ _ 6 (mx_i2l 7) from sn_245 6) (by omega) ?_
    obtain ⟨z2, hc2, b2⟩ := ct_208_ (d := d + 4) (l := l) (D := D) (b0 := b0) (ad := ad) (Hb := Hb) (tau := tau) hx1 hG1 (show (-9223372036854775808) ≤ x0 ∧ x0 ≤ 9223372036854775807 by omega)
    refine Jcs (show mx_Sn _ _ 7 (mx_calls 208 1 10) from sn_245 7) hc2 rfl rfl rfl ?_
    have c25 : mx_J (tB l D b0 ad Hb tau) mt_245 (d + 6) 25 [some (.ref 56), some (xI x0), some (xI x1), none, none, none] [] h1 Post := by
      refine JcL (z := (-3)) (show mx_Sn _ _ 25 (mx_const (.long (-3)) 28) from sn_245 25) rfl ?_
      exact mx_J.ret (sn_245 28) (fun _ _ => rfl) (hP (-3) Z1 h1 hx1 hG1 (fr_tr (M := [(56, 0), (62, (-1)), (64, (-1)), (65, (-1)), (73, (-1)), (76, (-1)), (77, (-1))]) fr_rf (fr_up hE1) (M1 := []) rfl rfl) (by omega))
    refine Jif_eq (show mx_Sn _ _ 10 (mx_if_eq 25 13) from sn_245 10) (by omega) (fun q4 => ?_) (fun q4 => ?_)
    · skip
      exact c25 
    · skip
      refine mx_J.step (sn_245 13) (fun _ _ => rfl) ?_
      refine Ji2l (show mx_Sn _ _ 14 (mx_i2l 15) from sn_245 14) (by omega) ?_
      refine JcL (z := 0) (show mx_Sn _ _ 15 (mx_const (.long 0) 16) from sn_245 15) rfl ?_
      refine JcL (z := 9) (show mx_Sn _ _ 16 (mx_const (.long 9) 19) from sn_245 16) rfl ?_
      obtain ⟨z5, hc5, b5⟩ := ct_154_ (d := d + 5) (l := l) (D := D) (b0 := b0) (ad := ad) (Hb := Hb) (tau := tau) hx1 hG1 (show (-9223372036854775808) ≤ x1 ∧ x1 ≤ 9223372036854775807 by omega) (show (-9223372036854775808) ≤ 0 ∧ 0 ≤ 9223372036854775807 by omega) (show (-9223372036854775808) ≤ 9 ∧ 9 ≤ 9223372036854775807 by omega)
      refine Jcs (show mx_Sn _ _ 19 (mx_calls 154 3 22) from sn_245 19) hc5 rfl rfl rfl ?_
      refine Jif_ne (show mx_Sn _ _ 22 (mx_if_ne 29 25) from sn_245 22) (by omega) (fun q6 => ?_) (fun q6 => ?_)
      · skip
        refine mx_J.step (sn_245 29) (fun _ _ => rfl) ?_
        have eq8 : Z1 56 18 = Z 56 18 := (up_ni hE1 (by decide))
        have b9 : 0 ≤ Z 56 18 ∧ Z 56 18 ≤ 385 := hG.pr 56 18
        obtain ⟨Z7, h7, hc7, hx7, hG7, hf7, b7⟩ := ct_235_56 (d := d + 0) (l := l) (D := D) (b0 := b0) (ad := ad) (Hb := Hb) (tau := tau) hx1 hG1 
        try rw [eq8] at b7
        refine Jcv0 hx1 (show mx_Sn _ _ 30 (mx_callv 235 1 12 33) from sn_245 30) a56 s56 hc7 rfl rfl rfl ?_
        refine mx_J.step (sn_245 33) (fun _ _ => rfl) ?_
        obtain ⟨Z10, h10, hc10, hx10, hG10, hf10⟩ := ct_243_56 (d := d + 5) (l := l) (D := D) (b0 := b0) (ad := ad) (Hb := Hb) (tau := tau) hx7 hG7 
        refine Jcv0 hx7 (show mx_Sn _ _ 34 (mx_callv 243 1 12 37) from sn_245 34) a56 s56 hc10 rfl rfl rfl ?_
        refine JcI (z := 0) (show mx_Sn _ _ 37 (mx_const (.int 0) 38) from sn_245 37) rfl ?_
        refine mx_J.step (ls2 := [some (.ref 56), some (xI x0), some (xI x1), some (xI 0), none, none]) (sn_245 38) (fun _ _ => rfl) ?_
        have c39 : ∀ (m11 : Nat) (w11_3 : Int) (u11_4 : Option Value) (u11_5 : Option Value) (Z12 : xZ) (h12 : mx_H), 9 - w11_3 < (m11 : Int) → 0 ≤ w11_3 ∧ w11_3 ≤ 9 → XH n s S Z12 h12 → GI n S Z12 → fr' [(76, (-1)), (77, (-1))] Z10 Z12 → mx_J (tB l D b0 ad Hb tau) mt_245 (d + 6) 39 [some (.ref 56), some (xI x0), some (xI x1), some (xI w11_3), u11_4, u11_5] [] h12 Post := by
          intro m11
          induction m11 with
          | zero => intro w11_3 u11_4 u11_5 Z12 h12 q11 f11_0 hx12 hG12 hf12; exact absurd q11 (by omega)
          | succ m11 ih11 =>
            intro w11_3 u11_4 u11_5 Z12 h12 q11 f11_0 hx12 hG12 hf12
            refine mx_J.step (sn_245 39) (fun _ _ => rfl) ?_
            refine mx_J.step (sn_245 40) (fun _ _ => rfl) ?_
            refine Jicmp_ge (show mx_Sn _ _ 41 (mx_icmp_ge 145 44) from sn_245 41) (by omega) (by omega) (fun q13 => ?_) (fun q13 => ?_)
            · skip
              refine JcL (z := 0) (show mx_Sn _ _ 145 (mx_const (.long 0) 146) from sn_245 145) rfl ?_
              refine mx_J.step (ls2 := [some (.ref 56), some (xI x0), some (xI x1), some (xL 0), none, u11_5]) (sn_245 146) (fun _ _ => rfl) ?_
              refine JcI (z := 0) (show mx_Sn _ _ 147 (mx_const (.int 0) 148) from sn_245 147) rfl ?_
              refine mx_J.step (ls2 := [some (.ref 56), some (xI x0), some (xI x1), some (xL 0), none, some (xI 0)]) (sn_245 148) (fun _ _ => rfl) ?_
              have c150 : ∀ (m14 : Nat) (w14_3 : Int) (w14_5 : Int), 385 - w14_5 < (m14 : Int) → (-9223372036854775808) ≤ w14_3 ∧ w14_3 ≤ 9223372036854775807 → 0 ≤ w14_5 ∧ w14_5 ≤ 385 → mx_J (tB l D b0 ad Hb tau) mt_245 (d + 6) 150 [some (.ref 56), some (xI x0), some (xI x1), some (xL w14_3), none, some (xI w14_5)] [] h12 Post := by
                intro m14
                induction m14 with
                | zero => intro w14_3 w14_5 q14 f14_0 f14_1; exact absurd q14 (by omega)
                | succ m14 ih14 =>
                  intro w14_3 w14_5 q14 f14_0 f14_1
                  refine mx_J.step (sn_245 150) (fun _ _ => rfl) ?_
                  refine mx_J.step (sn_245 152) (fun _ _ => rfl) ?_
                  refine JgetI (g := 18) (z := Z 56 18) hx12 (show mx_Sn _ _ 153 (mx_getf 12 18 156) from sn_245 153) a56 s56 rfl rfl ((hf12 56 18 rfl).trans ((hf10 56 18 rfl).trans ((hf7 56 18 rfl).trans (up_ni hE1 (by decide))))) ?_
                  refine Jicmp_ge (show mx_Sn _ _ 156 (mx_icmp_ge 189 159) from sn_245 156) (by omega) (by omega) (fun q16 => ?_) (fun q16 => ?_)
                  · skip
                    refine mx_J.step (sn_245 189) (fun _ _ => rfl) ?_
                    exact mx_J.ret (sn_245 190) (fun _ _ => rfl) (hP w14_3 Z12 h12 hx12 hG12 (fr_tr (M := [(56, 0), (62, (-1)), (64, (-1)), (65, (-1)), (73, (-1)), (76, (-1)), (77, (-1))]) (fr_tr (M := [(56, 0), (62, (-1)), (64, (-1)), (65, (-1)), (73, (-1)), (76, (-1)), (77, (-1))]) (fr_tr (M := [(56, 0), (62, (-1)), (64, (-1)), (65, (-1)), (73, (-1)), (76, (-1)), (77, (-1))]) (fr_tr (M := [(56, 0), (62, (-1)), (64, (-1)), (65, (-1)), (73, (-1)), (76, (-1)), (77, (-1))]) fr_rf (fr_up hE1) (M1 := []) rfl rfl) (hf7) rfl rfl) (hf10) rfl rfl) (hf12) rfl rfl) (by omega))
                  · skip
                    refine mx_J.step (sn_245 159) (fun _ _ => rfl) ?_
                    refine mx_J.step (sn_245 160) (fun _ _ => rfl) ?_
                    refine mx_J.step (sn_245 161) (fun _ _ => rfl) ?_
                    have eq18 : mn Z12 w14_5 = mn Z w14_5 := ((mn_c (fun i => hf12 61 i rfl)).trans ((mn_c (fun i => hf10 61 i rfl)).trans ((mn_c (fun i => hf7 61 i rfl)).trans (mn_c (fun i => up_nk hE1 rfl)))))
                    obtain ⟨z17, hc17, b17⟩ := ct_191_56 (d := d + 4) (l := l) (D := D) (b0 := b0) (ad := ad) (Hb := Hb) (tau := tau) hx12 hG12 (show 0 ≤ w14_5 ∧ w14_5 ≤ 384 by omega)
                    refine Jcv hx12 (show mx_Sn _ _ 163 (mx_callv 191 2 12 166) from sn_245 163) a56 s56 hc17 rfl rfl rfl ?_
                    refine mx_J.step (sn_245 166) (fun _ _ => rfl) ?_
                    have c181 : ∀ (k19_1 : Int), (-9223372036854775808) ≤ k19_1 ∧ k19_1 ≤ 9223372036854775807 → mx_J (tB l D b0 ad Hb tau) mt_245 (d + 6) 181 [some (.ref 56), some (xI x0), some (xI x1), some (xL w14_3), none, some (xI w14_5)] [xL k19_1, xL w14_3] h12 Post := by
                      intro k19_1 f19_0
                      refine JladdN (show mx_Sn _ _ 181 (mx_ladd 182) from sn_245 181) (fun y20 hy20 hq20 => ?_)
                      refine mx_J.step (ls2 := [some (.ref 56), some (xI x0), some (xI x1), some (xL y20), none, some (xI w14_5)]) (sn_245 182) (fun _ _ => rfl) ?_
                      refine Jiinc (z := w14_5) (cz := 1) (ls2 := [some (.ref 56), some (xI x0), some (xI x1), some (xL y20), none, some (xI (w14_5 + 1))]) (show mx_Sn _ _ 183 (mx_iinc 5 1 186) from sn_245 183) rfl rfl rfl rfl ?_
                      refine mx_J.step (sn_245 186) (fun _ _ => rfl) ?_
                      exact ih14 y20 (w14_5 + 1) (by omega) (by omega) (by omega)
                    refine Jicmp_ne (show mx_Sn _ _ 167 (mx_icmp_ne 180 170) from sn_245 167) (by omega) (by omega) (fun q21 => ?_) (fun q21 => ?_)
                    · skip
                      refine JcL (z := 0) (show mx_Sn _ _ 180 (mx_const (.long 0) 181) from sn_245 180) rfl ?_
                      exact c181 0 (by omega)
                    · skip
                      refine mx_J.step (sn_245 170) (fun _ _ => rfl) ?_
                      refine JgetR (g := 35) (b := 76) hx12 (show mx_Sn _ _ 171 (mx_getf 12 35 174) from sn_245 171) a56 s56 rfl rfl (hG12.prr 56 35 rfl) ?_
                      refine mx_J.step (sn_245 174) (fun _ _ => rfl) ?_
                      have b23 : (-9223372036854775808) ≤ Z12 76 w14_5 ∧ Z12 76 w14_5 ≤ 9223372036854775807 := hG12.pr 76 w14_5
                      refine JlaldL (z := Z12 76 w14_5) hx12 (show mx_Sn _ _ 176 (mx_lald 177) from sn_245 176) a76 s76 (by omega) rfl ?_
                      refine mx_J.step (sn_245 177) (fun _ _ => rfl) ?_
                      exact c181 (Z12 76 w14_5) (by omega)
              exact c150 (Int.toNat (385 - 0) + 1) 0 0 (by omega) (by omega) (by omega)
            · skip
              refine JcI (z := 0) (show mx_Sn _ _ 44 (mx_const (.int 0) 45) from sn_245 44) rfl ?_
              refine mx_J.step (ls2 := [some (.ref 56), some (xI x0), some (xI x1), some (xI w11_3), some (xI 0), u11_5]) (sn_245 45) (fun _ _ => rfl) ?_
              have c47 : ∀ (m24 : Nat) (w24_4 : Int) (u24_5 : Option Value) (Z25 : xZ) (h25 : mx_H), 385 - w24_4 < (m24 : Int) → 0 ≤ w24_4 ∧ w24_4 ≤ 385 → XH n s S Z25 h25 → GI n S Z25 → fr' [(77, (-1))] Z12 Z25 → mx_J (tB l D b0 ad Hb tau) mt_245 (d + 6) 47 [some (.ref 56), some (xI x0), some (xI x1), some (xI w11_3), some (xI w24_4), u24_5] [] h25 Post := by
                intro m24
                induction m24 with
                | zero => intro w24_4 u24_5 Z25 h25 q24 f24_0 hx25 hG25 hf25; exact absurd q24 (by omega)
                | succ m24 ih24 =>
                  intro w24_4 u24_5 Z25 h25 q24 f24_0 hx25 hG25 hf25
                  refine mx_J.step (sn_245 47) (fun _ _ => rfl) ?_
                  refine mx_J.step (sn_245 49) (fun _ _ => rfl) ?_
                  refine JgetI (g := 18) (z := Z 56 18) hx25 (show mx_Sn _ _ 50 (mx_getf 12 18 53) from sn_245 50) a56 s56 rfl rfl ((hf25 56 18 rfl).trans ((hf12 56 18 rfl).trans ((hf10 56 18 rfl).trans ((hf7 56 18 rfl).trans (up_ni hE1 (by decide)))))) ?_
                  refine Jicmp_ge (show mx_Sn _ _ 53 (mx_icmp_ge 135 56) from sn_245 53) (by omega) (by omega) (fun q27 => ?_) (fun q27 => ?_)
                  · skip
                    refine mx_J.step (sn_245 135) (fun _ _ => rfl) ?_
                    obtain ⟨Z28, h28, hc28, hx28, hG28, hf28⟩ := ct_244_56 (d := d + 5) (l := l) (D := D) (b0 := b0) (ad := ad) (Hb := Hb) (tau := tau) hx25 hG25 
                    refine Jcv0 hx25 (show mx_Sn _ _ 136 (mx_callv 244 1 12 139) from sn_245 136) a56 s56 hc28 rfl rfl rfl ?_
                    refine Jiinc (z := w11_3) (cz := 1) (ls2 := [some (.ref 56), some (xI x0), some (xI x1), some (xI (w11_3 + 1)), some (xI w24_4), u24_5]) (show mx_Sn _ _ 139 (mx_iinc 3 1 142) from sn_245 139) rfl rfl rfl rfl ?_
                    refine mx_J.step (sn_245 142) (fun _ _ => rfl) ?_
                    exact ih11 (w11_3 + 1) (some (xI w24_4)) u24_5 Z28 h28 (by omega) (by omega) hx28 hG28 (fr_tr (M := [(76, (-1)), (77, (-1))]) (fr_tr (M := [(76, (-1)), (77, (-1))]) (fr_tr (M := [(76, (-1)), (77, (-1))]) fr_rf (hf12) (M1 := []) rfl rfl) (hf25) rfl rfl) (hf28) rfl rfl)
                  · skip
                    refine JcI (z := 0) (show mx_Sn _ _ 56 (mx_const (.int 0) 57) from sn_245 56) rfl ?_
                    refine mx_J.step (ls2 := [some (.ref 56), some (xI x0), some (xI x1), some (xI w11_3), some (xI w24_4), some (xI 0)]) (sn_245 57) (fun _ _ => rfl) ?_
                    have c59 : ∀ (m29 : Nat) (w29_5 : Int) (Z30 : xZ) (h30 : mx_H), 19 - w29_5 < (m29 : Int) → 0 ≤ w29_5 ∧ w29_5 ≤ 19 → XH n s S Z30 h30 → GI n S Z30 → fr' [(77, (-1))] Z25 Z30 → mx_J (tB l D b0 ad Hb tau) mt_245 (d + 6) 59 [some (.ref 56), some (xI x0), some (xI x1), some (xI w11_3), some (xI w24_4), some (xI w29_5)] [] h30 Post := by
                      intro m29
                      induction m29 with
                      | zero => intro w29_5 Z30 h30 q29 f29_0 hx30 hG30 hf30; exact absurd q29 (by omega)
                      | succ m29 ih29 =>
                        intro w29_5 Z30 h30 q29 f29_0 hx30 hG30 hf30
                        refine mx_J.step (sn_245 59) (fun _ _ => rfl) ?_
                        refine JcI (z := 19) (show mx_Sn _ _ 61 (mx_const (.int 19) 63) from sn_245 61) rfl ?_
                        have c129 : mx_J (tB l D b0 ad Hb tau) mt_245 (d + 6) 129 [some (.ref 56), some (xI x0), some (xI x1), some (xI w11_3), some (xI w24_4), some (xI w29_5)] [] h30 Post := by
                          refine Jiinc (z := w24_4) (cz := 1) (ls2 := [some (.ref 56), some (xI x0), some (xI x1), some (xI w11_3), some (xI (w24_4 + 1)), some (xI w29_5)]) (show mx_Sn _ _ 129 (mx_iinc 4 1 132) from sn_245 129) rfl rfl rfl rfl ?_
                          refine mx_J.step (sn_245 132) (fun _ _ => rfl) ?_
                          exact ih24 (w24_4 + 1) (some (xI w29_5)) Z30 h30 (by omega) (by omega) hx30 hG30 (fr_tr (M := [(77, (-1))]) (fr_tr (M := [(77, (-1))]) fr_rf (hf25) (M1 := []) rfl rfl) (hf30) rfl rfl)
                        refine Jicmp_ge (show mx_Sn _ _ 63 (mx_icmp_ge 129 66) from sn_245 63) (by omega) (by omega) (fun q32 => ?_) (fun q32 => ?_)
                        · skip
                          exact c129 
                        · skip
                          refine mx_J.step (sn_245 66) (fun _ _ => rfl) ?_
                          refine JgetR (g := 35) (b := 76) hx30 (show mx_Sn _ _ 67 (mx_getf 12 35 70) from sn_245 67) a56 s56 rfl rfl (hG30.prr 56 35 rfl) ?_
                          refine mx_J.step (sn_245 70) (fun _ _ => rfl) ?_
                          have b34 : (-9223372036854775808) ≤ Z12 76 w24_4 ∧ Z12 76 w24_4 ≤ 9223372036854775807 := hG12.pr 76 w24_4
                          refine JlaldL (z := Z12 76 w24_4) hx30 (show mx_Sn _ _ 72 (mx_lald 73) from sn_245 72) a76 s76 (by omega) ((hf30 76 w24_4 rfl).trans (hf25 76 w24_4 rfl)) ?_
                          refine JcL (z := 0) (show mx_Sn _ _ 73 (mx_const (.long 0) 74) from sn_245 73) rfl ?_
                          refine Jlif_le (show mx_Sn _ _ 74 (mx_lif_le 129 78) from sn_245 74) (by omega) (by omega) (fun q35 => ?_) (fun q35 => ?_)
                          · skip
                            exact c129 
                          · skip
                            refine mx_J.step (sn_245 78) (fun _ _ => rfl) ?_
                            refine JgetR (g := 32) (b := 73) hx30 (show mx_Sn _ _ 79 (mx_getf 12 32 82) from sn_245 79) a56 s56 rfl rfl (hG30.prr 56 32 rfl) ?_
                            refine JcI (z := 19) (show mx_Sn _ _ 82 (mx_const (.int 19) 84) from sn_245 82) rfl ?_
                            refine mx_J.step (sn_245 84) (fun _ _ => rfl) ?_
                            refine Jimul (show mx_Sn _ _ 86 (mx_imul 87) from sn_245 86) ?_
                            refine mx_J.step (sn_245 87) (fun _ _ => rfl) ?_
                            refine Jiadd (show mx_Sn _ _ 89 (mx_iadd 90) from sn_245 89) ?_
                            have b37 : (-1) ≤ Z7 73 ((19 * w24_4) + w29_5) ∧ Z7 73 ((19 * w24_4) + w29_5) ≤ 384 := hG7.pr 73 ((19 * w24_4) + w29_5)
                            refine JialdI (z := Z7 73 ((19 * w24_4) + w29_5)) hx30 (show mx_Sn _ _ 90 (mx_iald 91) from sn_245 90) a73 s73 (by omega) ((hf30 73 ((19 * w24_4) + w29_5) rfl).trans ((hf25 73 ((19 * w24_4) + w29_5) rfl).trans ((hf12 73 ((19 * w24_4) + w29_5) rfl).trans (hf10 73 ((19 * w24_4) + w29_5) rfl)))) ?_
                            refine JcI (z := (-1)) (show mx_Sn _ _ 91 (mx_const (.int (-1)) 92) from sn_245 91) rfl ?_
                            have c123 : ∀  (Z39 : xZ) (h39 : mx_H), XH n s S Z39 h39 → GI n S Z39 → fr' [(77, (-1))] Z30 Z39 → mx_J (tB l D b0 ad Hb tau) mt_245 (d + 6) 123 [some (.ref 56), some (xI x0), some (xI x1), some (xI w11_3), some (xI w24_4), some (xI w29_5)] [] h39 Post := by
                              intro Z39 h39 hx39 hG39 hf39
                              refine Jiinc (z := w29_5) (cz := 1) (ls2 := [some (.ref 56), some (xI x0), some (xI x1), some (xI w11_3), some (xI w24_4), some (xI (w29_5 + 1))]) (show mx_Sn _ _ 123 (mx_iinc 5 1 126) from sn_245 123) rfl rfl rfl rfl ?_
                              refine mx_J.step (sn_245 126) (fun _ _ => rfl) ?_
                              exact ih29 (w29_5 + 1) Z39 h39 (by omega) (by omega) hx39 hG39 (fr_tr (M := [(77, (-1))]) (fr_tr (M := [(77, (-1))]) fr_rf (hf30) (M1 := []) rfl rfl) (hf39) rfl rfl)
                            refine Jicmp_eq (show mx_Sn _ _ 92 (mx_icmp_eq 123 95) from sn_245 92) (by omega) (by omega) (fun q40 => ?_) (fun q40 => ?_)
                            · skip
                              exact c123 Z30 h30 hx30 hG30 fr_rf
                            · skip
                              refine mx_J.step (sn_245 95) (fun _ _ => rfl) ?_
                              refine JgetR (g := 36) (b := 77) hx30 (show mx_Sn _ _ 96 (mx_getf 12 36 99) from sn_245 96) a56 s56 rfl rfl (hG30.prr 56 36 rfl) ?_
                              refine mx_J.step (sn_245 99) (fun _ _ => rfl) ?_
                              refine JgetR (g := 32) (b := 73) hx30 (show mx_Sn _ _ 100 (mx_getf 12 32 103) from sn_245 100) a56 s56 rfl rfl (hG30.prr 56 32 rfl) ?_
                              refine JcI (z := 19) (show mx_Sn _ _ 103 (mx_const (.int 19) 105) from sn_245 103) rfl ?_
                              refine mx_J.step (sn_245 105) (fun _ _ => rfl) ?_
                              refine Jimul (show mx_Sn _ _ 107 (mx_imul 108) from sn_245 107) ?_
                              refine mx_J.step (sn_245 108) (fun _ _ => rfl) ?_
                              refine Jiadd (show mx_Sn _ _ 110 (mx_iadd 111) from sn_245 110) ?_
                              refine JialdI (z := Z7 73 ((19 * w24_4) + w29_5)) hx30 (show mx_Sn _ _ 111 (mx_iald 112) from sn_245 111) a73 s73 (by omega) ((hf30 73 ((19 * w24_4) + w29_5) rfl).trans ((hf25 73 ((19 * w24_4) + w29_5) rfl).trans ((hf12 73 ((19 * w24_4) + w29_5) rfl).trans (hf10 73 ((19 * w24_4) + w29_5) rfl)))) ?_
                              refine mx_J.step (sn_245 112) (fun _ _ => rfl) ?_
                              have b43 : (-9223372036854775808) ≤ Z30 77 (Z7 73 ((19 * w24_4) + w29_5)) ∧ Z30 77 (Z7 73 ((19 * w24_4) + w29_5)) ≤ 9223372036854775807 := hG30.pr 77 (Z7 73 ((19 * w24_4) + w29_5))
                              refine JlaldL (z := Z30 77 (Z7 73 ((19 * w24_4) + w29_5))) hx30 (show mx_Sn _ _ 113 (mx_lald 114) from sn_245 113) a77 s77 (by omega) rfl ?_
                              refine mx_J.step (sn_245 114) (fun _ _ => rfl) ?_
                              refine JgetR (g := 35) (b := 76) hx30 (show mx_Sn _ _ 115 (mx_getf 12 35 118) from sn_245 115) a56 s56 rfl rfl (hG30.prr 56 35 rfl) ?_
                              refine mx_J.step (sn_245 118) (fun _ _ => rfl) ?_
                              refine JlaldL (z := Z12 76 w24_4) hx30 (show mx_Sn _ _ 120 (mx_lald 121) from sn_245 120) a76 s76 (by omega) ((hf30 76 w24_4 rfl).trans (hf25 76 w24_4 rfl)) ?_
                              refine JladdN (show mx_Sn _ _ 121 (mx_ladd 122) from sn_245 121) (fun y45 hy45 hq45 => ?_)
                              refine JlastL hx30 (show mx_Sn _ _ 122 (mx_last 1 123) from sn_245 122) a77 s77 rfl (by omega) (fun Z46 h46 hx46 hE46 => ?_)
                              have hG46 := GI_up hG30 hE46 (show (-9223372036854775808) ≤ y45 ∧ y45 ≤ 9223372036854775807 by omega) trivial rfl
                              exact c123 Z46 h46 hx46 hG46 (fr_tr (M := [(77, (-1))]) fr_rf (fr_ua hE46) (M1 := []) rfl rfl)
                    exact c59 (Int.toNat (19 - 0) + 1) 0 Z25 h25 (by omega) (by omega) hx25 hG25 fr_rf
              exact c47 (Int.toNat (385 - 0) + 1) 0 u11_5 Z12 h12 (by omega) (by omega) hx12 hG12 fr_rf
        exact c39 (Int.toNat (9 - 0) + 1) 0 none none Z10 h10 (by omega) (by omega) hx10 hG10 fr_rf
      · skip
        exact c25 
theorem ct_245_56 {l : Launch} {D : va_G} {b0 : Nat} {ad : Nat → Nat} {Hb : Heap} {tau : Nat → Int64} {d n s : Nat} {S : Nat → xS} {Z : xZ} {h : mx_H} (hx : XH n s S Z h) (hG : GI n S Z)  {x0 x1 : Int} (p0 : (-2147483648) ≤ x0 ∧ x0 ≤ 2147483647) (p1 : (-2147483648) ≤ x1 ∧ x1 ≤ 2147483647) : ∃ (z : Int) (Z' : xZ) (h' : mx_H), mx_Ca (tB l D b0 ad Hb tau) (d + 7) 245 [.ref 56, xI x0, xI x1] h (some (xL z), h') ∧ XH n s S Z' h' ∧ GI n S Z' ∧ fr' [(56, 0), (62, (-1)), (64, (-1)), (65, (-1)), (73, (-1)), (76, (-1)), (77, (-1))] Z Z' ∧ ((-9223372036854775808) ≤ z ∧ z ≤ 9223372036854775807) := by
  obtain ⟨r, hca, z, Z', h', e, q⟩ := Jmt (B := tB l D b0 ad Hb tau) (M := mt_245) (mi := 245) (as := [.ref 56, xI x0, xI x1]) (d := d + 6) (ls := [some (.ref 56), some (xI x0), some (xI x1), none, none, none]) rfl rfl rfl rfl rfl rfl (cw_245_56 (l := l) (D := D) (b0 := b0) (ad := ad) (Hb := Hb) (tau := tau) (d := d) (Post := fun r => ∃ (z : Int) (Z' : xZ) (h' : mx_H), r = (some (xL z), h') ∧ XH n s S Z' h' ∧ GI n S Z' ∧ fr' [(56, 0), (62, (-1)), (64, (-1)), (65, (-1)), (73, (-1)), (76, (-1)), (77, (-1))] Z Z' ∧ ((-9223372036854775808) ≤ z ∧ z ≤ 9223372036854775807)) hx hG p0 p1 (fun z Z' h' q1 q2 q3 q4 => ⟨z, Z', h', rfl, q1, q2, q3, q4⟩))
  subst e; exact ⟨z, Z', h', hca, q⟩
