set_option maxHeartbeats 8000000 in
set_option maxRecDepth 100000 in
theorem cw_174_56_s {l : Launch} {D : va_G} {b0 : Nat} {ad : Nat → Nat} {Hb : Heap} {tau : Nat → Int64} {d n s : Nat} {S : Nat → xS} {Z : xZ} {h : mx_H} {Post : mx_R → Prop} {a0 : Int} (hx : XH n s S Z h) (hG : GI n S Z)  {x0 : Int} (p0 : 0 ≤ x0 ∧ x0 ≤ 6) (k0 : (Z 56 6 ≤ Z 56 7 ∧ Z 56 7 ≤ Z 56 8 ∧ (Z 56 9 = 24 ∨ Z 56 6 < Z 56 7))) (k1 : Z 60 61 ≤ Z 56 6) (k2 : a0 ≤ Z 60 61) (k3 : 0 ≤ a0) {kk : Nat} (IH : RBmh l D b0 ad Hb tau kk x0) (hd : kk ≤ d) (hP : ∀ (Z' : xZ) (h' : mx_H), XH n s S Z' h' → GI n S Z' → fr' [(56, 6), (56, 7), (56, 9), (56, 10), (56, 11), (56, 12), (60, (-1))] Z Z' → QR Z Z' a0 1 0 ∧ ((Z' 56 6 ≤ Z' 56 7 ∧ Z' 56 7 ≤ Z 56 8 ∧ (Z' 56 9 = 24 ∨ Z' 56 6 < Z' 56 7)) ∧ Z' 60 1 = Z 60 1 ∧ Z' 60 2 = Z 60 2 ∧ Z 56 6 ≤ Z' 56 6 ∧ Z 60 61 ≤ Z' 60 61 ∧ Z' 60 61 - Z 60 61 ≤ Z' 56 6 - Z 56 6) → Post (none, h')) : mx_J (tB l D b0 ad Hb tau) mt_174 (d + 10) 0 [some (.ref 56), some (xI x0), none] [] h Post := by
    have a56 : 56 < n := lt83 (GI_n hG) rfl
    have s56 : S 56 = .inl (12, [0, 2, 2, 2, 2, 0, 0, 0, 0, 0, 0, 0, 0, 0, 0, 2, 2, 2, 0, 2, 2, 2, 0, 0, 2, 2, 2, 2, 2, 2, 0, 0, 2, 2, 2, 2, 2, 2, 2, 2, 2, 2]) := GI_s hG 56 rfl
    refine mx_J.step (sn_174 0) (fun _ _ => rfl) ?_
    refine mx_J.step (sn_174 1) (fun _ _ => rfl) ?_
    have b2 : 0 ≤ Z 56 6 ∧ Z 56 6 ≤ 900 := hG.pr 56 6
    have b3 : 0 ≤ Z 56 7 ∧ Z 56 7 ≤ 900 := hG.pr 56 7
    have b4 : 0 ≤ Z 56 8 ∧ Z 56 8 ≤ 900 := hG.pr 56 8
    have b5 : 0 ≤ Z 56 9 ∧ Z 56 9 ≤ 100 := hG.pr 56 9
    have b6 : 0 ≤ Z 56 11 ∧ Z 56 11 ≤ 4 := hG.pr 56 11
    have b7 : 0 ≤ Z 60 61 ∧ Z 60 61 ≤ 900 := by have hq := GI_ex hG 60 61; replace hq : f60 (61 % 962) (Z 60 61) := hq; unfold f60 at hq; omega
    have b8 : (-2147483648) ≤ Z 60 61 ∧ Z 60 61 ≤ 2147483647 := hG.pr 60 61
    have b9 : 0 ≤ Z 60 1 ∧ Z 60 1 ≤ 18 := by have hq := GI_ex hG 60 1; replace hq : f60 (1 % 962) (Z 60 1) := hq; unfold f60 at hq; omega
    have b10 : (-2147483648) ≤ Z 60 1 ∧ Z 60 1 ≤ 2147483647 := hG.pr 60 1
    have b11 : 0 ≤ Z 60 2 ∧ Z 60 2 ≤ 18 := by have hq := GI_ex hG 60 2; replace hq : f60 (2 % 962) (Z 60 2) := hq; unfold f60 at hq; omega
    have b12 : (-2147483648) ≤ Z 60 2 ∧ Z 60 2 ≤ 2147483647 := hG.pr 60 2
    obtain ⟨Z1, h1, hc1, hx1, hG1, hf1, b1⟩ := ct_173_56_s (a0 := a0) (d := d + 0) (l := l) (D := D) (b0 := b0) (ad := ad) (Hb := Hb) (tau := tau) hx hG (show 0 ≤ x0 ∧ x0 ≤ 6 by omega) (show (Z 56 6 ≤ Z 56 7 ∧ Z 56 7 ≤ Z 56 8 ∧ (Z 56 9 = 24 ∨ Z 56 6 < Z 56 7)) by omega) (show Z 60 61 ≤ Z 56 6 by omega) (show a0 ≤ Z 60 61 by omega) (show 0 ≤ a0 by omega) IH (by omega)
    obtain ⟨bq1, b1⟩ := b1
    have b13 : 0 ≤ Z1 56 6 ∧ Z1 56 6 ≤ 900 := hG1.pr 56 6
    have b14 : 0 ≤ Z1 56 7 ∧ Z1 56 7 ≤ 900 := hG1.pr 56 7
    have b15 : 0 ≤ Z1 56 9 ∧ Z1 56 9 ≤ 100 := hG1.pr 56 9
    have b16 : 0 ≤ Z1 56 11 ∧ Z1 56 11 ≤ 4 := hG1.pr 56 11
    have b17 : 0 ≤ Z1 60 61 ∧ Z1 60 61 ≤ 900 := by have hq := GI_ex hG1 60 61; replace hq : f60 (61 % 962) (Z1 60 61) := hq; unfold f60 at hq; omega
    have b18 : (-2147483648) ≤ Z1 60 61 ∧ Z1 60 61 ≤ 2147483647 := hG1.pr 60 61
    have b19 : 0 ≤ Z1 60 1 ∧ Z1 60 1 ≤ 18 := by have hq := GI_ex hG1 60 1; replace hq : f60 (1 % 962) (Z1 60 1) := hq; unfold f60 at hq; omega
    have b20 : (-2147483648) ≤ Z1 60 1 ∧ Z1 60 1 ≤ 2147483647 := hG1.pr 60 1
    have b21 : 0 ≤ Z1 60 2 ∧ Z1 60 2 ≤ 18 := by have hq := GI_ex hG1 60 2; replace hq : f60 (2 % 962) (Z1 60 2) := hq; unfold f60 at hq; omega
    have b22 : (-2147483648) ≤ Z1 60 2 ∧ Z1 60 2 ≤ 2147483647 := hG1.pr 60 2
    have r1 := QR_tr (d := 1) (c := 0) (QR_rf (Z := Z) (a := a0)) bq1 (by decide) (by decide) (by decide)
    refine Jcv0 hx (show mx_Sn _ _ 2 (mx_callv 173 2 12 5) from sn_174 2) a56 s56 hc1 rfl rfl rfl ?_
    have c5 : ∀ (m23 : Nat) (u23_2 : Option Value) (Z24 : xZ) (h24 : mx_H), (((Z 56 8 - Z24 56 6).toNat : Nat) : Int) < (m23 : Int) → (Z24 56 6 ≤ Z24 56 7 ∧ Z24 56 7 ≤ Z 56 8) → (Z24 56 9 = 24 ∨ Z24 56 6 < Z24 56 7) → (Z 56 6 ≤ Z24 56 6 ∧ Z 60 61 ≤ Z24 60 61 ∧ Z24 60 61 - Z 60 61 ≤ Z24 56 6 - Z 56 6) → (Z24 60 1 = Z 60 1 ∧ Z24 60 2 = Z 60 2) → QR Z Z24 a0 1 0 → XH n s S Z24 h24 → GI n S Z24 → fr' [(56, 6), (56, 7), (56, 9), (56, 10), (56, 11), (56, 12), (60, (-1))] Z1 Z24 → mx_J (tB l D b0 ad Hb tau) mt_174 (d + 10) 5 [some (.ref 56), some (xI x0), u23_2] [] h24 Post := by
      intro m23
      induction m23 with
      | zero => intro u23_2 Z24 h24 q23 f23_0 f23_1 f23_2 f23_3 f23_4 hx24 hG24 hf24; exact absurd q23 (by omega)
      | succ m23 ih23 =>
        intro u23_2 Z24 h24 q23 f23_0 f23_1 f23_2 f23_3 f23_4 hx24 hG24 hf24
        have b25 : 0 ≤ Z24 56 6 ∧ Z24 56 6 ≤ 900 := hG24.pr 56 6
        have b26 : 0 ≤ Z24 56 7 ∧ Z24 56 7 ≤ 900 := hG24.pr 56 7
        have b27 : 0 ≤ Z24 56 6 ∧ Z24 56 6 ≤ 900 := hG24.pr 56 6
        have b28 : 0 ≤ Z24 56 7 ∧ Z24 56 7 ≤ 900 := hG24.pr 56 7
        have b29 : 0 ≤ Z24 56 9 ∧ Z24 56 9 ≤ 100 := hG24.pr 56 9
        have b30 : 0 ≤ Z24 56 6 ∧ Z24 56 6 ≤ 900 := hG24.pr 56 6
        have b31 : 0 ≤ Z24 60 61 ∧ Z24 60 61 ≤ 900 := by have hq := GI_ex hG24 60 61; replace hq : f60 (61 % 962) (Z24 60 61) := hq; unfold f60 at hq; omega
        have b32 : (-2147483648) ≤ Z24 60 61 ∧ Z24 60 61 ≤ 2147483647 := hG24.pr 60 61
        have b33 : 0 ≤ Z24 60 1 ∧ Z24 60 1 ≤ 18 := by have hq := GI_ex hG24 60 1; replace hq : f60 (1 % 962) (Z24 60 1) := hq; unfold f60 at hq; omega
        have b34 : (-2147483648) ≤ Z24 60 1 ∧ Z24 60 1 ≤ 2147483647 := hG24.pr 60 1
        have b35 : 0 ≤ Z24 60 2 ∧ Z24 60 2 ≤ 18 := by have hq := GI_ex hG24 60 2; replace hq : f60 (2 % 962) (Z24 60 2) := hq; unfold f60 at hq; omega
        have b36 : (-2147483648) ≤ Z24 60 2 ∧ Z24 60 2 ≤ 2147483647 := hG24.pr 60 2
        have b37 : 0 ≤ Z24 56 6 ∧ Z24 56 6 ≤ 900 := hG24.pr 56 6
        refine mx_J.step (sn_174 5) (fun _ _ => rfl) ?_
        refine JcI (z := 32) (show mx_Sn _ _ 6 (mx_const (.int 32) 8) from sn_174 6) rfl ?_
        have b39 : 0 ≤ Z24 56 9 ∧ Z24 56 9 ≤ 100 := hG24.pr 56 9
        have b40 : 0 ≤ Z24 56 11 ∧ Z24 56 11 ≤ 4 := hG24.pr 56 11
        obtain ⟨z38, hc38, b38⟩ := ct_164_56 (d := d + 9) (l := l) (D := D) (b0 := b0) (ad := ad) (Hb := Hb) (tau := tau) hx24 hG24 (show 0 ≤ 32 ∧ 32 ≤ 100 by omega)
        refine Jcv hx24 (show mx_Sn _ _ 8 (mx_callv 164 2 12 11) from sn_174 8) a56 s56 hc38 rfl rfl rfl ?_
        have c23 : (Z24 56 11 = 0 ∧ (Z24 56 9 = 32 ∨ Z24 56 9 = 33)) → mx_J (tB l D b0 ad Hb tau) mt_174 (d + 10) 23 [some (.ref 56), some (xI x0), u23_2] [] h24 Post := by
          intro f41_0
          refine mx_J.step (sn_174 23) (fun _ _ => rfl) ?_
          have b43 : 0 ≤ Z24 56 9 ∧ Z24 56 9 ≤ 100 := hG24.pr 56 9
          refine JgetI (g := 9) (z := Z24 56 9) hx24 (show mx_Sn _ _ 24 (mx_getf 12 9 27) from sn_174 24) a56 s56 rfl rfl rfl ?_
          refine JcI (z := 32) (show mx_Sn _ _ 27 (mx_const (.int 32) 29) from sn_174 27) rfl ?_
          have c41 : ∀ (k44_0 : Int), 3000 ≤ k44_0 ∧ k44_0 ≤ 3001 → mx_J (tB l D b0 ad Hb tau) mt_174 (d + 10) 41 [some (.ref 56), some (xI x0), u23_2] [xI k44_0] h24 Post := by
            intro k44_0 f44_0
            refine mx_J.step (ls2 := [some (.ref 56), some (xI x0), some (xI k44_0)]) (sn_174 41) (fun _ _ => rfl) ?_
            refine mx_J.step (sn_174 42) (fun _ _ => rfl) ?_
            have b46 : 0 ≤ Z24 56 7 ∧ Z24 56 7 ≤ 900 := hG24.pr 56 7
            have eq47 : Z24 56 8 = Z 56 8 := ((hf24 56 8 rfl).trans (hf1 56 8 rfl))
            have b48 : 0 ≤ Z 56 8 ∧ Z 56 8 ≤ 900 := hG.pr 56 8
            obtain ⟨Z45, h45, hc45, hx45, hG45, hf45, b45⟩ := ct_162_56 (d := d + 4) (l := l) (D := D) (b0 := b0) (ad := ad) (Hb := Hb) (tau := tau) hx24 hG24  (show Z24 56 7 ≤ Z24 56 8 by first | omega | (simp only [eq47]; omega))
            try rw [eq47] at b45
            have b49 : 0 ≤ Z45 56 6 ∧ Z45 56 6 ≤ 900 := hG45.pr 56 6
            have b50 : 0 ≤ Z45 56 7 ∧ Z45 56 7 ≤ 900 := hG45.pr 56 7
            have b51 : 0 ≤ Z45 56 9 ∧ Z45 56 9 ≤ 100 := hG45.pr 56 9
            have b52 : 0 ≤ Z24 56 6 ∧ Z24 56 6 ≤ 900 := hG24.pr 56 6
            have b53 : 0 ≤ Z24 56 11 ∧ Z24 56 11 ≤ 4 := hG24.pr 56 11
            have b54 : 0 ≤ Z24 56 9 ∧ Z24 56 9 ≤ 100 := hG24.pr 56 9
            have r45 := QR_g (k := 1) (c2 := 1) f23_4 (fun e => (hf45 56 11 rfl).symm.trans e) (fun i => hf45 60 i rfl) (fun e => by omega) (by decide)
            refine Jcv0 hx24 (show mx_Sn _ _ 43 (mx_callv 162 1 12 46) from sn_174 43) a56 s56 hc45 rfl rfl rfl ?_
            refine mx_J.step (sn_174 46) (fun _ _ => rfl) ?_
            refine mx_J.step (sn_174 47) (fun _ _ => rfl) ?_
            have b56 : 0 ≤ Z45 56 6 ∧ Z45 56 6 ≤ 900 := hG45.pr 56 6
            have b57 : 0 ≤ Z45 56 7 ∧ Z45 56 7 ≤ 900 := hG45.pr 56 7
            have eq58 : Z45 56 8 = Z 56 8 := ((hf45 56 8 rfl).trans ((hf24 56 8 rfl).trans (hf1 56 8 rfl)))
            have b59 : 0 ≤ Z 56 8 ∧ Z 56 8 ≤ 900 := hG.pr 56 8
            have b60 : 0 ≤ Z45 56 9 ∧ Z45 56 9 ≤ 100 := hG45.pr 56 9
            have eq61 : Z45 56 11 = Z24 56 11 := (hf45 56 11 rfl)
            have b62 : 0 ≤ Z24 56 11 ∧ Z24 56 11 ≤ 4 := hG24.pr 56 11
            have eq63 : Z45 60 61 = Z24 60 61 := (hf45 60 61 rfl)
            have b64 : 0 ≤ Z24 60 61 ∧ Z24 60 61 ≤ 900 := by have hq := GI_ex hG24 60 61; replace hq : f60 (61 % 962) (Z24 60 61) := hq; unfold f60 at hq; omega
            have b65 : (-2147483648) ≤ Z24 60 61 ∧ Z24 60 61 ≤ 2147483647 := hG24.pr 60 61
            have eq66 : Z45 60 1 = Z24 60 1 := (hf45 60 1 rfl)
            have b67 : 0 ≤ Z24 60 1 ∧ Z24 60 1 ≤ 18 := by have hq := GI_ex hG24 60 1; replace hq : f60 (1 % 962) (Z24 60 1) := hq; unfold f60 at hq; omega
            have b68 : (-2147483648) ≤ Z24 60 1 ∧ Z24 60 1 ≤ 2147483647 := hG24.pr 60 1
            have eq69 : Z45 60 2 = Z24 60 2 := (hf45 60 2 rfl)
            have b70 : 0 ≤ Z24 60 2 ∧ Z24 60 2 ≤ 18 := by have hq := GI_ex hG24 60 2; replace hq : f60 (2 % 962) (Z24 60 2) := hq; unfold f60 at hq; omega
            have b71 : (-2147483648) ≤ Z24 60 2 ∧ Z24 60 2 ≤ 2147483647 := hG24.pr 60 2
            obtain ⟨Z55, h55, hc55, hx55, hG55, hf55, b55⟩ := ct_173_56_s (a0 := a0) (d := d + 0) (l := l) (D := D) (b0 := b0) (ad := ad) (Hb := Hb) (tau := tau) hx45 hG45 (show 0 ≤ x0 ∧ x0 ≤ 6 by omega) (show (Z45 56 6 ≤ Z45 56 7 ∧ Z45 56 7 ≤ Z45 56 8 ∧ (Z45 56 9 = 24 ∨ Z45 56 6 < Z45 56 7)) by first | omega | (simp only [eq58, eq61, eq63, eq66, eq69]; omega)) (show Z45 60 61 ≤ Z45 56 6 by first | omega | (simp only [eq58, eq61, eq63, eq66, eq69]; omega)) (show a0 ≤ Z45 60 61 by first | omega | (simp only [eq58, eq61, eq63, eq66, eq69]; omega)) (show 0 ≤ a0 by first | omega | (simp only [eq58, eq61, eq63, eq66, eq69]; omega)) IH (by omega)
            try rw [eq58] at b55
            try rw [eq61] at b55
            try rw [eq63] at b55
            try rw [eq66] at b55
            try rw [eq69] at b55
            obtain ⟨bq55, b55⟩ := b55
            have b72 : 0 ≤ Z55 56 6 ∧ Z55 56 6 ≤ 900 := hG55.pr 56 6
            have b73 : 0 ≤ Z55 56 7 ∧ Z55 56 7 ≤ 900 := hG55.pr 56 7
            have b74 : 0 ≤ Z55 56 9 ∧ Z55 56 9 ≤ 100 := hG55.pr 56 9
            have b75 : 0 ≤ Z55 56 11 ∧ Z55 56 11 ≤ 4 := hG55.pr 56 11
            have b76 : 0 ≤ Z55 60 61 ∧ Z55 60 61 ≤ 900 := by have hq := GI_ex hG55 60 61; replace hq : f60 (61 % 962) (Z55 60 61) := hq; unfold f60 at hq; omega
            have b77 : (-2147483648) ≤ Z55 60 61 ∧ Z55 60 61 ≤ 2147483647 := hG55.pr 60 61
            have b78 : 0 ≤ Z55 60 1 ∧ Z55 60 1 ≤ 18 := by have hq := GI_ex hG55 60 1; replace hq : f60 (1 % 962) (Z55 60 1) := hq; unfold f60 at hq; omega
            have b79 : (-2147483648) ≤ Z55 60 1 ∧ Z55 60 1 ≤ 2147483647 := hG55.pr 60 1
            have b80 : 0 ≤ Z55 60 2 ∧ Z55 60 2 ≤ 18 := by have hq := GI_ex hG55 60 2; replace hq : f60 (2 % 962) (Z55 60 2) := hq; unfold f60 at hq; omega
            have b81 : (-2147483648) ≤ Z55 60 2 ∧ Z55 60 2 ≤ 2147483647 := hG55.pr 60 2
            have r55 := QR_tr (d := 2) (c := 1) r45 bq55 (by decide) (by decide) (by decide)
            refine Jcv0 hx45 (show mx_Sn _ _ 48 (mx_callv 173 2 12 51) from sn_174 48) a56 s56 hc55 rfl rfl rfl ?_
            refine mx_J.step (sn_174 51) (fun _ _ => rfl) ?_
            refine mx_J.step (sn_174 52) (fun _ _ => rfl) ?_
            have eq83 : Z55 56 8 = Z 56 8 := ((hf55 56 8 rfl).trans ((hf45 56 8 rfl).trans ((hf24 56 8 rfl).trans (hf1 56 8 rfl))))
            have b84 : 0 ≤ Z 56 8 ∧ Z 56 8 ≤ 900 := hG.pr 56 8
            have b85 : 0 ≤ Z55 56 11 ∧ Z55 56 11 ≤ 4 := hG55.pr 56 11
            have b86 : 0 ≤ Z55 60 61 ∧ Z55 60 61 ≤ 900 := by have hq := GI_ex hG55 60 61; replace hq : f60 (61 % 962) (Z55 60 61) := hq; unfold f60 at hq; omega
            have b87 : (-2147483648) ≤ Z55 60 61 ∧ Z55 60 61 ≤ 2147483647 := hG55.pr 60 61
            have b88 : 0 ≤ Z55 60 1 ∧ Z55 60 1 ≤ 18 := by have hq := GI_ex hG55 60 1; replace hq : f60 (1 % 962) (Z55 60 1) := hq; unfold f60 at hq; omega
            have b89 : (-2147483648) ≤ Z55 60 1 ∧ Z55 60 1 ≤ 2147483647 := hG55.pr 60 1
            have b90 : 0 ≤ Z55 60 2 ∧ Z55 60 2 ≤ 18 := by have hq := GI_ex hG55 60 2; replace hq : f60 (2 % 962) (Z55 60 2) := hq; unfold f60 at hq; omega
            have b91 : (-2147483648) ≤ Z55 60 2 ∧ Z55 60 2 ≤ 2147483647 := hG55.pr 60 2
            have rp82 := QR_n r55
            obtain ⟨Z82, h82, hc82, hx82, hG82, hf82, b82⟩ := ct_169_56_3000 (a0 := a0) (d := d + 9) (l := l) (D := D) (b0 := b0) (ad := ad) (Hb := Hb) (tau := tau) hx55 hG55 (show 3000 ≤ k44_0 ∧ k44_0 ≤ 3005 by omega) (show (Z55 56 11 = 0 → Z55 60 61 ≤ 899) by first | omega | (simp only [eq83]; omega)) (show a0 ≤ Z55 60 61 by first | omega | (simp only [eq83]; omega)) (show 0 ≤ a0 by first | omega | (simp only [eq83]; omega))
            try rw [eq83] at b82
            obtain ⟨bq82, b82⟩ := b82
            have b92 : 0 ≤ Z82 60 61 ∧ Z82 60 61 ≤ 900 := by have hq := GI_ex hG82 60 61; replace hq : f60 (61 % 962) (Z82 60 61) := hq; unfold f60 at hq; omega
            have b93 : (-2147483648) ≤ Z82 60 61 ∧ Z82 60 61 ≤ 2147483647 := hG82.pr 60 61
            have b94 : 0 ≤ Z82 60 1 ∧ Z82 60 1 ≤ 18 := by have hq := GI_ex hG82 60 1; replace hq : f60 (1 % 962) (Z82 60 1) := hq; unfold f60 at hq; omega
            have b95 : (-2147483648) ≤ Z82 60 1 ∧ Z82 60 1 ≤ 2147483647 := hG82.pr 60 1
            have b96 : 0 ≤ Z82 60 2 ∧ Z82 60 2 ≤ 18 := by have hq := GI_ex hG82 60 2; replace hq : f60 (2 % 962) (Z82 60 2) := hq; unfold f60 at hq; omega
            have b97 : (-2147483648) ≤ Z82 60 2 ∧ Z82 60 2 ≤ 2147483647 := hG82.pr 60 2
            have rn82 := QR_n r55
            have r82 := QR_c (d2 := 1) (c2 := 0) r55 bq82 (by omega) (hf82 56 11 rfl) (hf82 56 6 rfl) (by decide) (by decide) (by decide)
            refine Jcv0 hx55 (show mx_Sn _ _ 53 (mx_callv 169 2 12 56) from sn_174 53) a56 s56 hc82 rfl rfl rfl ?_
            refine mx_J.step (sn_174 56) (fun _ _ => rfl) ?_
            have eq98 : Z82 56 6 = Z55 56 6 := (hf82 56 6 rfl)
            have b99 : 0 ≤ Z55 56 6 ∧ Z55 56 6 ≤ 900 := hG55.pr 56 6
            have eq100 : Z82 56 7 = Z55 56 7 := (hf82 56 7 rfl)
            have b101 : 0 ≤ Z55 56 7 ∧ Z55 56 7 ≤ 900 := hG55.pr 56 7
            have eq102 : Z82 56 6 = Z55 56 6 := (hf82 56 6 rfl)
            have b103 : 0 ≤ Z55 56 6 ∧ Z55 56 6 ≤ 900 := hG55.pr 56 6
            have eq104 : Z82 56 7 = Z55 56 7 := (hf82 56 7 rfl)
            have b105 : 0 ≤ Z55 56 7 ∧ Z55 56 7 ≤ 900 := hG55.pr 56 7
            have eq106 : Z82 56 9 = Z55 56 9 := (hf82 56 9 rfl)
            have b107 : 0 ≤ Z55 56 9 ∧ Z55 56 9 ≤ 100 := hG55.pr 56 9
            have eq108 : Z82 56 6 = Z55 56 6 := (hf82 56 6 rfl)
            have b109 : 0 ≤ Z55 56 6 ∧ Z55 56 6 ≤ 900 := hG55.pr 56 6
            have b110 : 0 ≤ Z82 60 61 ∧ Z82 60 61 ≤ 900 := by have hq := GI_ex hG82 60 61; replace hq : f60 (61 % 962) (Z82 60 61) := hq; unfold f60 at hq; omega
            have b111 : (-2147483648) ≤ Z82 60 61 ∧ Z82 60 61 ≤ 2147483647 := hG82.pr 60 61
            have b112 : 0 ≤ Z82 60 1 ∧ Z82 60 1 ≤ 18 := by have hq := GI_ex hG82 60 1; replace hq : f60 (1 % 962) (Z82 60 1) := hq; unfold f60 at hq; omega
            have b113 : (-2147483648) ≤ Z82 60 1 ∧ Z82 60 1 ≤ 2147483647 := hG82.pr 60 1
            have b114 : 0 ≤ Z82 60 2 ∧ Z82 60 2 ≤ 18 := by have hq := GI_ex hG82 60 2; replace hq : f60 (2 % 962) (Z82 60 2) := hq; unfold f60 at hq; omega
            have b115 : (-2147483648) ≤ Z82 60 2 ∧ Z82 60 2 ≤ 2147483647 := hG82.pr 60 2
            have eq116 : Z82 56 6 = Z55 56 6 := (hf82 56 6 rfl)
            have b117 : 0 ≤ Z55 56 6 ∧ Z55 56 6 ≤ 900 := hG55.pr 56 6
            exact ih23 (some (xI k44_0)) Z82 h82 (by omega) (by omega) (by omega) (by omega) (by omega) (QR_le r82 (by decide)) hx82 hG82 (fr_tr (M := [(56, 6), (56, 7), (56, 9), (56, 10), (56, 11), (56, 12), (60, (-1))]) (fr_tr (M := [(56, 6), (56, 7), (56, 9), (56, 10), (56, 11), (56, 12), (60, (-1))]) (fr_tr (M := [(56, 6), (56, 7), (56, 9), (56, 10), (56, 11), (56, 12), (60, (-1))]) (fr_tr (M := [(56, 6), (56, 7), (56, 9), (56, 10), (56, 11), (56, 12), (60, (-1))]) fr_rf (hf24) (M1 := []) rfl rfl) (hf45) rfl rfl) (hf55) rfl rfl) (hf82) rfl rfl)
          refine Jicmp_ne (show mx_Sn _ _ 29 (mx_icmp_ne 38 32) from sn_174 29) (by omega) (by omega) (fun q118 => ?_) (fun q118 => ?_)
          · skip
            refine JcI (z := 3001) (show mx_Sn _ _ 38 (mx_const (.int 3001) 41) from sn_174 38) rfl ?_
            exact c41 3001 (by omega)
          · skip
            refine JcI (z := 3000) (show mx_Sn _ _ 32 (mx_const (.int 3000) 35) from sn_174 32) rfl ?_
            refine mx_J.step (sn_174 35) (fun _ _ => rfl) ?_
            exact c41 3000 (by omega)
        refine Jif_ne (show mx_Sn _ _ 11 (mx_if_ne 23 14) from sn_174 11) (by omega) (fun q119 => ?_) (fun q119 => ?_)
        · skip
          exact c23 (by omega)
        · skip
          refine mx_J.step (sn_174 14) (fun _ _ => rfl) ?_
          refine JcI (z := 33) (show mx_Sn _ _ 15 (mx_const (.int 33) 17) from sn_174 15) rfl ?_
          have b121 : 0 ≤ Z24 56 9 ∧ Z24 56 9 ≤ 100 := hG24.pr 56 9
          have b122 : 0 ≤ Z24 56 11 ∧ Z24 56 11 ≤ 4 := hG24.pr 56 11
          obtain ⟨z120, hc120, b120⟩ := ct_164_56 (d := d + 9) (l := l) (D := D) (b0 := b0) (ad := ad) (Hb := Hb) (tau := tau) hx24 hG24 (show 0 ≤ 33 ∧ 33 ≤ 100 by omega)
          refine Jcv hx24 (show mx_Sn _ _ 17 (mx_callv 164 2 12 20) from sn_174 17) a56 s56 hc120 rfl rfl rfl ?_
          refine Jif_eq (show mx_Sn _ _ 20 (mx_if_eq 59 23) from sn_174 20) (by omega) (fun q123 => ?_) (fun q123 => ?_)
          · skip
            have b124 : 0 ≤ Z24 56 6 ∧ Z24 56 6 ≤ 900 := hG24.pr 56 6
            have b125 : 0 ≤ Z24 56 7 ∧ Z24 56 7 ≤ 900 := hG24.pr 56 7
            have b126 : 0 ≤ Z24 56 9 ∧ Z24 56 9 ≤ 100 := hG24.pr 56 9
            have b127 : 0 ≤ Z24 56 11 ∧ Z24 56 11 ≤ 4 := hG24.pr 56 11
            have b128 : 0 ≤ Z24 60 61 ∧ Z24 60 61 ≤ 900 := by have hq := GI_ex hG24 60 61; replace hq : f60 (61 % 962) (Z24 60 61) := hq; unfold f60 at hq; omega
            have b129 : (-2147483648) ≤ Z24 60 61 ∧ Z24 60 61 ≤ 2147483647 := hG24.pr 60 61
            have b130 : 0 ≤ Z24 60 1 ∧ Z24 60 1 ≤ 18 := by have hq := GI_ex hG24 60 1; replace hq : f60 (1 % 962) (Z24 60 1) := hq; unfold f60 at hq; omega
            have b131 : (-2147483648) ≤ Z24 60 1 ∧ Z24 60 1 ≤ 2147483647 := hG24.pr 60 1
            have b132 : 0 ≤ Z24 60 2 ∧ Z24 60 2 ≤ 18 := by have hq := GI_ex hG24 60 2; replace hq : f60 (2 % 962) (Z24 60 2) := hq; unfold f60 at hq; omega
            have b133 : (-2147483648) ≤ Z24 60 2 ∧ Z24 60 2 ≤ 2147483647 := hG24.pr 60 2
            have b134 : 0 ≤ Z24 56 6 ∧ Z24 56 6 ≤ 900 := hG24.pr 56 6
            have b135 : 0 ≤ Z24 56 7 ∧ Z24 56 7 ≤ 900 := hG24.pr 56 7
            have eq136 : Z24 56 8 = Z 56 8 := ((hf24 56 8 rfl).trans (hf1 56 8 rfl))
            have b137 : 0 ≤ Z 56 8 ∧ Z 56 8 ≤ 900 := hG.pr 56 8
            have b138 : 0 ≤ Z24 56 9 ∧ Z24 56 9 ≤ 100 := hG24.pr 56 9
            have b139 : 0 ≤ Z24 56 11 ∧ Z24 56 11 ≤ 4 := hG24.pr 56 11
            have b140 : 0 ≤ Z24 60 61 ∧ Z24 60 61 ≤ 900 := by have hq := GI_ex hG24 60 61; replace hq : f60 (61 % 962) (Z24 60 61) := hq; unfold f60 at hq; omega
            have b141 : (-2147483648) ≤ Z24 60 61 ∧ Z24 60 61 ≤ 2147483647 := hG24.pr 60 61
            have b142 : 0 ≤ Z24 60 1 ∧ Z24 60 1 ≤ 18 := by have hq := GI_ex hG24 60 1; replace hq : f60 (1 % 962) (Z24 60 1) := hq; unfold f60 at hq; omega
            have b143 : (-2147483648) ≤ Z24 60 1 ∧ Z24 60 1 ≤ 2147483647 := hG24.pr 60 1
            have b144 : 0 ≤ Z24 60 2 ∧ Z24 60 2 ≤ 18 := by have hq := GI_ex hG24 60 2; replace hq : f60 (2 % 962) (Z24 60 2) := hq; unfold f60 at hq; omega
            have b145 : (-2147483648) ≤ Z24 60 2 ∧ Z24 60 2 ≤ 2147483647 := hG24.pr 60 2
            exact mx_J.ret (sn_174 59) (fun _ _ => rfl) (hP Z24 h24 hx24 hG24 (fr_tr (M := [(56, 6), (56, 7), (56, 9), (56, 10), (56, 11), (56, 12), (60, (-1))]) (fr_tr (M := [(56, 6), (56, 7), (56, 9), (56, 10), (56, 11), (56, 12), (60, (-1))]) fr_rf (hf1) (M1 := []) rfl rfl) (hf24) rfl rfl) ⟨(QR_le f23_4 (by decide)), by omega⟩)
          · skip
            exact c23 (by omega)
    have b146 : 0 ≤ Z1 56 6 ∧ Z1 56 6 ≤ 900 := hG1.pr 56 6
    have b147 : 0 ≤ Z1 56 7 ∧ Z1 56 7 ≤ 900 := hG1.pr 56 7
    have b148 : 0 ≤ Z1 56 6 ∧ Z1 56 6 ≤ 900 := hG1.pr 56 6
    have b149 : 0 ≤ Z1 56 7 ∧ Z1 56 7 ≤ 900 := hG1.pr 56 7
    have b150 : 0 ≤ Z1 56 9 ∧ Z1 56 9 ≤ 100 := hG1.pr 56 9
    have b151 : 0 ≤ Z1 56 6 ∧ Z1 56 6 ≤ 900 := hG1.pr 56 6
    have b152 : 0 ≤ Z1 60 61 ∧ Z1 60 61 ≤ 900 := by have hq := GI_ex hG1 60 61; replace hq : f60 (61 % 962) (Z1 60 61) := hq; unfold f60 at hq; omega
    have b153 : (-2147483648) ≤ Z1 60 61 ∧ Z1 60 61 ≤ 2147483647 := hG1.pr 60 61
    have b154 : 0 ≤ Z1 60 1 ∧ Z1 60 1 ≤ 18 := by have hq := GI_ex hG1 60 1; replace hq : f60 (1 % 962) (Z1 60 1) := hq; unfold f60 at hq; omega
    have b155 : (-2147483648) ≤ Z1 60 1 ∧ Z1 60 1 ≤ 2147483647 := hG1.pr 60 1
    have b156 : 0 ≤ Z1 60 2 ∧ Z1 60 2 ≤ 18 := by have hq := GI_ex hG1 60 2; replace hq : f60 (2 % 962) (Z1 60 2) := hq; unfold f60 at hq; omega
    have b157 : (-2147483648) ≤ Z1 60 2 ∧ Z1 60 2 ≤ 2147483647 := hG1.pr 60 2
    have b158 : 0 ≤ Z1 56 6 ∧ Z1 56 6 ≤ 900 := hG1.pr 56 6
    exact c5 (Int.toNat ((((Z 56 8 - Z1 56 6).toNat : Nat) : Int)) + 1) none Z1 h1 (by omega) (by omega) (by omega) (by omega) (by omega) (QR_le r1 (by decide)) hx1 hG1 fr_rf
theorem ct_174_56_s {l : Launch} {D : va_G} {b0 : Nat} {ad : Nat → Nat} {Hb : Heap} {tau : Nat → Int64} {d n s : Nat} {S : Nat → xS} {Z : xZ} {h : mx_H} {a0 : Int} (hx : XH n s S Z h) (hG : GI n S Z)  {x0 : Int} (p0 : 0 ≤ x0 ∧ x0 ≤ 6) (k0 : (Z 56 6 ≤ Z 56 7 ∧ Z 56 7 ≤ Z 56 8 ∧ (Z 56 9 = 24 ∨ Z 56 6 < Z 56 7))) (k1 : Z 60 61 ≤ Z 56 6) (k2 : a0 ≤ Z 60 61) (k3 : 0 ≤ a0) {kk : Nat} (IH : RBmh l D b0 ad Hb tau kk x0) (hd : kk ≤ d) : ∃ (Z' : xZ) (h' : mx_H), mx_Ca (tB l D b0 ad Hb tau) (d + 11) 174 [.ref 56, xI x0] h (none, h') ∧ XH n s S Z' h' ∧ GI n S Z' ∧ fr' [(56, 6), (56, 7), (56, 9), (56, 10), (56, 11), (56, 12), (60, (-1))] Z Z' ∧ (QR Z Z' a0 1 0 ∧ ((Z' 56 6 ≤ Z' 56 7 ∧ Z' 56 7 ≤ Z 56 8 ∧ (Z' 56 9 = 24 ∨ Z' 56 6 < Z' 56 7)) ∧ Z' 60 1 = Z 60 1 ∧ Z' 60 2 = Z 60 2 ∧ Z 56 6 ≤ Z' 56 6 ∧ Z 60 61 ≤ Z' 60 61 ∧ Z' 60 61 - Z 60 61 ≤ Z' 56 6 - Z 56 6)) := by
  obtain ⟨r, hca, Z', h', e, q⟩ := Jmt (B := tB l D b0 ad Hb tau) (M := mt_174) (mi := 174) (as := [.ref 56, xI x0]) (d := d + 10) (ls := [some (.ref 56), some (xI x0), none]) rfl rfl rfl rfl rfl rfl (cw_174_56_s (l := l) (D := D) (b0 := b0) (ad := ad) (Hb := Hb) (tau := tau) (d := d) (Post := fun r => ∃ (Z' : xZ) (h' : mx_H), r = (none, h') ∧ XH n s S Z' h' ∧ GI n S Z' ∧ fr' [(56, 6), (56, 7), (56, 9), (56, 10), (56, 11), (56, 12), (60, (-1))] Z Z' ∧ (QR Z Z' a0 1 0 ∧ ((Z' 56 6 ≤ Z' 56 7 ∧ Z' 56 7 ≤ Z 56 8 ∧ (Z' 56 9 = 24 ∨ Z' 56 6 < Z' 56 7)) ∧ Z' 60 1 = Z 60 1 ∧ Z' 60 2 = Z 60 2 ∧ Z 56 6 ≤ Z' 56 6 ∧ Z 60 61 ≤ Z' 60 61 ∧ Z' 60 61 - Z 60 61 ≤ Z' 56 6 - Z 56 6))) hx hG p0 k0 k1 k2 k3 IH hd (fun Z' h' q1 q2 q3 q4 => ⟨Z', h', rfl, q1, q2, q3, q4⟩))
  subst e; exact ⟨Z', h', hca, q⟩
set_option maxHeartbeats 8000000 in
set_option maxRecDepth 100000 in
theorem cw_175_56_s {l : Launch} {D : va_G} {b0 : Nat} {ad : Nat → Nat} {Hb : Heap} {tau : Nat → Int64} {d n s : Nat} {S : Nat → xS} {Z : xZ} {h : mx_H} {Post : mx_R → Prop} {a0 : Int} (hx : XH n s S Z h) (hG : GI n S Z)  {x0 : Int} (p0 : 0 ≤ x0 ∧ x0 ≤ 6) (k0 : (Z 56 6 ≤ Z 56 7 ∧ Z 56 7 ≤ Z 56 8 ∧ (Z 56 9 = 24 ∨ Z 56 6 < Z 56 7))) (k1 : Z 60 61 ≤ Z 56 6) (k2 : a0 ≤ Z 60 61) (k3 : 0 ≤ a0) {kk : Nat} (IH : RBmh l D b0 ad Hb tau kk x0) (hd : kk ≤ d) (hP : ∀ (Z' : xZ) (h' : mx_H), XH n s S Z' h' → GI n S Z' → fr' [(56, 6), (56, 7), (56, 9), (56, 10), (56, 11), (56, 12), (60, (-1))] Z Z' → QR Z Z' a0 1 0 ∧ ((Z' 56 6 ≤ Z' 56 7 ∧ Z' 56 7 ≤ Z 56 8 ∧ (Z' 56 9 = 24 ∨ Z' 56 6 < Z' 56 7)) ∧ Z' 60 1 = Z 60 1 ∧ Z' 60 2 = Z 60 2 ∧ Z 56 6 ≤ Z' 56 6 ∧ Z 60 61 ≤ Z' 60 61 ∧ Z' 60 61 - Z 60 61 ≤ Z' 56 6 - Z 56 6) → Post (none, h')) : mx_J (tB l D b0 ad Hb tau) mt_175 (d + 11) 0 [some (.ref 56), some (xI x0), none] [] h Post := by
    have a56 : 56 < n := lt83 (GI_n hG) rfl
    have s56 : S 56 = .inl (12, [0, 2, 2, 2, 2, 0, 0, 0, 0, 0, 0, 0, 0, 0, 0, 2, 2, 2, 0, 2, 2, 2, 0, 0, 2, 2, 2, 2, 2, 2, 0, 0, 2, 2, 2, 2, 2, 2, 2, 2, 2, 2]) := GI_s hG 56 rfl
    refine mx_J.step (sn_175 0) (fun _ _ => rfl) ?_
    refine JcI (z := 15) (show mx_Sn _ _ 1 (mx_const (.int 15) 3) from sn_175 1) rfl ?_
    have b2 : 0 ≤ Z 56 9 ∧ Z 56 9 ≤ 100 := hG.pr 56 9
    have b3 : 0 ≤ Z 56 11 ∧ Z 56 11 ≤ 4 := hG.pr 56 11
    obtain ⟨z1, hc1, b1⟩ := ct_164_56 (d := d + 10) (l := l) (D := D) (b0 := b0) (ad := ad) (Hb := Hb) (tau := tau) hx hG (show 0 ≤ 15 ∧ 15 ≤ 100 by omega)
    refine Jcv hx (show mx_Sn _ _ 3 (mx_callv 164 2 12 6) from sn_175 3) a56 s56 hc1 rfl rfl rfl ?_
    refine Jif_eq (show mx_Sn _ _ 6 (mx_if_eq 33 9) from sn_175 6) (by omega) (fun q4 => ?_) (fun q4 => ?_)
    · skip
      refine mx_J.step (sn_175 33) (fun _ _ => rfl) ?_
      refine JcI (z := 37) (show mx_Sn _ _ 34 (mx_const (.int 37) 36) from sn_175 34) rfl ?_
      have b6 : 0 ≤ Z 56 9 ∧ Z 56 9 ≤ 100 := hG.pr 56 9
      have b7 : 0 ≤ Z 56 11 ∧ Z 56 11 ≤ 4 := hG.pr 56 11
      obtain ⟨z5, hc5, b5⟩ := ct_164_56 (d := d + 10) (l := l) (D := D) (b0 := b0) (ad := ad) (Hb := Hb) (tau := tau) hx hG (show 0 ≤ 37 ∧ 37 ≤ 100 by omega)
      refine Jcv hx (show mx_Sn _ _ 36 (mx_callv 164 2 12 39) from sn_175 36) a56 s56 hc5 rfl rfl rfl ?_
      refine Jif_eq (show mx_Sn _ _ 39 (mx_if_eq 73 42) from sn_175 39) (by omega) (fun q8 => ?_) (fun q8 => ?_)
      · skip
        refine mx_J.step (sn_175 73) (fun _ _ => rfl) ?_
        refine mx_J.step (sn_175 74) (fun _ _ => rfl) ?_
        have b10 : 0 ≤ Z 56 6 ∧ Z 56 6 ≤ 900 := hG.pr 56 6
        have b11 : 0 ≤ Z 56 7 ∧ Z 56 7 ≤ 900 := hG.pr 56 7
        have b12 : 0 ≤ Z 56 8 ∧ Z 56 8 ≤ 900 := hG.pr 56 8
        have b13 : 0 ≤ Z 56 9 ∧ Z 56 9 ≤ 100 := hG.pr 56 9
        have b14 : 0 ≤ Z 56 11 ∧ Z 56 11 ≤ 4 := hG.pr 56 11
        have b15 : 0 ≤ Z 60 61 ∧ Z 60 61 ≤ 900 := by have hq := GI_ex hG 60 61; replace hq : f60 (61 % 962) (Z 60 61) := hq; unfold f60 at hq; omega
        have b16 : (-2147483648) ≤ Z 60 61 ∧ Z 60 61 ≤ 2147483647 := hG.pr 60 61
        have b17 : 0 ≤ Z 60 1 ∧ Z 60 1 ≤ 18 := by have hq := GI_ex hG 60 1; replace hq : f60 (1 % 962) (Z 60 1) := hq; unfold f60 at hq; omega
        have b18 : (-2147483648) ≤ Z 60 1 ∧ Z 60 1 ≤ 2147483647 := hG.pr 60 1
        have b19 : 0 ≤ Z 60 2 ∧ Z 60 2 ≤ 18 := by have hq := GI_ex hG 60 2; replace hq : f60 (2 % 962) (Z 60 2) := hq; unfold f60 at hq; omega
        have b20 : (-2147483648) ≤ Z 60 2 ∧ Z 60 2 ≤ 2147483647 := hG.pr 60 2
        obtain ⟨Z9, h9, hc9, hx9, hG9, hf9, b9⟩ := ct_174_56_s (a0 := a0) (d := d + 0) (l := l) (D := D) (b0 := b0) (ad := ad) (Hb := Hb) (tau := tau) hx hG (show 0 ≤ x0 ∧ x0 ≤ 6 by omega) (show (Z 56 6 ≤ Z 56 7 ∧ Z 56 7 ≤ Z 56 8 ∧ (Z 56 9 = 24 ∨ Z 56 6 < Z 56 7)) by omega) (show Z 60 61 ≤ Z 56 6 by omega) (show a0 ≤ Z 60 61 by omega) (show 0 ≤ a0 by omega) IH (by omega)
        obtain ⟨bq9, b9⟩ := b9
        have b21 : 0 ≤ Z9 56 6 ∧ Z9 56 6 ≤ 900 := hG9.pr 56 6
        have b22 : 0 ≤ Z9 56 7 ∧ Z9 56 7 ≤ 900 := hG9.pr 56 7
        have b23 : 0 ≤ Z9 56 9 ∧ Z9 56 9 ≤ 100 := hG9.pr 56 9
        have b24 : 0 ≤ Z9 56 11 ∧ Z9 56 11 ≤ 4 := hG9.pr 56 11
        have b25 : 0 ≤ Z9 60 61 ∧ Z9 60 61 ≤ 900 := by have hq := GI_ex hG9 60 61; replace hq : f60 (61 % 962) (Z9 60 61) := hq; unfold f60 at hq; omega
        have b26 : (-2147483648) ≤ Z9 60 61 ∧ Z9 60 61 ≤ 2147483647 := hG9.pr 60 61
        have b27 : 0 ≤ Z9 60 1 ∧ Z9 60 1 ≤ 18 := by have hq := GI_ex hG9 60 1; replace hq : f60 (1 % 962) (Z9 60 1) := hq; unfold f60 at hq; omega
        have b28 : (-2147483648) ≤ Z9 60 1 ∧ Z9 60 1 ≤ 2147483647 := hG9.pr 60 1
        have b29 : 0 ≤ Z9 60 2 ∧ Z9 60 2 ≤ 18 := by have hq := GI_ex hG9 60 2; replace hq : f60 (2 % 962) (Z9 60 2) := hq; unfold f60 at hq; omega
        have b30 : (-2147483648) ≤ Z9 60 2 ∧ Z9 60 2 ≤ 2147483647 := hG9.pr 60 2
        have r9 := QR_tr (d := 1) (c := 0) (QR_rf (Z := Z) (a := a0)) bq9 (by decide) (by decide) (by decide)
        refine Jcv0 hx (show mx_Sn _ _ 75 (mx_callv 174 2 12 78) from sn_175 75) a56 s56 hc9 rfl rfl rfl ?_
        refine mx_J.step (sn_175 78) (fun _ _ => rfl) ?_
        refine JcI (z := 39) (show mx_Sn _ _ 79 (mx_const (.int 39) 81) from sn_175 79) rfl ?_
        have b32 : 0 ≤ Z9 56 9 ∧ Z9 56 9 ≤ 100 := hG9.pr 56 9
        have b33 : 0 ≤ Z9 56 11 ∧ Z9 56 11 ≤ 4 := hG9.pr 56 11
        obtain ⟨z31, hc31, b31⟩ := ct_164_56 (d := d + 10) (l := l) (D := D) (b0 := b0) (ad := ad) (Hb := Hb) (tau := tau) hx9 hG9 (show 0 ≤ 39 ∧ 39 ≤ 100 by omega)
        refine Jcv hx9 (show mx_Sn _ _ 81 (mx_callv 164 2 12 84) from sn_175 81) a56 s56 hc31 rfl rfl rfl ?_
        have c111 : ∀ (k34_0 : Int), 3003 ≤ k34_0 ∧ k34_0 ≤ 3005 → mx_J (tB l D b0 ad Hb tau) mt_175 (d + 11) 111 [some (.ref 56), some (xI x0), none] [xI k34_0] h9 Post := by
          intro k34_0 f34_0
          refine mx_J.step (ls2 := [some (.ref 56), some (xI x0), some (xI k34_0)]) (sn_175 111) (fun _ _ => rfl) ?_
          refine mx_J.step (sn_175 112) (fun _ _ => rfl) ?_
          refine JcI (z := 39) (show mx_Sn _ _ 113 (mx_const (.int 39) 115) from sn_175 113) rfl ?_
          have b36 : 0 ≤ Z9 56 9 ∧ Z9 56 9 ≤ 100 := hG9.pr 56 9
          have b37 : 0 ≤ Z9 56 11 ∧ Z9 56 11 ≤ 4 := hG9.pr 56 11
          obtain ⟨z35, hc35, b35⟩ := ct_164_56 (d := d + 10) (l := l) (D := D) (b0 := b0) (ad := ad) (Hb := Hb) (tau := tau) hx9 hG9 (show 0 ≤ 39 ∧ 39 ≤ 100 by omega)
          refine Jcv hx9 (show mx_Sn _ _ 115 (mx_callv 164 2 12 118) from sn_175 115) a56 s56 hc35 rfl rfl rfl ?_
          have c151 : ∀  (Z39 : xZ) (h39 : mx_H), (Z39 56 6 ≤ Z39 56 7 ∧ Z39 56 7 ≤ Z 56 8) → (Z39 56 9 = 24 ∨ Z39 56 6 < Z39 56 7) → (Z 56 6 ≤ Z39 56 6 ∧ Z 60 61 ≤ Z39 60 61 ∧ Z39 60 61 - Z 60 61 ≤ Z39 56 6 - Z 56 6) → (Z39 60 1 = Z 60 1 ∧ Z39 60 2 = Z 60 2) → QR Z Z39 a0 1 1 → XH n s S Z39 h39 → GI n S Z39 → fr' [(56, 6), (56, 7), (56, 9), (56, 10), (56, 11), (56, 12)] Z9 Z39 → mx_J (tB l D b0 ad Hb tau) mt_175 (d + 11) 151 [some (.ref 56), some (xI x0), some (xI k34_0)] [] h39 Post := by
            intro Z39 h39 f38_0 f38_1 f38_2 f38_3 f38_4 hx39 hG39 hf39
            have b40 : 0 ≤ Z39 56 6 ∧ Z39 56 6 ≤ 900 := hG39.pr 56 6
            have b41 : 0 ≤ Z39 56 7 ∧ Z39 56 7 ≤ 900 := hG39.pr 56 7
            have b42 : 0 ≤ Z39 56 6 ∧ Z39 56 6 ≤ 900 := hG39.pr 56 6
            have b43 : 0 ≤ Z39 56 7 ∧ Z39 56 7 ≤ 900 := hG39.pr 56 7
            have b44 : 0 ≤ Z39 56 9 ∧ Z39 56 9 ≤ 100 := hG39.pr 56 9
            have b45 : 0 ≤ Z39 56 6 ∧ Z39 56 6 ≤ 900 := hG39.pr 56 6
            have eq46 : Z39 60 61 = Z9 60 61 := (hf39 60 61 rfl)
            have b47 : 0 ≤ Z9 60 61 ∧ Z9 60 61 ≤ 900 := by have hq := GI_ex hG9 60 61; replace hq : f60 (61 % 962) (Z9 60 61) := hq; unfold f60 at hq; omega
            have b48 : (-2147483648) ≤ Z9 60 61 ∧ Z9 60 61 ≤ 2147483647 := hG9.pr 60 61
            have eq49 : Z39 60 1 = Z9 60 1 := (hf39 60 1 rfl)
            have b50 : 0 ≤ Z9 60 1 ∧ Z9 60 1 ≤ 18 := by have hq := GI_ex hG9 60 1; replace hq : f60 (1 % 962) (Z9 60 1) := hq; unfold f60 at hq; omega
            have b51 : (-2147483648) ≤ Z9 60 1 ∧ Z9 60 1 ≤ 2147483647 := hG9.pr 60 1
            have eq52 : Z39 60 2 = Z9 60 2 := (hf39 60 2 rfl)
            have b53 : 0 ≤ Z9 60 2 ∧ Z9 60 2 ≤ 18 := by have hq := GI_ex hG9 60 2; replace hq : f60 (2 % 962) (Z9 60 2) := hq; unfold f60 at hq; omega
            have b54 : (-2147483648) ≤ Z9 60 2 ∧ Z9 60 2 ≤ 2147483647 := hG9.pr 60 2
            refine mx_J.step (sn_175 151) (fun _ _ => rfl) ?_
            refine mx_J.step (sn_175 152) (fun _ _ => rfl) ?_
            have b56 : 0 ≤ Z39 56 6 ∧ Z39 56 6 ≤ 900 := hG39.pr 56 6
            have b57 : 0 ≤ Z39 56 7 ∧ Z39 56 7 ≤ 900 := hG39.pr 56 7
            have eq58 : Z39 56 8 = Z 56 8 := ((hf39 56 8 rfl).trans (hf9 56 8 rfl))
            have b59 : 0 ≤ Z 56 8 ∧ Z 56 8 ≤ 900 := hG.pr 56 8
            have b60 : 0 ≤ Z39 56 9 ∧ Z39 56 9 ≤ 100 := hG39.pr 56 9
            have b61 : 0 ≤ Z39 56 11 ∧ Z39 56 11 ≤ 4 := hG39.pr 56 11
            have eq62 : Z39 60 61 = Z9 60 61 := (hf39 60 61 rfl)
            have b63 : 0 ≤ Z9 60 61 ∧ Z9 60 61 ≤ 900 := by have hq := GI_ex hG9 60 61; replace hq : f60 (61 % 962) (Z9 60 61) := hq; unfold f60 at hq; omega
            have b64 : (-2147483648) ≤ Z9 60 61 ∧ Z9 60 61 ≤ 2147483647 := hG9.pr 60 61
            have eq65 : Z39 60 1 = Z9 60 1 := (hf39 60 1 rfl)
            have b66 : 0 ≤ Z9 60 1 ∧ Z9 60 1 ≤ 18 := by have hq := GI_ex hG9 60 1; replace hq : f60 (1 % 962) (Z9 60 1) := hq; unfold f60 at hq; omega
            have b67 : (-2147483648) ≤ Z9 60 1 ∧ Z9 60 1 ≤ 2147483647 := hG9.pr 60 1
            have eq68 : Z39 60 2 = Z9 60 2 := (hf39 60 2 rfl)
            have b69 : 0 ≤ Z9 60 2 ∧ Z9 60 2 ≤ 18 := by have hq := GI_ex hG9 60 2; replace hq : f60 (2 % 962) (Z9 60 2) := hq; unfold f60 at hq; omega
            have b70 : (-2147483648) ≤ Z9 60 2 ∧ Z9 60 2 ≤ 2147483647 := hG9.pr 60 2
            obtain ⟨Z55, h55, hc55, hx55, hG55, hf55, b55⟩ := ct_174_56_s (a0 := a0) (d := d + 0) (l := l) (D := D) (b0 := b0) (ad := ad) (Hb := Hb) (tau := tau) hx39 hG39 (show 0 ≤ x0 ∧ x0 ≤ 6 by omega) (show (Z39 56 6 ≤ Z39 56 7 ∧ Z39 56 7 ≤ Z39 56 8 ∧ (Z39 56 9 = 24 ∨ Z39 56 6 < Z39 56 7)) by first | omega | (simp only [eq58, eq62, eq65, eq68]; omega)) (show Z39 60 61 ≤ Z39 56 6 by first | omega | (simp only [eq58, eq62, eq65, eq68]; omega)) (show a0 ≤ Z39 60 61 by first | omega | (simp only [eq58, eq62, eq65, eq68]; omega)) (show 0 ≤ a0 by first | omega | (simp only [eq58, eq62, eq65, eq68]; omega)) IH (by omega)
            try rw [eq58] at b55
            try rw [eq62] at b55
            try rw [eq65] at b55
            try rw [eq68] at b55
            obtain ⟨bq55, b55⟩ := b55
            have b71 : 0 ≤ Z55 56 6 ∧ Z55 56 6 ≤ 900 := hG55.pr 56 6
            have b72 : 0 ≤ Z55 56 7 ∧ Z55 56 7 ≤ 900 := hG55.pr 56 7
            have b73 : 0 ≤ Z55 56 9 ∧ Z55 56 9 ≤ 100 := hG55.pr 56 9
            have b74 : 0 ≤ Z55 56 11 ∧ Z55 56 11 ≤ 4 := hG55.pr 56 11
            have b75 : 0 ≤ Z55 60 61 ∧ Z55 60 61 ≤ 900 := by have hq := GI_ex hG55 60 61; replace hq : f60 (61 % 962) (Z55 60 61) := hq; unfold f60 at hq; omega
            have b76 : (-2147483648) ≤ Z55 60 61 ∧ Z55 60 61 ≤ 2147483647 := hG55.pr 60 61
            have b77 : 0 ≤ Z55 60 1 ∧ Z55 60 1 ≤ 18 := by have hq := GI_ex hG55 60 1; replace hq : f60 (1 % 962) (Z55 60 1) := hq; unfold f60 at hq; omega
            have b78 : (-2147483648) ≤ Z55 60 1 ∧ Z55 60 1 ≤ 2147483647 := hG55.pr 60 1
            have b79 : 0 ≤ Z55 60 2 ∧ Z55 60 2 ≤ 18 := by have hq := GI_ex hG55 60 2; replace hq : f60 (2 % 962) (Z55 60 2) := hq; unfold f60 at hq; omega
            have b80 : (-2147483648) ≤ Z55 60 2 ∧ Z55 60 2 ≤ 2147483647 := hG55.pr 60 2
            have r55 := QR_tr (d := 2) (c := 1) f38_4 bq55 (by decide) (by decide) (by decide)
            refine Jcv0 hx39 (show mx_Sn _ _ 153 (mx_callv 174 2 12 156) from sn_175 153) a56 s56 hc55 rfl rfl rfl ?_
            refine mx_J.step (sn_175 156) (fun _ _ => rfl) ?_
            refine mx_J.step (sn_175 157) (fun _ _ => rfl) ?_
            have eq82 : Z55 56 8 = Z 56 8 := ((hf55 56 8 rfl).trans ((hf39 56 8 rfl).trans (hf9 56 8 rfl)))
            have b83 : 0 ≤ Z 56 8 ∧ Z 56 8 ≤ 900 := hG.pr 56 8
            have b84 : 0 ≤ Z55 56 11 ∧ Z55 56 11 ≤ 4 := hG55.pr 56 11
            have b85 : 0 ≤ Z55 60 61 ∧ Z55 60 61 ≤ 900 := by have hq := GI_ex hG55 60 61; replace hq : f60 (61 % 962) (Z55 60 61) := hq; unfold f60 at hq; omega
            have b86 : (-2147483648) ≤ Z55 60 61 ∧ Z55 60 61 ≤ 2147483647 := hG55.pr 60 61
            have b87 : 0 ≤ Z55 60 1 ∧ Z55 60 1 ≤ 18 := by have hq := GI_ex hG55 60 1; replace hq : f60 (1 % 962) (Z55 60 1) := hq; unfold f60 at hq; omega
            have b88 : (-2147483648) ≤ Z55 60 1 ∧ Z55 60 1 ≤ 2147483647 := hG55.pr 60 1
            have b89 : 0 ≤ Z55 60 2 ∧ Z55 60 2 ≤ 18 := by have hq := GI_ex hG55 60 2; replace hq : f60 (2 % 962) (Z55 60 2) := hq; unfold f60 at hq; omega
            have b90 : (-2147483648) ≤ Z55 60 2 ∧ Z55 60 2 ≤ 2147483647 := hG55.pr 60 2
            have rp81 := QR_n r55
            obtain ⟨Z81, h81, hc81, hx81, hG81, hf81, b81⟩ := ct_169_56_3000 (a0 := a0) (d := d + 10) (l := l) (D := D) (b0 := b0) (ad := ad) (Hb := Hb) (tau := tau) hx55 hG55 (show 3000 ≤ k34_0 ∧ k34_0 ≤ 3005 by omega) (show (Z55 56 11 = 0 → Z55 60 61 ≤ 899) by first | omega | (simp only [eq82]; omega)) (show a0 ≤ Z55 60 61 by first | omega | (simp only [eq82]; omega)) (show 0 ≤ a0 by first | omega | (simp only [eq82]; omega))
            try rw [eq82] at b81
            obtain ⟨bq81, b81⟩ := b81
            have b91 : 0 ≤ Z81 60 61 ∧ Z81 60 61 ≤ 900 := by have hq := GI_ex hG81 60 61; replace hq : f60 (61 % 962) (Z81 60 61) := hq; unfold f60 at hq; omega
            have b92 : (-2147483648) ≤ Z81 60 61 ∧ Z81 60 61 ≤ 2147483647 := hG81.pr 60 61
            have b93 : 0 ≤ Z81 60 1 ∧ Z81 60 1 ≤ 18 := by have hq := GI_ex hG81 60 1; replace hq : f60 (1 % 962) (Z81 60 1) := hq; unfold f60 at hq; omega
            have b94 : (-2147483648) ≤ Z81 60 1 ∧ Z81 60 1 ≤ 2147483647 := hG81.pr 60 1
            have b95 : 0 ≤ Z81 60 2 ∧ Z81 60 2 ≤ 18 := by have hq := GI_ex hG81 60 2; replace hq : f60 (2 % 962) (Z81 60 2) := hq; unfold f60 at hq; omega
            have b96 : (-2147483648) ≤ Z81 60 2 ∧ Z81 60 2 ≤ 2147483647 := hG81.pr 60 2
            have rn81 := QR_n r55
            have r81 := QR_c (d2 := 1) (c2 := 0) r55 bq81 (by omega) (hf81 56 11 rfl) (hf81 56 6 rfl) (by decide) (by decide) (by decide)
            refine Jcv0 hx55 (show mx_Sn _ _ 158 (mx_callv 169 2 12 161) from sn_175 158) a56 s56 hc81 rfl rfl rfl ?_
            have eq97 : Z81 56 6 = Z55 56 6 := (hf81 56 6 rfl)
            have b98 : 0 ≤ Z55 56 6 ∧ Z55 56 6 ≤ 900 := hG55.pr 56 6
            have eq99 : Z81 56 7 = Z55 56 7 := (hf81 56 7 rfl)
            have b100 : 0 ≤ Z55 56 7 ∧ Z55 56 7 ≤ 900 := hG55.pr 56 7
            have eq101 : Z81 56 9 = Z55 56 9 := (hf81 56 9 rfl)
            have b102 : 0 ≤ Z55 56 9 ∧ Z55 56 9 ≤ 100 := hG55.pr 56 9
            have eq103 : Z81 56 11 = Z55 56 11 := (hf81 56 11 rfl)
            have b104 : 0 ≤ Z55 56 11 ∧ Z55 56 11 ≤ 4 := hG55.pr 56 11
            have b105 : 0 ≤ Z81 60 61 ∧ Z81 60 61 ≤ 900 := by have hq := GI_ex hG81 60 61; replace hq : f60 (61 % 962) (Z81 60 61) := hq; unfold f60 at hq; omega
            have b106 : (-2147483648) ≤ Z81 60 61 ∧ Z81 60 61 ≤ 2147483647 := hG81.pr 60 61
            have b107 : 0 ≤ Z81 60 1 ∧ Z81 60 1 ≤ 18 := by have hq := GI_ex hG81 60 1; replace hq : f60 (1 % 962) (Z81 60 1) := hq; unfold f60 at hq; omega
            have b108 : (-2147483648) ≤ Z81 60 1 ∧ Z81 60 1 ≤ 2147483647 := hG81.pr 60 1
            have b109 : 0 ≤ Z81 60 2 ∧ Z81 60 2 ≤ 18 := by have hq := GI_ex hG81 60 2; replace hq : f60 (2 % 962) (Z81 60 2) := hq; unfold f60 at hq; omega
            have b110 : (-2147483648) ≤ Z81 60 2 ∧ Z81 60 2 ≤ 2147483647 := hG81.pr 60 2
            have eq111 : Z81 56 6 = Z55 56 6 := (hf81 56 6 rfl)
            have b112 : 0 ≤ Z55 56 6 ∧ Z55 56 6 ≤ 900 := hG55.pr 56 6
            have eq113 : Z81 56 7 = Z55 56 7 := (hf81 56 7 rfl)
            have b114 : 0 ≤ Z55 56 7 ∧ Z55 56 7 ≤ 900 := hG55.pr 56 7
            have eq115 : Z81 56 8 = Z 56 8 := ((hf81 56 8 rfl).trans ((hf55 56 8 rfl).trans ((hf39 56 8 rfl).trans (hf9 56 8 rfl))))
            have b116 : 0 ≤ Z 56 8 ∧ Z 56 8 ≤ 900 := hG.pr 56 8
            have eq117 : Z81 56 9 = Z55 56 9 := (hf81 56 9 rfl)
            have b118 : 0 ≤ Z55 56 9 ∧ Z55 56 9 ≤ 100 := hG55.pr 56 9
            have eq119 : Z81 56 11 = Z55 56 11 := (hf81 56 11 rfl)
            have b120 : 0 ≤ Z55 56 11 ∧ Z55 56 11 ≤ 4 := hG55.pr 56 11
            have b121 : 0 ≤ Z81 60 61 ∧ Z81 60 61 ≤ 900 := by have hq := GI_ex hG81 60 61; replace hq : f60 (61 % 962) (Z81 60 61) := hq; unfold f60 at hq; omega
            have b122 : (-2147483648) ≤ Z81 60 61 ∧ Z81 60 61 ≤ 2147483647 := hG81.pr 60 61
            have b123 : 0 ≤ Z81 60 1 ∧ Z81 60 1 ≤ 18 := by have hq := GI_ex hG81 60 1; replace hq : f60 (1 % 962) (Z81 60 1) := hq; unfold f60 at hq; omega
            have b124 : (-2147483648) ≤ Z81 60 1 ∧ Z81 60 1 ≤ 2147483647 := hG81.pr 60 1
            have b125 : 0 ≤ Z81 60 2 ∧ Z81 60 2 ≤ 18 := by have hq := GI_ex hG81 60 2; replace hq : f60 (2 % 962) (Z81 60 2) := hq; unfold f60 at hq; omega
            have b126 : (-2147483648) ≤ Z81 60 2 ∧ Z81 60 2 ≤ 2147483647 := hG81.pr 60 2
            exact mx_J.ret (sn_175 161) (fun _ _ => rfl) (hP Z81 h81 hx81 hG81 (fr_tr (M := [(56, 6), (56, 7), (56, 9), (56, 10), (56, 11), (56, 12), (60, (-1))]) (fr_tr (M := [(56, 6), (56, 7), (56, 9), (56, 10), (56, 11), (56, 12), (60, (-1))]) (fr_tr (M := [(56, 6), (56, 7), (56, 9), (56, 10), (56, 11), (56, 12), (60, (-1))]) (fr_tr (M := [(56, 6), (56, 7), (56, 9), (56, 10), (56, 11), (56, 12), (60, (-1))]) fr_rf (hf9) (M1 := []) rfl rfl) (hf39) rfl rfl) (hf55) rfl rfl) (hf81) rfl rfl) ⟨(QR_le r81 (by decide)), by omega⟩)
          have c139 : (Z9 56 11 = 0 ∧ (Z9 56 9 = 39 ∨ Z9 56 9 = 40 ∨ Z9 56 9 = 41)) → mx_J (tB l D b0 ad Hb tau) mt_175 (d + 11) 139 [some (.ref 56), some (xI x0), some (xI k34_0)] [] h9 Post := by
            intro f127_0
            refine mx_J.step (sn_175 139) (fun _ _ => rfl) ?_
            have b129 : 0 ≤ Z9 56 7 ∧ Z9 56 7 ≤ 900 := hG9.pr 56 7
            have eq130 : Z9 56 8 = Z 56 8 := (hf9 56 8 rfl)
            have b131 : 0 ≤ Z 56 8 ∧ Z 56 8 ≤ 900 := hG.pr 56 8
            obtain ⟨Z128, h128, hc128, hx128, hG128, hf128, b128⟩ := ct_162_56 (d := d + 5) (l := l) (D := D) (b0 := b0) (ad := ad) (Hb := Hb) (tau := tau) hx9 hG9  (show Z9 56 7 ≤ Z9 56 8 by first | omega | (simp only [eq130]; omega))
            try rw [eq130] at b128
            have b132 : 0 ≤ Z128 56 6 ∧ Z128 56 6 ≤ 900 := hG128.pr 56 6
            have b133 : 0 ≤ Z128 56 7 ∧ Z128 56 7 ≤ 900 := hG128.pr 56 7
            have b134 : 0 ≤ Z128 56 9 ∧ Z128 56 9 ≤ 100 := hG128.pr 56 9
            have b135 : 0 ≤ Z9 56 6 ∧ Z9 56 6 ≤ 900 := hG9.pr 56 6
            have b136 : 0 ≤ Z9 56 11 ∧ Z9 56 11 ≤ 4 := hG9.pr 56 11
            have b137 : 0 ≤ Z9 56 9 ∧ Z9 56 9 ≤ 100 := hG9.pr 56 9
            have r128 := QR_g (k := 1) (c2 := 1) r9 (fun e => (hf128 56 11 rfl).symm.trans e) (fun i => hf128 60 i rfl) (fun e => by omega) (by decide)
            refine Jcv0 hx9 (show mx_Sn _ _ 140 (mx_callv 162 1 12 143) from sn_175 140) a56 s56 hc128 rfl rfl rfl ?_
            refine mx_J.step (sn_175 143) (fun _ _ => rfl) ?_
            have b138 : 0 ≤ Z128 56 6 ∧ Z128 56 6 ≤ 900 := hG128.pr 56 6
            have b139 : 0 ≤ Z128 56 7 ∧ Z128 56 7 ≤ 900 := hG128.pr 56 7
            have b140 : 0 ≤ Z128 56 6 ∧ Z128 56 6 ≤ 900 := hG128.pr 56 6
            have b141 : 0 ≤ Z128 56 7 ∧ Z128 56 7 ≤ 900 := hG128.pr 56 7
            have b142 : 0 ≤ Z128 56 9 ∧ Z128 56 9 ≤ 100 := hG128.pr 56 9
            have b143 : 0 ≤ Z128 56 6 ∧ Z128 56 6 ≤ 900 := hG128.pr 56 6
            have eq144 : Z128 60 61 = Z9 60 61 := (hf128 60 61 rfl)
            have b145 : 0 ≤ Z9 60 61 ∧ Z9 60 61 ≤ 900 := by have hq := GI_ex hG9 60 61; replace hq : f60 (61 % 962) (Z9 60 61) := hq; unfold f60 at hq; omega
            have b146 : (-2147483648) ≤ Z9 60 61 ∧ Z9 60 61 ≤ 2147483647 := hG9.pr 60 61
            have eq147 : Z128 60 1 = Z9 60 1 := (hf128 60 1 rfl)
            have b148 : 0 ≤ Z9 60 1 ∧ Z9 60 1 ≤ 18 := by have hq := GI_ex hG9 60 1; replace hq : f60 (1 % 962) (Z9 60 1) := hq; unfold f60 at hq; omega
            have b149 : (-2147483648) ≤ Z9 60 1 ∧ Z9 60 1 ≤ 2147483647 := hG9.pr 60 1
            have eq150 : Z128 60 2 = Z9 60 2 := (hf128 60 2 rfl)
            have b151 : 0 ≤ Z9 60 2 ∧ Z9 60 2 ≤ 18 := by have hq := GI_ex hG9 60 2; replace hq : f60 (2 % 962) (Z9 60 2) := hq; unfold f60 at hq; omega
            have b152 : (-2147483648) ≤ Z9 60 2 ∧ Z9 60 2 ≤ 2147483647 := hG9.pr 60 2
            exact c151 Z128 h128 (by omega) (by omega) (by omega) (by omega) (QR_le r128 (by decide)) hx128 hG128 (fr_tr (M := [(56, 6), (56, 7), (56, 9), (56, 10), (56, 11), (56, 12)]) fr_rf (hf128) (M1 := []) rfl rfl)
          refine Jif_ne (show mx_Sn _ _ 118 (mx_if_ne 139 121) from sn_175 118) (by omega) (fun q153 => ?_) (fun q153 => ?_)
          · skip
            exact c139 (by omega)
          · skip
            refine mx_J.step (sn_175 121) (fun _ _ => rfl) ?_
            refine JcI (z := 40) (show mx_Sn _ _ 122 (mx_const (.int 40) 124) from sn_175 122) rfl ?_
            have b155 : 0 ≤ Z9 56 9 ∧ Z9 56 9 ≤ 100 := hG9.pr 56 9
            have b156 : 0 ≤ Z9 56 11 ∧ Z9 56 11 ≤ 4 := hG9.pr 56 11
            obtain ⟨z154, hc154, b154⟩ := ct_164_56 (d := d + 10) (l := l) (D := D) (b0 := b0) (ad := ad) (Hb := Hb) (tau := tau) hx9 hG9 (show 0 ≤ 40 ∧ 40 ≤ 100 by omega)
            refine Jcv hx9 (show mx_Sn _ _ 124 (mx_callv 164 2 12 127) from sn_175 124) a56 s56 hc154 rfl rfl rfl ?_
            refine Jif_ne (show mx_Sn _ _ 127 (mx_if_ne 139 130) from sn_175 127) (by omega) (fun q157 => ?_) (fun q157 => ?_)
            · skip
              exact c139 (by omega)
            · skip
              refine mx_J.step (sn_175 130) (fun _ _ => rfl) ?_
              refine JcI (z := 41) (show mx_Sn _ _ 131 (mx_const (.int 41) 133) from sn_175 131) rfl ?_
              have b159 : 0 ≤ Z9 56 9 ∧ Z9 56 9 ≤ 100 := hG9.pr 56 9
              have b160 : 0 ≤ Z9 56 11 ∧ Z9 56 11 ≤ 4 := hG9.pr 56 11
              obtain ⟨z158, hc158, b158⟩ := ct_164_56 (d := d + 10) (l := l) (D := D) (b0 := b0) (ad := ad) (Hb := Hb) (tau := tau) hx9 hG9 (show 0 ≤ 41 ∧ 41 ≤ 100 by omega)
              refine Jcv hx9 (show mx_Sn _ _ 133 (mx_callv 164 2 12 136) from sn_175 133) a56 s56 hc158 rfl rfl rfl ?_
              refine Jif_eq (show mx_Sn _ _ 136 (mx_if_eq 146 139) from sn_175 136) (by omega) (fun q161 => ?_) (fun q161 => ?_)
              · skip
                refine mx_J.step (sn_175 146) (fun _ _ => rfl) ?_
                refine JcI (z := 2) (show mx_Sn _ _ 147 (mx_const (.int 2) 148) from sn_175 147) rfl ?_
                obtain ⟨Z162, h162, hc162, hx162, hG162, hf162, b162⟩ := ct_163_56 (d := d + 10) (l := l) (D := D) (b0 := b0) (ad := ad) (Hb := Hb) (tau := tau) hx9 hG9 (show 1 ≤ 2 ∧ 2 ≤ 4 by omega)
                have b163 : 0 ≤ Z162 56 11 ∧ Z162 56 11 ≤ 4 := hG162.pr 56 11
                have r162 : ¬ Z162 56 11 = 0 := by omega
                refine Jcv0 hx9 (show mx_Sn _ _ 148 (mx_callv 163 2 12 151) from sn_175 148) a56 s56 hc162 rfl rfl rfl ?_
                have eq164 : Z162 56 6 = Z9 56 6 := (hf162 56 6 rfl)
                have b165 : 0 ≤ Z9 56 6 ∧ Z9 56 6 ≤ 900 := hG9.pr 56 6
                have eq166 : Z162 56 7 = Z9 56 7 := (hf162 56 7 rfl)
                have b167 : 0 ≤ Z9 56 7 ∧ Z9 56 7 ≤ 900 := hG9.pr 56 7
                have eq168 : Z162 56 6 = Z9 56 6 := (hf162 56 6 rfl)
                have b169 : 0 ≤ Z9 56 6 ∧ Z9 56 6 ≤ 900 := hG9.pr 56 6
                have eq170 : Z162 56 7 = Z9 56 7 := (hf162 56 7 rfl)
                have b171 : 0 ≤ Z9 56 7 ∧ Z9 56 7 ≤ 900 := hG9.pr 56 7
                have eq172 : Z162 56 9 = Z9 56 9 := (hf162 56 9 rfl)
                have b173 : 0 ≤ Z9 56 9 ∧ Z9 56 9 ≤ 100 := hG9.pr 56 9
                have eq174 : Z162 56 6 = Z9 56 6 := (hf162 56 6 rfl)
                have b175 : 0 ≤ Z9 56 6 ∧ Z9 56 6 ≤ 900 := hG9.pr 56 6
                have eq176 : Z162 60 61 = Z9 60 61 := (hf162 60 61 rfl)
                have b177 : 0 ≤ Z9 60 61 ∧ Z9 60 61 ≤ 900 := by have hq := GI_ex hG9 60 61; replace hq : f60 (61 % 962) (Z9 60 61) := hq; unfold f60 at hq; omega
                have b178 : (-2147483648) ≤ Z9 60 61 ∧ Z9 60 61 ≤ 2147483647 := hG9.pr 60 61
                have eq179 : Z162 60 1 = Z9 60 1 := (hf162 60 1 rfl)
                have b180 : 0 ≤ Z9 60 1 ∧ Z9 60 1 ≤ 18 := by have hq := GI_ex hG9 60 1; replace hq : f60 (1 % 962) (Z9 60 1) := hq; unfold f60 at hq; omega
                have b181 : (-2147483648) ≤ Z9 60 1 ∧ Z9 60 1 ≤ 2147483647 := hG9.pr 60 1
                have eq182 : Z162 60 2 = Z9 60 2 := (hf162 60 2 rfl)
                have b183 : 0 ≤ Z9 60 2 ∧ Z9 60 2 ≤ 18 := by have hq := GI_ex hG9 60 2; replace hq : f60 (2 % 962) (Z9 60 2) := hq; unfold f60 at hq; omega
                have b184 : (-2147483648) ≤ Z9 60 2 ∧ Z9 60 2 ≤ 2147483647 := hG9.pr 60 2
                exact c151 Z162 h162 (by omega) (by omega) (by omega) (by omega) (QR_f r162) hx162 hG162 (fr_tr (M := [(56, 6), (56, 7), (56, 9), (56, 10), (56, 11), (56, 12)]) fr_rf (hf162) (M1 := []) rfl rfl)
              · skip
                exact c139 (by omega)
        refine Jif_eq (show mx_Sn _ _ 84 (mx_if_eq 93 87) from sn_175 84) (by omega) (fun q185 => ?_) (fun q185 => ?_)
        · skip
          refine mx_J.step (sn_175 93) (fun _ _ => rfl) ?_
          refine JcI (z := 40) (show mx_Sn _ _ 94 (mx_const (.int 40) 96) from sn_175 94) rfl ?_
          have b187 : 0 ≤ Z9 56 9 ∧ Z9 56 9 ≤ 100 := hG9.pr 56 9
          have b188 : 0 ≤ Z9 56 11 ∧ Z9 56 11 ≤ 4 := hG9.pr 56 11
          obtain ⟨z186, hc186, b186⟩ := ct_164_56 (d := d + 10) (l := l) (D := D) (b0 := b0) (ad := ad) (Hb := Hb) (tau := tau) hx9 hG9 (show 0 ≤ 40 ∧ 40 ≤ 100 by omega)
          refine Jcv hx9 (show mx_Sn _ _ 96 (mx_callv 164 2 12 99) from sn_175 96) a56 s56 hc186 rfl rfl rfl ?_
          refine Jif_eq (show mx_Sn _ _ 99 (mx_if_eq 108 102) from sn_175 99) (by omega) (fun q189 => ?_) (fun q189 => ?_)
          · skip
            refine JcI (z := 3005) (show mx_Sn _ _ 108 (mx_const (.int 3005) 111) from sn_175 108) rfl ?_
            exact c111 3005 (by omega)
          · skip
            refine JcI (z := 3004) (show mx_Sn _ _ 102 (mx_const (.int 3004) 105) from sn_175 102) rfl ?_
            refine mx_J.step (sn_175 105) (fun _ _ => rfl) ?_
            exact c111 3004 (by omega)
        · skip
          refine JcI (z := 3003) (show mx_Sn _ _ 87 (mx_const (.int 3003) 90) from sn_175 87) rfl ?_
          refine mx_J.step (sn_175 90) (fun _ _ => rfl) ?_
          exact c111 3003 (by omega)
      · skip
        refine mx_J.step (sn_175 42) (fun _ _ => rfl) ?_
        refine mx_J.step (sn_175 43) (fun _ _ => rfl) ?_
        have b191 : 0 ≤ Z 56 6 ∧ Z 56 6 ≤ 900 := hG.pr 56 6
        have b192 : 0 ≤ Z 56 7 ∧ Z 56 7 ≤ 900 := hG.pr 56 7
        have b193 : 0 ≤ Z 56 8 ∧ Z 56 8 ≤ 900 := hG.pr 56 8
        have b194 : 0 ≤ Z 56 9 ∧ Z 56 9 ≤ 100 := hG.pr 56 9
        have b195 : 0 ≤ Z 56 11 ∧ Z 56 11 ≤ 4 := hG.pr 56 11
        obtain ⟨z190, Z190, h190, hc190, hx190, hG190, hf190, b190⟩ := ct_170_56 (d := d + 4) (l := l) (D := D) (b0 := b0) (ad := ad) (Hb := Hb) (tau := tau) hx hG (show 0 ≤ x0 ∧ x0 ≤ 6 by omega) (show (Z 56 6 ≤ Z 56 7 ∧ Z 56 7 ≤ Z 56 8 ∧ (Z 56 9 = 24 ∨ Z 56 6 < Z 56 7)) by omega) (show ¬ Z 56 9 = 24 by omega)
        have b196 : 0 ≤ Z190 56 6 ∧ Z190 56 6 ≤ 900 := hG190.pr 56 6
        have b197 : 0 ≤ Z190 56 7 ∧ Z190 56 7 ≤ 900 := hG190.pr 56 7
        have b198 : 0 ≤ Z190 56 9 ∧ Z190 56 9 ≤ 100 := hG190.pr 56 9
        have b199 : 0 ≤ Z190 56 11 ∧ Z190 56 11 ≤ 4 := hG190.pr 56 11
        have b200 : 0 ≤ Z 56 6 ∧ Z 56 6 ≤ 900 := hG.pr 56 6
        have b201 : 0 ≤ Z 56 11 ∧ Z 56 11 ≤ 4 := hG.pr 56 11
        have b202 : 0 ≤ Z 56 9 ∧ Z 56 9 ≤ 100 := hG.pr 56 9
        have r190 := QR_g (k := 1) (c2 := 1) (QR_rf (Z := Z) (a := a0)) (fun e => by omega) (fun i => hf190 60 i rfl) (fun e => by omega) (by decide)
        refine Jcv hx (show mx_Sn _ _ 44 (mx_callv 170 2 12 47) from sn_175 44) a56 s56 hc190 rfl rfl rfl ?_
        refine Jif_ne (show mx_Sn _ _ 47 (mx_if_ne 51 50) from sn_175 47) (by omega) (fun q203 => ?_) (fun q203 => ?_)
        · skip
          have hx5 : x0 ≤ 5 := by omega
          refine mx_J.step (sn_175 51) (fun _ _ => rfl) ?_
          refine mx_J.step (sn_175 52) (fun _ _ => rfl) ?_
          refine JcI (z := 1) (show mx_Sn _ _ 53 (mx_const (.int 1) 54) from sn_175 53) rfl ?_
          refine Jiadd (show mx_Sn _ _ 54 (mx_iadd 55) from sn_175 54) ?_
          have b205 : 0 ≤ Z190 56 6 ∧ Z190 56 6 ≤ 900 := hG190.pr 56 6
          have b206 : 0 ≤ Z190 56 7 ∧ Z190 56 7 ≤ 900 := hG190.pr 56 7
          have eq207 : Z190 56 8 = Z 56 8 := (hf190 56 8 rfl)
          have b208 : 0 ≤ Z 56 8 ∧ Z 56 8 ≤ 900 := hG.pr 56 8
          have b209 : 0 ≤ Z190 56 9 ∧ Z190 56 9 ≤ 100 := hG190.pr 56 9
          have b210 : 0 ≤ Z190 56 11 ∧ Z190 56 11 ≤ 4 := hG190.pr 56 11
          have eq211 : Z190 60 61 = Z 60 61 := (hf190 60 61 rfl)
          have b212 : 0 ≤ Z 60 61 ∧ Z 60 61 ≤ 900 := by have hq := GI_ex hG 60 61; replace hq : f60 (61 % 962) (Z 60 61) := hq; unfold f60 at hq; omega
          have b213 : (-2147483648) ≤ Z 60 61 ∧ Z 60 61 ≤ 2147483647 := hG.pr 60 61
          have eq214 : Z190 60 1 = Z 60 1 := (hf190 60 1 rfl)
          have b215 : 0 ≤ Z 60 1 ∧ Z 60 1 ≤ 18 := by have hq := GI_ex hG 60 1; replace hq : f60 (1 % 962) (Z 60 1) := hq; unfold f60 at hq; omega
          have b216 : (-2147483648) ≤ Z 60 1 ∧ Z 60 1 ≤ 2147483647 := hG.pr 60 1
          have eq217 : Z190 60 2 = Z 60 2 := (hf190 60 2 rfl)
          have b218 : 0 ≤ Z 60 2 ∧ Z 60 2 ≤ 18 := by have hq := GI_ex hG 60 2; replace hq : f60 (2 % 962) (Z 60 2) := hq; unfold f60 at hq; omega
          have b219 : (-2147483648) ≤ Z 60 2 ∧ Z 60 2 ≤ 2147483647 := hG.pr 60 2
          obtain ⟨Z204, h204, hc204, hx204, hG204, hf204, b204⟩ := ri_177 IH (by omega) (hd := by omega) (a0 := a0) (d := d + 11) (l := l) (D := D) (b0 := b0) (ad := ad) (Hb := Hb) (tau := tau) hx190 hG190 (show 1 ≤ x0 + 1 ∧ x0 + 1 ≤ 6 by omega) (show (Z190 56 6 ≤ Z190 56 7 ∧ Z190 56 7 ≤ Z190 56 8 ∧ (Z190 56 9 = 24 ∨ Z190 56 6 < Z190 56 7)) by first | omega | (simp only [eq207, eq211, eq214, eq217]; omega)) (show Z190 60 61 ≤ Z190 56 6 by first | omega | (simp only [eq207, eq211, eq214, eq217]; omega)) (show a0 ≤ Z190 60 61 by first | omega | (simp only [eq207, eq211, eq214, eq217]; omega)) (show 0 ≤ a0 by first | omega | (simp only [eq207, eq211, eq214, eq217]; omega))
          try rw [eq207] at b204
          try rw [eq211] at b204
          try rw [eq214] at b204
          try rw [eq217] at b204
          obtain ⟨bq204, b204⟩ := b204
          have b220 : 0 ≤ Z204 56 6 ∧ Z204 56 6 ≤ 900 := hG204.pr 56 6
          have b221 : 0 ≤ Z204 56 7 ∧ Z204 56 7 ≤ 900 := hG204.pr 56 7
          have b222 : 0 ≤ Z204 56 9 ∧ Z204 56 9 ≤ 100 := hG204.pr 56 9
          have b223 : 0 ≤ Z204 56 11 ∧ Z204 56 11 ≤ 4 := hG204.pr 56 11
          have b224 : 0 ≤ Z204 60 61 ∧ Z204 60 61 ≤ 900 := by have hq := GI_ex hG204 60 61; replace hq : f60 (61 % 962) (Z204 60 61) := hq; unfold f60 at hq; omega
          have b225 : (-2147483648) ≤ Z204 60 61 ∧ Z204 60 61 ≤ 2147483647 := hG204.pr 60 61
          have b226 : 0 ≤ Z204 60 1 ∧ Z204 60 1 ≤ 18 := by have hq := GI_ex hG204 60 1; replace hq : f60 (1 % 962) (Z204 60 1) := hq; unfold f60 at hq; omega
          have b227 : (-2147483648) ≤ Z204 60 1 ∧ Z204 60 1 ≤ 2147483647 := hG204.pr 60 1
          have b228 : 0 ≤ Z204 60 2 ∧ Z204 60 2 ≤ 18 := by have hq := GI_ex hG204 60 2; replace hq : f60 (2 % 962) (Z204 60 2) := hq; unfold f60 at hq; omega
          have b229 : (-2147483648) ≤ Z204 60 2 ∧ Z204 60 2 ≤ 2147483647 := hG204.pr 60 2
          have r204 := QR_tr (d := 1) (c := 1) r190 bq204 (by decide) (by decide) (by decide)
          refine Jcv0 hx190 (show mx_Sn _ _ 55 (mx_callv 177 2 12 58) from sn_175 55) a56 s56 hc204 rfl rfl rfl ?_
          refine mx_J.step (sn_175 58) (fun _ _ => rfl) ?_
          refine JcI (z := 38) (show mx_Sn _ _ 59 (mx_const (.int 38) 61) from sn_175 59) rfl ?_
          have b231 : 0 ≤ Z204 56 6 ∧ Z204 56 6 ≤ 900 := hG204.pr 56 6
          have b232 : 0 ≤ Z204 56 7 ∧ Z204 56 7 ≤ 900 := hG204.pr 56 7
          have eq233 : Z204 56 8 = Z 56 8 := ((hf204 56 8 rfl).trans (hf190 56 8 rfl))
          have b234 : 0 ≤ Z 56 8 ∧ Z 56 8 ≤ 900 := hG.pr 56 8
          have b235 : 0 ≤ Z204 56 9 ∧ Z204 56 9 ≤ 100 := hG204.pr 56 9
          have b236 : 0 ≤ Z204 56 11 ∧ Z204 56 11 ≤ 4 := hG204.pr 56 11
          obtain ⟨z230, Z230, h230, hc230, hx230, hG230, hf230, b230⟩ := ct_165_56 (d := d + 4) (l := l) (D := D) (b0 := b0) (ad := ad) (Hb := Hb) (tau := tau) hx204 hG204 (show 0 ≤ 38 ∧ 38 ≤ 100 by omega) (show (Z204 56 6 ≤ Z204 56 7 ∧ Z204 56 7 ≤ Z204 56 8 ∧ (Z204 56 9 = 24 ∨ Z204 56 6 < Z204 56 7)) by first | omega | (simp only [eq233]; omega)) (show ¬ 38 = 24 by first | omega | (simp only [eq233]; omega))
          try rw [eq233] at b230
          have b237 : 0 ≤ Z230 56 6 ∧ Z230 56 6 ≤ 900 := hG230.pr 56 6
          have b238 : 0 ≤ Z230 56 7 ∧ Z230 56 7 ≤ 900 := hG230.pr 56 7
          have b239 : 0 ≤ Z230 56 9 ∧ Z230 56 9 ≤ 100 := hG230.pr 56 9
          have b240 : 0 ≤ Z204 56 6 ∧ Z204 56 6 ≤ 900 := hG204.pr 56 6
          have b241 : 0 ≤ Z204 56 11 ∧ Z204 56 11 ≤ 4 := hG204.pr 56 11
          have b242 : 0 ≤ Z204 56 9 ∧ Z204 56 9 ≤ 100 := hG204.pr 56 9
          have r230 := QR_g (k := 0) (c2 := 1) r204 (fun e => (hf230 56 11 rfl).symm.trans e) (fun i => hf230 60 i rfl) (fun e => by omega) (by decide)
          have rk230 : z230 = 1 → QR Z Z230 a0 1 2 := fun ez => QR_g (k := 1) r204 (fun e => (hf230 56 11 rfl).symm.trans e) (fun i => hf230 60 i rfl) (fun e => by omega) (by decide)
          refine Jcv hx204 (show mx_Sn _ _ 61 (mx_callv 165 2 12 64) from sn_175 61) a56 s56 hc230 rfl rfl rfl ?_
          have c72 : ∀  (Z244 : xZ) (h244 : mx_H), (Z244 56 6 ≤ Z244 56 7 ∧ Z244 56 7 ≤ Z 56 8) → (Z244 56 9 = 24 ∨ Z244 56 6 < Z244 56 7) → (Z 56 6 ≤ Z244 56 6 ∧ Z 60 61 ≤ Z244 60 61 ∧ Z244 60 61 - Z 60 61 ≤ Z244 56 6 - Z 56 6) → (Z244 60 1 = Z 60 1 ∧ Z244 60 2 = Z 60 2) → QR Z Z244 a0 1 0 → XH n s S Z244 h244 → GI n S Z244 → fr' [(56, 11), (56, 12)] Z230 Z244 → mx_J (tB l D b0 ad Hb tau) mt_175 (d + 11) 72 [some (.ref 56), some (xI x0), none] [] h244 Post := by
            intro Z244 h244 f243_0 f243_1 f243_2 f243_3 f243_4 hx244 hG244 hf244
            have eq245 : Z244 56 6 = Z230 56 6 := (hf244 56 6 rfl)
            have b246 : 0 ≤ Z230 56 6 ∧ Z230 56 6 ≤ 900 := hG230.pr 56 6
            have eq247 : Z244 56 7 = Z230 56 7 := (hf244 56 7 rfl)
            have b248 : 0 ≤ Z230 56 7 ∧ Z230 56 7 ≤ 900 := hG230.pr 56 7
            have eq249 : Z244 56 6 = Z230 56 6 := (hf244 56 6 rfl)
            have b250 : 0 ≤ Z230 56 6 ∧ Z230 56 6 ≤ 900 := hG230.pr 56 6
            have eq251 : Z244 56 7 = Z230 56 7 := (hf244 56 7 rfl)
            have b252 : 0 ≤ Z230 56 7 ∧ Z230 56 7 ≤ 900 := hG230.pr 56 7
            have eq253 : Z244 56 9 = Z230 56 9 := (hf244 56 9 rfl)
            have b254 : 0 ≤ Z230 56 9 ∧ Z230 56 9 ≤ 100 := hG230.pr 56 9
            have eq255 : Z244 56 6 = Z230 56 6 := (hf244 56 6 rfl)
            have b256 : 0 ≤ Z230 56 6 ∧ Z230 56 6 ≤ 900 := hG230.pr 56 6
            have eq257 : Z244 60 61 = Z204 60 61 := ((hf244 60 61 rfl).trans (hf230 60 61 rfl))
            have b258 : 0 ≤ Z204 60 61 ∧ Z204 60 61 ≤ 900 := by have hq := GI_ex hG204 60 61; replace hq : f60 (61 % 962) (Z204 60 61) := hq; unfold f60 at hq; omega
            have b259 : (-2147483648) ≤ Z204 60 61 ∧ Z204 60 61 ≤ 2147483647 := hG204.pr 60 61
            have eq260 : Z244 60 1 = Z204 60 1 := ((hf244 60 1 rfl).trans (hf230 60 1 rfl))
            have b261 : 0 ≤ Z204 60 1 ∧ Z204 60 1 ≤ 18 := by have hq := GI_ex hG204 60 1; replace hq : f60 (1 % 962) (Z204 60 1) := hq; unfold f60 at hq; omega
            have b262 : (-2147483648) ≤ Z204 60 1 ∧ Z204 60 1 ≤ 2147483647 := hG204.pr 60 1
            have eq263 : Z244 60 2 = Z204 60 2 := ((hf244 60 2 rfl).trans (hf230 60 2 rfl))
            have b264 : 0 ≤ Z204 60 2 ∧ Z204 60 2 ≤ 18 := by have hq := GI_ex hG204 60 2; replace hq : f60 (2 % 962) (Z204 60 2) := hq; unfold f60 at hq; omega
            have b265 : (-2147483648) ≤ Z204 60 2 ∧ Z204 60 2 ≤ 2147483647 := hG204.pr 60 2
            have eq266 : Z244 56 6 = Z230 56 6 := (hf244 56 6 rfl)
            have b267 : 0 ≤ Z230 56 6 ∧ Z230 56 6 ≤ 900 := hG230.pr 56 6
            have eq268 : Z244 56 7 = Z230 56 7 := (hf244 56 7 rfl)
            have b269 : 0 ≤ Z230 56 7 ∧ Z230 56 7 ≤ 900 := hG230.pr 56 7
            have eq270 : Z244 56 9 = Z230 56 9 := (hf244 56 9 rfl)
            have b271 : 0 ≤ Z230 56 9 ∧ Z230 56 9 ≤ 100 := hG230.pr 56 9
            have b272 : 0 ≤ Z244 56 11 ∧ Z244 56 11 ≤ 4 := hG244.pr 56 11
            have eq273 : Z244 60 61 = Z204 60 61 := ((hf244 60 61 rfl).trans (hf230 60 61 rfl))
            have b274 : 0 ≤ Z204 60 61 ∧ Z204 60 61 ≤ 900 := by have hq := GI_ex hG204 60 61; replace hq : f60 (61 % 962) (Z204 60 61) := hq; unfold f60 at hq; omega
            have b275 : (-2147483648) ≤ Z204 60 61 ∧ Z204 60 61 ≤ 2147483647 := hG204.pr 60 61
            have eq276 : Z244 60 1 = Z204 60 1 := ((hf244 60 1 rfl).trans (hf230 60 1 rfl))
            have b277 : 0 ≤ Z204 60 1 ∧ Z204 60 1 ≤ 18 := by have hq := GI_ex hG204 60 1; replace hq : f60 (1 % 962) (Z204 60 1) := hq; unfold f60 at hq; omega
            have b278 : (-2147483648) ≤ Z204 60 1 ∧ Z204 60 1 ≤ 2147483647 := hG204.pr 60 1
            have eq279 : Z244 60 2 = Z204 60 2 := ((hf244 60 2 rfl).trans (hf230 60 2 rfl))
            have b280 : 0 ≤ Z204 60 2 ∧ Z204 60 2 ≤ 18 := by have hq := GI_ex hG204 60 2; replace hq : f60 (2 % 962) (Z204 60 2) := hq; unfold f60 at hq; omega
            have b281 : (-2147483648) ≤ Z204 60 2 ∧ Z204 60 2 ≤ 2147483647 := hG204.pr 60 2
            have eq282 : Z244 56 6 = Z230 56 6 := (hf244 56 6 rfl)
            have b283 : 0 ≤ Z230 56 6 ∧ Z230 56 6 ≤ 900 := hG230.pr 56 6
            have eq284 : Z244 56 7 = Z230 56 7 := (hf244 56 7 rfl)
            have b285 : 0 ≤ Z230 56 7 ∧ Z230 56 7 ≤ 900 := hG230.pr 56 7
            have eq286 : Z244 56 8 = Z 56 8 := ((hf244 56 8 rfl).trans ((hf230 56 8 rfl).trans ((hf204 56 8 rfl).trans (hf190 56 8 rfl))))
            have b287 : 0 ≤ Z 56 8 ∧ Z 56 8 ≤ 900 := hG.pr 56 8
            have eq288 : Z244 56 9 = Z230 56 9 := (hf244 56 9 rfl)
            have b289 : 0 ≤ Z230 56 9 ∧ Z230 56 9 ≤ 100 := hG230.pr 56 9
            have b290 : 0 ≤ Z244 56 11 ∧ Z244 56 11 ≤ 4 := hG244.pr 56 11
            have eq291 : Z244 60 61 = Z204 60 61 := ((hf244 60 61 rfl).trans (hf230 60 61 rfl))
            have b292 : 0 ≤ Z204 60 61 ∧ Z204 60 61 ≤ 900 := by have hq := GI_ex hG204 60 61; replace hq : f60 (61 % 962) (Z204 60 61) := hq; unfold f60 at hq; omega
            have b293 : (-2147483648) ≤ Z204 60 61 ∧ Z204 60 61 ≤ 2147483647 := hG204.pr 60 61
            have eq294 : Z244 60 1 = Z204 60 1 := ((hf244 60 1 rfl).trans (hf230 60 1 rfl))
            have b295 : 0 ≤ Z204 60 1 ∧ Z204 60 1 ≤ 18 := by have hq := GI_ex hG204 60 1; replace hq : f60 (1 % 962) (Z204 60 1) := hq; unfold f60 at hq; omega
            have b296 : (-2147483648) ≤ Z204 60 1 ∧ Z204 60 1 ≤ 2147483647 := hG204.pr 60 1
            have eq297 : Z244 60 2 = Z204 60 2 := ((hf244 60 2 rfl).trans (hf230 60 2 rfl))
            have b298 : 0 ≤ Z204 60 2 ∧ Z204 60 2 ≤ 18 := by have hq := GI_ex hG204 60 2; replace hq : f60 (2 % 962) (Z204 60 2) := hq; unfold f60 at hq; omega
            have b299 : (-2147483648) ≤ Z204 60 2 ∧ Z204 60 2 ≤ 2147483647 := hG204.pr 60 2
            exact mx_J.ret (sn_175 72) (fun _ _ => rfl) (hP Z244 h244 hx244 hG244 (fr_tr (M := [(56, 6), (56, 7), (56, 9), (56, 10), (56, 11), (56, 12), (60, (-1))]) (fr_tr (M := [(56, 6), (56, 7), (56, 9), (56, 10), (56, 11), (56, 12), (60, (-1))]) (fr_tr (M := [(56, 6), (56, 7), (56, 9), (56, 10), (56, 11), (56, 12), (60, (-1))]) (fr_tr (M := [(56, 6), (56, 7), (56, 9), (56, 10), (56, 11), (56, 12), (60, (-1))]) fr_rf (hf190) (M1 := []) rfl rfl) (hf204) rfl rfl) (hf230) rfl rfl) (hf244) rfl rfl) ⟨(QR_le f243_4 (by decide)), by omega⟩)
          refine Jif_ne (show mx_Sn _ _ 64 (mx_if_ne 72 67) from sn_175 64) (by omega) (fun q300 => ?_) (fun q300 => ?_)
          · skip
            have b301 : 0 ≤ Z230 56 6 ∧ Z230 56 6 ≤ 900 := hG230.pr 56 6
            have b302 : 0 ≤ Z230 56 7 ∧ Z230 56 7 ≤ 900 := hG230.pr 56 7
            have b303 : 0 ≤ Z230 56 6 ∧ Z230 56 6 ≤ 900 := hG230.pr 56 6
            have b304 : 0 ≤ Z230 56 7 ∧ Z230 56 7 ≤ 900 := hG230.pr 56 7
            have b305 : 0 ≤ Z230 56 9 ∧ Z230 56 9 ≤ 100 := hG230.pr 56 9
            have b306 : 0 ≤ Z230 56 6 ∧ Z230 56 6 ≤ 900 := hG230.pr 56 6
            have eq307 : Z230 60 61 = Z204 60 61 := (hf230 60 61 rfl)
            have b308 : 0 ≤ Z204 60 61 ∧ Z204 60 61 ≤ 900 := by have hq := GI_ex hG204 60 61; replace hq : f60 (61 % 962) (Z204 60 61) := hq; unfold f60 at hq; omega
            have b309 : (-2147483648) ≤ Z204 60 61 ∧ Z204 60 61 ≤ 2147483647 := hG204.pr 60 61
            have eq310 : Z230 60 1 = Z204 60 1 := (hf230 60 1 rfl)
            have b311 : 0 ≤ Z204 60 1 ∧ Z204 60 1 ≤ 18 := by have hq := GI_ex hG204 60 1; replace hq : f60 (1 % 962) (Z204 60 1) := hq; unfold f60 at hq; omega
            have b312 : (-2147483648) ≤ Z204 60 1 ∧ Z204 60 1 ≤ 2147483647 := hG204.pr 60 1
            have eq313 : Z230 60 2 = Z204 60 2 := (hf230 60 2 rfl)
            have b314 : 0 ≤ Z204 60 2 ∧ Z204 60 2 ≤ 18 := by have hq := GI_ex hG204 60 2; replace hq : f60 (2 % 962) (Z204 60 2) := hq; unfold f60 at hq; omega
            have b315 : (-2147483648) ≤ Z204 60 2 ∧ Z204 60 2 ≤ 2147483647 := hG204.pr 60 2
            exact c72 Z230 h230 (by omega) (by omega) (by omega) (by omega) (QR_le (rk230 (by omega)) (by decide)) hx230 hG230 fr_rf
          · skip
            refine mx_J.step (sn_175 67) (fun _ _ => rfl) ?_
            refine JcI (z := 2) (show mx_Sn _ _ 68 (mx_const (.int 2) 69) from sn_175 68) rfl ?_
            obtain ⟨Z316, h316, hc316, hx316, hG316, hf316, b316⟩ := ct_163_56 (d := d + 10) (l := l) (D := D) (b0 := b0) (ad := ad) (Hb := Hb) (tau := tau) hx230 hG230 (show 1 ≤ 2 ∧ 2 ≤ 4 by omega)
            have b317 : 0 ≤ Z316 56 11 ∧ Z316 56 11 ≤ 4 := hG316.pr 56 11
            have r316 : ¬ Z316 56 11 = 0 := by omega
            refine Jcv0 hx230 (show mx_Sn _ _ 69 (mx_callv 163 2 12 72) from sn_175 69) a56 s56 hc316 rfl rfl rfl ?_
            have eq318 : Z316 56 6 = Z230 56 6 := (hf316 56 6 rfl)
            have b319 : 0 ≤ Z230 56 6 ∧ Z230 56 6 ≤ 900 := hG230.pr 56 6
            have eq320 : Z316 56 7 = Z230 56 7 := (hf316 56 7 rfl)
            have b321 : 0 ≤ Z230 56 7 ∧ Z230 56 7 ≤ 900 := hG230.pr 56 7
            have eq322 : Z316 56 6 = Z230 56 6 := (hf316 56 6 rfl)
            have b323 : 0 ≤ Z230 56 6 ∧ Z230 56 6 ≤ 900 := hG230.pr 56 6
            have eq324 : Z316 56 7 = Z230 56 7 := (hf316 56 7 rfl)
            have b325 : 0 ≤ Z230 56 7 ∧ Z230 56 7 ≤ 900 := hG230.pr 56 7
            have eq326 : Z316 56 9 = Z230 56 9 := (hf316 56 9 rfl)
            have b327 : 0 ≤ Z230 56 9 ∧ Z230 56 9 ≤ 100 := hG230.pr 56 9
            have eq328 : Z316 56 6 = Z230 56 6 := (hf316 56 6 rfl)
            have b329 : 0 ≤ Z230 56 6 ∧ Z230 56 6 ≤ 900 := hG230.pr 56 6
            have eq330 : Z316 60 61 = Z204 60 61 := ((hf316 60 61 rfl).trans (hf230 60 61 rfl))
            have b331 : 0 ≤ Z204 60 61 ∧ Z204 60 61 ≤ 900 := by have hq := GI_ex hG204 60 61; replace hq : f60 (61 % 962) (Z204 60 61) := hq; unfold f60 at hq; omega
            have b332 : (-2147483648) ≤ Z204 60 61 ∧ Z204 60 61 ≤ 2147483647 := hG204.pr 60 61
            have eq333 : Z316 60 1 = Z204 60 1 := ((hf316 60 1 rfl).trans (hf230 60 1 rfl))
            have b334 : 0 ≤ Z204 60 1 ∧ Z204 60 1 ≤ 18 := by have hq := GI_ex hG204 60 1; replace hq : f60 (1 % 962) (Z204 60 1) := hq; unfold f60 at hq; omega
            have b335 : (-2147483648) ≤ Z204 60 1 ∧ Z204 60 1 ≤ 2147483647 := hG204.pr 60 1
            have eq336 : Z316 60 2 = Z204 60 2 := ((hf316 60 2 rfl).trans (hf230 60 2 rfl))
            have b337 : 0 ≤ Z204 60 2 ∧ Z204 60 2 ≤ 18 := by have hq := GI_ex hG204 60 2; replace hq : f60 (2 % 962) (Z204 60 2) := hq; unfold f60 at hq; omega
            have b338 : (-2147483648) ≤ Z204 60 2 ∧ Z204 60 2 ≤ 2147483647 := hG204.pr 60 2
            exact c72 Z316 h316 (by omega) (by omega) (by omega) (by omega) (QR_f r316) hx316 hG316 (fr_tr (M := [(56, 11), (56, 12)]) fr_rf (hf316) (M1 := []) rfl rfl)
        · skip
          have b339 : 0 ≤ Z190 56 6 ∧ Z190 56 6 ≤ 900 := hG190.pr 56 6
          have b340 : 0 ≤ Z190 56 7 ∧ Z190 56 7 ≤ 900 := hG190.pr 56 7
          have b341 : 0 ≤ Z190 56 9 ∧ Z190 56 9 ≤ 100 := hG190.pr 56 9
          have b342 : 0 ≤ Z190 56 11 ∧ Z190 56 11 ≤ 4 := hG190.pr 56 11
          have eq343 : Z190 60 61 = Z 60 61 := (hf190 60 61 rfl)
          have b344 : 0 ≤ Z 60 61 ∧ Z 60 61 ≤ 900 := by have hq := GI_ex hG 60 61; replace hq : f60 (61 % 962) (Z 60 61) := hq; unfold f60 at hq; omega
          have b345 : (-2147483648) ≤ Z 60 61 ∧ Z 60 61 ≤ 2147483647 := hG.pr 60 61
          have eq346 : Z190 60 1 = Z 60 1 := (hf190 60 1 rfl)
          have b347 : 0 ≤ Z 60 1 ∧ Z 60 1 ≤ 18 := by have hq := GI_ex hG 60 1; replace hq : f60 (1 % 962) (Z 60 1) := hq; unfold f60 at hq; omega
          have b348 : (-2147483648) ≤ Z 60 1 ∧ Z 60 1 ≤ 2147483647 := hG.pr 60 1
          have eq349 : Z190 60 2 = Z 60 2 := (hf190 60 2 rfl)
          have b350 : 0 ≤ Z 60 2 ∧ Z 60 2 ≤ 18 := by have hq := GI_ex hG 60 2; replace hq : f60 (2 % 962) (Z 60 2) := hq; unfold f60 at hq; omega
          have b351 : (-2147483648) ≤ Z 60 2 ∧ Z 60 2 ≤ 2147483647 := hG.pr 60 2
          have b352 : 0 ≤ Z190 56 6 ∧ Z190 56 6 ≤ 900 := hG190.pr 56 6
          have b353 : 0 ≤ Z190 56 7 ∧ Z190 56 7 ≤ 900 := hG190.pr 56 7
          have eq354 : Z190 56 8 = Z 56 8 := (hf190 56 8 rfl)
          have b355 : 0 ≤ Z 56 8 ∧ Z 56 8 ≤ 900 := hG.pr 56 8
          have b356 : 0 ≤ Z190 56 9 ∧ Z190 56 9 ≤ 100 := hG190.pr 56 9
          have b357 : 0 ≤ Z190 56 11 ∧ Z190 56 11 ≤ 4 := hG190.pr 56 11
          have eq358 : Z190 60 61 = Z 60 61 := (hf190 60 61 rfl)
          have b359 : 0 ≤ Z 60 61 ∧ Z 60 61 ≤ 900 := by have hq := GI_ex hG 60 61; replace hq : f60 (61 % 962) (Z 60 61) := hq; unfold f60 at hq; omega
          have b360 : (-2147483648) ≤ Z 60 61 ∧ Z 60 61 ≤ 2147483647 := hG.pr 60 61
          have eq361 : Z190 60 1 = Z 60 1 := (hf190 60 1 rfl)
          have b362 : 0 ≤ Z 60 1 ∧ Z 60 1 ≤ 18 := by have hq := GI_ex hG 60 1; replace hq : f60 (1 % 962) (Z 60 1) := hq; unfold f60 at hq; omega
          have b363 : (-2147483648) ≤ Z 60 1 ∧ Z 60 1 ≤ 2147483647 := hG.pr 60 1
          have eq364 : Z190 60 2 = Z 60 2 := (hf190 60 2 rfl)
          have b365 : 0 ≤ Z 60 2 ∧ Z 60 2 ≤ 18 := by have hq := GI_ex hG 60 2; replace hq : f60 (2 % 962) (Z 60 2) := hq; unfold f60 at hq; omega
          have b366 : (-2147483648) ≤ Z 60 2 ∧ Z 60 2 ≤ 2147483647 := hG.pr 60 2
          exact mx_J.ret (sn_175 50) (fun _ _ => rfl) (hP Z190 h190 hx190 hG190 (fr_tr (M := [(56, 6), (56, 7), (56, 9), (56, 10), (56, 11), (56, 12), (60, (-1))]) fr_rf (hf190) (M1 := []) rfl rfl) ⟨(QR_f (by omega)), by omega⟩)
    · skip
      refine mx_J.step (sn_175 9) (fun _ _ => rfl) ?_
      refine mx_J.step (sn_175 10) (fun _ _ => rfl) ?_
      have b368 : 0 ≤ Z 56 6 ∧ Z 56 6 ≤ 900 := hG.pr 56 6
      have b369 : 0 ≤ Z 56 7 ∧ Z 56 7 ≤ 900 := hG.pr 56 7
      have b370 : 0 ≤ Z 56 8 ∧ Z 56 8 ≤ 900 := hG.pr 56 8
      have b371 : 0 ≤ Z 56 9 ∧ Z 56 9 ≤ 100 := hG.pr 56 9
      have b372 : 0 ≤ Z 56 11 ∧ Z 56 11 ≤ 4 := hG.pr 56 11
      obtain ⟨z367, Z367, h367, hc367, hx367, hG367, hf367, b367⟩ := ct_170_56 (d := d + 4) (l := l) (D := D) (b0 := b0) (ad := ad) (Hb := Hb) (tau := tau) hx hG (show 0 ≤ x0 ∧ x0 ≤ 6 by omega) (show (Z 56 6 ≤ Z 56 7 ∧ Z 56 7 ≤ Z 56 8 ∧ (Z 56 9 = 24 ∨ Z 56 6 < Z 56 7)) by omega) (show ¬ Z 56 9 = 24 by omega)
      have b373 : 0 ≤ Z367 56 6 ∧ Z367 56 6 ≤ 900 := hG367.pr 56 6
      have b374 : 0 ≤ Z367 56 7 ∧ Z367 56 7 ≤ 900 := hG367.pr 56 7
      have b375 : 0 ≤ Z367 56 9 ∧ Z367 56 9 ≤ 100 := hG367.pr 56 9
      have b376 : 0 ≤ Z367 56 11 ∧ Z367 56 11 ≤ 4 := hG367.pr 56 11
      have b377 : 0 ≤ Z 56 6 ∧ Z 56 6 ≤ 900 := hG.pr 56 6
      have b378 : 0 ≤ Z 56 11 ∧ Z 56 11 ≤ 4 := hG.pr 56 11
      have b379 : 0 ≤ Z 56 9 ∧ Z 56 9 ≤ 100 := hG.pr 56 9
      have r367 := QR_g (k := 1) (c2 := 1) (QR_rf (Z := Z) (a := a0)) (fun e => by omega) (fun i => hf367 60 i rfl) (fun e => by omega) (by decide)
      refine Jcv hx (show mx_Sn _ _ 11 (mx_callv 170 2 12 14) from sn_175 11) a56 s56 hc367 rfl rfl rfl ?_
      refine Jif_ne (show mx_Sn _ _ 14 (mx_if_ne 18 17) from sn_175 14) (by omega) (fun q380 => ?_) (fun q380 => ?_)
      · skip
        have hx5 : x0 ≤ 5 := by omega
        refine mx_J.step (sn_175 18) (fun _ _ => rfl) ?_
        refine mx_J.step (sn_175 19) (fun _ _ => rfl) ?_
        refine JcI (z := 1) (show mx_Sn _ _ 20 (mx_const (.int 1) 21) from sn_175 20) rfl ?_
        refine Jiadd (show mx_Sn _ _ 21 (mx_iadd 22) from sn_175 21) ?_
        have b382 : 0 ≤ Z367 56 6 ∧ Z367 56 6 ≤ 900 := hG367.pr 56 6
        have b383 : 0 ≤ Z367 56 7 ∧ Z367 56 7 ≤ 900 := hG367.pr 56 7
        have eq384 : Z367 56 8 = Z 56 8 := (hf367 56 8 rfl)
        have b385 : 0 ≤ Z 56 8 ∧ Z 56 8 ≤ 900 := hG.pr 56 8
        have b386 : 0 ≤ Z367 56 9 ∧ Z367 56 9 ≤ 100 := hG367.pr 56 9
        have b387 : 0 ≤ Z367 56 11 ∧ Z367 56 11 ≤ 4 := hG367.pr 56 11
        have eq388 : Z367 60 61 = Z 60 61 := (hf367 60 61 rfl)
        have b389 : 0 ≤ Z 60 61 ∧ Z 60 61 ≤ 900 := by have hq := GI_ex hG 60 61; replace hq : f60 (61 % 962) (Z 60 61) := hq; unfold f60 at hq; omega
        have b390 : (-2147483648) ≤ Z 60 61 ∧ Z 60 61 ≤ 2147483647 := hG.pr 60 61
        have eq391 : Z367 60 1 = Z 60 1 := (hf367 60 1 rfl)
        have b392 : 0 ≤ Z 60 1 ∧ Z 60 1 ≤ 18 := by have hq := GI_ex hG 60 1; replace hq : f60 (1 % 962) (Z 60 1) := hq; unfold f60 at hq; omega
        have b393 : (-2147483648) ≤ Z 60 1 ∧ Z 60 1 ≤ 2147483647 := hG.pr 60 1
        have eq394 : Z367 60 2 = Z 60 2 := (hf367 60 2 rfl)
        have b395 : 0 ≤ Z 60 2 ∧ Z 60 2 ≤ 18 := by have hq := GI_ex hG 60 2; replace hq : f60 (2 % 962) (Z 60 2) := hq; unfold f60 at hq; omega
        have b396 : (-2147483648) ≤ Z 60 2 ∧ Z 60 2 ≤ 2147483647 := hG.pr 60 2
        obtain ⟨Z381, h381, hc381, hx381, hG381, hf381, b381⟩ := ri_175 IH (by omega) (hd := by omega) (a0 := a0) (d := d + 11) (l := l) (D := D) (b0 := b0) (ad := ad) (Hb := Hb) (tau := tau) hx367 hG367 (show 1 ≤ x0 + 1 ∧ x0 + 1 ≤ 6 by omega) (show (Z367 56 6 ≤ Z367 56 7 ∧ Z367 56 7 ≤ Z367 56 8 ∧ (Z367 56 9 = 24 ∨ Z367 56 6 < Z367 56 7)) by first | omega | (simp only [eq384, eq388, eq391, eq394]; omega)) (show Z367 60 61 ≤ Z367 56 6 by first | omega | (simp only [eq384, eq388, eq391, eq394]; omega)) (show a0 ≤ Z367 60 61 by first | omega | (simp only [eq384, eq388, eq391, eq394]; omega)) (show 0 ≤ a0 by first | omega | (simp only [eq384, eq388, eq391, eq394]; omega))
        try rw [eq384] at b381
        try rw [eq388] at b381
        try rw [eq391] at b381
        try rw [eq394] at b381
        obtain ⟨bq381, b381⟩ := b381
        have b397 : 0 ≤ Z381 56 6 ∧ Z381 56 6 ≤ 900 := hG381.pr 56 6
        have b398 : 0 ≤ Z381 56 7 ∧ Z381 56 7 ≤ 900 := hG381.pr 56 7
        have b399 : 0 ≤ Z381 56 9 ∧ Z381 56 9 ≤ 100 := hG381.pr 56 9
        have b400 : 0 ≤ Z381 56 11 ∧ Z381 56 11 ≤ 4 := hG381.pr 56 11
        have b401 : 0 ≤ Z381 60 61 ∧ Z381 60 61 ≤ 900 := by have hq := GI_ex hG381 60 61; replace hq : f60 (61 % 962) (Z381 60 61) := hq; unfold f60 at hq; omega
        have b402 : (-2147483648) ≤ Z381 60 61 ∧ Z381 60 61 ≤ 2147483647 := hG381.pr 60 61
        have b403 : 0 ≤ Z381 60 1 ∧ Z381 60 1 ≤ 18 := by have hq := GI_ex hG381 60 1; replace hq : f60 (1 % 962) (Z381 60 1) := hq; unfold f60 at hq; omega
        have b404 : (-2147483648) ≤ Z381 60 1 ∧ Z381 60 1 ≤ 2147483647 := hG381.pr 60 1
        have b405 : 0 ≤ Z381 60 2 ∧ Z381 60 2 ≤ 18 := by have hq := GI_ex hG381 60 2; replace hq : f60 (2 % 962) (Z381 60 2) := hq; unfold f60 at hq; omega
        have b406 : (-2147483648) ≤ Z381 60 2 ∧ Z381 60 2 ≤ 2147483647 := hG381.pr 60 2
        have r381 := QR_tr (d := 1) (c := 1) r367 bq381 (by decide) (by decide) (by decide)
        refine Jcv0 hx367 (show mx_Sn _ _ 22 (mx_callv 175 2 12 25) from sn_175 22) a56 s56 hc381 rfl rfl rfl ?_
        refine mx_J.step (sn_175 25) (fun _ _ => rfl) ?_
        refine JcI (z := 3006) (show mx_Sn _ _ 26 (mx_const (.int 3006) 29) from sn_175 26) rfl ?_
        have eq408 : Z381 56 8 = Z 56 8 := ((hf381 56 8 rfl).trans (hf367 56 8 rfl))
        have b409 : 0 ≤ Z 56 8 ∧ Z 56 8 ≤ 900 := hG.pr 56 8
        have b410 : 0 ≤ Z381 56 11 ∧ Z381 56 11 ≤ 4 := hG381.pr 56 11
        have b411 : 0 ≤ Z381 60 61 ∧ Z381 60 61 ≤ 900 := by have hq := GI_ex hG381 60 61; replace hq : f60 (61 % 962) (Z381 60 61) := hq; unfold f60 at hq; omega
        have b412 : (-2147483648) ≤ Z381 60 61 ∧ Z381 60 61 ≤ 2147483647 := hG381.pr 60 61
        have b413 : 0 ≤ Z381 60 1 ∧ Z381 60 1 ≤ 18 := by have hq := GI_ex hG381 60 1; replace hq : f60 (1 % 962) (Z381 60 1) := hq; unfold f60 at hq; omega
        have b414 : (-2147483648) ≤ Z381 60 1 ∧ Z381 60 1 ≤ 2147483647 := hG381.pr 60 1
        have b415 : 0 ≤ Z381 60 2 ∧ Z381 60 2 ≤ 18 := by have hq := GI_ex hG381 60 2; replace hq : f60 (2 % 962) (Z381 60 2) := hq; unfold f60 at hq; omega
        have b416 : (-2147483648) ≤ Z381 60 2 ∧ Z381 60 2 ≤ 2147483647 := hG381.pr 60 2
        have rp407 := QR_n r381
        obtain ⟨Z407, h407, hc407, hx407, hG407, hf407, b407⟩ := ct_169_56_3006 (a0 := a0) (d := d + 10) (l := l) (D := D) (b0 := b0) (ad := ad) (Hb := Hb) (tau := tau) hx381 hG381  (show (Z381 56 11 = 0 → Z381 60 61 ≤ 899) by first | omega | (simp only [eq408]; omega)) (show a0 ≤ Z381 60 61 by first | omega | (simp only [eq408]; omega)) (show 0 ≤ a0 by first | omega | (simp only [eq408]; omega))
        try rw [eq408] at b407
        obtain ⟨bq407, b407⟩ := b407
        have b417 : 0 ≤ Z407 60 61 ∧ Z407 60 61 ≤ 900 := by have hq := GI_ex hG407 60 61; replace hq : f60 (61 % 962) (Z407 60 61) := hq; unfold f60 at hq; omega
        have b418 : (-2147483648) ≤ Z407 60 61 ∧ Z407 60 61 ≤ 2147483647 := hG407.pr 60 61
        have b419 : 0 ≤ Z407 60 1 ∧ Z407 60 1 ≤ 18 := by have hq := GI_ex hG407 60 1; replace hq : f60 (1 % 962) (Z407 60 1) := hq; unfold f60 at hq; omega
        have b420 : (-2147483648) ≤ Z407 60 1 ∧ Z407 60 1 ≤ 2147483647 := hG407.pr 60 1
        have b421 : 0 ≤ Z407 60 2 ∧ Z407 60 2 ≤ 18 := by have hq := GI_ex hG407 60 2; replace hq : f60 (2 % 962) (Z407 60 2) := hq; unfold f60 at hq; omega
        have b422 : (-2147483648) ≤ Z407 60 2 ∧ Z407 60 2 ≤ 2147483647 := hG407.pr 60 2
        have rn407 := QR_n r381
        have r407 := QR_c (d2 := 1) (c2 := 0) r381 bq407 (by omega) (hf407 56 11 rfl) (hf407 56 6 rfl) (by decide) (by decide) (by decide)
        refine Jcv0 hx381 (show mx_Sn _ _ 29 (mx_callv 169 2 12 32) from sn_175 29) a56 s56 hc407 rfl rfl rfl ?_
        have eq423 : Z407 56 6 = Z381 56 6 := (hf407 56 6 rfl)
        have b424 : 0 ≤ Z381 56 6 ∧ Z381 56 6 ≤ 900 := hG381.pr 56 6
        have eq425 : Z407 56 7 = Z381 56 7 := (hf407 56 7 rfl)
        have b426 : 0 ≤ Z381 56 7 ∧ Z381 56 7 ≤ 900 := hG381.pr 56 7
        have eq427 : Z407 56 9 = Z381 56 9 := (hf407 56 9 rfl)
        have b428 : 0 ≤ Z381 56 9 ∧ Z381 56 9 ≤ 100 := hG381.pr 56 9
        have eq429 : Z407 56 11 = Z381 56 11 := (hf407 56 11 rfl)
        have b430 : 0 ≤ Z381 56 11 ∧ Z381 56 11 ≤ 4 := hG381.pr 56 11
        have b431 : 0 ≤ Z407 60 61 ∧ Z407 60 61 ≤ 900 := by have hq := GI_ex hG407 60 61; replace hq : f60 (61 % 962) (Z407 60 61) := hq; unfold f60 at hq; omega
        have b432 : (-2147483648) ≤ Z407 60 61 ∧ Z407 60 61 ≤ 2147483647 := hG407.pr 60 61
        have b433 : 0 ≤ Z407 60 1 ∧ Z407 60 1 ≤ 18 := by have hq := GI_ex hG407 60 1; replace hq : f60 (1 % 962) (Z407 60 1) := hq; unfold f60 at hq; omega
        have b434 : (-2147483648) ≤ Z407 60 1 ∧ Z407 60 1 ≤ 2147483647 := hG407.pr 60 1
        have b435 : 0 ≤ Z407 60 2 ∧ Z407 60 2 ≤ 18 := by have hq := GI_ex hG407 60 2; replace hq : f60 (2 % 962) (Z407 60 2) := hq; unfold f60 at hq; omega
        have b436 : (-2147483648) ≤ Z407 60 2 ∧ Z407 60 2 ≤ 2147483647 := hG407.pr 60 2
        have eq437 : Z407 56 6 = Z381 56 6 := (hf407 56 6 rfl)
        have b438 : 0 ≤ Z381 56 6 ∧ Z381 56 6 ≤ 900 := hG381.pr 56 6
        have eq439 : Z407 56 7 = Z381 56 7 := (hf407 56 7 rfl)
        have b440 : 0 ≤ Z381 56 7 ∧ Z381 56 7 ≤ 900 := hG381.pr 56 7
        have eq441 : Z407 56 8 = Z 56 8 := ((hf407 56 8 rfl).trans ((hf381 56 8 rfl).trans (hf367 56 8 rfl)))
        have b442 : 0 ≤ Z 56 8 ∧ Z 56 8 ≤ 900 := hG.pr 56 8
        have eq443 : Z407 56 9 = Z381 56 9 := (hf407 56 9 rfl)
        have b444 : 0 ≤ Z381 56 9 ∧ Z381 56 9 ≤ 100 := hG381.pr 56 9
        have eq445 : Z407 56 11 = Z381 56 11 := (hf407 56 11 rfl)
        have b446 : 0 ≤ Z381 56 11 ∧ Z381 56 11 ≤ 4 := hG381.pr 56 11
        have b447 : 0 ≤ Z407 60 61 ∧ Z407 60 61 ≤ 900 := by have hq := GI_ex hG407 60 61; replace hq : f60 (61 % 962) (Z407 60 61) := hq; unfold f60 at hq; omega
        have b448 : (-2147483648) ≤ Z407 60 61 ∧ Z407 60 61 ≤ 2147483647 := hG407.pr 60 61
        have b449 : 0 ≤ Z407 60 1 ∧ Z407 60 1 ≤ 18 := by have hq := GI_ex hG407 60 1; replace hq : f60 (1 % 962) (Z407 60 1) := hq; unfold f60 at hq; omega
        have b450 : (-2147483648) ≤ Z407 60 1 ∧ Z407 60 1 ≤ 2147483647 := hG407.pr 60 1
        have b451 : 0 ≤ Z407 60 2 ∧ Z407 60 2 ≤ 18 := by have hq := GI_ex hG407 60 2; replace hq : f60 (2 % 962) (Z407 60 2) := hq; unfold f60 at hq; omega
        have b452 : (-2147483648) ≤ Z407 60 2 ∧ Z407 60 2 ≤ 2147483647 := hG407.pr 60 2
        exact mx_J.ret (sn_175 32) (fun _ _ => rfl) (hP Z407 h407 hx407 hG407 (fr_tr (M := [(56, 6), (56, 7), (56, 9), (56, 10), (56, 11), (56, 12), (60, (-1))]) (fr_tr (M := [(56, 6), (56, 7), (56, 9), (56, 10), (56, 11), (56, 12), (60, (-1))]) (fr_tr (M := [(56, 6), (56, 7), (56, 9), (56, 10), (56, 11), (56, 12), (60, (-1))]) fr_rf (hf367) (M1 := []) rfl rfl) (hf381) rfl rfl) (hf407) rfl rfl) ⟨(QR_le r407 (by decide)), by omega⟩)
      · skip
        have b453 : 0 ≤ Z367 56 6 ∧ Z367 56 6 ≤ 900 := hG367.pr 56 6
        have b454 : 0 ≤ Z367 56 7 ∧ Z367 56 7 ≤ 900 := hG367.pr 56 7
        have b455 : 0 ≤ Z367 56 9 ∧ Z367 56 9 ≤ 100 := hG367.pr 56 9
        have b456 : 0 ≤ Z367 56 11 ∧ Z367 56 11 ≤ 4 := hG367.pr 56 11
        have eq457 : Z367 60 61 = Z 60 61 := (hf367 60 61 rfl)
        have b458 : 0 ≤ Z 60 61 ∧ Z 60 61 ≤ 900 := by have hq := GI_ex hG 60 61; replace hq : f60 (61 % 962) (Z 60 61) := hq; unfold f60 at hq; omega
        have b459 : (-2147483648) ≤ Z 60 61 ∧ Z 60 61 ≤ 2147483647 := hG.pr 60 61
        have eq460 : Z367 60 1 = Z 60 1 := (hf367 60 1 rfl)
        have b461 : 0 ≤ Z 60 1 ∧ Z 60 1 ≤ 18 := by have hq := GI_ex hG 60 1; replace hq : f60 (1 % 962) (Z 60 1) := hq; unfold f60 at hq; omega
        have b462 : (-2147483648) ≤ Z 60 1 ∧ Z 60 1 ≤ 2147483647 := hG.pr 60 1
        have eq463 : Z367 60 2 = Z 60 2 := (hf367 60 2 rfl)
        have b464 : 0 ≤ Z 60 2 ∧ Z 60 2 ≤ 18 := by have hq := GI_ex hG 60 2; replace hq : f60 (2 % 962) (Z 60 2) := hq; unfold f60 at hq; omega
        have b465 : (-2147483648) ≤ Z 60 2 ∧ Z 60 2 ≤ 2147483647 := hG.pr 60 2
        have b466 : 0 ≤ Z367 56 6 ∧ Z367 56 6 ≤ 900 := hG367.pr 56 6
        have b467 : 0 ≤ Z367 56 7 ∧ Z367 56 7 ≤ 900 := hG367.pr 56 7
        have eq468 : Z367 56 8 = Z 56 8 := (hf367 56 8 rfl)
        have b469 : 0 ≤ Z 56 8 ∧ Z 56 8 ≤ 900 := hG.pr 56 8
        have b470 : 0 ≤ Z367 56 9 ∧ Z367 56 9 ≤ 100 := hG367.pr 56 9
        have b471 : 0 ≤ Z367 56 11 ∧ Z367 56 11 ≤ 4 := hG367.pr 56 11
        have eq472 : Z367 60 61 = Z 60 61 := (hf367 60 61 rfl)
        have b473 : 0 ≤ Z 60 61 ∧ Z 60 61 ≤ 900 := by have hq := GI_ex hG 60 61; replace hq : f60 (61 % 962) (Z 60 61) := hq; unfold f60 at hq; omega
        have b474 : (-2147483648) ≤ Z 60 61 ∧ Z 60 61 ≤ 2147483647 := hG.pr 60 61
        have eq475 : Z367 60 1 = Z 60 1 := (hf367 60 1 rfl)
        have b476 : 0 ≤ Z 60 1 ∧ Z 60 1 ≤ 18 := by have hq := GI_ex hG 60 1; replace hq : f60 (1 % 962) (Z 60 1) := hq; unfold f60 at hq; omega
        have b477 : (-2147483648) ≤ Z 60 1 ∧ Z 60 1 ≤ 2147483647 := hG.pr 60 1
        have eq478 : Z367 60 2 = Z 60 2 := (hf367 60 2 rfl)
        have b479 : 0 ≤ Z 60 2 ∧ Z 60 2 ≤ 18 := by have hq := GI_ex hG 60 2; replace hq : f60 (2 % 962) (Z 60 2) := hq; unfold f60 at hq; omega
        have b480 : (-2147483648) ≤ Z 60 2 ∧ Z 60 2 ≤ 2147483647 := hG.pr 60 2
        exact mx_J.ret (sn_175 17) (fun _ _ => rfl) (hP Z367 h367 hx367 hG367 (fr_tr (M := [(56, 6), (56, 7), (56, 9), (56, 10), (56, 11), (56, 12), (60, (-1))]) fr_rf (hf367) (M1 := []) rfl rfl) ⟨(QR_f (by omega)), by omega⟩)
theorem ct_175_56_s {l : Launch} {D : va_G} {b0 : Nat} {ad : Nat → Nat} {Hb : Heap} {tau : Nat → Int64} {d n s : Nat} {S : Nat → xS} {Z : xZ} {h : mx_H} {a0 : Int} (hx : XH n s S Z h) (hG : GI n S Z)  {x0 : Int} (p0 : 0 ≤ x0 ∧ x0 ≤ 6) (k0 : (Z 56 6 ≤ Z 56 7 ∧ Z 56 7 ≤ Z 56 8 ∧ (Z 56 9 = 24 ∨ Z 56 6 < Z 56 7))) (k1 : Z 60 61 ≤ Z 56 6) (k2 : a0 ≤ Z 60 61) (k3 : 0 ≤ a0) {kk : Nat} (IH : RBmh l D b0 ad Hb tau kk x0) (hd : kk ≤ d) : ∃ (Z' : xZ) (h' : mx_H), mx_Ca (tB l D b0 ad Hb tau) (d + 12) 175 [.ref 56, xI x0] h (none, h') ∧ XH n s S Z' h' ∧ GI n S Z' ∧ fr' [(56, 6), (56, 7), (56, 9), (56, 10), (56, 11), (56, 12), (60, (-1))] Z Z' ∧ (QR Z Z' a0 1 0 ∧ ((Z' 56 6 ≤ Z' 56 7 ∧ Z' 56 7 ≤ Z 56 8 ∧ (Z' 56 9 = 24 ∨ Z' 56 6 < Z' 56 7)) ∧ Z' 60 1 = Z 60 1 ∧ Z' 60 2 = Z 60 2 ∧ Z 56 6 ≤ Z' 56 6 ∧ Z 60 61 ≤ Z' 60 61 ∧ Z' 60 61 - Z 60 61 ≤ Z' 56 6 - Z 56 6)) := by
  obtain ⟨r, hca, Z', h', e, q⟩ := Jmt (B := tB l D b0 ad Hb tau) (M := mt_175) (mi := 175) (as := [.ref 56, xI x0]) (d := d + 11) (ls := [some (.ref 56), some (xI x0), none]) rfl rfl rfl rfl rfl rfl (cw_175_56_s (l := l) (D := D) (b0 := b0) (ad := ad) (Hb := Hb) (tau := tau) (d := d) (Post := fun r => ∃ (Z' : xZ) (h' : mx_H), r = (none, h') ∧ XH n s S Z' h' ∧ GI n S Z' ∧ fr' [(56, 6), (56, 7), (56, 9), (56, 10), (56, 11), (56, 12), (60, (-1))] Z Z' ∧ (QR Z Z' a0 1 0 ∧ ((Z' 56 6 ≤ Z' 56 7 ∧ Z' 56 7 ≤ Z 56 8 ∧ (Z' 56 9 = 24 ∨ Z' 56 6 < Z' 56 7)) ∧ Z' 60 1 = Z 60 1 ∧ Z' 60 2 = Z 60 2 ∧ Z 56 6 ≤ Z' 56 6 ∧ Z 60 61 ≤ Z' 60 61 ∧ Z' 60 61 - Z 60 61 ≤ Z' 56 6 - Z 56 6))) hx hG p0 k0 k1 k2 k3 IH hd (fun Z' h' q1 q2 q3 q4 => ⟨Z', h', rfl, q1, q2, q3, q4⟩))
  subst e; exact ⟨Z', h', hca, q⟩
set_option maxHeartbeats 8000000 in
set_option maxRecDepth 100000 in
theorem cw_176_56_s {l : Launch} {D : va_G} {b0 : Nat} {ad : Nat → Nat} {Hb : Heap} {tau : Nat → Int64} {d n s : Nat} {S : Nat → xS} {Z : xZ} {h : mx_H} {Post : mx_R → Prop} {a0 : Int} (hx : XH n s S Z h) (hG : GI n S Z)  {x0 : Int} (p0 : 0 ≤ x0 ∧ x0 ≤ 6) (k0 : (Z 56 6 ≤ Z 56 7 ∧ Z 56 7 ≤ Z 56 8 ∧ (Z 56 9 = 24 ∨ Z 56 6 < Z 56 7))) (k1 : Z 60 61 ≤ Z 56 6) (k2 : a0 ≤ Z 60 61) (k3 : 0 ≤ a0) {kk : Nat} (IH : RBmh l D b0 ad Hb tau kk x0) (hd : kk ≤ d) (hP : ∀ (Z' : xZ) (h' : mx_H), XH n s S Z' h' → GI n S Z' → fr' [(56, 6), (56, 7), (56, 9), (56, 10), (56, 11), (56, 12), (60, (-1))] Z Z' → QR Z Z' a0 1 0 ∧ ((Z' 56 6 ≤ Z' 56 7 ∧ Z' 56 7 ≤ Z 56 8 ∧ (Z' 56 9 = 24 ∨ Z' 56 6 < Z' 56 7)) ∧ Z' 60 1 = Z 60 1 ∧ Z' 60 2 = Z 60 2 ∧ Z 56 6 ≤ Z' 56 6 ∧ Z 60 61 ≤ Z' 60 61 ∧ Z' 60 61 - Z 60 61 ≤ Z' 56 6 - Z 56 6) → Post (none, h')) : mx_J (tB l D b0 ad Hb tau) mt_176 (d + 12) 0 [some (.ref 56), some (xI x0)] [] h Post := by
    have a56 : 56 < n := lt83 (GI_n hG) rfl
    have s56 : S 56 = .inl (12, [0, 2, 2, 2, 2, 0, 0, 0, 0, 0, 0, 0, 0, 0, 0, 2, 2, 2, 0, 2, 2, 2, 0, 0, 2, 2, 2, 2, 2, 2, 0, 0, 2, 2, 2, 2, 2, 2, 2, 2, 2, 2]) := GI_s hG 56 rfl
    refine mx_J.step (sn_176 0) (fun _ _ => rfl) ?_
    refine mx_J.step (sn_176 1) (fun _ _ => rfl) ?_
    have b2 : 0 ≤ Z 56 6 ∧ Z 56 6 ≤ 900 := hG.pr 56 6
    have b3 : 0 ≤ Z 56 7 ∧ Z 56 7 ≤ 900 := hG.pr 56 7
    have b4 : 0 ≤ Z 56 8 ∧ Z 56 8 ≤ 900 := hG.pr 56 8
    have b5 : 0 ≤ Z 56 9 ∧ Z 56 9 ≤ 100 := hG.pr 56 9
    have b6 : 0 ≤ Z 56 11 ∧ Z 56 11 ≤ 4 := hG.pr 56 11
    have b7 : 0 ≤ Z 60 61 ∧ Z 60 61 ≤ 900 := by have hq := GI_ex hG 60 61; replace hq : f60 (61 % 962) (Z 60 61) := hq; unfold f60 at hq; omega
    have b8 : (-2147483648) ≤ Z 60 61 ∧ Z 60 61 ≤ 2147483647 := hG.pr 60 61
    have b9 : 0 ≤ Z 60 1 ∧ Z 60 1 ≤ 18 := by have hq := GI_ex hG 60 1; replace hq : f60 (1 % 962) (Z 60 1) := hq; unfold f60 at hq; omega
    have b10 : (-2147483648) ≤ Z 60 1 ∧ Z 60 1 ≤ 2147483647 := hG.pr 60 1
    have b11 : 0 ≤ Z 60 2 ∧ Z 60 2 ≤ 18 := by have hq := GI_ex hG 60 2; replace hq : f60 (2 % 962) (Z 60 2) := hq; unfold f60 at hq; omega
    have b12 : (-2147483648) ≤ Z 60 2 ∧ Z 60 2 ≤ 2147483647 := hG.pr 60 2
    obtain ⟨Z1, h1, hc1, hx1, hG1, hf1, b1⟩ := ct_175_56_s (a0 := a0) (d := d + 0) (l := l) (D := D) (b0 := b0) (ad := ad) (Hb := Hb) (tau := tau) hx hG (show 0 ≤ x0 ∧ x0 ≤ 6 by omega) (show (Z 56 6 ≤ Z 56 7 ∧ Z 56 7 ≤ Z 56 8 ∧ (Z 56 9 = 24 ∨ Z 56 6 < Z 56 7)) by omega) (show Z 60 61 ≤ Z 56 6 by omega) (show a0 ≤ Z 60 61 by omega) (show 0 ≤ a0 by omega) IH (by omega)
    obtain ⟨bq1, b1⟩ := b1
    have b13 : 0 ≤ Z1 56 6 ∧ Z1 56 6 ≤ 900 := hG1.pr 56 6
    have b14 : 0 ≤ Z1 56 7 ∧ Z1 56 7 ≤ 900 := hG1.pr 56 7
    have b15 : 0 ≤ Z1 56 9 ∧ Z1 56 9 ≤ 100 := hG1.pr 56 9
    have b16 : 0 ≤ Z1 56 11 ∧ Z1 56 11 ≤ 4 := hG1.pr 56 11
    have b17 : 0 ≤ Z1 60 61 ∧ Z1 60 61 ≤ 900 := by have hq := GI_ex hG1 60 61; replace hq : f60 (61 % 962) (Z1 60 61) := hq; unfold f60 at hq; omega
    have b18 : (-2147483648) ≤ Z1 60 61 ∧ Z1 60 61 ≤ 2147483647 := hG1.pr 60 61
    have b19 : 0 ≤ Z1 60 1 ∧ Z1 60 1 ≤ 18 := by have hq := GI_ex hG1 60 1; replace hq : f60 (1 % 962) (Z1 60 1) := hq; unfold f60 at hq; omega
    have b20 : (-2147483648) ≤ Z1 60 1 ∧ Z1 60 1 ≤ 2147483647 := hG1.pr 60 1
    have b21 : 0 ≤ Z1 60 2 ∧ Z1 60 2 ≤ 18 := by have hq := GI_ex hG1 60 2; replace hq : f60 (2 % 962) (Z1 60 2) := hq; unfold f60 at hq; omega
    have b22 : (-2147483648) ≤ Z1 60 2 ∧ Z1 60 2 ≤ 2147483647 := hG1.pr 60 2
    have r1 := QR_tr (d := 1) (c := 0) (QR_rf (Z := Z) (a := a0)) bq1 (by decide) (by decide) (by decide)
    refine Jcv0 hx (show mx_Sn _ _ 2 (mx_callv 175 2 12 5) from sn_176 2) a56 s56 hc1 rfl rfl rfl ?_
    have c5 : ∀ (m23 : Nat)  (Z24 : xZ) (h24 : mx_H), (((Z 56 8 - Z24 56 6).toNat : Nat) : Int) < (m23 : Int) → (Z24 56 6 ≤ Z24 56 7 ∧ Z24 56 7 ≤ Z 56 8) → (Z24 56 9 = 24 ∨ Z24 56 6 < Z24 56 7) → (Z 56 6 ≤ Z24 56 6 ∧ Z 60 61 ≤ Z24 60 61 ∧ Z24 60 61 - Z 60 61 ≤ Z24 56 6 - Z 56 6) → (Z24 60 1 = Z 60 1 ∧ Z24 60 2 = Z 60 2) → QR Z Z24 a0 1 0 → XH n s S Z24 h24 → GI n S Z24 → fr' [(56, 6), (56, 7), (56, 9), (56, 10), (56, 11), (56, 12), (60, (-1))] Z1 Z24 → mx_J (tB l D b0 ad Hb tau) mt_176 (d + 12) 5 [some (.ref 56), some (xI x0)] [] h24 Post := by
      intro m23
      induction m23 with
      | zero => intro Z24 h24 q23 f23_0 f23_1 f23_2 f23_3 f23_4 hx24 hG24 hf24; exact absurd q23 (by omega)
      | succ m23 ih23 =>
        intro Z24 h24 q23 f23_0 f23_1 f23_2 f23_3 f23_4 hx24 hG24 hf24
        have b25 : 0 ≤ Z24 56 6 ∧ Z24 56 6 ≤ 900 := hG24.pr 56 6
        have b26 : 0 ≤ Z24 56 7 ∧ Z24 56 7 ≤ 900 := hG24.pr 56 7
        have b27 : 0 ≤ Z24 56 6 ∧ Z24 56 6 ≤ 900 := hG24.pr 56 6
        have b28 : 0 ≤ Z24 56 7 ∧ Z24 56 7 ≤ 900 := hG24.pr 56 7
        have b29 : 0 ≤ Z24 56 9 ∧ Z24 56 9 ≤ 100 := hG24.pr 56 9
        have b30 : 0 ≤ Z24 56 6 ∧ Z24 56 6 ≤ 900 := hG24.pr 56 6
        have b31 : 0 ≤ Z24 60 61 ∧ Z24 60 61 ≤ 900 := by have hq := GI_ex hG24 60 61; replace hq : f60 (61 % 962) (Z24 60 61) := hq; unfold f60 at hq; omega
        have b32 : (-2147483648) ≤ Z24 60 61 ∧ Z24 60 61 ≤ 2147483647 := hG24.pr 60 61
        have b33 : 0 ≤ Z24 60 1 ∧ Z24 60 1 ≤ 18 := by have hq := GI_ex hG24 60 1; replace hq : f60 (1 % 962) (Z24 60 1) := hq; unfold f60 at hq; omega
        have b34 : (-2147483648) ≤ Z24 60 1 ∧ Z24 60 1 ≤ 2147483647 := hG24.pr 60 1
        have b35 : 0 ≤ Z24 60 2 ∧ Z24 60 2 ≤ 18 := by have hq := GI_ex hG24 60 2; replace hq : f60 (2 % 962) (Z24 60 2) := hq; unfold f60 at hq; omega
        have b36 : (-2147483648) ≤ Z24 60 2 ∧ Z24 60 2 ≤ 2147483647 := hG24.pr 60 2
        have b37 : 0 ≤ Z24 56 6 ∧ Z24 56 6 ≤ 900 := hG24.pr 56 6
        refine mx_J.step (sn_176 5) (fun _ _ => rfl) ?_
        refine JcI (z := 13) (show mx_Sn _ _ 6 (mx_const (.int 13) 8) from sn_176 6) rfl ?_
        have b39 : 0 ≤ Z24 56 6 ∧ Z24 56 6 ≤ 900 := hG24.pr 56 6
        have b40 : 0 ≤ Z24 56 7 ∧ Z24 56 7 ≤ 900 := hG24.pr 56 7
        have eq41 : Z24 56 8 = Z 56 8 := ((hf24 56 8 rfl).trans (hf1 56 8 rfl))
        have b42 : 0 ≤ Z 56 8 ∧ Z 56 8 ≤ 900 := hG.pr 56 8
        have b43 : 0 ≤ Z24 56 9 ∧ Z24 56 9 ≤ 100 := hG24.pr 56 9
        have b44 : 0 ≤ Z24 56 11 ∧ Z24 56 11 ≤ 4 := hG24.pr 56 11
        obtain ⟨z38, Z38, h38, hc38, hx38, hG38, hf38, b38⟩ := ct_165_56 (d := d + 5) (l := l) (D := D) (b0 := b0) (ad := ad) (Hb := Hb) (tau := tau) hx24 hG24 (show 0 ≤ 13 ∧ 13 ≤ 100 by omega) (show (Z24 56 6 ≤ Z24 56 7 ∧ Z24 56 7 ≤ Z24 56 8 ∧ (Z24 56 9 = 24 ∨ Z24 56 6 < Z24 56 7)) by first | omega | (simp only [eq41]; omega)) (show ¬ 13 = 24 by first | omega | (simp only [eq41]; omega))
        try rw [eq41] at b38
        have b45 : 0 ≤ Z38 56 6 ∧ Z38 56 6 ≤ 900 := hG38.pr 56 6
        have b46 : 0 ≤ Z38 56 7 ∧ Z38 56 7 ≤ 900 := hG38.pr 56 7
        have b47 : 0 ≤ Z38 56 9 ∧ Z38 56 9 ≤ 100 := hG38.pr 56 9
        have b48 : 0 ≤ Z24 56 6 ∧ Z24 56 6 ≤ 900 := hG24.pr 56 6
        have b49 : 0 ≤ Z24 56 11 ∧ Z24 56 11 ≤ 4 := hG24.pr 56 11
        have b50 : 0 ≤ Z24 56 9 ∧ Z24 56 9 ≤ 100 := hG24.pr 56 9
        have r38 := QR_g (k := 0) (c2 := 0) f23_4 (fun e => (hf38 56 11 rfl).symm.trans e) (fun i => hf38 60 i rfl) (fun e => by omega) (by decide)
        have rk38 : z38 = 1 → QR Z Z38 a0 1 1 := fun ez => QR_g (k := 1) f23_4 (fun e => (hf38 56 11 rfl).symm.trans e) (fun i => hf38 60 i rfl) (fun e => by omega) (by decide)
        refine Jcv hx24 (show mx_Sn _ _ 8 (mx_callv 165 2 12 11) from sn_176 8) a56 s56 hc38 rfl rfl rfl ?_
        refine Jif_eq (show mx_Sn _ _ 11 (mx_if_eq 29 14) from sn_176 11) (by omega) (fun q51 => ?_) (fun q51 => ?_)
        · skip
          have b52 : 0 ≤ Z38 56 6 ∧ Z38 56 6 ≤ 900 := hG38.pr 56 6
          have b53 : 0 ≤ Z38 56 7 ∧ Z38 56 7 ≤ 900 := hG38.pr 56 7
          have b54 : 0 ≤ Z38 56 9 ∧ Z38 56 9 ≤ 100 := hG38.pr 56 9
          have eq55 : Z38 56 11 = Z24 56 11 := (hf38 56 11 rfl)
          have b56 : 0 ≤ Z24 56 11 ∧ Z24 56 11 ≤ 4 := hG24.pr 56 11
          have eq57 : Z38 60 61 = Z24 60 61 := (hf38 60 61 rfl)
          have b58 : 0 ≤ Z24 60 61 ∧ Z24 60 61 ≤ 900 := by have hq := GI_ex hG24 60 61; replace hq : f60 (61 % 962) (Z24 60 61) := hq; unfold f60 at hq; omega
          have b59 : (-2147483648) ≤ Z24 60 61 ∧ Z24 60 61 ≤ 2147483647 := hG24.pr 60 61
          have eq60 : Z38 60 1 = Z24 60 1 := (hf38 60 1 rfl)
          have b61 : 0 ≤ Z24 60 1 ∧ Z24 60 1 ≤ 18 := by have hq := GI_ex hG24 60 1; replace hq : f60 (1 % 962) (Z24 60 1) := hq; unfold f60 at hq; omega
          have b62 : (-2147483648) ≤ Z24 60 1 ∧ Z24 60 1 ≤ 2147483647 := hG24.pr 60 1
          have eq63 : Z38 60 2 = Z24 60 2 := (hf38 60 2 rfl)
          have b64 : 0 ≤ Z24 60 2 ∧ Z24 60 2 ≤ 18 := by have hq := GI_ex hG24 60 2; replace hq : f60 (2 % 962) (Z24 60 2) := hq; unfold f60 at hq; omega
          have b65 : (-2147483648) ≤ Z24 60 2 ∧ Z24 60 2 ≤ 2147483647 := hG24.pr 60 2
          have b66 : 0 ≤ Z38 56 6 ∧ Z38 56 6 ≤ 900 := hG38.pr 56 6
          have b67 : 0 ≤ Z38 56 7 ∧ Z38 56 7 ≤ 900 := hG38.pr 56 7
          have eq68 : Z38 56 8 = Z 56 8 := ((hf38 56 8 rfl).trans ((hf24 56 8 rfl).trans (hf1 56 8 rfl)))
          have b69 : 0 ≤ Z 56 8 ∧ Z 56 8 ≤ 900 := hG.pr 56 8
          have b70 : 0 ≤ Z38 56 9 ∧ Z38 56 9 ≤ 100 := hG38.pr 56 9
          have eq71 : Z38 56 11 = Z24 56 11 := (hf38 56 11 rfl)
          have b72 : 0 ≤ Z24 56 11 ∧ Z24 56 11 ≤ 4 := hG24.pr 56 11
          have eq73 : Z38 60 61 = Z24 60 61 := (hf38 60 61 rfl)
          have b74 : 0 ≤ Z24 60 61 ∧ Z24 60 61 ≤ 900 := by have hq := GI_ex hG24 60 61; replace hq : f60 (61 % 962) (Z24 60 61) := hq; unfold f60 at hq; omega
          have b75 : (-2147483648) ≤ Z24 60 61 ∧ Z24 60 61 ≤ 2147483647 := hG24.pr 60 61
          have eq76 : Z38 60 1 = Z24 60 1 := (hf38 60 1 rfl)
          have b77 : 0 ≤ Z24 60 1 ∧ Z24 60 1 ≤ 18 := by have hq := GI_ex hG24 60 1; replace hq : f60 (1 % 962) (Z24 60 1) := hq; unfold f60 at hq; omega
          have b78 : (-2147483648) ≤ Z24 60 1 ∧ Z24 60 1 ≤ 2147483647 := hG24.pr 60 1
          have eq79 : Z38 60 2 = Z24 60 2 := (hf38 60 2 rfl)
          have b80 : 0 ≤ Z24 60 2 ∧ Z24 60 2 ≤ 18 := by have hq := GI_ex hG24 60 2; replace hq : f60 (2 % 962) (Z24 60 2) := hq; unfold f60 at hq; omega
          have b81 : (-2147483648) ≤ Z24 60 2 ∧ Z24 60 2 ≤ 2147483647 := hG24.pr 60 2
          exact mx_J.ret (sn_176 29) (fun _ _ => rfl) (hP Z38 h38 hx38 hG38 (fr_tr (M := [(56, 6), (56, 7), (56, 9), (56, 10), (56, 11), (56, 12), (60, (-1))]) (fr_tr (M := [(56, 6), (56, 7), (56, 9), (56, 10), (56, 11), (56, 12), (60, (-1))]) (fr_tr (M := [(56, 6), (56, 7), (56, 9), (56, 10), (56, 11), (56, 12), (60, (-1))]) fr_rf (hf1) (M1 := []) rfl rfl) (hf24) rfl rfl) (hf38) rfl rfl) ⟨(QR_le r38 (by decide)), by omega⟩)
        · skip
          refine mx_J.step (sn_176 14) (fun _ _ => rfl) ?_
          refine mx_J.step (sn_176 15) (fun _ _ => rfl) ?_
          have b83 : 0 ≤ Z38 56 6 ∧ Z38 56 6 ≤ 900 := hG38.pr 56 6
          have b84 : 0 ≤ Z38 56 7 ∧ Z38 56 7 ≤ 900 := hG38.pr 56 7
          have eq85 : Z38 56 8 = Z 56 8 := ((hf38 56 8 rfl).trans ((hf24 56 8 rfl).trans (hf1 56 8 rfl)))
          have b86 : 0 ≤ Z 56 8 ∧ Z 56 8 ≤ 900 := hG.pr 56 8
          have b87 : 0 ≤ Z38 56 9 ∧ Z38 56 9 ≤ 100 := hG38.pr 56 9
          have eq88 : Z38 56 11 = Z24 56 11 := (hf38 56 11 rfl)
          have b89 : 0 ≤ Z24 56 11 ∧ Z24 56 11 ≤ 4 := hG24.pr 56 11
          have eq90 : Z38 60 61 = Z24 60 61 := (hf38 60 61 rfl)
          have b91 : 0 ≤ Z24 60 61 ∧ Z24 60 61 ≤ 900 := by have hq := GI_ex hG24 60 61; replace hq : f60 (61 % 962) (Z24 60 61) := hq; unfold f60 at hq; omega
          have b92 : (-2147483648) ≤ Z24 60 61 ∧ Z24 60 61 ≤ 2147483647 := hG24.pr 60 61
          have eq93 : Z38 60 1 = Z24 60 1 := (hf38 60 1 rfl)
          have b94 : 0 ≤ Z24 60 1 ∧ Z24 60 1 ≤ 18 := by have hq := GI_ex hG24 60 1; replace hq : f60 (1 % 962) (Z24 60 1) := hq; unfold f60 at hq; omega
          have b95 : (-2147483648) ≤ Z24 60 1 ∧ Z24 60 1 ≤ 2147483647 := hG24.pr 60 1
          have eq96 : Z38 60 2 = Z24 60 2 := (hf38 60 2 rfl)
          have b97 : 0 ≤ Z24 60 2 ∧ Z24 60 2 ≤ 18 := by have hq := GI_ex hG24 60 2; replace hq : f60 (2 % 962) (Z24 60 2) := hq; unfold f60 at hq; omega
          have b98 : (-2147483648) ≤ Z24 60 2 ∧ Z24 60 2 ≤ 2147483647 := hG24.pr 60 2
          obtain ⟨Z82, h82, hc82, hx82, hG82, hf82, b82⟩ := ct_175_56_s (a0 := a0) (d := d + 0) (l := l) (D := D) (b0 := b0) (ad := ad) (Hb := Hb) (tau := tau) hx38 hG38 (show 0 ≤ x0 ∧ x0 ≤ 6 by omega) (show (Z38 56 6 ≤ Z38 56 7 ∧ Z38 56 7 ≤ Z38 56 8 ∧ (Z38 56 9 = 24 ∨ Z38 56 6 < Z38 56 7)) by first | omega | (simp only [eq85, eq88, eq90, eq93, eq96]; omega)) (show Z38 60 61 ≤ Z38 56 6 by first | omega | (simp only [eq85, eq88, eq90, eq93, eq96]; omega)) (show a0 ≤ Z38 60 61 by first | omega | (simp only [eq85, eq88, eq90, eq93, eq96]; omega)) (show 0 ≤ a0 by first | omega | (simp only [eq85, eq88, eq90, eq93, eq96]; omega)) IH (by omega)
          try rw [eq85] at b82
          try rw [eq88] at b82
          try rw [eq90] at b82
          try rw [eq93] at b82
          try rw [eq96] at b82
          obtain ⟨bq82, b82⟩ := b82
          have b99 : 0 ≤ Z82 56 6 ∧ Z82 56 6 ≤ 900 := hG82.pr 56 6
          have b100 : 0 ≤ Z82 56 7 ∧ Z82 56 7 ≤ 900 := hG82.pr 56 7
          have b101 : 0 ≤ Z82 56 9 ∧ Z82 56 9 ≤ 100 := hG82.pr 56 9
          have b102 : 0 ≤ Z82 56 11 ∧ Z82 56 11 ≤ 4 := hG82.pr 56 11
          have b103 : 0 ≤ Z82 60 61 ∧ Z82 60 61 ≤ 900 := by have hq := GI_ex hG82 60 61; replace hq : f60 (61 % 962) (Z82 60 61) := hq; unfold f60 at hq; omega
          have b104 : (-2147483648) ≤ Z82 60 61 ∧ Z82 60 61 ≤ 2147483647 := hG82.pr 60 61
          have b105 : 0 ≤ Z82 60 1 ∧ Z82 60 1 ≤ 18 := by have hq := GI_ex hG82 60 1; replace hq : f60 (1 % 962) (Z82 60 1) := hq; unfold f60 at hq; omega
          have b106 : (-2147483648) ≤ Z82 60 1 ∧ Z82 60 1 ≤ 2147483647 := hG82.pr 60 1
          have b107 : 0 ≤ Z82 60 2 ∧ Z82 60 2 ≤ 18 := by have hq := GI_ex hG82 60 2; replace hq : f60 (2 % 962) (Z82 60 2) := hq; unfold f60 at hq; omega
          have b108 : (-2147483648) ≤ Z82 60 2 ∧ Z82 60 2 ≤ 2147483647 := hG82.pr 60 2
          have r82 := QR_tr (d := 2) (c := 1) (rk38 (by omega)) bq82 (by decide) (by decide) (by decide)
          refine Jcv0 hx38 (show mx_Sn _ _ 16 (mx_callv 175 2 12 19) from sn_176 16) a56 s56 hc82 rfl rfl rfl ?_
          refine mx_J.step (sn_176 19) (fun _ _ => rfl) ?_
          refine JcI (z := 3007) (show mx_Sn _ _ 20 (mx_const (.int 3007) 23) from sn_176 20) rfl ?_
          have eq110 : Z82 56 8 = Z 56 8 := ((hf82 56 8 rfl).trans ((hf38 56 8 rfl).trans ((hf24 56 8 rfl).trans (hf1 56 8 rfl))))
          have b111 : 0 ≤ Z 56 8 ∧ Z 56 8 ≤ 900 := hG.pr 56 8
          have b112 : 0 ≤ Z82 56 11 ∧ Z82 56 11 ≤ 4 := hG82.pr 56 11
          have b113 : 0 ≤ Z82 60 61 ∧ Z82 60 61 ≤ 900 := by have hq := GI_ex hG82 60 61; replace hq : f60 (61 % 962) (Z82 60 61) := hq; unfold f60 at hq; omega
          have b114 : (-2147483648) ≤ Z82 60 61 ∧ Z82 60 61 ≤ 2147483647 := hG82.pr 60 61
          have b115 : 0 ≤ Z82 60 1 ∧ Z82 60 1 ≤ 18 := by have hq := GI_ex hG82 60 1; replace hq : f60 (1 % 962) (Z82 60 1) := hq; unfold f60 at hq; omega
          have b116 : (-2147483648) ≤ Z82 60 1 ∧ Z82 60 1 ≤ 2147483647 := hG82.pr 60 1
          have b117 : 0 ≤ Z82 60 2 ∧ Z82 60 2 ≤ 18 := by have hq := GI_ex hG82 60 2; replace hq : f60 (2 % 962) (Z82 60 2) := hq; unfold f60 at hq; omega
          have b118 : (-2147483648) ≤ Z82 60 2 ∧ Z82 60 2 ≤ 2147483647 := hG82.pr 60 2
          have rp109 := QR_n r82
          obtain ⟨Z109, h109, hc109, hx109, hG109, hf109, b109⟩ := ct_169_56_3007 (a0 := a0) (d := d + 11) (l := l) (D := D) (b0 := b0) (ad := ad) (Hb := Hb) (tau := tau) hx82 hG82 (show 3007 ≤ 3007 ∧ 3007 ≤ 3008 by omega) (show (Z82 56 11 = 0 → Z82 60 61 ≤ 899) by first | omega | (simp only [eq110]; omega)) (show a0 ≤ Z82 60 61 by first | omega | (simp only [eq110]; omega)) (show 0 ≤ a0 by first | omega | (simp only [eq110]; omega))
          try rw [eq110] at b109
          obtain ⟨bq109, b109⟩ := b109
          have b119 : 0 ≤ Z109 60 61 ∧ Z109 60 61 ≤ 900 := by have hq := GI_ex hG109 60 61; replace hq : f60 (61 % 962) (Z109 60 61) := hq; unfold f60 at hq; omega
          have b120 : (-2147483648) ≤ Z109 60 61 ∧ Z109 60 61 ≤ 2147483647 := hG109.pr 60 61
          have b121 : 0 ≤ Z109 60 1 ∧ Z109 60 1 ≤ 18 := by have hq := GI_ex hG109 60 1; replace hq : f60 (1 % 962) (Z109 60 1) := hq; unfold f60 at hq; omega
          have b122 : (-2147483648) ≤ Z109 60 1 ∧ Z109 60 1 ≤ 2147483647 := hG109.pr 60 1
          have b123 : 0 ≤ Z109 60 2 ∧ Z109 60 2 ≤ 18 := by have hq := GI_ex hG109 60 2; replace hq : f60 (2 % 962) (Z109 60 2) := hq; unfold f60 at hq; omega
          have b124 : (-2147483648) ≤ Z109 60 2 ∧ Z109 60 2 ≤ 2147483647 := hG109.pr 60 2
          have rn109 := QR_n r82
          have r109 := QR_c (d2 := 1) (c2 := 0) r82 bq109 (by omega) (hf109 56 11 rfl) (hf109 56 6 rfl) (by decide) (by decide) (by decide)
          refine Jcv0 hx82 (show mx_Sn _ _ 23 (mx_callv 169 2 12 26) from sn_176 23) a56 s56 hc109 rfl rfl rfl ?_
          refine mx_J.step (sn_176 26) (fun _ _ => rfl) ?_
          have eq125 : Z109 56 6 = Z82 56 6 := (hf109 56 6 rfl)
          have b126 : 0 ≤ Z82 56 6 ∧ Z82 56 6 ≤ 900 := hG82.pr 56 6
          have eq127 : Z109 56 7 = Z82 56 7 := (hf109 56 7 rfl)
          have b128 : 0 ≤ Z82 56 7 ∧ Z82 56 7 ≤ 900 := hG82.pr 56 7
          have eq129 : Z109 56 6 = Z82 56 6 := (hf109 56 6 rfl)
          have b130 : 0 ≤ Z82 56 6 ∧ Z82 56 6 ≤ 900 := hG82.pr 56 6
          have eq131 : Z109 56 7 = Z82 56 7 := (hf109 56 7 rfl)
          have b132 : 0 ≤ Z82 56 7 ∧ Z82 56 7 ≤ 900 := hG82.pr 56 7
          have eq133 : Z109 56 9 = Z82 56 9 := (hf109 56 9 rfl)
          have b134 : 0 ≤ Z82 56 9 ∧ Z82 56 9 ≤ 100 := hG82.pr 56 9
          have eq135 : Z109 56 6 = Z82 56 6 := (hf109 56 6 rfl)
          have b136 : 0 ≤ Z82 56 6 ∧ Z82 56 6 ≤ 900 := hG82.pr 56 6
          have b137 : 0 ≤ Z109 60 61 ∧ Z109 60 61 ≤ 900 := by have hq := GI_ex hG109 60 61; replace hq : f60 (61 % 962) (Z109 60 61) := hq; unfold f60 at hq; omega
          have b138 : (-2147483648) ≤ Z109 60 61 ∧ Z109 60 61 ≤ 2147483647 := hG109.pr 60 61
          have b139 : 0 ≤ Z109 60 1 ∧ Z109 60 1 ≤ 18 := by have hq := GI_ex hG109 60 1; replace hq : f60 (1 % 962) (Z109 60 1) := hq; unfold f60 at hq; omega
          have b140 : (-2147483648) ≤ Z109 60 1 ∧ Z109 60 1 ≤ 2147483647 := hG109.pr 60 1
          have b141 : 0 ≤ Z109 60 2 ∧ Z109 60 2 ≤ 18 := by have hq := GI_ex hG109 60 2; replace hq : f60 (2 % 962) (Z109 60 2) := hq; unfold f60 at hq; omega
          have b142 : (-2147483648) ≤ Z109 60 2 ∧ Z109 60 2 ≤ 2147483647 := hG109.pr 60 2
          have eq143 : Z109 56 6 = Z82 56 6 := (hf109 56 6 rfl)
          have b144 : 0 ≤ Z82 56 6 ∧ Z82 56 6 ≤ 900 := hG82.pr 56 6
          exact ih23 Z109 h109 (by omega) (by omega) (by omega) (by omega) (by omega) (QR_le r109 (by decide)) hx109 hG109 (fr_tr (M := [(56, 6), (56, 7), (56, 9), (56, 10), (56, 11), (56, 12), (60, (-1))]) (fr_tr (M := [(56, 6), (56, 7), (56, 9), (56, 10), (56, 11), (56, 12), (60, (-1))]) (fr_tr (M := [(56, 6), (56, 7), (56, 9), (56, 10), (56, 11), (56, 12), (60, (-1))]) (fr_tr (M := [(56, 6), (56, 7), (56, 9), (56, 10), (56, 11), (56, 12), (60, (-1))]) fr_rf (hf24) (M1 := []) rfl rfl) (hf38) rfl rfl) (hf82) rfl rfl) (hf109) rfl rfl)
    have b145 : 0 ≤ Z1 56 6 ∧ Z1 56 6 ≤ 900 := hG1.pr 56 6
    have b146 : 0 ≤ Z1 56 7 ∧ Z1 56 7 ≤ 900 := hG1.pr 56 7
    have b147 : 0 ≤ Z1 56 6 ∧ Z1 56 6 ≤ 900 := hG1.pr 56 6
    have b148 : 0 ≤ Z1 56 7 ∧ Z1 56 7 ≤ 900 := hG1.pr 56 7
    have b149 : 0 ≤ Z1 56 9 ∧ Z1 56 9 ≤ 100 := hG1.pr 56 9
    have b150 : 0 ≤ Z1 56 6 ∧ Z1 56 6 ≤ 900 := hG1.pr 56 6
    have b151 : 0 ≤ Z1 60 61 ∧ Z1 60 61 ≤ 900 := by have hq := GI_ex hG1 60 61; replace hq : f60 (61 % 962) (Z1 60 61) := hq; unfold f60 at hq; omega
    have b152 : (-2147483648) ≤ Z1 60 61 ∧ Z1 60 61 ≤ 2147483647 := hG1.pr 60 61
    have b153 : 0 ≤ Z1 60 1 ∧ Z1 60 1 ≤ 18 := by have hq := GI_ex hG1 60 1; replace hq : f60 (1 % 962) (Z1 60 1) := hq; unfold f60 at hq; omega
    have b154 : (-2147483648) ≤ Z1 60 1 ∧ Z1 60 1 ≤ 2147483647 := hG1.pr 60 1
    have b155 : 0 ≤ Z1 60 2 ∧ Z1 60 2 ≤ 18 := by have hq := GI_ex hG1 60 2; replace hq : f60 (2 % 962) (Z1 60 2) := hq; unfold f60 at hq; omega
    have b156 : (-2147483648) ≤ Z1 60 2 ∧ Z1 60 2 ≤ 2147483647 := hG1.pr 60 2
    have b157 : 0 ≤ Z1 56 6 ∧ Z1 56 6 ≤ 900 := hG1.pr 56 6
    exact c5 (Int.toNat ((((Z 56 8 - Z1 56 6).toNat : Nat) : Int)) + 1) Z1 h1 (by omega) (by omega) (by omega) (by omega) (by omega) (QR_le r1 (by decide)) hx1 hG1 fr_rf
theorem ct_176_56_s {l : Launch} {D : va_G} {b0 : Nat} {ad : Nat → Nat} {Hb : Heap} {tau : Nat → Int64} {d n s : Nat} {S : Nat → xS} {Z : xZ} {h : mx_H} {a0 : Int} (hx : XH n s S Z h) (hG : GI n S Z)  {x0 : Int} (p0 : 0 ≤ x0 ∧ x0 ≤ 6) (k0 : (Z 56 6 ≤ Z 56 7 ∧ Z 56 7 ≤ Z 56 8 ∧ (Z 56 9 = 24 ∨ Z 56 6 < Z 56 7))) (k1 : Z 60 61 ≤ Z 56 6) (k2 : a0 ≤ Z 60 61) (k3 : 0 ≤ a0) {kk : Nat} (IH : RBmh l D b0 ad Hb tau kk x0) (hd : kk ≤ d) : ∃ (Z' : xZ) (h' : mx_H), mx_Ca (tB l D b0 ad Hb tau) (d + 13) 176 [.ref 56, xI x0] h (none, h') ∧ XH n s S Z' h' ∧ GI n S Z' ∧ fr' [(56, 6), (56, 7), (56, 9), (56, 10), (56, 11), (56, 12), (60, (-1))] Z Z' ∧ (QR Z Z' a0 1 0 ∧ ((Z' 56 6 ≤ Z' 56 7 ∧ Z' 56 7 ≤ Z 56 8 ∧ (Z' 56 9 = 24 ∨ Z' 56 6 < Z' 56 7)) ∧ Z' 60 1 = Z 60 1 ∧ Z' 60 2 = Z 60 2 ∧ Z 56 6 ≤ Z' 56 6 ∧ Z 60 61 ≤ Z' 60 61 ∧ Z' 60 61 - Z 60 61 ≤ Z' 56 6 - Z 56 6)) := by
  obtain ⟨r, hca, Z', h', e, q⟩ := Jmt (B := tB l D b0 ad Hb tau) (M := mt_176) (mi := 176) (as := [.ref 56, xI x0]) (d := d + 12) (ls := [some (.ref 56), some (xI x0)]) rfl rfl rfl rfl rfl rfl (cw_176_56_s (l := l) (D := D) (b0 := b0) (ad := ad) (Hb := Hb) (tau := tau) (d := d) (Post := fun r => ∃ (Z' : xZ) (h' : mx_H), r = (none, h') ∧ XH n s S Z' h' ∧ GI n S Z' ∧ fr' [(56, 6), (56, 7), (56, 9), (56, 10), (56, 11), (56, 12), (60, (-1))] Z Z' ∧ (QR Z Z' a0 1 0 ∧ ((Z' 56 6 ≤ Z' 56 7 ∧ Z' 56 7 ≤ Z 56 8 ∧ (Z' 56 9 = 24 ∨ Z' 56 6 < Z' 56 7)) ∧ Z' 60 1 = Z 60 1 ∧ Z' 60 2 = Z 60 2 ∧ Z 56 6 ≤ Z' 56 6 ∧ Z 60 61 ≤ Z' 60 61 ∧ Z' 60 61 - Z 60 61 ≤ Z' 56 6 - Z 56 6))) hx hG p0 k0 k1 k2 k3 IH hd (fun Z' h' q1 q2 q3 q4 => ⟨Z', h', rfl, q1, q2, q3, q4⟩))
  subst e; exact ⟨Z', h', hca, q⟩
set_option maxHeartbeats 8000000 in
set_option maxRecDepth 100000 in
theorem cw_177_56_s {l : Launch} {D : va_G} {b0 : Nat} {ad : Nat → Nat} {Hb : Heap} {tau : Nat → Int64} {d n s : Nat} {S : Nat → xS} {Z : xZ} {h : mx_H} {Post : mx_R → Prop} {a0 : Int} (hx : XH n s S Z h) (hG : GI n S Z)  {x0 : Int} (p0 : 0 ≤ x0 ∧ x0 ≤ 6) (k0 : (Z 56 6 ≤ Z 56 7 ∧ Z 56 7 ≤ Z 56 8 ∧ (Z 56 9 = 24 ∨ Z 56 6 < Z 56 7))) (k1 : Z 60 61 ≤ Z 56 6) (k2 : a0 ≤ Z 60 61) (k3 : 0 ≤ a0) {kk : Nat} (IH : RBmh l D b0 ad Hb tau kk x0) (hd : kk ≤ d) (hP : ∀ (Z' : xZ) (h' : mx_H), XH n s S Z' h' → GI n S Z' → fr' [(56, 6), (56, 7), (56, 9), (56, 10), (56, 11), (56, 12), (60, (-1))] Z Z' → QR Z Z' a0 1 0 ∧ ((Z' 56 6 ≤ Z' 56 7 ∧ Z' 56 7 ≤ Z 56 8 ∧ (Z' 56 9 = 24 ∨ Z' 56 6 < Z' 56 7)) ∧ Z' 60 1 = Z 60 1 ∧ Z' 60 2 = Z 60 2 ∧ Z 56 6 ≤ Z' 56 6 ∧ Z 60 61 ≤ Z' 60 61 ∧ Z' 60 61 - Z 60 61 ≤ Z' 56 6 - Z 56 6) → Post (none, h')) : mx_J (tB l D b0 ad Hb tau) mt_177 (d + 13) 0 [some (.ref 56), some (xI x0)] [] h Post := by
    have a56 : 56 < n := lt83 (GI_n hG) rfl
    have s56 : S 56 = .inl (12, [0, 2, 2, 2, 2, 0, 0, 0, 0, 0, 0, 0, 0, 0, 0, 2, 2, 2, 0, 2, 2, 2, 0, 0, 2, 2, 2, 2, 2, 2, 0, 0, 2, 2, 2, 2, 2, 2, 2, 2, 2, 2]) := GI_s hG 56 rfl
    refine mx_J.step (sn_177 0) (fun _ _ => rfl) ?_
    refine mx_J.step (sn_177 1) (fun _ _ => rfl) ?_
    have b2 : 0 ≤ Z 56 6 ∧ Z 56 6 ≤ 900 := hG.pr 56 6
    have b3 : 0 ≤ Z 56 7 ∧ Z 56 7 ≤ 900 := hG.pr 56 7
    have b4 : 0 ≤ Z 56 8 ∧ Z 56 8 ≤ 900 := hG.pr 56 8
    have b5 : 0 ≤ Z 56 9 ∧ Z 56 9 ≤ 100 := hG.pr 56 9
    have b6 : 0 ≤ Z 56 11 ∧ Z 56 11 ≤ 4 := hG.pr 56 11
    have b7 : 0 ≤ Z 60 61 ∧ Z 60 61 ≤ 900 := by have hq := GI_ex hG 60 61; replace hq : f60 (61 % 962) (Z 60 61) := hq; unfold f60 at hq; omega
    have b8 : (-2147483648) ≤ Z 60 61 ∧ Z 60 61 ≤ 2147483647 := hG.pr 60 61
    have b9 : 0 ≤ Z 60 1 ∧ Z 60 1 ≤ 18 := by have hq := GI_ex hG 60 1; replace hq : f60 (1 % 962) (Z 60 1) := hq; unfold f60 at hq; omega
    have b10 : (-2147483648) ≤ Z 60 1 ∧ Z 60 1 ≤ 2147483647 := hG.pr 60 1
    have b11 : 0 ≤ Z 60 2 ∧ Z 60 2 ≤ 18 := by have hq := GI_ex hG 60 2; replace hq : f60 (2 % 962) (Z 60 2) := hq; unfold f60 at hq; omega
    have b12 : (-2147483648) ≤ Z 60 2 ∧ Z 60 2 ≤ 2147483647 := hG.pr 60 2
    obtain ⟨Z1, h1, hc1, hx1, hG1, hf1, b1⟩ := ct_176_56_s (a0 := a0) (d := d + 0) (l := l) (D := D) (b0 := b0) (ad := ad) (Hb := Hb) (tau := tau) hx hG (show 0 ≤ x0 ∧ x0 ≤ 6 by omega) (show (Z 56 6 ≤ Z 56 7 ∧ Z 56 7 ≤ Z 56 8 ∧ (Z 56 9 = 24 ∨ Z 56 6 < Z 56 7)) by omega) (show Z 60 61 ≤ Z 56 6 by omega) (show a0 ≤ Z 60 61 by omega) (show 0 ≤ a0 by omega) IH (by omega)
    obtain ⟨bq1, b1⟩ := b1
    have b13 : 0 ≤ Z1 56 6 ∧ Z1 56 6 ≤ 900 := hG1.pr 56 6
    have b14 : 0 ≤ Z1 56 7 ∧ Z1 56 7 ≤ 900 := hG1.pr 56 7
    have b15 : 0 ≤ Z1 56 9 ∧ Z1 56 9 ≤ 100 := hG1.pr 56 9
    have b16 : 0 ≤ Z1 56 11 ∧ Z1 56 11 ≤ 4 := hG1.pr 56 11
    have b17 : 0 ≤ Z1 60 61 ∧ Z1 60 61 ≤ 900 := by have hq := GI_ex hG1 60 61; replace hq : f60 (61 % 962) (Z1 60 61) := hq; unfold f60 at hq; omega
    have b18 : (-2147483648) ≤ Z1 60 61 ∧ Z1 60 61 ≤ 2147483647 := hG1.pr 60 61
    have b19 : 0 ≤ Z1 60 1 ∧ Z1 60 1 ≤ 18 := by have hq := GI_ex hG1 60 1; replace hq : f60 (1 % 962) (Z1 60 1) := hq; unfold f60 at hq; omega
    have b20 : (-2147483648) ≤ Z1 60 1 ∧ Z1 60 1 ≤ 2147483647 := hG1.pr 60 1
    have b21 : 0 ≤ Z1 60 2 ∧ Z1 60 2 ≤ 18 := by have hq := GI_ex hG1 60 2; replace hq : f60 (2 % 962) (Z1 60 2) := hq; unfold f60 at hq; omega
    have b22 : (-2147483648) ≤ Z1 60 2 ∧ Z1 60 2 ≤ 2147483647 := hG1.pr 60 2
    have r1 := QR_tr (d := 1) (c := 0) (QR_rf (Z := Z) (a := a0)) bq1 (by decide) (by decide) (by decide)
    refine Jcv0 hx (show mx_Sn _ _ 2 (mx_callv 176 2 12 5) from sn_177 2) a56 s56 hc1 rfl rfl rfl ?_
    have c5 : ∀ (m23 : Nat)  (Z24 : xZ) (h24 : mx_H), (((Z 56 8 - Z24 56 6).toNat : Nat) : Int) < (m23 : Int) → (Z24 56 6 ≤ Z24 56 7 ∧ Z24 56 7 ≤ Z 56 8) → (Z24 56 9 = 24 ∨ Z24 56 6 < Z24 56 7) → (Z 56 6 ≤ Z24 56 6 ∧ Z 60 61 ≤ Z24 60 61 ∧ Z24 60 61 - Z 60 61 ≤ Z24 56 6 - Z 56 6) → (Z24 60 1 = Z 60 1 ∧ Z24 60 2 = Z 60 2) → QR Z Z24 a0 1 0 → XH n s S Z24 h24 → GI n S Z24 → fr' [(56, 6), (56, 7), (56, 9), (56, 10), (56, 11), (56, 12), (60, (-1))] Z1 Z24 → mx_J (tB l D b0 ad Hb tau) mt_177 (d + 13) 5 [some (.ref 56), some (xI x0)] [] h24 Post := by
      intro m23
      induction m23 with
      | zero => intro Z24 h24 q23 f23_0 f23_1 f23_2 f23_3 f23_4 hx24 hG24 hf24; exact absurd q23 (by omega)
      | succ m23 ih23 =>
        intro Z24 h24 q23 f23_0 f23_1 f23_2 f23_3 f23_4 hx24 hG24 hf24
        have b25 : 0 ≤ Z24 56 6 ∧ Z24 56 6 ≤ 900 := hG24.pr 56 6
        have b26 : 0 ≤ Z24 56 7 ∧ Z24 56 7 ≤ 900 := hG24.pr 56 7
        have b27 : 0 ≤ Z24 56 6 ∧ Z24 56 6 ≤ 900 := hG24.pr 56 6
        have b28 : 0 ≤ Z24 56 7 ∧ Z24 56 7 ≤ 900 := hG24.pr 56 7
        have b29 : 0 ≤ Z24 56 9 ∧ Z24 56 9 ≤ 100 := hG24.pr 56 9
        have b30 : 0 ≤ Z24 56 6 ∧ Z24 56 6 ≤ 900 := hG24.pr 56 6
        have b31 : 0 ≤ Z24 60 61 ∧ Z24 60 61 ≤ 900 := by have hq := GI_ex hG24 60 61; replace hq : f60 (61 % 962) (Z24 60 61) := hq; unfold f60 at hq; omega
        have b32 : (-2147483648) ≤ Z24 60 61 ∧ Z24 60 61 ≤ 2147483647 := hG24.pr 60 61
        have b33 : 0 ≤ Z24 60 1 ∧ Z24 60 1 ≤ 18 := by have hq := GI_ex hG24 60 1; replace hq : f60 (1 % 962) (Z24 60 1) := hq; unfold f60 at hq; omega
        have b34 : (-2147483648) ≤ Z24 60 1 ∧ Z24 60 1 ≤ 2147483647 := hG24.pr 60 1
        have b35 : 0 ≤ Z24 60 2 ∧ Z24 60 2 ≤ 18 := by have hq := GI_ex hG24 60 2; replace hq : f60 (2 % 962) (Z24 60 2) := hq; unfold f60 at hq; omega
        have b36 : (-2147483648) ≤ Z24 60 2 ∧ Z24 60 2 ≤ 2147483647 := hG24.pr 60 2
        have b37 : 0 ≤ Z24 56 6 ∧ Z24 56 6 ≤ 900 := hG24.pr 56 6
        refine mx_J.step (sn_177 5) (fun _ _ => rfl) ?_
        refine JcI (z := 14) (show mx_Sn _ _ 6 (mx_const (.int 14) 8) from sn_177 6) rfl ?_
        have b39 : 0 ≤ Z24 56 6 ∧ Z24 56 6 ≤ 900 := hG24.pr 56 6
        have b40 : 0 ≤ Z24 56 7 ∧ Z24 56 7 ≤ 900 := hG24.pr 56 7
        have eq41 : Z24 56 8 = Z 56 8 := ((hf24 56 8 rfl).trans (hf1 56 8 rfl))
        have b42 : 0 ≤ Z 56 8 ∧ Z 56 8 ≤ 900 := hG.pr 56 8
        have b43 : 0 ≤ Z24 56 9 ∧ Z24 56 9 ≤ 100 := hG24.pr 56 9
        have b44 : 0 ≤ Z24 56 11 ∧ Z24 56 11 ≤ 4 := hG24.pr 56 11
        obtain ⟨z38, Z38, h38, hc38, hx38, hG38, hf38, b38⟩ := ct_165_56 (d := d + 6) (l := l) (D := D) (b0 := b0) (ad := ad) (Hb := Hb) (tau := tau) hx24 hG24 (show 0 ≤ 14 ∧ 14 ≤ 100 by omega) (show (Z24 56 6 ≤ Z24 56 7 ∧ Z24 56 7 ≤ Z24 56 8 ∧ (Z24 56 9 = 24 ∨ Z24 56 6 < Z24 56 7)) by first | omega | (simp only [eq41]; omega)) (show ¬ 14 = 24 by first | omega | (simp only [eq41]; omega))
        try rw [eq41] at b38
        have b45 : 0 ≤ Z38 56 6 ∧ Z38 56 6 ≤ 900 := hG38.pr 56 6
        have b46 : 0 ≤ Z38 56 7 ∧ Z38 56 7 ≤ 900 := hG38.pr 56 7
        have b47 : 0 ≤ Z38 56 9 ∧ Z38 56 9 ≤ 100 := hG38.pr 56 9
        have b48 : 0 ≤ Z24 56 6 ∧ Z24 56 6 ≤ 900 := hG24.pr 56 6
        have b49 : 0 ≤ Z24 56 11 ∧ Z24 56 11 ≤ 4 := hG24.pr 56 11
        have b50 : 0 ≤ Z24 56 9 ∧ Z24 56 9 ≤ 100 := hG24.pr 56 9
        have r38 := QR_g (k := 0) (c2 := 0) f23_4 (fun e => (hf38 56 11 rfl).symm.trans e) (fun i => hf38 60 i rfl) (fun e => by omega) (by decide)
        have rk38 : z38 = 1 → QR Z Z38 a0 1 1 := fun ez => QR_g (k := 1) f23_4 (fun e => (hf38 56 11 rfl).symm.trans e) (fun i => hf38 60 i rfl) (fun e => by omega) (by decide)
        refine Jcv hx24 (show mx_Sn _ _ 8 (mx_callv 165 2 12 11) from sn_177 8) a56 s56 hc38 rfl rfl rfl ?_
        refine Jif_eq (show mx_Sn _ _ 11 (mx_if_eq 29 14) from sn_177 11) (by omega) (fun q51 => ?_) (fun q51 => ?_)
        · skip
          have b52 : 0 ≤ Z38 56 6 ∧ Z38 56 6 ≤ 900 := hG38.pr 56 6
          have b53 : 0 ≤ Z38 56 7 ∧ Z38 56 7 ≤ 900 := hG38.pr 56 7
          have b54 : 0 ≤ Z38 56 9 ∧ Z38 56 9 ≤ 100 := hG38.pr 56 9
          have eq55 : Z38 56 11 = Z24 56 11 := (hf38 56 11 rfl)
          have b56 : 0 ≤ Z24 56 11 ∧ Z24 56 11 ≤ 4 := hG24.pr 56 11
          have eq57 : Z38 60 61 = Z24 60 61 := (hf38 60 61 rfl)
          have b58 : 0 ≤ Z24 60 61 ∧ Z24 60 61 ≤ 900 := by have hq := GI_ex hG24 60 61; replace hq : f60 (61 % 962) (Z24 60 61) := hq; unfold f60 at hq; omega
          have b59 : (-2147483648) ≤ Z24 60 61 ∧ Z24 60 61 ≤ 2147483647 := hG24.pr 60 61
          have eq60 : Z38 60 1 = Z24 60 1 := (hf38 60 1 rfl)
          have b61 : 0 ≤ Z24 60 1 ∧ Z24 60 1 ≤ 18 := by have hq := GI_ex hG24 60 1; replace hq : f60 (1 % 962) (Z24 60 1) := hq; unfold f60 at hq; omega
          have b62 : (-2147483648) ≤ Z24 60 1 ∧ Z24 60 1 ≤ 2147483647 := hG24.pr 60 1
          have eq63 : Z38 60 2 = Z24 60 2 := (hf38 60 2 rfl)
          have b64 : 0 ≤ Z24 60 2 ∧ Z24 60 2 ≤ 18 := by have hq := GI_ex hG24 60 2; replace hq : f60 (2 % 962) (Z24 60 2) := hq; unfold f60 at hq; omega
          have b65 : (-2147483648) ≤ Z24 60 2 ∧ Z24 60 2 ≤ 2147483647 := hG24.pr 60 2
          have b66 : 0 ≤ Z38 56 6 ∧ Z38 56 6 ≤ 900 := hG38.pr 56 6
          have b67 : 0 ≤ Z38 56 7 ∧ Z38 56 7 ≤ 900 := hG38.pr 56 7
          have eq68 : Z38 56 8 = Z 56 8 := ((hf38 56 8 rfl).trans ((hf24 56 8 rfl).trans (hf1 56 8 rfl)))
          have b69 : 0 ≤ Z 56 8 ∧ Z 56 8 ≤ 900 := hG.pr 56 8
          have b70 : 0 ≤ Z38 56 9 ∧ Z38 56 9 ≤ 100 := hG38.pr 56 9
          have eq71 : Z38 56 11 = Z24 56 11 := (hf38 56 11 rfl)
          have b72 : 0 ≤ Z24 56 11 ∧ Z24 56 11 ≤ 4 := hG24.pr 56 11
          have eq73 : Z38 60 61 = Z24 60 61 := (hf38 60 61 rfl)
          have b74 : 0 ≤ Z24 60 61 ∧ Z24 60 61 ≤ 900 := by have hq := GI_ex hG24 60 61; replace hq : f60 (61 % 962) (Z24 60 61) := hq; unfold f60 at hq; omega
          have b75 : (-2147483648) ≤ Z24 60 61 ∧ Z24 60 61 ≤ 2147483647 := hG24.pr 60 61
          have eq76 : Z38 60 1 = Z24 60 1 := (hf38 60 1 rfl)
          have b77 : 0 ≤ Z24 60 1 ∧ Z24 60 1 ≤ 18 := by have hq := GI_ex hG24 60 1; replace hq : f60 (1 % 962) (Z24 60 1) := hq; unfold f60 at hq; omega
          have b78 : (-2147483648) ≤ Z24 60 1 ∧ Z24 60 1 ≤ 2147483647 := hG24.pr 60 1
          have eq79 : Z38 60 2 = Z24 60 2 := (hf38 60 2 rfl)
          have b80 : 0 ≤ Z24 60 2 ∧ Z24 60 2 ≤ 18 := by have hq := GI_ex hG24 60 2; replace hq : f60 (2 % 962) (Z24 60 2) := hq; unfold f60 at hq; omega
          have b81 : (-2147483648) ≤ Z24 60 2 ∧ Z24 60 2 ≤ 2147483647 := hG24.pr 60 2
          exact mx_J.ret (sn_177 29) (fun _ _ => rfl) (hP Z38 h38 hx38 hG38 (fr_tr (M := [(56, 6), (56, 7), (56, 9), (56, 10), (56, 11), (56, 12), (60, (-1))]) (fr_tr (M := [(56, 6), (56, 7), (56, 9), (56, 10), (56, 11), (56, 12), (60, (-1))]) (fr_tr (M := [(56, 6), (56, 7), (56, 9), (56, 10), (56, 11), (56, 12), (60, (-1))]) fr_rf (hf1) (M1 := []) rfl rfl) (hf24) rfl rfl) (hf38) rfl rfl) ⟨(QR_le r38 (by decide)), by omega⟩)
        · skip
          refine mx_J.step (sn_177 14) (fun _ _ => rfl) ?_
          refine mx_J.step (sn_177 15) (fun _ _ => rfl) ?_
          have b83 : 0 ≤ Z38 56 6 ∧ Z38 56 6 ≤ 900 := hG38.pr 56 6
          have b84 : 0 ≤ Z38 56 7 ∧ Z38 56 7 ≤ 900 := hG38.pr 56 7
          have eq85 : Z38 56 8 = Z 56 8 := ((hf38 56 8 rfl).trans ((hf24 56 8 rfl).trans (hf1 56 8 rfl)))
          have b86 : 0 ≤ Z 56 8 ∧ Z 56 8 ≤ 900 := hG.pr 56 8
          have b87 : 0 ≤ Z38 56 9 ∧ Z38 56 9 ≤ 100 := hG38.pr 56 9
          have eq88 : Z38 56 11 = Z24 56 11 := (hf38 56 11 rfl)
          have b89 : 0 ≤ Z24 56 11 ∧ Z24 56 11 ≤ 4 := hG24.pr 56 11
          have eq90 : Z38 60 61 = Z24 60 61 := (hf38 60 61 rfl)
          have b91 : 0 ≤ Z24 60 61 ∧ Z24 60 61 ≤ 900 := by have hq := GI_ex hG24 60 61; replace hq : f60 (61 % 962) (Z24 60 61) := hq; unfold f60 at hq; omega
          have b92 : (-2147483648) ≤ Z24 60 61 ∧ Z24 60 61 ≤ 2147483647 := hG24.pr 60 61
          have eq93 : Z38 60 1 = Z24 60 1 := (hf38 60 1 rfl)
          have b94 : 0 ≤ Z24 60 1 ∧ Z24 60 1 ≤ 18 := by have hq := GI_ex hG24 60 1; replace hq : f60 (1 % 962) (Z24 60 1) := hq; unfold f60 at hq; omega
          have b95 : (-2147483648) ≤ Z24 60 1 ∧ Z24 60 1 ≤ 2147483647 := hG24.pr 60 1
          have eq96 : Z38 60 2 = Z24 60 2 := (hf38 60 2 rfl)
          have b97 : 0 ≤ Z24 60 2 ∧ Z24 60 2 ≤ 18 := by have hq := GI_ex hG24 60 2; replace hq : f60 (2 % 962) (Z24 60 2) := hq; unfold f60 at hq; omega
          have b98 : (-2147483648) ≤ Z24 60 2 ∧ Z24 60 2 ≤ 2147483647 := hG24.pr 60 2
          obtain ⟨Z82, h82, hc82, hx82, hG82, hf82, b82⟩ := ct_176_56_s (a0 := a0) (d := d + 0) (l := l) (D := D) (b0 := b0) (ad := ad) (Hb := Hb) (tau := tau) hx38 hG38 (show 0 ≤ x0 ∧ x0 ≤ 6 by omega) (show (Z38 56 6 ≤ Z38 56 7 ∧ Z38 56 7 ≤ Z38 56 8 ∧ (Z38 56 9 = 24 ∨ Z38 56 6 < Z38 56 7)) by first | omega | (simp only [eq85, eq88, eq90, eq93, eq96]; omega)) (show Z38 60 61 ≤ Z38 56 6 by first | omega | (simp only [eq85, eq88, eq90, eq93, eq96]; omega)) (show a0 ≤ Z38 60 61 by first | omega | (simp only [eq85, eq88, eq90, eq93, eq96]; omega)) (show 0 ≤ a0 by first | omega | (simp only [eq85, eq88, eq90, eq93, eq96]; omega)) IH (by omega)
          try rw [eq85] at b82
          try rw [eq88] at b82
          try rw [eq90] at b82
          try rw [eq93] at b82
          try rw [eq96] at b82
          obtain ⟨bq82, b82⟩ := b82
          have b99 : 0 ≤ Z82 56 6 ∧ Z82 56 6 ≤ 900 := hG82.pr 56 6
          have b100 : 0 ≤ Z82 56 7 ∧ Z82 56 7 ≤ 900 := hG82.pr 56 7
          have b101 : 0 ≤ Z82 56 9 ∧ Z82 56 9 ≤ 100 := hG82.pr 56 9
          have b102 : 0 ≤ Z82 56 11 ∧ Z82 56 11 ≤ 4 := hG82.pr 56 11
          have b103 : 0 ≤ Z82 60 61 ∧ Z82 60 61 ≤ 900 := by have hq := GI_ex hG82 60 61; replace hq : f60 (61 % 962) (Z82 60 61) := hq; unfold f60 at hq; omega
          have b104 : (-2147483648) ≤ Z82 60 61 ∧ Z82 60 61 ≤ 2147483647 := hG82.pr 60 61
          have b105 : 0 ≤ Z82 60 1 ∧ Z82 60 1 ≤ 18 := by have hq := GI_ex hG82 60 1; replace hq : f60 (1 % 962) (Z82 60 1) := hq; unfold f60 at hq; omega
          have b106 : (-2147483648) ≤ Z82 60 1 ∧ Z82 60 1 ≤ 2147483647 := hG82.pr 60 1
          have b107 : 0 ≤ Z82 60 2 ∧ Z82 60 2 ≤ 18 := by have hq := GI_ex hG82 60 2; replace hq : f60 (2 % 962) (Z82 60 2) := hq; unfold f60 at hq; omega
          have b108 : (-2147483648) ≤ Z82 60 2 ∧ Z82 60 2 ≤ 2147483647 := hG82.pr 60 2
          have r82 := QR_tr (d := 2) (c := 1) (rk38 (by omega)) bq82 (by decide) (by decide) (by decide)
          refine Jcv0 hx38 (show mx_Sn _ _ 16 (mx_callv 176 2 12 19) from sn_177 16) a56 s56 hc82 rfl rfl rfl ?_
          refine mx_J.step (sn_177 19) (fun _ _ => rfl) ?_
          refine JcI (z := 3008) (show mx_Sn _ _ 20 (mx_const (.int 3008) 23) from sn_177 20) rfl ?_
          have eq110 : Z82 56 8 = Z 56 8 := ((hf82 56 8 rfl).trans ((hf38 56 8 rfl).trans ((hf24 56 8 rfl).trans (hf1 56 8 rfl))))
          have b111 : 0 ≤ Z 56 8 ∧ Z 56 8 ≤ 900 := hG.pr 56 8
          have b112 : 0 ≤ Z82 56 11 ∧ Z82 56 11 ≤ 4 := hG82.pr 56 11
          have b113 : 0 ≤ Z82 60 61 ∧ Z82 60 61 ≤ 900 := by have hq := GI_ex hG82 60 61; replace hq : f60 (61 % 962) (Z82 60 61) := hq; unfold f60 at hq; omega
          have b114 : (-2147483648) ≤ Z82 60 61 ∧ Z82 60 61 ≤ 2147483647 := hG82.pr 60 61
          have b115 : 0 ≤ Z82 60 1 ∧ Z82 60 1 ≤ 18 := by have hq := GI_ex hG82 60 1; replace hq : f60 (1 % 962) (Z82 60 1) := hq; unfold f60 at hq; omega
          have b116 : (-2147483648) ≤ Z82 60 1 ∧ Z82 60 1 ≤ 2147483647 := hG82.pr 60 1
          have b117 : 0 ≤ Z82 60 2 ∧ Z82 60 2 ≤ 18 := by have hq := GI_ex hG82 60 2; replace hq : f60 (2 % 962) (Z82 60 2) := hq; unfold f60 at hq; omega
          have b118 : (-2147483648) ≤ Z82 60 2 ∧ Z82 60 2 ≤ 2147483647 := hG82.pr 60 2
          have rp109 := QR_n r82
          obtain ⟨Z109, h109, hc109, hx109, hG109, hf109, b109⟩ := ct_169_56_3007 (a0 := a0) (d := d + 12) (l := l) (D := D) (b0 := b0) (ad := ad) (Hb := Hb) (tau := tau) hx82 hG82 (show 3007 ≤ 3008 ∧ 3008 ≤ 3008 by omega) (show (Z82 56 11 = 0 → Z82 60 61 ≤ 899) by first | omega | (simp only [eq110]; omega)) (show a0 ≤ Z82 60 61 by first | omega | (simp only [eq110]; omega)) (show 0 ≤ a0 by first | omega | (simp only [eq110]; omega))
          try rw [eq110] at b109
          obtain ⟨bq109, b109⟩ := b109
          have b119 : 0 ≤ Z109 60 61 ∧ Z109 60 61 ≤ 900 := by have hq := GI_ex hG109 60 61; replace hq : f60 (61 % 962) (Z109 60 61) := hq; unfold f60 at hq; omega
          have b120 : (-2147483648) ≤ Z109 60 61 ∧ Z109 60 61 ≤ 2147483647 := hG109.pr 60 61
          have b121 : 0 ≤ Z109 60 1 ∧ Z109 60 1 ≤ 18 := by have hq := GI_ex hG109 60 1; replace hq : f60 (1 % 962) (Z109 60 1) := hq; unfold f60 at hq; omega
          have b122 : (-2147483648) ≤ Z109 60 1 ∧ Z109 60 1 ≤ 2147483647 := hG109.pr 60 1
          have b123 : 0 ≤ Z109 60 2 ∧ Z109 60 2 ≤ 18 := by have hq := GI_ex hG109 60 2; replace hq : f60 (2 % 962) (Z109 60 2) := hq; unfold f60 at hq; omega
          have b124 : (-2147483648) ≤ Z109 60 2 ∧ Z109 60 2 ≤ 2147483647 := hG109.pr 60 2
          have rn109 := QR_n r82
          have r109 := QR_c (d2 := 1) (c2 := 0) r82 bq109 (by omega) (hf109 56 11 rfl) (hf109 56 6 rfl) (by decide) (by decide) (by decide)
          refine Jcv0 hx82 (show mx_Sn _ _ 23 (mx_callv 169 2 12 26) from sn_177 23) a56 s56 hc109 rfl rfl rfl ?_
          refine mx_J.step (sn_177 26) (fun _ _ => rfl) ?_
          have eq125 : Z109 56 6 = Z82 56 6 := (hf109 56 6 rfl)
          have b126 : 0 ≤ Z82 56 6 ∧ Z82 56 6 ≤ 900 := hG82.pr 56 6
          have eq127 : Z109 56 7 = Z82 56 7 := (hf109 56 7 rfl)
          have b128 : 0 ≤ Z82 56 7 ∧ Z82 56 7 ≤ 900 := hG82.pr 56 7
          have eq129 : Z109 56 6 = Z82 56 6 := (hf109 56 6 rfl)
          have b130 : 0 ≤ Z82 56 6 ∧ Z82 56 6 ≤ 900 := hG82.pr 56 6
          have eq131 : Z109 56 7 = Z82 56 7 := (hf109 56 7 rfl)
          have b132 : 0 ≤ Z82 56 7 ∧ Z82 56 7 ≤ 900 := hG82.pr 56 7
          have eq133 : Z109 56 9 = Z82 56 9 := (hf109 56 9 rfl)
          have b134 : 0 ≤ Z82 56 9 ∧ Z82 56 9 ≤ 100 := hG82.pr 56 9
          have eq135 : Z109 56 6 = Z82 56 6 := (hf109 56 6 rfl)
          have b136 : 0 ≤ Z82 56 6 ∧ Z82 56 6 ≤ 900 := hG82.pr 56 6
          have b137 : 0 ≤ Z109 60 61 ∧ Z109 60 61 ≤ 900 := by have hq := GI_ex hG109 60 61; replace hq : f60 (61 % 962) (Z109 60 61) := hq; unfold f60 at hq; omega
          have b138 : (-2147483648) ≤ Z109 60 61 ∧ Z109 60 61 ≤ 2147483647 := hG109.pr 60 61
          have b139 : 0 ≤ Z109 60 1 ∧ Z109 60 1 ≤ 18 := by have hq := GI_ex hG109 60 1; replace hq : f60 (1 % 962) (Z109 60 1) := hq; unfold f60 at hq; omega
          have b140 : (-2147483648) ≤ Z109 60 1 ∧ Z109 60 1 ≤ 2147483647 := hG109.pr 60 1
          have b141 : 0 ≤ Z109 60 2 ∧ Z109 60 2 ≤ 18 := by have hq := GI_ex hG109 60 2; replace hq : f60 (2 % 962) (Z109 60 2) := hq; unfold f60 at hq; omega
          have b142 : (-2147483648) ≤ Z109 60 2 ∧ Z109 60 2 ≤ 2147483647 := hG109.pr 60 2
          have eq143 : Z109 56 6 = Z82 56 6 := (hf109 56 6 rfl)
          have b144 : 0 ≤ Z82 56 6 ∧ Z82 56 6 ≤ 900 := hG82.pr 56 6
          exact ih23 Z109 h109 (by omega) (by omega) (by omega) (by omega) (by omega) (QR_le r109 (by decide)) hx109 hG109 (fr_tr (M := [(56, 6), (56, 7), (56, 9), (56, 10), (56, 11), (56, 12), (60, (-1))]) (fr_tr (M := [(56, 6), (56, 7), (56, 9), (56, 10), (56, 11), (56, 12), (60, (-1))]) (fr_tr (M := [(56, 6), (56, 7), (56, 9), (56, 10), (56, 11), (56, 12), (60, (-1))]) (fr_tr (M := [(56, 6), (56, 7), (56, 9), (56, 10), (56, 11), (56, 12), (60, (-1))]) fr_rf (hf24) (M1 := []) rfl rfl) (hf38) rfl rfl) (hf82) rfl rfl) (hf109) rfl rfl)
    have b145 : 0 ≤ Z1 56 6 ∧ Z1 56 6 ≤ 900 := hG1.pr 56 6
    have b146 : 0 ≤ Z1 56 7 ∧ Z1 56 7 ≤ 900 := hG1.pr 56 7
    have b147 : 0 ≤ Z1 56 6 ∧ Z1 56 6 ≤ 900 := hG1.pr 56 6
    have b148 : 0 ≤ Z1 56 7 ∧ Z1 56 7 ≤ 900 := hG1.pr 56 7
    have b149 : 0 ≤ Z1 56 9 ∧ Z1 56 9 ≤ 100 := hG1.pr 56 9
    have b150 : 0 ≤ Z1 56 6 ∧ Z1 56 6 ≤ 900 := hG1.pr 56 6
    have b151 : 0 ≤ Z1 60 61 ∧ Z1 60 61 ≤ 900 := by have hq := GI_ex hG1 60 61; replace hq : f60 (61 % 962) (Z1 60 61) := hq; unfold f60 at hq; omega
    have b152 : (-2147483648) ≤ Z1 60 61 ∧ Z1 60 61 ≤ 2147483647 := hG1.pr 60 61
    have b153 : 0 ≤ Z1 60 1 ∧ Z1 60 1 ≤ 18 := by have hq := GI_ex hG1 60 1; replace hq : f60 (1 % 962) (Z1 60 1) := hq; unfold f60 at hq; omega
    have b154 : (-2147483648) ≤ Z1 60 1 ∧ Z1 60 1 ≤ 2147483647 := hG1.pr 60 1
    have b155 : 0 ≤ Z1 60 2 ∧ Z1 60 2 ≤ 18 := by have hq := GI_ex hG1 60 2; replace hq : f60 (2 % 962) (Z1 60 2) := hq; unfold f60 at hq; omega
    have b156 : (-2147483648) ≤ Z1 60 2 ∧ Z1 60 2 ≤ 2147483647 := hG1.pr 60 2
    have b157 : 0 ≤ Z1 56 6 ∧ Z1 56 6 ≤ 900 := hG1.pr 56 6
    exact c5 (Int.toNat ((((Z 56 8 - Z1 56 6).toNat : Nat) : Int)) + 1) Z1 h1 (by omega) (by omega) (by omega) (by omega) (by omega) (QR_le r1 (by decide)) hx1 hG1 fr_rf
theorem ct_177_56_s {l : Launch} {D : va_G} {b0 : Nat} {ad : Nat → Nat} {Hb : Heap} {tau : Nat → Int64} {d n s : Nat} {S : Nat → xS} {Z : xZ} {h : mx_H} {a0 : Int} (hx : XH n s S Z h) (hG : GI n S Z)  {x0 : Int} (p0 : 0 ≤ x0 ∧ x0 ≤ 6) (k0 : (Z 56 6 ≤ Z 56 7 ∧ Z 56 7 ≤ Z 56 8 ∧ (Z 56 9 = 24 ∨ Z 56 6 < Z 56 7))) (k1 : Z 60 61 ≤ Z 56 6) (k2 : a0 ≤ Z 60 61) (k3 : 0 ≤ a0) {kk : Nat} (IH : RBmh l D b0 ad Hb tau kk x0) (hd : kk ≤ d) : ∃ (Z' : xZ) (h' : mx_H), mx_Ca (tB l D b0 ad Hb tau) (d + 14) 177 [.ref 56, xI x0] h (none, h') ∧ XH n s S Z' h' ∧ GI n S Z' ∧ fr' [(56, 6), (56, 7), (56, 9), (56, 10), (56, 11), (56, 12), (60, (-1))] Z Z' ∧ (QR Z Z' a0 1 0 ∧ ((Z' 56 6 ≤ Z' 56 7 ∧ Z' 56 7 ≤ Z 56 8 ∧ (Z' 56 9 = 24 ∨ Z' 56 6 < Z' 56 7)) ∧ Z' 60 1 = Z 60 1 ∧ Z' 60 2 = Z 60 2 ∧ Z 56 6 ≤ Z' 56 6 ∧ Z 60 61 ≤ Z' 60 61 ∧ Z' 60 61 - Z 60 61 ≤ Z' 56 6 - Z 56 6)) := by
  obtain ⟨r, hca, Z', h', e, q⟩ := Jmt (B := tB l D b0 ad Hb tau) (M := mt_177) (mi := 177) (as := [.ref 56, xI x0]) (d := d + 13) (ls := [some (.ref 56), some (xI x0)]) rfl rfl rfl rfl rfl rfl (cw_177_56_s (l := l) (D := D) (b0 := b0) (ad := ad) (Hb := Hb) (tau := tau) (d := d) (Post := fun r => ∃ (Z' : xZ) (h' : mx_H), r = (none, h') ∧ XH n s S Z' h' ∧ GI n S Z' ∧ fr' [(56, 6), (56, 7), (56, 9), (56, 10), (56, 11), (56, 12), (60, (-1))] Z Z' ∧ (QR Z Z' a0 1 0 ∧ ((Z' 56 6 ≤ Z' 56 7 ∧ Z' 56 7 ≤ Z 56 8 ∧ (Z' 56 9 = 24 ∨ Z' 56 6 < Z' 56 7)) ∧ Z' 60 1 = Z 60 1 ∧ Z' 60 2 = Z 60 2 ∧ Z 56 6 ≤ Z' 56 6 ∧ Z 60 61 ≤ Z' 60 61 ∧ Z' 60 61 - Z 60 61 ≤ Z' 56 6 - Z 56 6))) hx hG p0 k0 k1 k2 k3 IH hd (fun Z' h' q1 q2 q3 q4 => ⟨Z', h', rfl, q1, q2, q3, q4⟩))
  subst e; exact ⟨Z', h', hca, q⟩
theorem lev_m {l : Launch} {D : va_G} {b0 : Nat} {ad : Nat → Nat} {Hb : Heap} {tau : Nat → Int64} {x0 : Int} (p0 : 0 ≤ x0 ∧ x0 ≤ 6) {kk : Nat} (IH : RBmh l D b0 ad Hb tau kk x0) : RBm l D b0 ad Hb tau (kk + 14) x0 := by
  refine ⟨?_, ?_, ?_⟩
  · intro a0 d n s S Z h hd hx hG k0 k1 k2 k3
    obtain ⟨e, rfl⟩ : ∃ e, d = e + 11 := ⟨d - 11, by omega⟩
    obtain ⟨Z', h', hca, q1, q2, q3, q4⟩ := ct_174_56_s (a0 := a0) (d := e) (l := l) (D := D) (b0 := b0) (ad := ad) (Hb := Hb) (tau := tau) hx hG p0 k0 k1 k2 k3 IH (by omega)
    exact ⟨Z', h', hca, q1, q2, fr_tr (M1 := []) fr_rf q3 rfl rfl, q4⟩
  · intro a0 d n s S Z h hd hx hG k0 k1 k2 k3
    obtain ⟨e, rfl⟩ : ∃ e, d = e + 12 := ⟨d - 12, by omega⟩
    obtain ⟨Z', h', hca, q1, q2, q3, q4⟩ := ct_175_56_s (a0 := a0) (d := e) (l := l) (D := D) (b0 := b0) (ad := ad) (Hb := Hb) (tau := tau) hx hG p0 k0 k1 k2 k3 IH (by omega)
    exact ⟨Z', h', hca, q1, q2, fr_tr (M1 := []) fr_rf q3 rfl rfl, q4⟩
  · intro a0 d n s S Z h hd hx hG k0 k1 k2 k3
    obtain ⟨e, rfl⟩ : ∃ e, d = e + 14 := ⟨d - 14, by omega⟩
    obtain ⟨Z', h', hca, q1, q2, q3, q4⟩ := ct_177_56_s (a0 := a0) (d := e) (l := l) (D := D) (b0 := b0) (ad := ad) (Hb := Hb) (tau := tau) hx hG p0 k0 k1 k2 k3 IH (by omega)
    exact ⟨Z', h', hca, q1, q2, fr_tr (M1 := []) fr_rf q3 rfl rfl, q4⟩
theorem all_m {l : Launch} {D : va_G} {b0 : Nat} {ad : Nat → Nat} {Hb : Heap} {tau : Nat → Int64} : ∀ (e : Nat) (x0 : Int), x0 = 6 - (e : Int) → 0 ≤ x0 → RBm l D b0 ad Hb tau (14 * (e + 1)) x0
  | 0, x0, h, h0 => (show RBm l D b0 ad Hb tau (0 + 14) x0 from lev_m (kk := 0) (by omega) (fun q => absurd q (by omega)))
  | e + 1, x0, h, h0 => (show RBm l D b0 ad Hb tau (14 * (e + 1) + 14) x0 from lev_m (kk := 14 * (e + 1)) (by omega) (fun _ => all_m e (x0 + 1) (by omega) (by omega)))
theorem ct_174_56_i0 {l : Launch} {D : va_G} {b0 : Nat} {ad : Nat → Nat} {Hb : Heap} {tau : Nat → Int64} {a0 : Int} {d n s : Nat} {S : Nat → xS} {Z : xZ} {h : mx_H} (hx : XH n s S Z h) (hG : GI n S Z) (k0 : (Z 56 6 ≤ Z 56 7 ∧ Z 56 7 ≤ Z 56 8 ∧ (Z 56 9 = 24 ∨ Z 56 6 < Z 56 7))) (k1 : Z 60 61 ≤ Z 56 6) (k2 : a0 ≤ Z 60 61) (k3 : 0 ≤ a0) : ∃ (Z' : xZ) (h' : mx_H), mx_Ca (tB l D b0 ad Hb tau) (d + 98) 174 [.ref 56, xI 0] h (none, h') ∧ XH n s S Z' h' ∧ GI n S Z' ∧ fr' [(56, 6), (56, 7), (56, 9), (56, 10), (56, 11), (56, 12), (60, (-1))] Z Z' ∧ (QR Z Z' a0 1 0 ∧ ((Z' 56 6 ≤ Z' 56 7 ∧ Z' 56 7 ≤ Z 56 8 ∧ (Z' 56 9 = 24 ∨ Z' 56 6 < Z' 56 7)) ∧ Z' 60 1 = Z 60 1 ∧ Z' 60 2 = Z 60 2 ∧ Z 56 6 ≤ Z' 56 6 ∧ Z 60 61 ≤ Z' 60 61 ∧ Z' 60 61 - Z 60 61 ≤ Z' 56 6 - Z 56 6)) := (all_m 6 0 (by decide) (by decide)).1 a0 (d + 98) n s S Z h (by omega) hx hG k0 k1 k2 k3
theorem ct_177_56_i0 {l : Launch} {D : va_G} {b0 : Nat} {ad : Nat → Nat} {Hb : Heap} {tau : Nat → Int64} {a0 : Int} {d n s : Nat} {S : Nat → xS} {Z : xZ} {h : mx_H} (hx : XH n s S Z h) (hG : GI n S Z) (k0 : (Z 56 6 ≤ Z 56 7 ∧ Z 56 7 ≤ Z 56 8 ∧ (Z 56 9 = 24 ∨ Z 56 6 < Z 56 7))) (k1 : Z 60 61 ≤ Z 56 6) (k2 : a0 ≤ Z 60 61) (k3 : 0 ≤ a0) : ∃ (Z' : xZ) (h' : mx_H), mx_Ca (tB l D b0 ad Hb tau) (d + 98) 177 [.ref 56, xI 0] h (none, h') ∧ XH n s S Z' h' ∧ GI n S Z' ∧ fr' [(56, 6), (56, 7), (56, 9), (56, 10), (56, 11), (56, 12), (60, (-1))] Z Z' ∧ (QR Z Z' a0 1 0 ∧ ((Z' 56 6 ≤ Z' 56 7 ∧ Z' 56 7 ≤ Z 56 8 ∧ (Z' 56 9 = 24 ∨ Z' 56 6 < Z' 56 7)) ∧ Z' 60 1 = Z 60 1 ∧ Z' 60 2 = Z 60 2 ∧ Z 56 6 ≤ Z' 56 6 ∧ Z 60 61 ≤ Z' 60 61 ∧ Z' 60 61 - Z 60 61 ≤ Z' 56 6 - Z 56 6)) := (all_m 6 0 (by decide) (by decide)).2.2 a0 (d + 98) n s S Z h (by omega) hx hG k0 k1 k2 k3
set_option maxRecDepth 100000 in
theorem cw_156_60 {l : Launch} {D : va_G} {b0 : Nat} {ad : Nat → Nat} {Hb : Heap} {tau : Nat → Int64} {d n s : Nat} {S : Nat → xS} {Z : xZ} {h : mx_H} {Post : mx_R → Prop} (hx : XH n s S Z h) (hG : GI n S Z)   (hP : ∀ (Z' : xZ) (h' : mx_H), XH n s S Z' h' → GI n S Z' → fr' [(60, (-1))] Z Z' → (ai 60 Z' 962 0 0 = 1) → Post (none, h')) : mx_J (tB l D b0 ad Hb tau) mt_156 (d + 0) 0 [some (.ref 60), none] [] h Post := by
    have a60 : 60 < n := lt83 (GI_n hG) rfl
    have s60 : S 60 = .inr (.int, 962, 0) := GI_s hG 60 rfl
    refine JcI (z := 0) (show mx_Sn _ _ 0 (mx_const (.int 0) 1) from sn_156 0) rfl ?_
    refine mx_J.step (ls2 := [some (.ref 60), some (xI 0)]) (sn_156 1) (fun _ _ => rfl) ?_
    have c2 : ∀ (m1 : Nat) (w1_1 : Int) (Z2 : xZ) (h2 : mx_H), 962 - w1_1 < (m1 : Int) → 0 ≤ w1_1 ∧ w1_1 ≤ 962 → ai 60 Z2 w1_1 0 0 = 1 → XH n s S Z2 h2 → GI n S Z2 → fr' [(60, (-1))] Z Z2 → mx_J (tB l D b0 ad Hb tau) mt_156 (d + 0) 2 [some (.ref 60), some (xI w1_1)] [] h2 Post := by
      intro m1
      induction m1 with
      | zero => intro w1_1 Z2 h2 q1 f1_0 f1_1 hx2 hG2 hf2; exact absurd q1 (by omega)
      | succ m1 ih1 =>
        intro w1_1 Z2 h2 q1 f1_0 f1_1 hx2 hG2 hf2
        refine mx_J.step (sn_156 2) (fun _ _ => rfl) ?_
        refine JcI (z := 962) (show mx_Sn _ _ 3 (mx_const (.int 962) 6) from sn_156 3) rfl ?_
        refine Jicmp_ge (show mx_Sn _ _ 6 (mx_icmp_ge 19 9) from sn_156 6) (by omega) (by omega) (fun q3 => ?_) (fun q3 => ?_)
        · skip
          have af : ai 60 Z2 962 0 0 = 1 := ai_m (len := w1_1) (by assumption) (by omega) (by omega) (by omega)
          exact mx_J.ret (sn_156 19) (fun _ _ => rfl) (hP Z2 h2 hx2 hG2 (fr_tr (M := [(60, (-1))]) fr_rf (hf2) (M1 := []) rfl rfl) (by omega))
        · skip
          refine mx_J.step (sn_156 9) (fun _ _ => rfl) ?_
          refine mx_J.step (sn_156 10) (fun _ _ => rfl) ?_
          refine JcI (z := 0) (show mx_Sn _ _ 11 (mx_const (.int 0) 12) from sn_156 11) rfl ?_
          refine JiastI hx2 (show mx_Sn _ _ 12 (mx_iast 1 13) from sn_156 12) a60 s60 rfl (by omega) (fun Z4 h4 hx4 hE4 => ?_)
          have hG4 := GI_up hG2 hE4 (show (-2147483648) ≤ 0 ∧ 0 ≤ 2147483647 by omega) (show f60 ((w1_1) % 962) (0) by first | (rw [Int.emod_eq_of_lt (by omega) (by omega)]; unfold f60; omega) | assumption | (unfold f60; omega) | (unfold f60 at *; omega)) rfl
          have as1 : ai 60 Z4 (w1_1 + 1) 0 0 = 1 := ai_s (Z := Z2) (len := w1_1) (by assumption) hE4 rfl (by omega) rfl
          refine Jiinc (z := w1_1) (cz := 1) (ls2 := [some (.ref 60), some (xI (w1_1 + 1))]) (show mx_Sn _ _ 13 (mx_iinc 1 1 16) from sn_156 13) rfl rfl rfl rfl ?_
          refine mx_J.step (sn_156 16) (fun _ _ => rfl) ?_
          exact ih1 (w1_1 + 1) Z4 h4 (by omega) (by omega) (by first | exact ai_0 (by omega) | assumption) hx4 hG4 (fr_tr (M := [(60, (-1))]) (fr_tr (M := [(60, (-1))]) fr_rf (hf2) (M1 := []) rfl rfl) (fr_ua hE4) rfl rfl)
    exact c2 (Int.toNat (962 - 0) + 1) 0 Z h (by omega) (by omega) (by first | exact ai_0 (by omega) | assumption) hx hG fr_rf
theorem ct_156_60 {l : Launch} {D : va_G} {b0 : Nat} {ad : Nat → Nat} {Hb : Heap} {tau : Nat → Int64} {d n s : Nat} {S : Nat → xS} {Z : xZ} {h : mx_H} (hx : XH n s S Z h) (hG : GI n S Z)   : ∃ (Z' : xZ) (h' : mx_H), mx_Ca (tB l D b0 ad Hb tau) (d + 1) 156 [.ref 60] h (none, h') ∧ XH n s S Z' h' ∧ GI n S Z' ∧ fr' [(60, (-1))] Z Z' ∧ ((ai 60 Z' 962 0 0 = 1)) := by
  obtain ⟨r, hca, Z', h', e, q⟩ := Jmt (B := tB l D b0 ad Hb tau) (M := mt_156) (mi := 156) (as := [.ref 60]) (d := d + 0) (ls := [some (.ref 60), none]) rfl rfl rfl rfl rfl rfl (cw_156_60 (l := l) (D := D) (b0 := b0) (ad := ad) (Hb := Hb) (tau := tau) (d := d) (Post := fun r => ∃ (Z' : xZ) (h' : mx_H), r = (none, h') ∧ XH n s S Z' h' ∧ GI n S Z' ∧ fr' [(60, (-1))] Z Z' ∧ ((ai 60 Z' 962 0 0 = 1))) hx hG  (fun Z' h' q1 q2 q3 q4 => ⟨Z', h', rfl, q1, q2, q3, q4⟩))
  subst e; exact ⟨Z', h', hca, q⟩
set_option maxRecDepth 100000 in
theorem cw_178_56 {l : Launch} {D : va_G} {b0 : Nat} {ad : Nat → Nat} {Hb : Heap} {tau : Nat → Int64} {d n s : Nat} {S : Nat → xS} {Z : xZ} {h : mx_H} {Post : mx_R → Prop} (hx : XH n s S Z h) (hG : GI n S Z)   (k0 : (Z 56 6 ≤ Z 56 7 ∧ Z 56 7 ≤ Z 56 8 ∧ (Z 56 9 = 24 ∨ Z 56 6 < Z 56 7))) (k1 : Z 60 61 ≤ Z 56 6) (k2 : Z 60 2 ≤ Z 60 1) (k3 : ¬ Z 56 9 = 24) (k4 : Z 56 11 = 0) (hP : ∀ (Z' : xZ) (h' : mx_H), XH n s S Z' h' → GI n S Z' → fr' [(56, 6), (56, 7), (56, 9), (56, 10), (56, 11), (56, 12), (60, (-1))] Z Z' → ((Z' 56 6 ≤ Z' 56 7 ∧ Z' 56 7 ≤ Z 56 8 ∧ (Z' 56 9 = 24 ∨ Z' 56 6 < Z' 56 7)) ∧ Z 56 6 ≤ Z' 56 6 ∧ Z' 60 61 ≤ Z' 56 6 ∧ Z' 60 2 ≤ Z' 60 1 ∧ (Z' 56 11 = 0 → Z 56 11 = 0 ∧ Z 56 6 + 1 ≤ Z' 56 6 ∧ (WFF Z = 1 → WFF Z' = 1))) → Post (none, h')) : mx_J (tB l D b0 ad Hb tau) mt_178 (d + 7) 0 [some (.ref 56), none] [] h Post := by
    have a56 : 56 < n := lt83 (GI_n hG) rfl
    have s56 : S 56 = .inl (12, [0, 2, 2, 2, 2, 0, 0, 0, 0, 0, 0, 0, 0, 0, 0, 2, 2, 2, 0, 2, 2, 2, 0, 0, 2, 2, 2, 2, 2, 2, 0, 0, 2, 2, 2, 2, 2, 2, 2, 2, 2, 2]) := GI_s hG 56 rfl
    have a60 : 60 < n := lt83 (GI_n hG) rfl
    have s60 : S 60 = .inr (.int, 962, 0) := GI_s hG 60 rfl
    refine mx_J.step (sn_178 0) (fun _ _ => rfl) ?_
    have b2 : 0 ≤ Z 56 7 ∧ Z 56 7 ≤ 900 := hG.pr 56 7
    have b3 : 0 ≤ Z 56 8 ∧ Z 56 8 ≤ 900 := hG.pr 56 8
    obtain ⟨Z1, h1, hc1, hx1, hG1, hf1, b1⟩ := ct_162_56 (d := d + 1) (l := l) (D := D) (b0 := b0) (ad := ad) (Hb := Hb) (tau := tau) hx hG  (show Z 56 7 ≤ Z 56 8 by omega)
    have b4 : 0 ≤ Z1 56 6 ∧ Z1 56 6 ≤ 900 := hG1.pr 56 6
    have b5 : 0 ≤ Z1 56 7 ∧ Z1 56 7 ≤ 900 := hG1.pr 56 7
    have b6 : 0 ≤ Z1 56 9 ∧ Z1 56 9 ≤ 100 := hG1.pr 56 9
    refine Jcv0 hx (show mx_Sn _ _ 1 (mx_callv 162 1 12 4) from sn_178 1) a56 s56 hc1 rfl rfl rfl ?_
    refine mx_J.step (sn_178 4) (fun _ _ => rfl) ?_
    refine JcI (z := 1) (show mx_Sn _ _ 5 (mx_const (.int 1) 6) from sn_178 5) rfl ?_
    refine JcI (z := 18) (show mx_Sn _ _ 6 (mx_const (.int 18) 8) from sn_178 6) rfl ?_
    refine mx_J.step (sn_178 8) (fun _ _ => rfl) ?_
    refine JgetR (g := 4) (b := 60) hx1 (show mx_Sn _ _ 9 (mx_getf 12 4 12) from sn_178 9) a56 s56 rfl rfl (hG1.prr 56 4 rfl) ?_
    refine JcI (z := 1) (show mx_Sn _ _ 12 (mx_const (.int 1) 13) from sn_178 12) rfl ?_
    have b8 : 0 ≤ Z 60 1 ∧ Z 60 1 ≤ 18 := by have hq := GI_ex hG 60 1; replace hq : f60 (1 % 962) (Z 60 1) := hq; unfold f60 at hq; omega
    have b9 : (-2147483648) ≤ Z 60 1 ∧ Z 60 1 ≤ 2147483647 := hG.pr 60 1
    refine JialdI (z := Z 60 1) hx1 (show mx_Sn _ _ 13 (mx_iald 14) from sn_178 13) a60 s60 (by omega) (hf1 60 1 rfl) ?_
    refine Jisub (show mx_Sn _ _ 14 (mx_isub 15) from sn_178 14) ?_
    have b11 : 0 ≤ Z1 56 6 ∧ Z1 56 6 ≤ 900 := hG1.pr 56 6
    have b12 : 0 ≤ Z1 56 7 ∧ Z1 56 7 ≤ 900 := hG1.pr 56 7
    have eq13 : Z1 56 8 = Z 56 8 := (hf1 56 8 rfl)
    have b14 : 0 ≤ Z 56 8 ∧ Z 56 8 ≤ 900 := hG.pr 56 8
    have b15 : 0 ≤ Z1 56 9 ∧ Z1 56 9 ≤ 100 := hG1.pr 56 9
    have eq16 : Z1 56 11 = Z 56 11 := (hf1 56 11 rfl)
    have b17 : 0 ≤ Z 56 11 ∧ Z 56 11 ≤ 4 := hG.pr 56 11
    have b18 : 0 ≤ Z1 56 10 ∧ Z1 56 10 ≤ 999 := hG1.pr 56 10
    obtain ⟨z10, Z10, h10, hc10, hx10, hG10, hf10, b10⟩ := ct_166_56 (d := d + 0) (l := l) (D := D) (b0 := b0) (ad := ad) (Hb := Hb) (tau := tau) hx1 hG1 (show 0 ≤ 1 ∧ 1 ≤ 1 by omega) (show 0 ≤ 18 - (Z 60 1) ∧ 18 - (Z 60 1) ≤ 18 by omega) (show (Z1 56 6 ≤ Z1 56 7 ∧ Z1 56 7 ≤ Z1 56 8 ∧ (Z1 56 9 = 24 ∨ Z1 56 6 < Z1 56 7)) by first | omega | (simp only [eq13, eq16]; omega))
    try rw [eq13] at b10
    try rw [eq16] at b10
    have b19 : 0 ≤ Z10 56 6 ∧ Z10 56 6 ≤ 900 := hG10.pr 56 6
    have b20 : 0 ≤ Z10 56 7 ∧ Z10 56 7 ≤ 900 := hG10.pr 56 7
    have b21 : 0 ≤ Z10 56 9 ∧ Z10 56 9 ≤ 100 := hG10.pr 56 9
    have b22 : 0 ≤ Z10 56 11 ∧ Z10 56 11 ≤ 4 := hG10.pr 56 11
    refine Jcv hx1 (show mx_Sn _ _ 15 (mx_callv 166 3 12 18) from sn_178 15) a56 s56 hc10 rfl rfl rfl ?_
    refine mx_J.step (ls2 := [some (.ref 56), some (xI z10)]) (sn_178 18) (fun _ _ => rfl) ?_
    refine mx_J.step (sn_178 19) (fun _ _ => rfl) ?_
    have b24 : 0 ≤ Z10 56 11 ∧ Z10 56 11 ≤ 4 := hG10.pr 56 11
    refine JgetI (g := 11) (z := Z10 56 11) hx10 (show mx_Sn _ _ 20 (mx_getf 12 11 23) from sn_178 20) a56 s56 rfl rfl rfl ?_
    refine Jif_eq (show mx_Sn _ _ 23 (mx_if_eq 27 26) from sn_178 23) (by omega) (fun q25 => ?_) (fun q25 => ?_)
    · skip
      refine mx_J.step (sn_178 27) (fun _ _ => rfl) ?_
      refine JgetR (g := 4) (b := 60) hx10 (show mx_Sn _ _ 28 (mx_getf 12 4 31) from sn_178 28) a56 s56 rfl rfl (hG10.prr 56 4 rfl) ?_
      refine JcI (z := 3) (show mx_Sn _ _ 31 (mx_const (.int 3) 32) from sn_178 31) rfl ?_
      refine mx_J.step (sn_178 32) (fun _ _ => rfl) ?_
      refine JgetR (g := 4) (b := 60) hx10 (show mx_Sn _ _ 33 (mx_getf 12 4 36) from sn_178 33) a56 s56 rfl rfl (hG10.prr 56 4 rfl) ?_
      refine JcI (z := 2) (show mx_Sn _ _ 36 (mx_const (.int 2) 37) from sn_178 36) rfl ?_
      have b28 : 0 ≤ Z 60 2 ∧ Z 60 2 ≤ 18 := by have hq := GI_ex hG 60 2; replace hq : f60 (2 % 962) (Z 60 2) := hq; unfold f60 at hq; omega
      have b29 : (-2147483648) ≤ Z 60 2 ∧ Z 60 2 ≤ 2147483647 := hG.pr 60 2
      refine JialdI (z := Z 60 2) hx10 (show mx_Sn _ _ 37 (mx_iald 38) from sn_178 37) a60 s60 (by omega) ((hf10 60 2 rfl).trans (hf1 60 2 rfl)) ?_
      refine Jiadd (show mx_Sn _ _ 38 (mx_iadd 39) from sn_178 38) ?_
      refine mx_J.step (sn_178 39) (fun _ _ => rfl) ?_
      have eq30 : WFF Z10  = WFF Z := ((WFF_c (fun i => hf10 60 i rfl)).trans (WFF_c (fun i => hf1 60 i rfl)))
      refine JiastI hx10 (show mx_Sn _ _ 40 (mx_iast 1 41) from sn_178 40) a60 s60 rfl (by omega) (fun Z31 h31 hx31 hE31 => ?_)
      have hG31 := GI_up hG10 hE31 (show (-2147483648) ≤ z10 ∧ z10 ≤ 2147483647 by omega) (show f60 ((3 + (Z 60 2)) % 962) (z10) by first | (rw [Int.emod_eq_of_lt (by omega) (by omega)]; unfold f60; omega) | assumption | (unfold f60; omega) | (unfold f60 at *; omega)) rfl
      have wo1 := wf_o hE31 (by omega)
      refine mx_J.step (sn_178 41) (fun _ _ => rfl) ?_
      refine JgetR (g := 4) (b := 60) hx31 (show mx_Sn _ _ 42 (mx_getf 12 4 45) from sn_178 42) a56 s56 rfl rfl (hG31.prr 56 4 rfl) ?_
      refine JcI (z := 2) (show mx_Sn _ _ 45 (mx_const (.int 2) 46) from sn_178 45) rfl ?_
      refine mx_J.step (sn_178 46) (fun _ _ => rfl) ?_
      have b33 : 0 ≤ Z 60 2 ∧ Z 60 2 ≤ 18 := by have hq := GI_ex hG 60 2; replace hq : f60 (2 % 962) (Z 60 2) := hq; unfold f60 at hq; omega
      have b34 : (-2147483648) ≤ Z 60 2 ∧ Z 60 2 ≤ 2147483647 := hG.pr 60 2
      refine JialdI (z := Z 60 2) hx31 (show mx_Sn _ _ 47 (mx_iald 48) from sn_178 47) a60 s60 (by omega) ((up_ni hE31 (by omega)).trans ((hf10 60 2 rfl).trans (hf1 60 2 rfl))) ?_
      refine JcI (z := 1) (show mx_Sn _ _ 48 (mx_const (.int 1) 49) from sn_178 48) rfl ?_
      refine Jiadd (show mx_Sn _ _ 49 (mx_iadd 50) from sn_178 49) ?_
      refine JiastI hx31 (show mx_Sn _ _ 50 (mx_iast 1 51) from sn_178 50) a60 s60 rfl (by omega) (fun Z35 h35 hx35 hE35 => ?_)
      have hG35 := GI_up hG31 hE35 (show (-2147483648) ≤ (Z 60 2) + 1 ∧ (Z 60 2) + 1 ≤ 2147483647 by omega) (show f60 ((2) % 962) ((Z 60 2) + 1) by first | assumption | (unfold f60; omega) | (unfold f60 at *; omega)) rfl
      have wo2 := wf_o hE35 (by omega)
      refine mx_J.step (sn_178 51) (fun _ _ => rfl) ?_
      refine JgetR (g := 4) (b := 60) hx35 (show mx_Sn _ _ 52 (mx_getf 12 4 55) from sn_178 52) a56 s56 rfl rfl (hG35.prr 56 4 rfl) ?_
      refine JcI (z := 1) (show mx_Sn _ _ 55 (mx_const (.int 1) 56) from sn_178 55) rfl ?_
      refine mx_J.step (sn_178 56) (fun _ _ => rfl) ?_
      have b37 : 0 ≤ Z 60 1 ∧ Z 60 1 ≤ 18 := by have hq := GI_ex hG 60 1; replace hq : f60 (1 % 962) (Z 60 1) := hq; unfold f60 at hq; omega
      have b38 : (-2147483648) ≤ Z 60 1 ∧ Z 60 1 ≤ 2147483647 := hG.pr 60 1
      refine JialdI (z := Z 60 1) hx35 (show mx_Sn _ _ 57 (mx_iald 58) from sn_178 57) a60 s60 (by omega) ((up_ni hE35 (by decide)).trans ((up_ni hE31 (by omega)).trans ((hf10 60 1 rfl).trans (hf1 60 1 rfl)))) ?_
      refine mx_J.step (sn_178 58) (fun _ _ => rfl) ?_
      refine Jiadd (show mx_Sn _ _ 59 (mx_iadd 60) from sn_178 59) ?_
      refine JiastI hx35 (show mx_Sn _ _ 60 (mx_iast 1 61) from sn_178 60) a60 s60 rfl (by omega) (fun Z39 h39 hx39 hE39 => ?_)
      have hG39 := GI_up hG35 hE39 (show (-2147483648) ≤ (Z 60 1) + z10 ∧ (Z 60 1) + z10 ≤ 2147483647 by omega) (show f60 ((1) % 962) ((Z 60 1) + z10) by first | assumption | (unfold f60; omega) | (unfold f60 at *; omega)) rfl
      have wo3 := wf_o hE39 (by omega)
      have eq40 : Z39 56 6 = Z10 56 6 := ((up_nk hE39 rfl).trans ((up_nk hE35 rfl).trans (up_nk hE31 rfl)))
      have b41 : 0 ≤ Z10 56 6 ∧ Z10 56 6 ≤ 900 := hG10.pr 56 6
      have eq42 : Z39 56 7 = Z10 56 7 := ((up_nk hE39 rfl).trans ((up_nk hE35 rfl).trans (up_nk hE31 rfl)))
      have b43 : 0 ≤ Z10 56 7 ∧ Z10 56 7 ≤ 900 := hG10.pr 56 7
      have eq44 : Z39 56 9 = Z10 56 9 := ((up_nk hE39 rfl).trans ((up_nk hE35 rfl).trans (up_nk hE31 rfl)))
      have b45 : 0 ≤ Z10 56 9 ∧ Z10 56 9 ≤ 100 := hG10.pr 56 9
      have eq46 : Z39 56 11 = Z10 56 11 := ((up_nk hE39 rfl).trans ((up_nk hE35 rfl).trans (up_nk hE31 rfl)))
      have b47 : 0 ≤ Z10 56 11 ∧ Z10 56 11 ≤ 4 := hG10.pr 56 11
      have eq48 : Z39 60 61 = Z 60 61 := ((up_ni hE39 (by decide)).trans ((up_ni hE35 (by decide)).trans ((up_ni hE31 (by omega)).trans ((hf10 60 61 rfl).trans (hf1 60 61 rfl)))))
      have b49 : 0 ≤ Z 60 61 ∧ Z 60 61 ≤ 900 := by have hq := GI_ex hG 60 61; replace hq : f60 (61 % 962) (Z 60 61) := hq; unfold f60 at hq; omega
      have b50 : (-2147483648) ≤ Z 60 61 ∧ Z 60 61 ≤ 2147483647 := hG.pr 60 61
      have eq51 : Z39 60 1 = (Z 60 1) + z10 := (up_at hE39)
      have eq52 : Z39 60 2 = (Z 60 2) + 1 := ((up_ni hE39 (by decide)).trans (up_at hE35))
      have eq53 : Z39 56 6 = Z10 56 6 := ((up_nk hE39 rfl).trans ((up_nk hE35 rfl).trans (up_nk hE31 rfl)))
      have b54 : 0 ≤ Z10 56 6 ∧ Z10 56 6 ≤ 900 := hG10.pr 56 6
      have eq55 : Z39 56 7 = Z10 56 7 := ((up_nk hE39 rfl).trans ((up_nk hE35 rfl).trans (up_nk hE31 rfl)))
      have b56 : 0 ≤ Z10 56 7 ∧ Z10 56 7 ≤ 900 := hG10.pr 56 7
      have eq57 : Z39 56 8 = Z 56 8 := ((up_nk hE39 rfl).trans ((up_nk hE35 rfl).trans ((up_nk hE31 rfl).trans ((hf10 56 8 rfl).trans (hf1 56 8 rfl)))))
      have b58 : 0 ≤ Z 56 8 ∧ Z 56 8 ≤ 900 := hG.pr 56 8
      have eq59 : Z39 56 9 = Z10 56 9 := ((up_nk hE39 rfl).trans ((up_nk hE35 rfl).trans (up_nk hE31 rfl)))
      have b60 : 0 ≤ Z10 56 9 ∧ Z10 56 9 ≤ 100 := hG10.pr 56 9
      have eq61 : Z39 56 11 = Z10 56 11 := ((up_nk hE39 rfl).trans ((up_nk hE35 rfl).trans (up_nk hE31 rfl)))
      have b62 : 0 ≤ Z10 56 11 ∧ Z10 56 11 ≤ 4 := hG10.pr 56 11
      have eq63 : Z39 60 61 = Z 60 61 := ((up_ni hE39 (by decide)).trans ((up_ni hE35 (by decide)).trans ((up_ni hE31 (by omega)).trans ((hf10 60 61 rfl).trans (hf1 60 61 rfl)))))
      have b64 : 0 ≤ Z 60 61 ∧ Z 60 61 ≤ 900 := by have hq := GI_ex hG 60 61; replace hq : f60 (61 % 962) (Z 60 61) := hq; unfold f60 at hq; omega
      have b65 : (-2147483648) ≤ Z 60 61 ∧ Z 60 61 ≤ 2147483647 := hG.pr 60 61
      have eq66 : Z39 60 1 = (Z 60 1) + z10 := (up_at hE39)
      have eq67 : Z39 60 2 = (Z 60 2) + 1 := ((up_ni hE39 (by decide)).trans (up_at hE35))
      exact mx_J.ret (sn_178 61) (fun _ _ => rfl) (hP Z39 h39 hx39 hG39 (fr_tr (M := [(56, 6), (56, 7), (56, 9), (56, 10), (56, 11), (56, 12), (60, (-1))]) (fr_tr (M := [(56, 6), (56, 7), (56, 9), (56, 10), (56, 11), (56, 12), (60, (-1))]) (fr_tr (M := [(56, 6), (56, 7), (56, 9), (56, 10), (56, 11), (56, 12), (60, (-1))]) (fr_tr (M := [(56, 6), (56, 7), (56, 9), (56, 10), (56, 11), (56, 12), (60, (-1))]) (fr_tr (M := [(56, 6), (56, 7), (56, 9), (56, 10), (56, 11), (56, 12), (60, (-1))]) fr_rf (hf1) (M1 := []) rfl rfl) (hf10) rfl rfl) (fr_ua hE31) rfl rfl) (fr_ua hE35) rfl rfl) (fr_ua hE39) rfl rfl) (by omega))
    · skip
      have b68 : 0 ≤ Z10 56 6 ∧ Z10 56 6 ≤ 900 := hG10.pr 56 6
      have b69 : 0 ≤ Z10 56 7 ∧ Z10 56 7 ≤ 900 := hG10.pr 56 7
      have b70 : 0 ≤ Z10 56 9 ∧ Z10 56 9 ≤ 100 := hG10.pr 56 9
      have b71 : 0 ≤ Z10 56 11 ∧ Z10 56 11 ≤ 4 := hG10.pr 56 11
      have eq72 : Z10 60 61 = Z 60 61 := ((hf10 60 61 rfl).trans (hf1 60 61 rfl))
      have b73 : 0 ≤ Z 60 61 ∧ Z 60 61 ≤ 900 := by have hq := GI_ex hG 60 61; replace hq : f60 (61 % 962) (Z 60 61) := hq; unfold f60 at hq; omega
      have b74 : (-2147483648) ≤ Z 60 61 ∧ Z 60 61 ≤ 2147483647 := hG.pr 60 61
      have eq75 : Z10 60 1 = Z 60 1 := ((hf10 60 1 rfl).trans (hf1 60 1 rfl))
      have b76 : 0 ≤ Z 60 1 ∧ Z 60 1 ≤ 18 := by have hq := GI_ex hG 60 1; replace hq : f60 (1 % 962) (Z 60 1) := hq; unfold f60 at hq; omega
      have b77 : (-2147483648) ≤ Z 60 1 ∧ Z 60 1 ≤ 2147483647 := hG.pr 60 1
      have eq78 : Z10 60 2 = Z 60 2 := ((hf10 60 2 rfl).trans (hf1 60 2 rfl))
      have b79 : 0 ≤ Z 60 2 ∧ Z 60 2 ≤ 18 := by have hq := GI_ex hG 60 2; replace hq : f60 (2 % 962) (Z 60 2) := hq; unfold f60 at hq; omega
      have b80 : (-2147483648) ≤ Z 60 2 ∧ Z 60 2 ≤ 2147483647 := hG.pr 60 2
      have eq81 : WFF Z10  = WFF Z := ((WFF_c (fun i => hf10 60 i rfl)).trans (WFF_c (fun i => hf1 60 i rfl)))
      have b82 : 0 ≤ Z10 56 6 ∧ Z10 56 6 ≤ 900 := hG10.pr 56 6
      have b83 : 0 ≤ Z10 56 7 ∧ Z10 56 7 ≤ 900 := hG10.pr 56 7
      have eq84 : Z10 56 8 = Z 56 8 := ((hf10 56 8 rfl).trans (hf1 56 8 rfl))
      have b85 : 0 ≤ Z 56 8 ∧ Z 56 8 ≤ 900 := hG.pr 56 8
      have b86 : 0 ≤ Z10 56 9 ∧ Z10 56 9 ≤ 100 := hG10.pr 56 9
      have b87 : 0 ≤ Z10 56 11 ∧ Z10 56 11 ≤ 4 := hG10.pr 56 11
      have eq88 : Z10 60 61 = Z 60 61 := ((hf10 60 61 rfl).trans (hf1 60 61 rfl))
      have b89 : 0 ≤ Z 60 61 ∧ Z 60 61 ≤ 900 := by have hq := GI_ex hG 60 61; replace hq : f60 (61 % 962) (Z 60 61) := hq; unfold f60 at hq; omega
      have b90 : (-2147483648) ≤ Z 60 61 ∧ Z 60 61 ≤ 2147483647 := hG.pr 60 61
      have eq91 : Z10 60 1 = Z 60 1 := ((hf10 60 1 rfl).trans (hf1 60 1 rfl))
      have b92 : 0 ≤ Z 60 1 ∧ Z 60 1 ≤ 18 := by have hq := GI_ex hG 60 1; replace hq : f60 (1 % 962) (Z 60 1) := hq; unfold f60 at hq; omega
      have b93 : (-2147483648) ≤ Z 60 1 ∧ Z 60 1 ≤ 2147483647 := hG.pr 60 1
      have eq94 : Z10 60 2 = Z 60 2 := ((hf10 60 2 rfl).trans (hf1 60 2 rfl))
      have b95 : 0 ≤ Z 60 2 ∧ Z 60 2 ≤ 18 := by have hq := GI_ex hG 60 2; replace hq : f60 (2 % 962) (Z 60 2) := hq; unfold f60 at hq; omega
      have b96 : (-2147483648) ≤ Z 60 2 ∧ Z 60 2 ≤ 2147483647 := hG.pr 60 2
      have eq97 : WFF Z10  = WFF Z := ((WFF_c (fun i => hf10 60 i rfl)).trans (WFF_c (fun i => hf1 60 i rfl)))
      exact mx_J.ret (sn_178 26) (fun _ _ => rfl) (hP Z10 h10 hx10 hG10 (fr_tr (M := [(56, 6), (56, 7), (56, 9), (56, 10), (56, 11), (56, 12), (60, (-1))]) (fr_tr (M := [(56, 6), (56, 7), (56, 9), (56, 10), (56, 11), (56, 12), (60, (-1))]) fr_rf (hf1) (M1 := []) rfl rfl) (hf10) rfl rfl) (by omega))
theorem ct_178_56 {l : Launch} {D : va_G} {b0 : Nat} {ad : Nat → Nat} {Hb : Heap} {tau : Nat → Int64} {d n s : Nat} {S : Nat → xS} {Z : xZ} {h : mx_H} (hx : XH n s S Z h) (hG : GI n S Z)   (k0 : (Z 56 6 ≤ Z 56 7 ∧ Z 56 7 ≤ Z 56 8 ∧ (Z 56 9 = 24 ∨ Z 56 6 < Z 56 7))) (k1 : Z 60 61 ≤ Z 56 6) (k2 : Z 60 2 ≤ Z 60 1) (k3 : ¬ Z 56 9 = 24) (k4 : Z 56 11 = 0) : ∃ (Z' : xZ) (h' : mx_H), mx_Ca (tB l D b0 ad Hb tau) (d + 8) 178 [.ref 56] h (none, h') ∧ XH n s S Z' h' ∧ GI n S Z' ∧ fr' [(56, 6), (56, 7), (56, 9), (56, 10), (56, 11), (56, 12), (60, (-1))] Z Z' ∧ (((Z' 56 6 ≤ Z' 56 7 ∧ Z' 56 7 ≤ Z 56 8 ∧ (Z' 56 9 = 24 ∨ Z' 56 6 < Z' 56 7)) ∧ Z 56 6 ≤ Z' 56 6 ∧ Z' 60 61 ≤ Z' 56 6 ∧ Z' 60 2 ≤ Z' 60 1 ∧ (Z' 56 11 = 0 → Z 56 11 = 0 ∧ Z 56 6 + 1 ≤ Z' 56 6 ∧ (WFF Z = 1 → WFF Z' = 1)))) := by
  obtain ⟨r, hca, Z', h', e, q⟩ := Jmt (B := tB l D b0 ad Hb tau) (M := mt_178) (mi := 178) (as := [.ref 56]) (d := d + 7) (ls := [some (.ref 56), none]) rfl rfl rfl rfl rfl rfl (cw_178_56 (l := l) (D := D) (b0 := b0) (ad := ad) (Hb := Hb) (tau := tau) (d := d) (Post := fun r => ∃ (Z' : xZ) (h' : mx_H), r = (none, h') ∧ XH n s S Z' h' ∧ GI n S Z' ∧ fr' [(56, 6), (56, 7), (56, 9), (56, 10), (56, 11), (56, 12), (60, (-1))] Z Z' ∧ (((Z' 56 6 ≤ Z' 56 7 ∧ Z' 56 7 ≤ Z 56 8 ∧ (Z' 56 9 = 24 ∨ Z' 56 6 < Z' 56 7)) ∧ Z 56 6 ≤ Z' 56 6 ∧ Z' 60 61 ≤ Z' 56 6 ∧ Z' 60 2 ≤ Z' 60 1 ∧ (Z' 56 11 = 0 → Z 56 11 = 0 ∧ Z 56 6 + 1 ≤ Z' 56 6 ∧ (WFF Z = 1 → WFF Z' = 1))))) hx hG k0 k1 k2 k3 k4 (fun Z' h' q1 q2 q3 q4 => ⟨Z', h', rfl, q1, q2, q3, q4⟩))
  subst e; exact ⟨Z', h', hca, q⟩
set_option maxRecDepth 100000 in
theorem cw_179_56 {l : Launch} {D : va_G} {b0 : Nat} {ad : Nat → Nat} {Hb : Heap} {tau : Nat → Int64} {d n s : Nat} {S : Nat → xS} {Z : xZ} {h : mx_H} {Post : mx_R → Prop} (hx : XH n s S Z h) (hG : GI n S Z)  {x0 : Int} (p0 : 0 ≤ x0 ∧ x0 ≤ 1) (k0 : (Z 56 6 ≤ Z 56 7 ∧ Z 56 7 ≤ Z 56 8 ∧ (Z 56 9 = 24 ∨ Z 56 6 < Z 56 7))) (k1 : Z 60 61 ≤ Z 56 6) (k2 : Z 60 2 ≤ Z 60 1) (k3 : ¬ Z 56 9 = 24) (k4 : Z 56 11 = 0) (hP : ∀ (Z' : xZ) (h' : mx_H), XH n s S Z' h' → GI n S Z' → fr' [(56, 6), (56, 7), (56, 9), (56, 10), (56, 11), (56, 12), (60, (-1))] Z Z' → ((Z' 56 6 ≤ Z' 56 7 ∧ Z' 56 7 ≤ Z 56 8 ∧ (Z' 56 9 = 24 ∨ Z' 56 6 < Z' 56 7)) ∧ Z 56 6 ≤ Z' 56 6 ∧ Z' 60 61 ≤ Z' 56 6 ∧ Z' 60 2 ≤ Z' 60 1 ∧ (Z' 56 11 = 0 → Z 56 11 = 0 ∧ Z 56 6 + 1 ≤ Z' 56 6 ∧ (WFF Z = 1 → WFF Z' = 1))) → Post (none, h')) : mx_J (tB l D b0 ad Hb tau) mt_179 (d + 98) 0 [some (.ref 56), some (xI x0), none] [] h Post := by
    have a56 : 56 < n := lt83 (GI_n hG) rfl
    have s56 : S 56 = .inl (12, [0, 2, 2, 2, 2, 0, 0, 0, 0, 0, 0, 0, 0, 0, 0, 2, 2, 2, 0, 2, 2, 2, 0, 0, 2, 2, 2, 2, 2, 2, 0, 0, 2, 2, 2, 2, 2, 2, 2, 2, 2, 2]) := GI_s hG 56 rfl
    have a60 : 60 < n := lt83 (GI_n hG) rfl
    have s60 : S 60 = .inr (.int, 962, 0) := GI_s hG 60 rfl
    refine mx_J.step (sn_179 0) (fun _ _ => rfl) ?_
    have b2 : 0 ≤ Z 56 7 ∧ Z 56 7 ≤ 900 := hG.pr 56 7
    have b3 : 0 ≤ Z 56 8 ∧ Z 56 8 ≤ 900 := hG.pr 56 8
    obtain ⟨Z1, h1, hc1, hx1, hG1, hf1, b1⟩ := ct_162_56 (d := d + 92) (l := l) (D := D) (b0 := b0) (ad := ad) (Hb := Hb) (tau := tau) hx hG  (show Z 56 7 ≤ Z 56 8 by omega)
    have b4 : 0 ≤ Z1 56 6 ∧ Z1 56 6 ≤ 900 := hG1.pr 56 6
    have b5 : 0 ≤ Z1 56 7 ∧ Z1 56 7 ≤ 900 := hG1.pr 56 7
    have b6 : 0 ≤ Z1 56 9 ∧ Z1 56 9 ≤ 100 := hG1.pr 56 9
    refine Jcv0 hx (show mx_Sn _ _ 1 (mx_callv 162 1 12 4) from sn_179 1) a56 s56 hc1 rfl rfl rfl ?_
    refine mx_J.step (sn_179 4) (fun _ _ => rfl) ?_
    refine JcI (z := 31) (show mx_Sn _ _ 5 (mx_const (.int 31) 7) from sn_179 5) rfl ?_
    have b8 : 0 ≤ Z1 56 6 ∧ Z1 56 6 ≤ 900 := hG1.pr 56 6
    have b9 : 0 ≤ Z1 56 7 ∧ Z1 56 7 ≤ 900 := hG1.pr 56 7
    have eq10 : Z1 56 8 = Z 56 8 := (hf1 56 8 rfl)
    have b11 : 0 ≤ Z 56 8 ∧ Z 56 8 ≤ 900 := hG.pr 56 8
    have b12 : 0 ≤ Z1 56 9 ∧ Z1 56 9 ≤ 100 := hG1.pr 56 9
    have eq13 : Z1 56 11 = Z 56 11 := (hf1 56 11 rfl)
    have b14 : 0 ≤ Z 56 11 ∧ Z 56 11 ≤ 4 := hG.pr 56 11
    obtain ⟨z7, Z7, h7, hc7, hx7, hG7, hf7, b7⟩ := ct_165_56 (d := d + 91) (l := l) (D := D) (b0 := b0) (ad := ad) (Hb := Hb) (tau := tau) hx1 hG1 (show 0 ≤ 31 ∧ 31 ≤ 100 by omega) (show (Z1 56 6 ≤ Z1 56 7 ∧ Z1 56 7 ≤ Z1 56 8 ∧ (Z1 56 9 = 24 ∨ Z1 56 6 < Z1 56 7)) by first | omega | (simp only [eq10, eq13]; omega)) (show ¬ 31 = 24 by first | omega | (simp only [eq10, eq13]; omega))
    try rw [eq10] at b7
    try rw [eq13] at b7
    have b15 : 0 ≤ Z7 56 6 ∧ Z7 56 6 ≤ 900 := hG7.pr 56 6
    have b16 : 0 ≤ Z7 56 7 ∧ Z7 56 7 ≤ 900 := hG7.pr 56 7
    have b17 : 0 ≤ Z7 56 9 ∧ Z7 56 9 ≤ 100 := hG7.pr 56 9
    refine Jcv hx1 (show mx_Sn _ _ 7 (mx_callv 165 2 12 10) from sn_179 7) a56 s56 hc7 rfl rfl rfl ?_
    have c18 : ∀  (Z19 : xZ) (h19 : mx_H), (Z19 56 6 ≤ Z19 56 7 ∧ Z19 56 7 ≤ Z 56 8 ∧ (Z19 56 9 = 24 ∨ Z19 56 6 < Z19 56 7) ∧ Z 56 6 + 1 ≤ Z19 56 6 ∧ (Z19 56 11 = 0 → Z 56 11 = 0)) → XH n s S Z19 h19 → GI n S Z19 → fr' [(56, 11), (56, 12)] Z7 Z19 → mx_J (tB l D b0 ad Hb tau) mt_179 (d + 98) 18 [some (.ref 56), some (xI x0), none] [] h19 Post := by
      intro Z19 h19 f18_0 hx19 hG19 hf19
      have eq20 : Z19 56 6 = Z7 56 6 := (hf19 56 6 rfl)
      have b21 : 0 ≤ Z7 56 6 ∧ Z7 56 6 ≤ 900 := hG7.pr 56 6
      have eq22 : Z19 56 7 = Z7 56 7 := (hf19 56 7 rfl)
      have b23 : 0 ≤ Z7 56 7 ∧ Z7 56 7 ≤ 900 := hG7.pr 56 7
      have eq24 : Z19 56 9 = Z7 56 9 := (hf19 56 9 rfl)
      have b25 : 0 ≤ Z7 56 9 ∧ Z7 56 9 ≤ 100 := hG7.pr 56 9
      have b26 : 0 ≤ Z19 56 11 ∧ Z19 56 11 ≤ 4 := hG19.pr 56 11
      refine mx_J.step (sn_179 18) (fun _ _ => rfl) ?_
      refine JgetR (g := 4) (b := 60) hx19 (show mx_Sn _ _ 19 (mx_getf 12 4 22) from sn_179 19) a56 s56 rfl rfl (hG19.prr 56 4 rfl) ?_
      refine JcI (z := 61) (show mx_Sn _ _ 22 (mx_const (.int 61) 24) from sn_179 22) rfl ?_
      have b28 : 0 ≤ Z 60 61 ∧ Z 60 61 ≤ 900 := by have hq := GI_ex hG 60 61; replace hq : f60 (61 % 962) (Z 60 61) := hq; unfold f60 at hq; omega
      have b29 : (-2147483648) ≤ Z 60 61 ∧ Z 60 61 ≤ 2147483647 := hG.pr 60 61
      refine JialdI (z := Z 60 61) hx19 (show mx_Sn _ _ 24 (mx_iald 25) from sn_179 24) a60 s60 (by omega) ((hf19 60 61 rfl).trans ((hf7 60 61 rfl).trans (hf1 60 61 rfl))) ?_
      refine mx_J.step (ls2 := [some (.ref 56), some (xI x0), some (xI (Z 60 61))]) (sn_179 25) (fun _ _ => rfl) ?_
      have eq30 : Z19 60 61 = Z 60 61 := ((hf19 60 61 rfl).trans ((hf7 60 61 rfl).trans (hf1 60 61 rfl)))
      have b31 : 0 ≤ Z 60 61 ∧ Z 60 61 ≤ 900 := by have hq := GI_ex hG 60 61; replace hq : f60 (61 % 962) (Z 60 61) := hq; unfold f60 at hq; omega
      have b32 : (-2147483648) ≤ Z 60 61 ∧ Z 60 61 ≤ 2147483647 := hG.pr 60 61
      have m0 := MW_0 (Z := Z19) (a := Z 60 61) (by omega) (by omega)
      have eq33 : Z19 60 61 = Z 60 61 := ((hf19 60 61 rfl).trans ((hf7 60 61 rfl).trans (hf1 60 61 rfl)))
      have b34 : 0 ≤ Z 60 61 ∧ Z 60 61 ≤ 900 := by have hq := GI_ex hG 60 61; replace hq : f60 (61 % 962) (Z 60 61) := hq; unfold f60 at hq; omega
      have b35 : (-2147483648) ≤ Z 60 61 ∧ Z 60 61 ≤ 2147483647 := hG.pr 60 61
      have eq36 : MW Z19 (Z 60 61) = MW Z (Z 60 61) := ((MW_c (fun i => hf19 60 i rfl)).trans ((MW_c (fun i => hf7 60 i rfl)).trans (MW_c (fun i => hf1 60 i rfl))))
      have eq37 : DP Z19 (Z 60 61) = DP Z (Z 60 61) := ((DP_c (fun i => hf19 60 i rfl)).trans ((DP_c (fun i => hf7 60 i rfl)).trans (DP_c (fun i => hf1 60 i rfl))))
      have eq38 : WFF Z19  = WFF Z := ((WFF_c (fun i => hf19 60 i rfl)).trans ((WFF_c (fun i => hf7 60 i rfl)).trans (WFF_c (fun i => hf1 60 i rfl))))
      refine mx_J.step (sn_179 26) (fun _ _ => rfl) ?_
      have c43 : ∀  (Z40 : xZ) (h40 : mx_H), (Z40 56 6 ≤ Z40 56 7 ∧ Z40 56 7 ≤ Z 56 8 ∧ (Z40 56 9 = 24 ∨ Z40 56 6 < Z40 56 7) ∧ Z 56 6 + 1 ≤ Z40 56 6 ∧ Z 60 61 ≤ Z40 60 61 ∧ Z40 60 61 ≤ Z40 56 6 ∧ Z40 60 2 = Z 60 2 ∧ Z40 60 1 = Z 60 1 ∧ (Z40 56 11 = 0 → Z 56 11 = 0 ∧ MW Z40 (Z 60 61) = 1 ∧ (WFF Z = 1 → WFF Z40 = 1))) → XH n s S Z40 h40 → GI n S Z40 → fr' [(56, 6), (56, 7), (56, 9), (56, 10), (56, 11), (56, 12), (60, (-1))] Z19 Z40 → mx_J (tB l D b0 ad Hb tau) mt_179 (d + 98) 43 [some (.ref 56), some (xI x0), some (xI (Z 60 61))] [] h40 Post := by
        intro Z40 h40 f39_0 hx40 hG40 hf40
        have b41 : 0 ≤ Z40 56 6 ∧ Z40 56 6 ≤ 900 := hG40.pr 56 6
        have b42 : 0 ≤ Z40 56 7 ∧ Z40 56 7 ≤ 900 := hG40.pr 56 7
        have b43 : 0 ≤ Z40 56 9 ∧ Z40 56 9 ≤ 100 := hG40.pr 56 9
        have b44 : 0 ≤ Z40 56 11 ∧ Z40 56 11 ≤ 4 := hG40.pr 56 11
        have b45 : 0 ≤ Z40 60 61 ∧ Z40 60 61 ≤ 900 := by have hq := GI_ex hG40 60 61; replace hq : f60 (61 % 962) (Z40 60 61) := hq; unfold f60 at hq; omega
        have b46 : (-2147483648) ≤ Z40 60 61 ∧ Z40 60 61 ≤ 2147483647 := hG40.pr 60 61
        have b47 : 0 ≤ Z40 60 1 ∧ Z40 60 1 ≤ 18 := by have hq := GI_ex hG40 60 1; replace hq : f60 (1 % 962) (Z40 60 1) := hq; unfold f60 at hq; omega
        have b48 : (-2147483648) ≤ Z40 60 1 ∧ Z40 60 1 ≤ 2147483647 := hG40.pr 60 1
        have b49 : 0 ≤ Z40 60 2 ∧ Z40 60 2 ≤ 18 := by have hq := GI_ex hG40 60 2; replace hq : f60 (2 % 962) (Z40 60 2) := hq; unfold f60 at hq; omega
        have b50 : (-2147483648) ≤ Z40 60 2 ∧ Z40 60 2 ≤ 2147483647 := hG40.pr 60 2
        refine mx_J.step (sn_179 43) (fun _ _ => rfl) ?_
        have b52 : 0 ≤ Z40 56 11 ∧ Z40 56 11 ≤ 4 := hG40.pr 56 11
        refine JgetI (g := 11) (z := Z40 56 11) hx40 (show mx_Sn _ _ 44 (mx_getf 12 11 47) from sn_179 44) a56 s56 rfl rfl rfl ?_
        refine Jif_eq (show mx_Sn _ _ 47 (mx_if_eq 51 50) from sn_179 47) (by omega) (fun q53 => ?_) (fun q53 => ?_)
        · skip
          refine mx_J.step (sn_179 51) (fun _ _ => rfl) ?_
          refine JgetR (g := 4) (b := 60) hx40 (show mx_Sn _ _ 52 (mx_getf 12 4 55) from sn_179 52) a56 s56 rfl rfl (hG40.prr 56 4 rfl) ?_
          refine JcI (z := 21) (show mx_Sn _ _ 55 (mx_const (.int 21) 57) from sn_179 55) rfl ?_
          refine mx_J.step (sn_179 57) (fun _ _ => rfl) ?_
          refine Jiadd (show mx_Sn _ _ 58 (mx_iadd 59) from sn_179 58) ?_
          refine JcI (z := 1) (show mx_Sn _ _ 59 (mx_const (.int 1) 60) from sn_179 59) rfl ?_
          refine JiastI hx40 (show mx_Sn _ _ 60 (mx_iast 1 61) from sn_179 60) a60 s60 rfl (by omega) (fun Z55 h55 hx55 hE55 => ?_)
          have hG55 := GI_up hG40 hE55 (show (-2147483648) ≤ 1 ∧ 1 ≤ 2147483647 by omega) (show f60 ((21 + x0) % 962) (1) by first | (rw [Int.emod_eq_of_lt (by omega) (by omega)]; unfold f60; omega) | assumption | (unfold f60; omega) | (unfold f60 at *; omega)) rfl
          refine mx_J.step (sn_179 61) (fun _ _ => rfl) ?_
          refine JgetR (g := 4) (b := 60) hx55 (show mx_Sn _ _ 62 (mx_getf 12 4 65) from sn_179 62) a56 s56 rfl rfl (hG55.prr 56 4 rfl) ?_
          refine JcI (z := 23) (show mx_Sn _ _ 65 (mx_const (.int 23) 67) from sn_179 65) rfl ?_
          refine mx_J.step (sn_179 67) (fun _ _ => rfl) ?_
          refine Jiadd (show mx_Sn _ _ 68 (mx_iadd 69) from sn_179 68) ?_
          refine mx_J.step (sn_179 69) (fun _ _ => rfl) ?_
          refine JiastI hx55 (show mx_Sn _ _ 70 (mx_iast 1 71) from sn_179 70) a60 s60 rfl (by omega) (fun Z57 h57 hx57 hE57 => ?_)
          have hG57 := GI_up hG55 hE57 (show (-2147483648) ≤ Z 60 61 ∧ Z 60 61 ≤ 2147483647 by omega) (show f60 ((23 + x0) % 962) (Z 60 61) by first | (have hq := GI_ex hG 60 61; replace hq : f60 (61 % 962) (Z 60 61) := hq; replace hq : f60 61 (Z 60 61) := hq; rw [Int.emod_eq_of_lt (a := 23 + x0) (by omega) (by omega)]; unfold f60 at hq; unfold f60; omega) | (rw [Int.emod_eq_of_lt (by omega) (by omega)]; unfold f60; omega) | assumption | (unfold f60; omega) | (unfold f60 at *; omega)) rfl
          refine mx_J.step (sn_179 71) (fun _ _ => rfl) ?_
          refine JgetR (g := 4) (b := 60) hx57 (show mx_Sn _ _ 72 (mx_getf 12 4 75) from sn_179 72) a56 s56 rfl rfl (hG57.prr 56 4 rfl) ?_
          refine JcI (z := 25) (show mx_Sn _ _ 75 (mx_const (.int 25) 77) from sn_179 75) rfl ?_
          refine mx_J.step (sn_179 77) (fun _ _ => rfl) ?_
          refine Jiadd (show mx_Sn _ _ 78 (mx_iadd 79) from sn_179 78) ?_
          refine mx_J.step (sn_179 79) (fun _ _ => rfl) ?_
          refine JgetR (g := 4) (b := 60) hx57 (show mx_Sn _ _ 80 (mx_getf 12 4 83) from sn_179 80) a56 s56 rfl rfl (hG57.prr 56 4 rfl) ?_
          refine JcI (z := 61) (show mx_Sn _ _ 83 (mx_const (.int 61) 85) from sn_179 83) rfl ?_
          have b60 : 0 ≤ Z40 60 61 ∧ Z40 60 61 ≤ 900 := by have hq := GI_ex hG40 60 61; replace hq : f60 (61 % 962) (Z40 60 61) := hq; unfold f60 at hq; omega
          have b61 : (-2147483648) ≤ Z40 60 61 ∧ Z40 60 61 ≤ 2147483647 := hG40.pr 60 61
          refine JialdI (z := Z40 60 61) hx57 (show mx_Sn _ _ 85 (mx_iald 86) from sn_179 85) a60 s60 (by omega) ((up_ni hE57 (by omega)).trans (up_ni hE55 (by omega))) ?_
          refine mx_J.step (sn_179 86) (fun _ _ => rfl) ?_
          refine Jisub (show mx_Sn _ _ 87 (mx_isub 88) from sn_179 87) ?_
          refine JiastI hx57 (show mx_Sn _ _ 88 (mx_iast 1 89) from sn_179 88) a60 s60 rfl (by omega) (fun Z62 h62 hx62 hE62 => ?_)
          have hG62 := GI_up hG57 hE62 (show (-2147483648) ≤ (Z40 60 61) - (Z 60 61) ∧ (Z40 60 61) - (Z 60 61) ≤ 2147483647 by omega) (show f60 ((25 + x0) % 962) ((Z40 60 61) - (Z 60 61)) by first | (rw [Int.emod_eq_of_lt (by omega) (by omega)]; unfold f60; omega) | assumption | (unfold f60; omega) | (unfold f60 at *; omega)) rfl
          have lw : WFF Z40 = 1 → WFF Z62 = 1 := lw_wf hE55 hE57 hE62 (by omega) (by omega) (by omega)
          have eq63 : Z62 56 6 = Z40 56 6 := ((up_nk hE62 rfl).trans ((up_nk hE57 rfl).trans (up_nk hE55 rfl)))
          have b64 : 0 ≤ Z40 56 6 ∧ Z40 56 6 ≤ 900 := hG40.pr 56 6
          have eq65 : Z62 56 7 = Z40 56 7 := ((up_nk hE62 rfl).trans ((up_nk hE57 rfl).trans (up_nk hE55 rfl)))
          have b66 : 0 ≤ Z40 56 7 ∧ Z40 56 7 ≤ 900 := hG40.pr 56 7
          have eq67 : Z62 56 9 = Z40 56 9 := ((up_nk hE62 rfl).trans ((up_nk hE57 rfl).trans (up_nk hE55 rfl)))
          have b68 : 0 ≤ Z40 56 9 ∧ Z40 56 9 ≤ 100 := hG40.pr 56 9
          have eq69 : Z62 56 11 = Z40 56 11 := ((up_nk hE62 rfl).trans ((up_nk hE57 rfl).trans (up_nk hE55 rfl)))
          have b70 : 0 ≤ Z40 56 11 ∧ Z40 56 11 ≤ 4 := hG40.pr 56 11
          have eq71 : Z62 60 61 = Z40 60 61 := ((up_ni hE62 (by omega)).trans ((up_ni hE57 (by omega)).trans (up_ni hE55 (by omega))))
          have b72 : 0 ≤ Z40 60 61 ∧ Z40 60 61 ≤ 900 := by have hq := GI_ex hG40 60 61; replace hq : f60 (61 % 962) (Z40 60 61) := hq; unfold f60 at hq; omega
          have b73 : (-2147483648) ≤ Z40 60 61 ∧ Z40 60 61 ≤ 2147483647 := hG40.pr 60 61
          have eq74 : Z62 60 1 = Z40 60 1 := ((up_ni hE62 (by omega)).trans ((up_ni hE57 (by omega)).trans (up_ni hE55 (by omega))))
          have b75 : 0 ≤ Z40 60 1 ∧ Z40 60 1 ≤ 18 := by have hq := GI_ex hG40 60 1; replace hq : f60 (1 % 962) (Z40 60 1) := hq; unfold f60 at hq; omega
          have b76 : (-2147483648) ≤ Z40 60 1 ∧ Z40 60 1 ≤ 2147483647 := hG40.pr 60 1
          have eq77 : Z62 60 2 = Z40 60 2 := ((up_ni hE62 (by omega)).trans ((up_ni hE57 (by omega)).trans (up_ni hE55 (by omega))))
          have b78 : 0 ≤ Z40 60 2 ∧ Z40 60 2 ≤ 18 := by have hq := GI_ex hG40 60 2; replace hq : f60 (2 % 962) (Z40 60 2) := hq; unfold f60 at hq; omega
          have b79 : (-2147483648) ≤ Z40 60 2 ∧ Z40 60 2 ≤ 2147483647 := hG40.pr 60 2
          have eq80 : Z62 56 6 = Z40 56 6 := ((up_nk hE62 rfl).trans ((up_nk hE57 rfl).trans (up_nk hE55 rfl)))
          have b81 : 0 ≤ Z40 56 6 ∧ Z40 56 6 ≤ 900 := hG40.pr 56 6
          have eq82 : Z62 56 7 = Z40 56 7 := ((up_nk hE62 rfl).trans ((up_nk hE57 rfl).trans (up_nk hE55 rfl)))
          have b83 : 0 ≤ Z40 56 7 ∧ Z40 56 7 ≤ 900 := hG40.pr 56 7
          have eq84 : Z62 56 8 = Z 56 8 := ((up_nk hE62 rfl).trans ((up_nk hE57 rfl).trans ((up_nk hE55 rfl).trans ((hf40 56 8 rfl).trans ((hf19 56 8 rfl).trans ((hf7 56 8 rfl).trans (hf1 56 8 rfl)))))))
          have b85 : 0 ≤ Z 56 8 ∧ Z 56 8 ≤ 900 := hG.pr 56 8
          have eq86 : Z62 56 9 = Z40 56 9 := ((up_nk hE62 rfl).trans ((up_nk hE57 rfl).trans (up_nk hE55 rfl)))
          have b87 : 0 ≤ Z40 56 9 ∧ Z40 56 9 ≤ 100 := hG40.pr 56 9
          have eq88 : Z62 56 11 = Z40 56 11 := ((up_nk hE62 rfl).trans ((up_nk hE57 rfl).trans (up_nk hE55 rfl)))
          have b89 : 0 ≤ Z40 56 11 ∧ Z40 56 11 ≤ 4 := hG40.pr 56 11
          have eq90 : Z62 60 61 = Z40 60 61 := ((up_ni hE62 (by omega)).trans ((up_ni hE57 (by omega)).trans (up_ni hE55 (by omega))))
          have b91 : 0 ≤ Z40 60 61 ∧ Z40 60 61 ≤ 900 := by have hq := GI_ex hG40 60 61; replace hq : f60 (61 % 962) (Z40 60 61) := hq; unfold f60 at hq; omega
          have b92 : (-2147483648) ≤ Z40 60 61 ∧ Z40 60 61 ≤ 2147483647 := hG40.pr 60 61
          have eq93 : Z62 60 1 = Z40 60 1 := ((up_ni hE62 (by omega)).trans ((up_ni hE57 (by omega)).trans (up_ni hE55 (by omega))))
          have b94 : 0 ≤ Z40 60 1 ∧ Z40 60 1 ≤ 18 := by have hq := GI_ex hG40 60 1; replace hq : f60 (1 % 962) (Z40 60 1) := hq; unfold f60 at hq; omega
          have b95 : (-2147483648) ≤ Z40 60 1 ∧ Z40 60 1 ≤ 2147483647 := hG40.pr 60 1
          have eq96 : Z62 60 2 = Z40 60 2 := ((up_ni hE62 (by omega)).trans ((up_ni hE57 (by omega)).trans (up_ni hE55 (by omega))))
          have b97 : 0 ≤ Z40 60 2 ∧ Z40 60 2 ≤ 18 := by have hq := GI_ex hG40 60 2; replace hq : f60 (2 % 962) (Z40 60 2) := hq; unfold f60 at hq; omega
          have b98 : (-2147483648) ≤ Z40 60 2 ∧ Z40 60 2 ≤ 2147483647 := hG40.pr 60 2
          exact mx_J.ret (sn_179 89) (fun _ _ => rfl) (hP Z62 h62 hx62 hG62 (fr_tr (M := [(56, 6), (56, 7), (56, 9), (56, 10), (56, 11), (56, 12), (60, (-1))]) (fr_tr (M := [(56, 6), (56, 7), (56, 9), (56, 10), (56, 11), (56, 12), (60, (-1))]) (fr_tr (M := [(56, 6), (56, 7), (56, 9), (56, 10), (56, 11), (56, 12), (60, (-1))]) (fr_tr (M := [(56, 6), (56, 7), (56, 9), (56, 10), (56, 11), (56, 12), (60, (-1))]) (fr_tr (M := [(56, 6), (56, 7), (56, 9), (56, 10), (56, 11), (56, 12), (60, (-1))]) (fr_tr (M := [(56, 6), (56, 7), (56, 9), (56, 10), (56, 11), (56, 12), (60, (-1))]) (fr_tr (M := [(56, 6), (56, 7), (56, 9), (56, 10), (56, 11), (56, 12), (60, (-1))]) fr_rf (hf1) (M1 := []) rfl rfl) (hf7) rfl rfl) (hf19) rfl rfl) (hf40) rfl rfl) (fr_ua hE55) rfl rfl) (fr_ua hE57) rfl rfl) (fr_ua hE62) rfl rfl) (by omega))
        · skip
          have b99 : 0 ≤ Z40 56 6 ∧ Z40 56 6 ≤ 900 := hG40.pr 56 6
          have b100 : 0 ≤ Z40 56 7 ∧ Z40 56 7 ≤ 900 := hG40.pr 56 7
          have b101 : 0 ≤ Z40 56 9 ∧ Z40 56 9 ≤ 100 := hG40.pr 56 9
          have b102 : 0 ≤ Z40 56 11 ∧ Z40 56 11 ≤ 4 := hG40.pr 56 11
          have b103 : 0 ≤ Z40 60 61 ∧ Z40 60 61 ≤ 900 := by have hq := GI_ex hG40 60 61; replace hq : f60 (61 % 962) (Z40 60 61) := hq; unfold f60 at hq; omega
          have b104 : (-2147483648) ≤ Z40 60 61 ∧ Z40 60 61 ≤ 2147483647 := hG40.pr 60 61
          have b105 : 0 ≤ Z40 60 1 ∧ Z40 60 1 ≤ 18 := by have hq := GI_ex hG40 60 1; replace hq : f60 (1 % 962) (Z40 60 1) := hq; unfold f60 at hq; omega
          have b106 : (-2147483648) ≤ Z40 60 1 ∧ Z40 60 1 ≤ 2147483647 := hG40.pr 60 1
          have b107 : 0 ≤ Z40 60 2 ∧ Z40 60 2 ≤ 18 := by have hq := GI_ex hG40 60 2; replace hq : f60 (2 % 962) (Z40 60 2) := hq; unfold f60 at hq; omega
          have b108 : (-2147483648) ≤ Z40 60 2 ∧ Z40 60 2 ≤ 2147483647 := hG40.pr 60 2
          have b109 : 0 ≤ Z40 56 6 ∧ Z40 56 6 ≤ 900 := hG40.pr 56 6
          have b110 : 0 ≤ Z40 56 7 ∧ Z40 56 7 ≤ 900 := hG40.pr 56 7
          have eq111 : Z40 56 8 = Z 56 8 := ((hf40 56 8 rfl).trans ((hf19 56 8 rfl).trans ((hf7 56 8 rfl).trans (hf1 56 8 rfl))))
          have b112 : 0 ≤ Z 56 8 ∧ Z 56 8 ≤ 900 := hG.pr 56 8
          have b113 : 0 ≤ Z40 56 9 ∧ Z40 56 9 ≤ 100 := hG40.pr 56 9
          have b114 : 0 ≤ Z40 56 11 ∧ Z40 56 11 ≤ 4 := hG40.pr 56 11
          have b115 : 0 ≤ Z40 60 61 ∧ Z40 60 61 ≤ 900 := by have hq := GI_ex hG40 60 61; replace hq : f60 (61 % 962) (Z40 60 61) := hq; unfold f60 at hq; omega
          have b116 : (-2147483648) ≤ Z40 60 61 ∧ Z40 60 61 ≤ 2147483647 := hG40.pr 60 61
          have b117 : 0 ≤ Z40 60 1 ∧ Z40 60 1 ≤ 18 := by have hq := GI_ex hG40 60 1; replace hq : f60 (1 % 962) (Z40 60 1) := hq; unfold f60 at hq; omega
          have b118 : (-2147483648) ≤ Z40 60 1 ∧ Z40 60 1 ≤ 2147483647 := hG40.pr 60 1
          have b119 : 0 ≤ Z40 60 2 ∧ Z40 60 2 ≤ 18 := by have hq := GI_ex hG40 60 2; replace hq : f60 (2 % 962) (Z40 60 2) := hq; unfold f60 at hq; omega
          have b120 : (-2147483648) ≤ Z40 60 2 ∧ Z40 60 2 ≤ 2147483647 := hG40.pr 60 2
          exact mx_J.ret (sn_179 50) (fun _ _ => rfl) (hP Z40 h40 hx40 hG40 (fr_tr (M := [(56, 6), (56, 7), (56, 9), (56, 10), (56, 11), (56, 12), (60, (-1))]) (fr_tr (M := [(56, 6), (56, 7), (56, 9), (56, 10), (56, 11), (56, 12), (60, (-1))]) (fr_tr (M := [(56, 6), (56, 7), (56, 9), (56, 10), (56, 11), (56, 12), (60, (-1))]) (fr_tr (M := [(56, 6), (56, 7), (56, 9), (56, 10), (56, 11), (56, 12), (60, (-1))]) fr_rf (hf1) (M1 := []) rfl rfl) (hf7) rfl rfl) (hf19) rfl rfl) (hf40) rfl rfl) (by omega))
      refine Jif_ne (show mx_Sn _ _ 27 (mx_if_ne 38 30) from sn_179 27) (by omega) (fun q121 => ?_) (fun q121 => ?_)
      · skip
        refine mx_J.step (sn_179 38) (fun _ _ => rfl) ?_
        refine JcI (z := 0) (show mx_Sn _ _ 39 (mx_const (.int 0) 40) from sn_179 39) rfl ?_
        have eq123 : Z19 56 6 = Z7 56 6 := (hf19 56 6 rfl)
        have b124 : 0 ≤ Z7 56 6 ∧ Z7 56 6 ≤ 900 := hG7.pr 56 6
        have eq125 : Z19 56 7 = Z7 56 7 := (hf19 56 7 rfl)
        have b126 : 0 ≤ Z7 56 7 ∧ Z7 56 7 ≤ 900 := hG7.pr 56 7
        have eq127 : Z19 56 8 = Z 56 8 := ((hf19 56 8 rfl).trans ((hf7 56 8 rfl).trans (hf1 56 8 rfl)))
        have b128 : 0 ≤ Z 56 8 ∧ Z 56 8 ≤ 900 := hG.pr 56 8
        have eq129 : Z19 56 9 = Z7 56 9 := (hf19 56 9 rfl)
        have b130 : 0 ≤ Z7 56 9 ∧ Z7 56 9 ≤ 100 := hG7.pr 56 9
        have b131 : 0 ≤ Z19 56 11 ∧ Z19 56 11 ≤ 4 := hG19.pr 56 11
        have eq132 : Z19 60 61 = Z 60 61 := ((hf19 60 61 rfl).trans ((hf7 60 61 rfl).trans (hf1 60 61 rfl)))
        have b133 : 0 ≤ Z 60 61 ∧ Z 60 61 ≤ 900 := by have hq := GI_ex hG 60 61; replace hq : f60 (61 % 962) (Z 60 61) := hq; unfold f60 at hq; omega
        have b134 : (-2147483648) ≤ Z 60 61 ∧ Z 60 61 ≤ 2147483647 := hG.pr 60 61
        have eq135 : Z19 60 1 = Z 60 1 := ((hf19 60 1 rfl).trans ((hf7 60 1 rfl).trans (hf1 60 1 rfl)))
        have b136 : 0 ≤ Z 60 1 ∧ Z 60 1 ≤ 18 := by have hq := GI_ex hG 60 1; replace hq : f60 (1 % 962) (Z 60 1) := hq; unfold f60 at hq; omega
        have b137 : (-2147483648) ≤ Z 60 1 ∧ Z 60 1 ≤ 2147483647 := hG.pr 60 1
        have eq138 : Z19 60 2 = Z 60 2 := ((hf19 60 2 rfl).trans ((hf7 60 2 rfl).trans (hf1 60 2 rfl)))
        have b139 : 0 ≤ Z 60 2 ∧ Z 60 2 ≤ 18 := by have hq := GI_ex hG 60 2; replace hq : f60 (2 % 962) (Z 60 2) := hq; unfold f60 at hq; omega
        have b140 : (-2147483648) ≤ Z 60 2 ∧ Z 60 2 ≤ 2147483647 := hG.pr 60 2
        obtain ⟨Z122, h122, hc122, hx122, hG122, hf122, b122⟩ := ct_177_56_i0 (a0 := Z 60 61) (d := d + 0) (l := l) (D := D) (b0 := b0) (ad := ad) (Hb := Hb) (tau := tau) hx19 hG19  (show (Z19 56 6 ≤ Z19 56 7 ∧ Z19 56 7 ≤ Z19 56 8 ∧ (Z19 56 9 = 24 ∨ Z19 56 6 < Z19 56 7)) by first | omega | (simp only [eq123, eq125, eq127, eq129, eq132, eq135, eq138]; omega)) (show Z19 60 61 ≤ Z19 56 6 by first | omega | (simp only [eq123, eq125, eq127, eq129, eq132, eq135, eq138]; omega)) (show (Z 60 61) ≤ Z19 60 61 by first | omega | (simp only [eq123, eq125, eq127, eq129, eq132, eq135, eq138]; omega)) (show 0 ≤ (Z 60 61) by first | omega | (simp only [eq123, eq125, eq127, eq129, eq132, eq135, eq138]; omega))
        try rw [eq123] at b122
        try rw [eq125] at b122
        try rw [eq127] at b122
        try rw [eq129] at b122
        try rw [eq132] at b122
        try rw [eq135] at b122
        try rw [eq138] at b122
        obtain ⟨bq122, b122⟩ := b122
        have b141 : 0 ≤ Z122 56 6 ∧ Z122 56 6 ≤ 900 := hG122.pr 56 6
        have b142 : 0 ≤ Z122 56 7 ∧ Z122 56 7 ≤ 900 := hG122.pr 56 7
        have b143 : 0 ≤ Z122 56 9 ∧ Z122 56 9 ≤ 100 := hG122.pr 56 9
        have b144 : 0 ≤ Z122 56 11 ∧ Z122 56 11 ≤ 4 := hG122.pr 56 11
        have b145 : 0 ≤ Z122 60 61 ∧ Z122 60 61 ≤ 900 := by have hq := GI_ex hG122 60 61; replace hq : f60 (61 % 962) (Z122 60 61) := hq; unfold f60 at hq; omega
        have b146 : (-2147483648) ≤ Z122 60 61 ∧ Z122 60 61 ≤ 2147483647 := hG122.pr 60 61
        have b147 : 0 ≤ Z122 60 1 ∧ Z122 60 1 ≤ 18 := by have hq := GI_ex hG122 60 1; replace hq : f60 (1 % 962) (Z122 60 1) := hq; unfold f60 at hq; omega
        have b148 : (-2147483648) ≤ Z122 60 1 ∧ Z122 60 1 ≤ 2147483647 := hG122.pr 60 1
        have b149 : 0 ≤ Z122 60 2 ∧ Z122 60 2 ≤ 18 := by have hq := GI_ex hG122 60 2; replace hq : f60 (2 % 962) (Z122 60 2) := hq; unfold f60 at hq; omega
        have b150 : (-2147483648) ≤ Z122 60 2 ∧ Z122 60 2 ≤ 2147483647 := hG122.pr 60 2
        refine Jcv0 hx19 (show mx_Sn _ _ 40 (mx_callv 177 2 12 43) from sn_179 40) a56 s56 hc122 rfl rfl rfl ?_
        have lm122 := QR_m bq122 (by omega) (by omega)
        have b151 : 0 ≤ Z122 56 6 ∧ Z122 56 6 ≤ 900 := hG122.pr 56 6
        have b152 : 0 ≤ Z122 56 7 ∧ Z122 56 7 ≤ 900 := hG122.pr 56 7
        have b153 : 0 ≤ Z122 56 9 ∧ Z122 56 9 ≤ 100 := hG122.pr 56 9
        have b154 : 0 ≤ Z122 56 11 ∧ Z122 56 11 ≤ 4 := hG122.pr 56 11
        have b155 : 0 ≤ Z122 60 61 ∧ Z122 60 61 ≤ 900 := by have hq := GI_ex hG122 60 61; replace hq : f60 (61 % 962) (Z122 60 61) := hq; unfold f60 at hq; omega
        have b156 : (-2147483648) ≤ Z122 60 61 ∧ Z122 60 61 ≤ 2147483647 := hG122.pr 60 61
        have b157 : 0 ≤ Z122 60 1 ∧ Z122 60 1 ≤ 18 := by have hq := GI_ex hG122 60 1; replace hq : f60 (1 % 962) (Z122 60 1) := hq; unfold f60 at hq; omega
        have b158 : (-2147483648) ≤ Z122 60 1 ∧ Z122 60 1 ≤ 2147483647 := hG122.pr 60 1
        have b159 : 0 ≤ Z122 60 2 ∧ Z122 60 2 ≤ 18 := by have hq := GI_ex hG122 60 2; replace hq : f60 (2 % 962) (Z122 60 2) := hq; unfold f60 at hq; omega
        have b160 : (-2147483648) ≤ Z122 60 2 ∧ Z122 60 2 ≤ 2147483647 := hG122.pr 60 2
        exact c43 Z122 h122 (by omega) hx122 hG122 (fr_tr (M := [(56, 6), (56, 7), (56, 9), (56, 10), (56, 11), (56, 12), (60, (-1))]) fr_rf (hf122) (M1 := []) rfl rfl)
      · skip
        refine mx_J.step (sn_179 30) (fun _ _ => rfl) ?_
        refine JcI (z := 0) (show mx_Sn _ _ 31 (mx_const (.int 0) 32) from sn_179 31) rfl ?_
        have eq162 : Z19 56 6 = Z7 56 6 := (hf19 56 6 rfl)
        have b163 : 0 ≤ Z7 56 6 ∧ Z7 56 6 ≤ 900 := hG7.pr 56 6
        have eq164 : Z19 56 7 = Z7 56 7 := (hf19 56 7 rfl)
        have b165 : 0 ≤ Z7 56 7 ∧ Z7 56 7 ≤ 900 := hG7.pr 56 7
        have eq166 : Z19 56 8 = Z 56 8 := ((hf19 56 8 rfl).trans ((hf7 56 8 rfl).trans (hf1 56 8 rfl)))
        have b167 : 0 ≤ Z 56 8 ∧ Z 56 8 ≤ 900 := hG.pr 56 8
        have eq168 : Z19 56 9 = Z7 56 9 := (hf19 56 9 rfl)
        have b169 : 0 ≤ Z7 56 9 ∧ Z7 56 9 ≤ 100 := hG7.pr 56 9
        have b170 : 0 ≤ Z19 56 11 ∧ Z19 56 11 ≤ 4 := hG19.pr 56 11
        have eq171 : Z19 60 61 = Z 60 61 := ((hf19 60 61 rfl).trans ((hf7 60 61 rfl).trans (hf1 60 61 rfl)))
        have b172 : 0 ≤ Z 60 61 ∧ Z 60 61 ≤ 900 := by have hq := GI_ex hG 60 61; replace hq : f60 (61 % 962) (Z 60 61) := hq; unfold f60 at hq; omega
        have b173 : (-2147483648) ≤ Z 60 61 ∧ Z 60 61 ≤ 2147483647 := hG.pr 60 61
        have eq174 : Z19 60 1 = Z 60 1 := ((hf19 60 1 rfl).trans ((hf7 60 1 rfl).trans (hf1 60 1 rfl)))
        have b175 : 0 ≤ Z 60 1 ∧ Z 60 1 ≤ 18 := by have hq := GI_ex hG 60 1; replace hq : f60 (1 % 962) (Z 60 1) := hq; unfold f60 at hq; omega
        have b176 : (-2147483648) ≤ Z 60 1 ∧ Z 60 1 ≤ 2147483647 := hG.pr 60 1
        have eq177 : Z19 60 2 = Z 60 2 := ((hf19 60 2 rfl).trans ((hf7 60 2 rfl).trans (hf1 60 2 rfl)))
        have b178 : 0 ≤ Z 60 2 ∧ Z 60 2 ≤ 18 := by have hq := GI_ex hG 60 2; replace hq : f60 (2 % 962) (Z 60 2) := hq; unfold f60 at hq; omega
        have b179 : (-2147483648) ≤ Z 60 2 ∧ Z 60 2 ≤ 2147483647 := hG.pr 60 2
        obtain ⟨Z161, h161, hc161, hx161, hG161, hf161, b161⟩ := ct_174_56_i0 (a0 := Z 60 61) (d := d + 0) (l := l) (D := D) (b0 := b0) (ad := ad) (Hb := Hb) (tau := tau) hx19 hG19  (show (Z19 56 6 ≤ Z19 56 7 ∧ Z19 56 7 ≤ Z19 56 8 ∧ (Z19 56 9 = 24 ∨ Z19 56 6 < Z19 56 7)) by first | omega | (simp only [eq162, eq164, eq166, eq168, eq171, eq174, eq177]; omega)) (show Z19 60 61 ≤ Z19 56 6 by first | omega | (simp only [eq162, eq164, eq166, eq168, eq171, eq174, eq177]; omega)) (show (Z 60 61) ≤ Z19 60 61 by first | omega | (simp only [eq162, eq164, eq166, eq168, eq171, eq174, eq177]; omega)) (show 0 ≤ (Z 60 61) by first | omega | (simp only [eq162, eq164, eq166, eq168, eq171, eq174, eq177]; omega))
        try rw [eq162] at b161
        try rw [eq164] at b161
        try rw [eq166] at b161
        try rw [eq168] at b161
        try rw [eq171] at b161
        try rw [eq174] at b161
        try rw [eq177] at b161
        obtain ⟨bq161, b161⟩ := b161
        have b180 : 0 ≤ Z161 56 6 ∧ Z161 56 6 ≤ 900 := hG161.pr 56 6
        have b181 : 0 ≤ Z161 56 7 ∧ Z161 56 7 ≤ 900 := hG161.pr 56 7
        have b182 : 0 ≤ Z161 56 9 ∧ Z161 56 9 ≤ 100 := hG161.pr 56 9
        have b183 : 0 ≤ Z161 56 11 ∧ Z161 56 11 ≤ 4 := hG161.pr 56 11
        have b184 : 0 ≤ Z161 60 61 ∧ Z161 60 61 ≤ 900 := by have hq := GI_ex hG161 60 61; replace hq : f60 (61 % 962) (Z161 60 61) := hq; unfold f60 at hq; omega
        have b185 : (-2147483648) ≤ Z161 60 61 ∧ Z161 60 61 ≤ 2147483647 := hG161.pr 60 61
        have b186 : 0 ≤ Z161 60 1 ∧ Z161 60 1 ≤ 18 := by have hq := GI_ex hG161 60 1; replace hq : f60 (1 % 962) (Z161 60 1) := hq; unfold f60 at hq; omega
        have b187 : (-2147483648) ≤ Z161 60 1 ∧ Z161 60 1 ≤ 2147483647 := hG161.pr 60 1
        have b188 : 0 ≤ Z161 60 2 ∧ Z161 60 2 ≤ 18 := by have hq := GI_ex hG161 60 2; replace hq : f60 (2 % 962) (Z161 60 2) := hq; unfold f60 at hq; omega
        have b189 : (-2147483648) ≤ Z161 60 2 ∧ Z161 60 2 ≤ 2147483647 := hG161.pr 60 2
        refine Jcv0 hx19 (show mx_Sn _ _ 32 (mx_callv 174 2 12 35) from sn_179 32) a56 s56 hc161 rfl rfl rfl ?_
        have lm161 := QR_m bq161 (by omega) (by omega)
        refine mx_J.step (sn_179 35) (fun _ _ => rfl) ?_
        have b190 : 0 ≤ Z161 56 6 ∧ Z161 56 6 ≤ 900 := hG161.pr 56 6
        have b191 : 0 ≤ Z161 56 7 ∧ Z161 56 7 ≤ 900 := hG161.pr 56 7
        have b192 : 0 ≤ Z161 56 9 ∧ Z161 56 9 ≤ 100 := hG161.pr 56 9
        have b193 : 0 ≤ Z161 56 11 ∧ Z161 56 11 ≤ 4 := hG161.pr 56 11
        have b194 : 0 ≤ Z161 60 61 ∧ Z161 60 61 ≤ 900 := by have hq := GI_ex hG161 60 61; replace hq : f60 (61 % 962) (Z161 60 61) := hq; unfold f60 at hq; omega
        have b195 : (-2147483648) ≤ Z161 60 61 ∧ Z161 60 61 ≤ 2147483647 := hG161.pr 60 61
        have b196 : 0 ≤ Z161 60 1 ∧ Z161 60 1 ≤ 18 := by have hq := GI_ex hG161 60 1; replace hq : f60 (1 % 962) (Z161 60 1) := hq; unfold f60 at hq; omega
        have b197 : (-2147483648) ≤ Z161 60 1 ∧ Z161 60 1 ≤ 2147483647 := hG161.pr 60 1
        have b198 : 0 ≤ Z161 60 2 ∧ Z161 60 2 ≤ 18 := by have hq := GI_ex hG161 60 2; replace hq : f60 (2 % 962) (Z161 60 2) := hq; unfold f60 at hq; omega
        have b199 : (-2147483648) ≤ Z161 60 2 ∧ Z161 60 2 ≤ 2147483647 := hG161.pr 60 2
        exact c43 Z161 h161 (by omega) hx161 hG161 (fr_tr (M := [(56, 6), (56, 7), (56, 9), (56, 10), (56, 11), (56, 12), (60, (-1))]) fr_rf (hf161) (M1 := []) rfl rfl)
    refine Jif_ne (show mx_Sn _ _ 10 (mx_if_ne 18 13) from sn_179 10) (by omega) (fun q200 => ?_) (fun q200 => ?_)
    · skip
      have b201 : 0 ≤ Z7 56 6 ∧ Z7 56 6 ≤ 900 := hG7.pr 56 6
      have b202 : 0 ≤ Z7 56 7 ∧ Z7 56 7 ≤ 900 := hG7.pr 56 7
      have b203 : 0 ≤ Z7 56 9 ∧ Z7 56 9 ≤ 100 := hG7.pr 56 9
      have eq204 : Z7 56 11 = Z 56 11 := ((hf7 56 11 rfl).trans (hf1 56 11 rfl))
      have b205 : 0 ≤ Z 56 11 ∧ Z 56 11 ≤ 4 := hG.pr 56 11
      exact c18 Z7 h7 (by omega) hx7 hG7 fr_rf
    · skip
      refine mx_J.step (sn_179 13) (fun _ _ => rfl) ?_
      refine JcI (z := 2) (show mx_Sn _ _ 14 (mx_const (.int 2) 15) from sn_179 14) rfl ?_
      obtain ⟨Z206, h206, hc206, hx206, hG206, hf206, b206⟩ := ct_163_56 (d := d + 97) (l := l) (D := D) (b0 := b0) (ad := ad) (Hb := Hb) (tau := tau) hx7 hG7 (show 1 ≤ 2 ∧ 2 ≤ 4 by omega)
      have b207 : 0 ≤ Z206 56 11 ∧ Z206 56 11 ≤ 4 := hG206.pr 56 11
      refine Jcv0 hx7 (show mx_Sn _ _ 15 (mx_callv 163 2 12 18) from sn_179 15) a56 s56 hc206 rfl rfl rfl ?_
      have eq208 : Z206 56 6 = Z7 56 6 := (hf206 56 6 rfl)
      have b209 : 0 ≤ Z7 56 6 ∧ Z7 56 6 ≤ 900 := hG7.pr 56 6
      have eq210 : Z206 56 7 = Z7 56 7 := (hf206 56 7 rfl)
      have b211 : 0 ≤ Z7 56 7 ∧ Z7 56 7 ≤ 900 := hG7.pr 56 7
      have eq212 : Z206 56 9 = Z7 56 9 := (hf206 56 9 rfl)
      have b213 : 0 ≤ Z7 56 9 ∧ Z7 56 9 ≤ 100 := hG7.pr 56 9
      have b214 : 0 ≤ Z206 56 11 ∧ Z206 56 11 ≤ 4 := hG206.pr 56 11
      exact c18 Z206 h206 (by omega) hx206 hG206 (fr_tr (M := [(56, 11), (56, 12)]) fr_rf (hf206) (M1 := []) rfl rfl)
theorem ct_179_56 {l : Launch} {D : va_G} {b0 : Nat} {ad : Nat → Nat} {Hb : Heap} {tau : Nat → Int64} {d n s : Nat} {S : Nat → xS} {Z : xZ} {h : mx_H} (hx : XH n s S Z h) (hG : GI n S Z)  {x0 : Int} (p0 : 0 ≤ x0 ∧ x0 ≤ 1) (k0 : (Z 56 6 ≤ Z 56 7 ∧ Z 56 7 ≤ Z 56 8 ∧ (Z 56 9 = 24 ∨ Z 56 6 < Z 56 7))) (k1 : Z 60 61 ≤ Z 56 6) (k2 : Z 60 2 ≤ Z 60 1) (k3 : ¬ Z 56 9 = 24) (k4 : Z 56 11 = 0) : ∃ (Z' : xZ) (h' : mx_H), mx_Ca (tB l D b0 ad Hb tau) (d + 99) 179 [.ref 56, xI x0] h (none, h') ∧ XH n s S Z' h' ∧ GI n S Z' ∧ fr' [(56, 6), (56, 7), (56, 9), (56, 10), (56, 11), (56, 12), (60, (-1))] Z Z' ∧ (((Z' 56 6 ≤ Z' 56 7 ∧ Z' 56 7 ≤ Z 56 8 ∧ (Z' 56 9 = 24 ∨ Z' 56 6 < Z' 56 7)) ∧ Z 56 6 ≤ Z' 56 6 ∧ Z' 60 61 ≤ Z' 56 6 ∧ Z' 60 2 ≤ Z' 60 1 ∧ (Z' 56 11 = 0 → Z 56 11 = 0 ∧ Z 56 6 + 1 ≤ Z' 56 6 ∧ (WFF Z = 1 → WFF Z' = 1)))) := by
  obtain ⟨r, hca, Z', h', e, q⟩ := Jmt (B := tB l D b0 ad Hb tau) (M := mt_179) (mi := 179) (as := [.ref 56, xI x0]) (d := d + 98) (ls := [some (.ref 56), some (xI x0), none]) rfl rfl rfl rfl rfl rfl (cw_179_56 (l := l) (D := D) (b0 := b0) (ad := ad) (Hb := Hb) (tau := tau) (d := d) (Post := fun r => ∃ (Z' : xZ) (h' : mx_H), r = (none, h') ∧ XH n s S Z' h' ∧ GI n S Z' ∧ fr' [(56, 6), (56, 7), (56, 9), (56, 10), (56, 11), (56, 12), (60, (-1))] Z Z' ∧ (((Z' 56 6 ≤ Z' 56 7 ∧ Z' 56 7 ≤ Z 56 8 ∧ (Z' 56 9 = 24 ∨ Z' 56 6 < Z' 56 7)) ∧ Z 56 6 ≤ Z' 56 6 ∧ Z' 60 61 ≤ Z' 56 6 ∧ Z' 60 2 ≤ Z' 60 1 ∧ (Z' 56 11 = 0 → Z 56 11 = 0 ∧ Z 56 6 + 1 ≤ Z' 56 6 ∧ (WFF Z = 1 → WFF Z' = 1))))) hx hG p0 k0 k1 k2 k3 k4 (fun Z' h' q1 q2 q3 q4 => ⟨Z', h', rfl, q1, q2, q3, q4⟩))
  subst e; exact ⟨Z', h', hca, q⟩
set_option maxRecDepth 100000 in
theorem cw_180_56 {l : Launch} {D : va_G} {b0 : Nat} {ad : Nat → Nat} {Hb : Heap} {tau : Nat → Int64} {d n s : Nat} {S : Nat → xS} {Z : xZ} {h : mx_H} {Post : mx_R → Prop} (hx : XH n s S Z h) (hG : GI n S Z)   (k0 : (Z 56 6 ≤ Z 56 7 ∧ Z 56 7 ≤ Z 56 8 ∧ (Z 56 9 = 24 ∨ Z 56 6 < Z 56 7))) (k1 : Z 60 61 ≤ Z 56 6) (k2 : Z 60 2 ≤ Z 60 1) (k3 : Z 56 11 = 0) (k4 : ¬ Z 56 9 = 24) (hP : ∀ (Z' : xZ) (h' : mx_H), XH n s S Z' h' → GI n S Z' → fr' [(56, 6), (56, 7), (56, 9), (56, 10), (56, 11), (56, 12), (60, (-1))] Z Z' → ((Z' 56 6 ≤ Z' 56 7 ∧ Z' 56 7 ≤ Z 56 8 ∧ (Z' 56 9 = 24 ∨ Z' 56 6 < Z' 56 7)) ∧ Z 56 6 ≤ Z' 56 6 ∧ Z' 60 61 ≤ Z' 56 6 ∧ Z' 60 2 ≤ Z' 60 1 ∧ (Z' 56 11 = 0 → Z 56 11 = 0 ∧ Z 56 6 + 1 ≤ Z' 56 6 ∧ (WFF Z = 1 → WFF Z' = 1))) → Post (none, h')) : mx_J (tB l D b0 ad Hb tau) mt_180 (d + 99) 0 [some (.ref 56)] [] h Post := by
    have a56 : 56 < n := lt83 (GI_n hG) rfl
    have s56 : S 56 = .inl (12, [0, 2, 2, 2, 2, 0, 0, 0, 0, 0, 0, 0, 0, 0, 0, 2, 2, 2, 0, 2, 2, 2, 0, 0, 2, 2, 2, 2, 2, 2, 0, 0, 2, 2, 2, 2, 2, 2, 2, 2, 2, 2]) := GI_s hG 56 rfl
    refine mx_J.step (sn_180 0) (fun _ _ => rfl) ?_
    have b2 : 0 ≤ Z 56 11 ∧ Z 56 11 ≤ 4 := hG.pr 56 11
    refine JgetI (g := 11) (z := Z 56 11) hx (show mx_Sn _ _ 1 (mx_getf 12 11 4) from sn_180 1) a56 s56 rfl rfl rfl ?_
    refine Jif_eq (show mx_Sn _ _ 4 (mx_if_eq 8 7) from sn_180 4) (by omega) (fun q3 => ?_) (fun q3 => ?_)
    · skip
      refine mx_J.step (sn_180 8) (fun _ _ => rfl) ?_
      refine JcI (z := 2) (show mx_Sn _ _ 9 (mx_const (.int 2) 10) from sn_180 9) rfl ?_
      have b5 : 0 ≤ Z 56 9 ∧ Z 56 9 ≤ 100 := hG.pr 56 9
      have b6 : 0 ≤ Z 56 11 ∧ Z 56 11 ≤ 4 := hG.pr 56 11
      obtain ⟨z4, hc4, b4⟩ := ct_164_56 (d := d + 98) (l := l) (D := D) (b0 := b0) (ad := ad) (Hb := Hb) (tau := tau) hx hG (show 0 ≤ 2 ∧ 2 ≤ 100 by omega)
      refine Jcv hx (show mx_Sn _ _ 10 (mx_callv 164 2 12 13) from sn_180 10) a56 s56 hc4 rfl rfl rfl ?_
      have c57 : ∀  (Z8 : xZ) (h8 : mx_H), (Z8 56 6 ≤ Z8 56 7 ∧ Z8 56 7 ≤ Z 56 8 ∧ (Z8 56 9 = 24 ∨ Z8 56 6 < Z8 56 7) ∧ Z 56 6 ≤ Z8 56 6 ∧ Z8 60 61 ≤ Z8 56 6 ∧ Z8 60 2 ≤ Z8 60 1 ∧ (Z8 56 11 = 0 → Z 56 11 = 0 ∧ Z 56 6 + 1 ≤ Z8 56 6 ∧ (WFF Z = 1 → WFF Z8 = 1))) → XH n s S Z8 h8 → GI n S Z8 → fr' [(56, 6), (56, 7), (56, 9), (56, 10), (56, 11), (56, 12), (60, (-1))] Z Z8 → mx_J (tB l D b0 ad Hb tau) mt_180 (d + 99) 57 [some (.ref 56)] [] h8 Post := by
        intro Z8 h8 f7_0 hx8 hG8 hf8
        have b9 : 0 ≤ Z8 56 6 ∧ Z8 56 6 ≤ 900 := hG8.pr 56 6
        have b10 : 0 ≤ Z8 56 7 ∧ Z8 56 7 ≤ 900 := hG8.pr 56 7
        have b11 : 0 ≤ Z8 56 9 ∧ Z8 56 9 ≤ 100 := hG8.pr 56 9
        have b12 : 0 ≤ Z8 56 11 ∧ Z8 56 11 ≤ 4 := hG8.pr 56 11
        have b13 : 0 ≤ Z8 60 61 ∧ Z8 60 61 ≤ 900 := by have hq := GI_ex hG8 60 61; replace hq : f60 (61 % 962) (Z8 60 61) := hq; unfold f60 at hq; omega
        have b14 : (-2147483648) ≤ Z8 60 61 ∧ Z8 60 61 ≤ 2147483647 := hG8.pr 60 61
        have b15 : 0 ≤ Z8 60 1 ∧ Z8 60 1 ≤ 18 := by have hq := GI_ex hG8 60 1; replace hq : f60 (1 % 962) (Z8 60 1) := hq; unfold f60 at hq; omega
        have b16 : (-2147483648) ≤ Z8 60 1 ∧ Z8 60 1 ≤ 2147483647 := hG8.pr 60 1
        have b17 : 0 ≤ Z8 60 2 ∧ Z8 60 2 ≤ 18 := by have hq := GI_ex hG8 60 2; replace hq : f60 (2 % 962) (Z8 60 2) := hq; unfold f60 at hq; omega
        have b18 : (-2147483648) ≤ Z8 60 2 ∧ Z8 60 2 ≤ 2147483647 := hG8.pr 60 2
        have b19 : 0 ≤ Z8 56 6 ∧ Z8 56 6 ≤ 900 := hG8.pr 56 6
        have b20 : 0 ≤ Z8 56 7 ∧ Z8 56 7 ≤ 900 := hG8.pr 56 7
        have b21 : 0 ≤ Z8 56 9 ∧ Z8 56 9 ≤ 100 := hG8.pr 56 9
        have b22 : 0 ≤ Z8 56 11 ∧ Z8 56 11 ≤ 4 := hG8.pr 56 11
        have b23 : 0 ≤ Z8 60 61 ∧ Z8 60 61 ≤ 900 := by have hq := GI_ex hG8 60 61; replace hq : f60 (61 % 962) (Z8 60 61) := hq; unfold f60 at hq; omega
        have b24 : (-2147483648) ≤ Z8 60 61 ∧ Z8 60 61 ≤ 2147483647 := hG8.pr 60 61
        have b25 : 0 ≤ Z8 60 1 ∧ Z8 60 1 ≤ 18 := by have hq := GI_ex hG8 60 1; replace hq : f60 (1 % 962) (Z8 60 1) := hq; unfold f60 at hq; omega
        have b26 : (-2147483648) ≤ Z8 60 1 ∧ Z8 60 1 ≤ 2147483647 := hG8.pr 60 1
        have b27 : 0 ≤ Z8 60 2 ∧ Z8 60 2 ≤ 18 := by have hq := GI_ex hG8 60 2; replace hq : f60 (2 % 962) (Z8 60 2) := hq; unfold f60 at hq; omega
        have b28 : (-2147483648) ≤ Z8 60 2 ∧ Z8 60 2 ≤ 2147483647 := hG8.pr 60 2
        have b29 : 0 ≤ Z8 56 6 ∧ Z8 56 6 ≤ 900 := hG8.pr 56 6
        have b30 : 0 ≤ Z8 56 7 ∧ Z8 56 7 ≤ 900 := hG8.pr 56 7
        have eq31 : Z8 56 8 = Z 56 8 := (hf8 56 8 rfl)
        have b32 : 0 ≤ Z 56 8 ∧ Z 56 8 ≤ 900 := hG.pr 56 8
        have b33 : 0 ≤ Z8 56 9 ∧ Z8 56 9 ≤ 100 := hG8.pr 56 9
        have b34 : 0 ≤ Z8 56 11 ∧ Z8 56 11 ≤ 4 := hG8.pr 56 11
        have b35 : 0 ≤ Z8 60 61 ∧ Z8 60 61 ≤ 900 := by have hq := GI_ex hG8 60 61; replace hq : f60 (61 % 962) (Z8 60 61) := hq; unfold f60 at hq; omega
        have b36 : (-2147483648) ≤ Z8 60 61 ∧ Z8 60 61 ≤ 2147483647 := hG8.pr 60 61
        have b37 : 0 ≤ Z8 60 1 ∧ Z8 60 1 ≤ 18 := by have hq := GI_ex hG8 60 1; replace hq : f60 (1 % 962) (Z8 60 1) := hq; unfold f60 at hq; omega
        have b38 : (-2147483648) ≤ Z8 60 1 ∧ Z8 60 1 ≤ 2147483647 := hG8.pr 60 1
        have b39 : 0 ≤ Z8 60 2 ∧ Z8 60 2 ≤ 18 := by have hq := GI_ex hG8 60 2; replace hq : f60 (2 % 962) (Z8 60 2) := hq; unfold f60 at hq; omega
        have b40 : (-2147483648) ≤ Z8 60 2 ∧ Z8 60 2 ≤ 2147483647 := hG8.pr 60 2
        exact mx_J.ret (sn_180 57) (fun _ _ => rfl) (hP Z8 h8 hx8 hG8 (fr_tr (M := [(56, 6), (56, 7), (56, 9), (56, 10), (56, 11), (56, 12), (60, (-1))]) fr_rf (hf8) (M1 := []) rfl rfl) (by omega))
      refine Jif_eq (show mx_Sn _ _ 13 (mx_if_eq 23 16) from sn_180 13) (by omega) (fun q41 => ?_) (fun q41 => ?_)
      · skip
        refine mx_J.step (sn_180 23) (fun _ _ => rfl) ?_
        refine JcI (z := 3) (show mx_Sn _ _ 24 (mx_const (.int 3) 25) from sn_180 24) rfl ?_
        have b43 : 0 ≤ Z 56 9 ∧ Z 56 9 ≤ 100 := hG.pr 56 9
        have b44 : 0 ≤ Z 56 11 ∧ Z 56 11 ≤ 4 := hG.pr 56 11
        obtain ⟨z42, hc42, b42⟩ := ct_164_56 (d := d + 98) (l := l) (D := D) (b0 := b0) (ad := ad) (Hb := Hb) (tau := tau) hx hG (show 0 ≤ 3 ∧ 3 ≤ 100 by omega)
        refine Jcv hx (show mx_Sn _ _ 25 (mx_callv 164 2 12 28) from sn_180 25) a56 s56 hc42 rfl rfl rfl ?_
        have c39 : (Z 56 9 = 3 ∨ Z 56 9 = 4) → mx_J (tB l D b0 ad Hb tau) mt_180 (d + 99) 39 [some (.ref 56)] [] h Post := by
          intro f45_0
          refine mx_J.step (sn_180 39) (fun _ _ => rfl) ?_
          refine mx_J.step (sn_180 40) (fun _ _ => rfl) ?_
          have b47 : 0 ≤ Z 56 9 ∧ Z 56 9 ≤ 100 := hG.pr 56 9
          refine JgetI (g := 9) (z := Z 56 9) hx (show mx_Sn _ _ 41 (mx_getf 12 9 44) from sn_180 41) a56 s56 rfl rfl rfl ?_
          refine JcI (z := 3) (show mx_Sn _ _ 44 (mx_const (.int 3) 45) from sn_180 44) rfl ?_
          refine Jisub (show mx_Sn _ _ 45 (mx_isub 46) from sn_180 45) ?_
          have b49 : 0 ≤ Z 56 6 ∧ Z 56 6 ≤ 900 := hG.pr 56 6
          have b50 : 0 ≤ Z 56 7 ∧ Z 56 7 ≤ 900 := hG.pr 56 7
          have b51 : 0 ≤ Z 56 8 ∧ Z 56 8 ≤ 900 := hG.pr 56 8
          have b52 : 0 ≤ Z 56 9 ∧ Z 56 9 ≤ 100 := hG.pr 56 9
          have b53 : 0 ≤ Z 56 11 ∧ Z 56 11 ≤ 4 := hG.pr 56 11
          have b54 : 0 ≤ Z 60 61 ∧ Z 60 61 ≤ 900 := by have hq := GI_ex hG 60 61; replace hq : f60 (61 % 962) (Z 60 61) := hq; unfold f60 at hq; omega
          have b55 : (-2147483648) ≤ Z 60 61 ∧ Z 60 61 ≤ 2147483647 := hG.pr 60 61
          have b56 : 0 ≤ Z 60 1 ∧ Z 60 1 ≤ 18 := by have hq := GI_ex hG 60 1; replace hq : f60 (1 % 962) (Z 60 1) := hq; unfold f60 at hq; omega
          have b57 : (-2147483648) ≤ Z 60 1 ∧ Z 60 1 ≤ 2147483647 := hG.pr 60 1
          have b58 : 0 ≤ Z 60 2 ∧ Z 60 2 ≤ 18 := by have hq := GI_ex hG 60 2; replace hq : f60 (2 % 962) (Z 60 2) := hq; unfold f60 at hq; omega
          have b59 : (-2147483648) ≤ Z 60 2 ∧ Z 60 2 ≤ 2147483647 := hG.pr 60 2
          obtain ⟨Z48, h48, hc48, hx48, hG48, hf48, b48⟩ := ct_179_56 (d := d + 0) (l := l) (D := D) (b0 := b0) (ad := ad) (Hb := Hb) (tau := tau) hx hG (show 0 ≤ (Z 56 9) - 3 ∧ (Z 56 9) - 3 ≤ 1 by omega) (show (Z 56 6 ≤ Z 56 7 ∧ Z 56 7 ≤ Z 56 8 ∧ (Z 56 9 = 24 ∨ Z 56 6 < Z 56 7)) by omega) (show Z 60 61 ≤ Z 56 6 by omega) (show Z 60 2 ≤ Z 60 1 by omega) (show ¬ Z 56 9 = 24 by omega) (show Z 56 11 = 0 by omega)
          have b60 : 0 ≤ Z48 56 6 ∧ Z48 56 6 ≤ 900 := hG48.pr 56 6
          have b61 : 0 ≤ Z48 56 7 ∧ Z48 56 7 ≤ 900 := hG48.pr 56 7
          have b62 : 0 ≤ Z48 56 9 ∧ Z48 56 9 ≤ 100 := hG48.pr 56 9
          have b63 : 0 ≤ Z48 56 11 ∧ Z48 56 11 ≤ 4 := hG48.pr 56 11
          have b64 : 0 ≤ Z48 60 61 ∧ Z48 60 61 ≤ 900 := by have hq := GI_ex hG48 60 61; replace hq : f60 (61 % 962) (Z48 60 61) := hq; unfold f60 at hq; omega
          have b65 : (-2147483648) ≤ Z48 60 61 ∧ Z48 60 61 ≤ 2147483647 := hG48.pr 60 61
          have b66 : 0 ≤ Z48 60 1 ∧ Z48 60 1 ≤ 18 := by have hq := GI_ex hG48 60 1; replace hq : f60 (1 % 962) (Z48 60 1) := hq; unfold f60 at hq; omega
          have b67 : (-2147483648) ≤ Z48 60 1 ∧ Z48 60 1 ≤ 2147483647 := hG48.pr 60 1
          have b68 : 0 ≤ Z48 60 2 ∧ Z48 60 2 ≤ 18 := by have hq := GI_ex hG48 60 2; replace hq : f60 (2 % 962) (Z48 60 2) := hq; unfold f60 at hq; omega
          have b69 : (-2147483648) ≤ Z48 60 2 ∧ Z48 60 2 ≤ 2147483647 := hG48.pr 60 2
          refine Jcv0 hx (show mx_Sn _ _ 46 (mx_callv 179 2 12 49) from sn_180 46) a56 s56 hc48 rfl rfl rfl ?_
          refine mx_J.step (sn_180 49) (fun _ _ => rfl) ?_
          have b70 : 0 ≤ Z48 56 6 ∧ Z48 56 6 ≤ 900 := hG48.pr 56 6
          have b71 : 0 ≤ Z48 56 7 ∧ Z48 56 7 ≤ 900 := hG48.pr 56 7
          have b72 : 0 ≤ Z48 56 9 ∧ Z48 56 9 ≤ 100 := hG48.pr 56 9
          have b73 : 0 ≤ Z48 56 11 ∧ Z48 56 11 ≤ 4 := hG48.pr 56 11
          have b74 : 0 ≤ Z48 60 61 ∧ Z48 60 61 ≤ 900 := by have hq := GI_ex hG48 60 61; replace hq : f60 (61 % 962) (Z48 60 61) := hq; unfold f60 at hq; omega
          have b75 : (-2147483648) ≤ Z48 60 61 ∧ Z48 60 61 ≤ 2147483647 := hG48.pr 60 61
          have b76 : 0 ≤ Z48 60 1 ∧ Z48 60 1 ≤ 18 := by have hq := GI_ex hG48 60 1; replace hq : f60 (1 % 962) (Z48 60 1) := hq; unfold f60 at hq; omega
          have b77 : (-2147483648) ≤ Z48 60 1 ∧ Z48 60 1 ≤ 2147483647 := hG48.pr 60 1
          have b78 : 0 ≤ Z48 60 2 ∧ Z48 60 2 ≤ 18 := by have hq := GI_ex hG48 60 2; replace hq : f60 (2 % 962) (Z48 60 2) := hq; unfold f60 at hq; omega
          have b79 : (-2147483648) ≤ Z48 60 2 ∧ Z48 60 2 ≤ 2147483647 := hG48.pr 60 2
          exact c57 Z48 h48 (by omega) hx48 hG48 (fr_tr (M := [(56, 6), (56, 7), (56, 9), (56, 10), (56, 11), (56, 12), (60, (-1))]) fr_rf (hf48) (M1 := []) rfl rfl)
        refine Jif_ne (show mx_Sn _ _ 28 (mx_if_ne 39 31) from sn_180 28) (by omega) (fun q80 => ?_) (fun q80 => ?_)
        · skip
          exact c39 (by omega)
        · skip
          refine mx_J.step (sn_180 31) (fun _ _ => rfl) ?_
          refine JcI (z := 4) (show mx_Sn _ _ 32 (mx_const (.int 4) 33) from sn_180 32) rfl ?_
          have b82 : 0 ≤ Z 56 9 ∧ Z 56 9 ≤ 100 := hG.pr 56 9
          have b83 : 0 ≤ Z 56 11 ∧ Z 56 11 ≤ 4 := hG.pr 56 11
          obtain ⟨z81, hc81, b81⟩ := ct_164_56 (d := d + 98) (l := l) (D := D) (b0 := b0) (ad := ad) (Hb := Hb) (tau := tau) hx hG (show 0 ≤ 4 ∧ 4 ≤ 100 by omega)
          refine Jcv hx (show mx_Sn _ _ 33 (mx_callv 164 2 12 36) from sn_180 33) a56 s56 hc81 rfl rfl rfl ?_
          refine Jif_eq (show mx_Sn _ _ 36 (mx_if_eq 52 39) from sn_180 36) (by omega) (fun q84 => ?_) (fun q84 => ?_)
          · skip
            refine mx_J.step (sn_180 52) (fun _ _ => rfl) ?_
            refine JcI (z := 2) (show mx_Sn _ _ 53 (mx_const (.int 2) 54) from sn_180 53) rfl ?_
            obtain ⟨Z85, h85, hc85, hx85, hG85, hf85, b85⟩ := ct_163_56 (d := d + 98) (l := l) (D := D) (b0 := b0) (ad := ad) (Hb := Hb) (tau := tau) hx hG (show 1 ≤ 2 ∧ 2 ≤ 4 by omega)
            have b86 : 0 ≤ Z85 56 11 ∧ Z85 56 11 ≤ 4 := hG85.pr 56 11
            refine Jcv0 hx (show mx_Sn _ _ 54 (mx_callv 163 2 12 57) from sn_180 54) a56 s56 hc85 rfl rfl rfl ?_
            have eq87 : Z85 56 6 = Z 56 6 := (hf85 56 6 rfl)
            have b88 : 0 ≤ Z 56 6 ∧ Z 56 6 ≤ 900 := hG.pr 56 6
            have eq89 : Z85 56 7 = Z 56 7 := (hf85 56 7 rfl)
            have b90 : 0 ≤ Z 56 7 ∧ Z 56 7 ≤ 900 := hG.pr 56 7
            have eq91 : Z85 56 9 = Z 56 9 := (hf85 56 9 rfl)
            have b92 : 0 ≤ Z 56 9 ∧ Z 56 9 ≤ 100 := hG.pr 56 9
            have b93 : 0 ≤ Z85 56 11 ∧ Z85 56 11 ≤ 4 := hG85.pr 56 11
            have eq94 : Z85 60 61 = Z 60 61 := (hf85 60 61 rfl)
            have b95 : 0 ≤ Z 60 61 ∧ Z 60 61 ≤ 900 := by have hq := GI_ex hG 60 61; replace hq : f60 (61 % 962) (Z 60 61) := hq; unfold f60 at hq; omega
            have b96 : (-2147483648) ≤ Z 60 61 ∧ Z 60 61 ≤ 2147483647 := hG.pr 60 61
            have eq97 : Z85 60 1 = Z 60 1 := (hf85 60 1 rfl)
            have b98 : 0 ≤ Z 60 1 ∧ Z 60 1 ≤ 18 := by have hq := GI_ex hG 60 1; replace hq : f60 (1 % 962) (Z 60 1) := hq; unfold f60 at hq; omega
            have b99 : (-2147483648) ≤ Z 60 1 ∧ Z 60 1 ≤ 2147483647 := hG.pr 60 1
            have eq100 : Z85 60 2 = Z 60 2 := (hf85 60 2 rfl)
            have b101 : 0 ≤ Z 60 2 ∧ Z 60 2 ≤ 18 := by have hq := GI_ex hG 60 2; replace hq : f60 (2 % 962) (Z 60 2) := hq; unfold f60 at hq; omega
            have b102 : (-2147483648) ≤ Z 60 2 ∧ Z 60 2 ≤ 2147483647 := hG.pr 60 2
            have eq103 : WFF Z85  = WFF Z := (WFF_c (fun i => hf85 60 i rfl))
            exact c57 Z85 h85 (by omega) hx85 hG85 (fr_tr (M := [(56, 6), (56, 7), (56, 9), (56, 10), (56, 11), (56, 12), (60, (-1))]) fr_rf (hf85) (M1 := []) rfl rfl)
          · skip
            exact c39 (by omega)
      · skip
        refine mx_J.step (sn_180 16) (fun _ _ => rfl) ?_
        have b105 : 0 ≤ Z 56 6 ∧ Z 56 6 ≤ 900 := hG.pr 56 6
        have b106 : 0 ≤ Z 56 7 ∧ Z 56 7 ≤ 900 := hG.pr 56 7
        have b107 : 0 ≤ Z 56 8 ∧ Z 56 8 ≤ 900 := hG.pr 56 8
        have b108 : 0 ≤ Z 56 9 ∧ Z 56 9 ≤ 100 := hG.pr 56 9
        have b109 : 0 ≤ Z 56 11 ∧ Z 56 11 ≤ 4 := hG.pr 56 11
        have b110 : 0 ≤ Z 60 61 ∧ Z 60 61 ≤ 900 := by have hq := GI_ex hG 60 61; replace hq : f60 (61 % 962) (Z 60 61) := hq; unfold f60 at hq; omega
        have b111 : (-2147483648) ≤ Z 60 61 ∧ Z 60 61 ≤ 2147483647 := hG.pr 60 61
        have b112 : 0 ≤ Z 60 1 ∧ Z 60 1 ≤ 18 := by have hq := GI_ex hG 60 1; replace hq : f60 (1 % 962) (Z 60 1) := hq; unfold f60 at hq; omega
        have b113 : (-2147483648) ≤ Z 60 1 ∧ Z 60 1 ≤ 2147483647 := hG.pr 60 1
        have b114 : 0 ≤ Z 60 2 ∧ Z 60 2 ≤ 18 := by have hq := GI_ex hG 60 2; replace hq : f60 (2 % 962) (Z 60 2) := hq; unfold f60 at hq; omega
        have b115 : (-2147483648) ≤ Z 60 2 ∧ Z 60 2 ≤ 2147483647 := hG.pr 60 2
        obtain ⟨Z104, h104, hc104, hx104, hG104, hf104, b104⟩ := ct_178_56 (d := d + 91) (l := l) (D := D) (b0 := b0) (ad := ad) (Hb := Hb) (tau := tau) hx hG  (show (Z 56 6 ≤ Z 56 7 ∧ Z 56 7 ≤ Z 56 8 ∧ (Z 56 9 = 24 ∨ Z 56 6 < Z 56 7)) by omega) (show Z 60 61 ≤ Z 56 6 by omega) (show Z 60 2 ≤ Z 60 1 by omega) (show ¬ Z 56 9 = 24 by omega) (show Z 56 11 = 0 by omega)
        have b116 : 0 ≤ Z104 56 6 ∧ Z104 56 6 ≤ 900 := hG104.pr 56 6
        have b117 : 0 ≤ Z104 56 7 ∧ Z104 56 7 ≤ 900 := hG104.pr 56 7
        have b118 : 0 ≤ Z104 56 9 ∧ Z104 56 9 ≤ 100 := hG104.pr 56 9
        have b119 : 0 ≤ Z104 56 11 ∧ Z104 56 11 ≤ 4 := hG104.pr 56 11
        have b120 : 0 ≤ Z104 60 61 ∧ Z104 60 61 ≤ 900 := by have hq := GI_ex hG104 60 61; replace hq : f60 (61 % 962) (Z104 60 61) := hq; unfold f60 at hq; omega
        have b121 : (-2147483648) ≤ Z104 60 61 ∧ Z104 60 61 ≤ 2147483647 := hG104.pr 60 61
        have b122 : 0 ≤ Z104 60 1 ∧ Z104 60 1 ≤ 18 := by have hq := GI_ex hG104 60 1; replace hq : f60 (1 % 962) (Z104 60 1) := hq; unfold f60 at hq; omega
        have b123 : (-2147483648) ≤ Z104 60 1 ∧ Z104 60 1 ≤ 2147483647 := hG104.pr 60 1
        have b124 : 0 ≤ Z104 60 2 ∧ Z104 60 2 ≤ 18 := by have hq := GI_ex hG104 60 2; replace hq : f60 (2 % 962) (Z104 60 2) := hq; unfold f60 at hq; omega
        have b125 : (-2147483648) ≤ Z104 60 2 ∧ Z104 60 2 ≤ 2147483647 := hG104.pr 60 2
        refine Jcv0 hx (show mx_Sn _ _ 17 (mx_callv 178 1 12 20) from sn_180 17) a56 s56 hc104 rfl rfl rfl ?_
        refine mx_J.step (sn_180 20) (fun _ _ => rfl) ?_
        have b126 : 0 ≤ Z104 56 6 ∧ Z104 56 6 ≤ 900 := hG104.pr 56 6
        have b127 : 0 ≤ Z104 56 7 ∧ Z104 56 7 ≤ 900 := hG104.pr 56 7
        have b128 : 0 ≤ Z104 56 9 ∧ Z104 56 9 ≤ 100 := hG104.pr 56 9
        have b129 : 0 ≤ Z104 56 11 ∧ Z104 56 11 ≤ 4 := hG104.pr 56 11
        have b130 : 0 ≤ Z104 60 61 ∧ Z104 60 61 ≤ 900 := by have hq := GI_ex hG104 60 61; replace hq : f60 (61 % 962) (Z104 60 61) := hq; unfold f60 at hq; omega
        have b131 : (-2147483648) ≤ Z104 60 61 ∧ Z104 60 61 ≤ 2147483647 := hG104.pr 60 61
        have b132 : 0 ≤ Z104 60 1 ∧ Z104 60 1 ≤ 18 := by have hq := GI_ex hG104 60 1; replace hq : f60 (1 % 962) (Z104 60 1) := hq; unfold f60 at hq; omega
        have b133 : (-2147483648) ≤ Z104 60 1 ∧ Z104 60 1 ≤ 2147483647 := hG104.pr 60 1
        have b134 : 0 ≤ Z104 60 2 ∧ Z104 60 2 ≤ 18 := by have hq := GI_ex hG104 60 2; replace hq : f60 (2 % 962) (Z104 60 2) := hq; unfold f60 at hq; omega
        have b135 : (-2147483648) ≤ Z104 60 2 ∧ Z104 60 2 ≤ 2147483647 := hG104.pr 60 2
        exact c57 Z104 h104 (by omega) hx104 hG104 (fr_tr (M := [(56, 6), (56, 7), (56, 9), (56, 10), (56, 11), (56, 12), (60, (-1))]) fr_rf (hf104) (M1 := []) rfl rfl)
    · skip
      have b136 : 0 ≤ Z 56 6 ∧ Z 56 6 ≤ 900 := hG.pr 56 6
      have b137 : 0 ≤ Z 56 7 ∧ Z 56 7 ≤ 900 := hG.pr 56 7
      have b138 : 0 ≤ Z 56 9 ∧ Z 56 9 ≤ 100 := hG.pr 56 9
      have b139 : 0 ≤ Z 56 11 ∧ Z 56 11 ≤ 4 := hG.pr 56 11
      have b140 : 0 ≤ Z 60 61 ∧ Z 60 61 ≤ 900 := by have hq := GI_ex hG 60 61; replace hq : f60 (61 % 962) (Z 60 61) := hq; unfold f60 at hq; omega
      have b141 : (-2147483648) ≤ Z 60 61 ∧ Z 60 61 ≤ 2147483647 := hG.pr 60 61
      have b142 : 0 ≤ Z 60 1 ∧ Z 60 1 ≤ 18 := by have hq := GI_ex hG 60 1; replace hq : f60 (1 % 962) (Z 60 1) := hq; unfold f60 at hq; omega
      have b143 : (-2147483648) ≤ Z 60 1 ∧ Z 60 1 ≤ 2147483647 := hG.pr 60 1
      have b144 : 0 ≤ Z 60 2 ∧ Z 60 2 ≤ 18 := by have hq := GI_ex hG 60 2; replace hq : f60 (2 % 962) (Z 60 2) := hq; unfold f60 at hq; omega
      have b145 : (-2147483648) ≤ Z 60 2 ∧ Z 60 2 ≤ 2147483647 := hG.pr 60 2
      have b146 : 0 ≤ Z 56 6 ∧ Z 56 6 ≤ 900 := hG.pr 56 6
      have b147 : 0 ≤ Z 56 7 ∧ Z 56 7 ≤ 900 := hG.pr 56 7
      have b148 : 0 ≤ Z 56 8 ∧ Z 56 8 ≤ 900 := hG.pr 56 8
      have b149 : 0 ≤ Z 56 9 ∧ Z 56 9 ≤ 100 := hG.pr 56 9
      have b150 : 0 ≤ Z 56 11 ∧ Z 56 11 ≤ 4 := hG.pr 56 11
      have b151 : 0 ≤ Z 60 61 ∧ Z 60 61 ≤ 900 := by have hq := GI_ex hG 60 61; replace hq : f60 (61 % 962) (Z 60 61) := hq; unfold f60 at hq; omega
      have b152 : (-2147483648) ≤ Z 60 61 ∧ Z 60 61 ≤ 2147483647 := hG.pr 60 61
      have b153 : 0 ≤ Z 60 1 ∧ Z 60 1 ≤ 18 := by have hq := GI_ex hG 60 1; replace hq : f60 (1 % 962) (Z 60 1) := hq; unfold f60 at hq; omega
      have b154 : (-2147483648) ≤ Z 60 1 ∧ Z 60 1 ≤ 2147483647 := hG.pr 60 1
      have b155 : 0 ≤ Z 60 2 ∧ Z 60 2 ≤ 18 := by have hq := GI_ex hG 60 2; replace hq : f60 (2 % 962) (Z 60 2) := hq; unfold f60 at hq; omega
      have b156 : (-2147483648) ≤ Z 60 2 ∧ Z 60 2 ≤ 2147483647 := hG.pr 60 2
      exact mx_J.ret (sn_180 7) (fun _ _ => rfl) (hP Z h hx hG fr_rf (by omega))
theorem ct_180_56 {l : Launch} {D : va_G} {b0 : Nat} {ad : Nat → Nat} {Hb : Heap} {tau : Nat → Int64} {d n s : Nat} {S : Nat → xS} {Z : xZ} {h : mx_H} (hx : XH n s S Z h) (hG : GI n S Z)   (k0 : (Z 56 6 ≤ Z 56 7 ∧ Z 56 7 ≤ Z 56 8 ∧ (Z 56 9 = 24 ∨ Z 56 6 < Z 56 7))) (k1 : Z 60 61 ≤ Z 56 6) (k2 : Z 60 2 ≤ Z 60 1) (k3 : Z 56 11 = 0) (k4 : ¬ Z 56 9 = 24) : ∃ (Z' : xZ) (h' : mx_H), mx_Ca (tB l D b0 ad Hb tau) (d + 100) 180 [.ref 56] h (none, h') ∧ XH n s S Z' h' ∧ GI n S Z' ∧ fr' [(56, 6), (56, 7), (56, 9), (56, 10), (56, 11), (56, 12), (60, (-1))] Z Z' ∧ (((Z' 56 6 ≤ Z' 56 7 ∧ Z' 56 7 ≤ Z 56 8 ∧ (Z' 56 9 = 24 ∨ Z' 56 6 < Z' 56 7)) ∧ Z 56 6 ≤ Z' 56 6 ∧ Z' 60 61 ≤ Z' 56 6 ∧ Z' 60 2 ≤ Z' 60 1 ∧ (Z' 56 11 = 0 → Z 56 11 = 0 ∧ Z 56 6 + 1 ≤ Z' 56 6 ∧ (WFF Z = 1 → WFF Z' = 1)))) := by
  obtain ⟨r, hca, Z', h', e, q⟩ := Jmt (B := tB l D b0 ad Hb tau) (M := mt_180) (mi := 180) (as := [.ref 56]) (d := d + 99) (ls := [some (.ref 56)]) rfl rfl rfl rfl rfl rfl (cw_180_56 (l := l) (D := D) (b0 := b0) (ad := ad) (Hb := Hb) (tau := tau) (d := d) (Post := fun r => ∃ (Z' : xZ) (h' : mx_H), r = (none, h') ∧ XH n s S Z' h' ∧ GI n S Z' ∧ fr' [(56, 6), (56, 7), (56, 9), (56, 10), (56, 11), (56, 12), (60, (-1))] Z Z' ∧ (((Z' 56 6 ≤ Z' 56 7 ∧ Z' 56 7 ≤ Z 56 8 ∧ (Z' 56 9 = 24 ∨ Z' 56 6 < Z' 56 7)) ∧ Z 56 6 ≤ Z' 56 6 ∧ Z' 60 61 ≤ Z' 56 6 ∧ Z' 60 2 ≤ Z' 60 1 ∧ (Z' 56 11 = 0 → Z 56 11 = 0 ∧ Z 56 6 + 1 ≤ Z' 56 6 ∧ (WFF Z = 1 → WFF Z' = 1))))) hx hG k0 k1 k2 k3 k4 (fun Z' h' q1 q2 q3 q4 => ⟨Z', h', rfl, q1, q2, q3, q4⟩))
  subst e; exact ⟨Z', h', hca, q⟩
set_option maxRecDepth 100000 in
theorem cw_181_56 {l : Launch} {D : va_G} {b0 : Nat} {ad : Nat → Nat} {Hb : Heap} {tau : Nat → Int64} {d n s : Nat} {S : Nat → xS} {Z : xZ} {h : mx_H} {Post : mx_R → Prop} (hx : XH n s S Z h) (hG : GI n S Z)   (k0 : (Z 56 6 ≤ Z 56 7 ∧ Z 56 7 ≤ Z 56 8 ∧ (Z 56 9 = 24 ∨ Z 56 6 < Z 56 7))) (hP : ∀ (Z' : xZ) (h' : mx_H), XH n s S Z' h' → GI n S Z' → fr' [(56, 6), (56, 7), (56, 9), (56, 10), (56, 11), (56, 12), (60, (-1))] Z Z' → ((Z' 56 6 ≤ Z' 56 7 ∧ Z' 56 7 ≤ Z 56 8 ∧ (Z' 56 9 = 24 ∨ Z' 56 6 < Z' 56 7)) ∧ Z 56 6 ≤ Z' 56 6 ∧ Z' 60 61 = Z 60 61 ∧ Z' 60 1 = Z 60 1 ∧ Z' 60 2 = Z 60 2 ∧ WFF Z' = WFF Z ∧ (Z' 56 11 = 0 → Z 56 11 = 0)) → Post (none, h')) : mx_J (tB l D b0 ad Hb tau) mt_181 (d + 7) 0 [some (.ref 56)] [] h Post := by
    have a56 : 56 < n := lt83 (GI_n hG) rfl
    have s56 : S 56 = .inl (12, [0, 2, 2, 2, 2, 0, 0, 0, 0, 0, 0, 0, 0, 0, 0, 2, 2, 2, 0, 2, 2, 2, 0, 0, 2, 2, 2, 2, 2, 2, 0, 0, 2, 2, 2, 2, 2, 2, 2, 2, 2, 2]) := GI_s hG 56 rfl
    have a60 : 60 < n := lt83 (GI_n hG) rfl
    have s60 : S 60 = .inr (.int, 962, 0) := GI_s hG 60 rfl
    refine mx_J.step (sn_181 0) (fun _ _ => rfl) ?_
    refine JcI (z := 30) (show mx_Sn _ _ 1 (mx_const (.int 30) 3) from sn_181 1) rfl ?_
    have b2 : 0 ≤ Z 56 6 ∧ Z 56 6 ≤ 900 := hG.pr 56 6
    have b3 : 0 ≤ Z 56 7 ∧ Z 56 7 ≤ 900 := hG.pr 56 7
    have b4 : 0 ≤ Z 56 8 ∧ Z 56 8 ≤ 900 := hG.pr 56 8
    have b5 : 0 ≤ Z 56 9 ∧ Z 56 9 ≤ 100 := hG.pr 56 9
    have b6 : 0 ≤ Z 56 11 ∧ Z 56 11 ≤ 4 := hG.pr 56 11
    obtain ⟨z1, Z1, h1, hc1, hx1, hG1, hf1, b1⟩ := ct_165_56 (d := d + 0) (l := l) (D := D) (b0 := b0) (ad := ad) (Hb := Hb) (tau := tau) hx hG (show 0 ≤ 30 ∧ 30 ≤ 100 by omega) (show (Z 56 6 ≤ Z 56 7 ∧ Z 56 7 ≤ Z 56 8 ∧ (Z 56 9 = 24 ∨ Z 56 6 < Z 56 7)) by omega) (show ¬ 30 = 24 by omega)
    have b7 : 0 ≤ Z1 56 6 ∧ Z1 56 6 ≤ 900 := hG1.pr 56 6
    have b8 : 0 ≤ Z1 56 7 ∧ Z1 56 7 ≤ 900 := hG1.pr 56 7
    have b9 : 0 ≤ Z1 56 9 ∧ Z1 56 9 ≤ 100 := hG1.pr 56 9
    refine Jcv hx (show mx_Sn _ _ 3 (mx_callv 165 2 12 6) from sn_181 3) a56 s56 hc1 rfl rfl rfl ?_
    have c14 : ∀  (Z11 : xZ) (h11 : mx_H), (Z11 56 6 ≤ Z11 56 7 ∧ Z11 56 7 ≤ Z 56 8 ∧ (Z11 56 9 = 24 ∨ Z11 56 6 < Z11 56 7) ∧ Z 56 6 ≤ Z11 56 6 ∧ (Z11 56 11 = 0 → Z 56 11 = 0)) → XH n s S Z11 h11 → GI n S Z11 → fr' [(56, 11), (56, 12)] Z1 Z11 → mx_J (tB l D b0 ad Hb tau) mt_181 (d + 7) 14 [some (.ref 56)] [] h11 Post := by
      intro Z11 h11 f10_0 hx11 hG11 hf11
      have eq12 : Z11 56 6 = Z1 56 6 := (hf11 56 6 rfl)
      have b13 : 0 ≤ Z1 56 6 ∧ Z1 56 6 ≤ 900 := hG1.pr 56 6
      have eq14 : Z11 56 7 = Z1 56 7 := (hf11 56 7 rfl)
      have b15 : 0 ≤ Z1 56 7 ∧ Z1 56 7 ≤ 900 := hG1.pr 56 7
      have eq16 : Z11 56 9 = Z1 56 9 := (hf11 56 9 rfl)
      have b17 : 0 ≤ Z1 56 9 ∧ Z1 56 9 ≤ 100 := hG1.pr 56 9
      have b18 : 0 ≤ Z11 56 11 ∧ Z11 56 11 ≤ 4 := hG11.pr 56 11
      refine mx_J.step (sn_181 14) (fun _ _ => rfl) ?_
      refine JgetR (g := 4) (b := 60) hx11 (show mx_Sn _ _ 15 (mx_getf 12 4 18) from sn_181 15) a56 s56 rfl rfl (hG11.prr 56 4 rfl) ?_
      refine JcI (z := 0) (show mx_Sn _ _ 18 (mx_const (.int 0) 19) from sn_181 18) rfl ?_
      refine mx_J.step (sn_181 19) (fun _ _ => rfl) ?_
      have b20 : (-2147483648) ≤ Z 60 0 ∧ Z 60 0 ≤ 2147483647 := hG.pr 60 0
      refine JialdI (z := Z 60 0) hx11 (show mx_Sn _ _ 20 (mx_iald 21) from sn_181 20) a60 s60 (by omega) ((hf11 60 0 rfl).trans (hf1 60 0 rfl)) ?_
      refine JcI (z := 1) (show mx_Sn _ _ 21 (mx_const (.int 1) 22) from sn_181 21) rfl ?_
      refine JiaddN (show mx_Sn _ _ 22 (mx_iadd 23) from sn_181 22) (fun y21 hy21 hq21 => ?_)
      have eq22 : WFF Z11  = WFF Z := ((WFF_c (fun i => hf11 60 i rfl)).trans (WFF_c (fun i => hf1 60 i rfl)))
      refine JiastI hx11 (show mx_Sn _ _ 23 (mx_iast 1 24) from sn_181 23) a60 s60 rfl (by omega) (fun Z23 h23 hx23 hE23 => ?_)
      have hG23 := GI_up hG11 hE23 (show (-2147483648) ≤ y21 ∧ y21 ≤ 2147483647 by omega) (show f60 ((0) % 962) (y21) by first | assumption | (unfold f60; omega) | (unfold f60 at *; omega)) rfl
      have wo := wf_o hE23 (by omega)
      have eq24 : Z23 56 6 = Z1 56 6 := ((up_nk hE23 rfl).trans (hf11 56 6 rfl))
      have b25 : 0 ≤ Z1 56 6 ∧ Z1 56 6 ≤ 900 := hG1.pr 56 6
      have eq26 : Z23 56 7 = Z1 56 7 := ((up_nk hE23 rfl).trans (hf11 56 7 rfl))
      have b27 : 0 ≤ Z1 56 7 ∧ Z1 56 7 ≤ 900 := hG1.pr 56 7
      have eq28 : Z23 56 9 = Z1 56 9 := ((up_nk hE23 rfl).trans (hf11 56 9 rfl))
      have b29 : 0 ≤ Z1 56 9 ∧ Z1 56 9 ≤ 100 := hG1.pr 56 9
      have eq30 : Z23 56 11 = Z11 56 11 := (up_nk hE23 rfl)
      have b31 : 0 ≤ Z11 56 11 ∧ Z11 56 11 ≤ 4 := hG11.pr 56 11
      have eq32 : Z23 60 61 = Z 60 61 := ((up_ni hE23 (by decide)).trans ((hf11 60 61 rfl).trans (hf1 60 61 rfl)))
      have b33 : 0 ≤ Z 60 61 ∧ Z 60 61 ≤ 900 := by have hq := GI_ex hG 60 61; replace hq : f60 (61 % 962) (Z 60 61) := hq; unfold f60 at hq; omega
      have b34 : (-2147483648) ≤ Z 60 61 ∧ Z 60 61 ≤ 2147483647 := hG.pr 60 61
      have eq35 : Z23 60 1 = Z 60 1 := ((up_ni hE23 (by decide)).trans ((hf11 60 1 rfl).trans (hf1 60 1 rfl)))
      have b36 : 0 ≤ Z 60 1 ∧ Z 60 1 ≤ 18 := by have hq := GI_ex hG 60 1; replace hq : f60 (1 % 962) (Z 60 1) := hq; unfold f60 at hq; omega
      have b37 : (-2147483648) ≤ Z 60 1 ∧ Z 60 1 ≤ 2147483647 := hG.pr 60 1
      have eq38 : Z23 60 2 = Z 60 2 := ((up_ni hE23 (by decide)).trans ((hf11 60 2 rfl).trans (hf1 60 2 rfl)))
      have b39 : 0 ≤ Z 60 2 ∧ Z 60 2 ≤ 18 := by have hq := GI_ex hG 60 2; replace hq : f60 (2 % 962) (Z 60 2) := hq; unfold f60 at hq; omega
      have b40 : (-2147483648) ≤ Z 60 2 ∧ Z 60 2 ≤ 2147483647 := hG.pr 60 2
      have eq41 : Z23 56 6 = Z1 56 6 := ((up_nk hE23 rfl).trans (hf11 56 6 rfl))
      have b42 : 0 ≤ Z1 56 6 ∧ Z1 56 6 ≤ 900 := hG1.pr 56 6
      have eq43 : Z23 56 7 = Z1 56 7 := ((up_nk hE23 rfl).trans (hf11 56 7 rfl))
      have b44 : 0 ≤ Z1 56 7 ∧ Z1 56 7 ≤ 900 := hG1.pr 56 7
      have eq45 : Z23 56 8 = Z 56 8 := ((up_nk hE23 rfl).trans ((hf11 56 8 rfl).trans (hf1 56 8 rfl)))
      have b46 : 0 ≤ Z 56 8 ∧ Z 56 8 ≤ 900 := hG.pr 56 8
      have eq47 : Z23 56 9 = Z1 56 9 := ((up_nk hE23 rfl).trans (hf11 56 9 rfl))
      have b48 : 0 ≤ Z1 56 9 ∧ Z1 56 9 ≤ 100 := hG1.pr 56 9
      have eq49 : Z23 56 11 = Z11 56 11 := (up_nk hE23 rfl)
      have b50 : 0 ≤ Z11 56 11 ∧ Z11 56 11 ≤ 4 := hG11.pr 56 11
      have eq51 : Z23 60 61 = Z 60 61 := ((up_ni hE23 (by decide)).trans ((hf11 60 61 rfl).trans (hf1 60 61 rfl)))
      have b52 : 0 ≤ Z 60 61 ∧ Z 60 61 ≤ 900 := by have hq := GI_ex hG 60 61; replace hq : f60 (61 % 962) (Z 60 61) := hq; unfold f60 at hq; omega
      have b53 : (-2147483648) ≤ Z 60 61 ∧ Z 60 61 ≤ 2147483647 := hG.pr 60 61
      have eq54 : Z23 60 1 = Z 60 1 := ((up_ni hE23 (by decide)).trans ((hf11 60 1 rfl).trans (hf1 60 1 rfl)))
      have b55 : 0 ≤ Z 60 1 ∧ Z 60 1 ≤ 18 := by have hq := GI_ex hG 60 1; replace hq : f60 (1 % 962) (Z 60 1) := hq; unfold f60 at hq; omega
      have b56 : (-2147483648) ≤ Z 60 1 ∧ Z 60 1 ≤ 2147483647 := hG.pr 60 1
      have eq57 : Z23 60 2 = Z 60 2 := ((up_ni hE23 (by decide)).trans ((hf11 60 2 rfl).trans (hf1 60 2 rfl)))
      have b58 : 0 ≤ Z 60 2 ∧ Z 60 2 ≤ 18 := by have hq := GI_ex hG 60 2; replace hq : f60 (2 % 962) (Z 60 2) := hq; unfold f60 at hq; omega
      have b59 : (-2147483648) ≤ Z 60 2 ∧ Z 60 2 ≤ 2147483647 := hG.pr 60 2
      exact mx_J.ret (sn_181 24) (fun _ _ => rfl) (hP Z23 h23 hx23 hG23 (fr_tr (M := [(56, 6), (56, 7), (56, 9), (56, 10), (56, 11), (56, 12), (60, (-1))]) (fr_tr (M := [(56, 6), (56, 7), (56, 9), (56, 10), (56, 11), (56, 12), (60, (-1))]) (fr_tr (M := [(56, 6), (56, 7), (56, 9), (56, 10), (56, 11), (56, 12), (60, (-1))]) fr_rf (hf1) (M1 := []) rfl rfl) (hf11) rfl rfl) (fr_ua hE23) rfl rfl) (by omega))
    refine Jif_ne (show mx_Sn _ _ 6 (mx_if_ne 14 9) from sn_181 6) (by omega) (fun q60 => ?_) (fun q60 => ?_)
    · skip
      have b61 : 0 ≤ Z1 56 6 ∧ Z1 56 6 ≤ 900 := hG1.pr 56 6
      have b62 : 0 ≤ Z1 56 7 ∧ Z1 56 7 ≤ 900 := hG1.pr 56 7
      have b63 : 0 ≤ Z1 56 9 ∧ Z1 56 9 ≤ 100 := hG1.pr 56 9
      have eq64 : Z1 56 11 = Z 56 11 := (hf1 56 11 rfl)
      have b65 : 0 ≤ Z 56 11 ∧ Z 56 11 ≤ 4 := hG.pr 56 11
      exact c14 Z1 h1 (by omega) hx1 hG1 fr_rf
    · skip
      refine mx_J.step (sn_181 9) (fun _ _ => rfl) ?_
      refine JcI (z := 2) (show mx_Sn _ _ 10 (mx_const (.int 2) 11) from sn_181 10) rfl ?_
      obtain ⟨Z66, h66, hc66, hx66, hG66, hf66, b66⟩ := ct_163_56 (d := d + 6) (l := l) (D := D) (b0 := b0) (ad := ad) (Hb := Hb) (tau := tau) hx1 hG1 (show 1 ≤ 2 ∧ 2 ≤ 4 by omega)
      have b67 : 0 ≤ Z66 56 11 ∧ Z66 56 11 ≤ 4 := hG66.pr 56 11
      refine Jcv0 hx1 (show mx_Sn _ _ 11 (mx_callv 163 2 12 14) from sn_181 11) a56 s56 hc66 rfl rfl rfl ?_
      have eq68 : Z66 56 6 = Z1 56 6 := (hf66 56 6 rfl)
      have b69 : 0 ≤ Z1 56 6 ∧ Z1 56 6 ≤ 900 := hG1.pr 56 6
      have eq70 : Z66 56 7 = Z1 56 7 := (hf66 56 7 rfl)
      have b71 : 0 ≤ Z1 56 7 ∧ Z1 56 7 ≤ 900 := hG1.pr 56 7
      have eq72 : Z66 56 9 = Z1 56 9 := (hf66 56 9 rfl)
      have b73 : 0 ≤ Z1 56 9 ∧ Z1 56 9 ≤ 100 := hG1.pr 56 9
      have b74 : 0 ≤ Z66 56 11 ∧ Z66 56 11 ≤ 4 := hG66.pr 56 11
      exact c14 Z66 h66 (by omega) hx66 hG66 (fr_tr (M := [(56, 11), (56, 12)]) fr_rf (hf66) (M1 := []) rfl rfl)
theorem ct_181_56 {l : Launch} {D : va_G} {b0 : Nat} {ad : Nat → Nat} {Hb : Heap} {tau : Nat → Int64} {d n s : Nat} {S : Nat → xS} {Z : xZ} {h : mx_H} (hx : XH n s S Z h) (hG : GI n S Z)   (k0 : (Z 56 6 ≤ Z 56 7 ∧ Z 56 7 ≤ Z 56 8 ∧ (Z 56 9 = 24 ∨ Z 56 6 < Z 56 7))) : ∃ (Z' : xZ) (h' : mx_H), mx_Ca (tB l D b0 ad Hb tau) (d + 8) 181 [.ref 56] h (none, h') ∧ XH n s S Z' h' ∧ GI n S Z' ∧ fr' [(56, 6), (56, 7), (56, 9), (56, 10), (56, 11), (56, 12), (60, (-1))] Z Z' ∧ (((Z' 56 6 ≤ Z' 56 7 ∧ Z' 56 7 ≤ Z 56 8 ∧ (Z' 56 9 = 24 ∨ Z' 56 6 < Z' 56 7)) ∧ Z 56 6 ≤ Z' 56 6 ∧ Z' 60 61 = Z 60 61 ∧ Z' 60 1 = Z 60 1 ∧ Z' 60 2 = Z 60 2 ∧ WFF Z' = WFF Z ∧ (Z' 56 11 = 0 → Z 56 11 = 0))) := by
  obtain ⟨r, hca, Z', h', e, q⟩ := Jmt (B := tB l D b0 ad Hb tau) (M := mt_181) (mi := 181) (as := [.ref 56]) (d := d + 7) (ls := [some (.ref 56)]) rfl rfl rfl rfl rfl rfl (cw_181_56 (l := l) (D := D) (b0 := b0) (ad := ad) (Hb := Hb) (tau := tau) (d := d) (Post := fun r => ∃ (Z' : xZ) (h' : mx_H), r = (none, h') ∧ XH n s S Z' h' ∧ GI n S Z' ∧ fr' [(56, 6), (56, 7), (56, 9), (56, 10), (56, 11), (56, 12), (60, (-1))] Z Z' ∧ (((Z' 56 6 ≤ Z' 56 7 ∧ Z' 56 7 ≤ Z 56 8 ∧ (Z' 56 9 = 24 ∨ Z' 56 6 < Z' 56 7)) ∧ Z 56 6 ≤ Z' 56 6 ∧ Z' 60 61 = Z 60 61 ∧ Z' 60 1 = Z 60 1 ∧ Z' 60 2 = Z 60 2 ∧ WFF Z' = WFF Z ∧ (Z' 56 11 = 0 → Z 56 11 = 0)))) hx hG k0 (fun Z' h' q1 q2 q3 q4 => ⟨Z', h', rfl, q1, q2, q3, q4⟩))
  subst e; exact ⟨Z', h', hca, q⟩
set_option maxRecDepth 100000 in
theorem cw_186_56_gb {l : Launch} {D : va_G} {b0 : Nat} {ad : Nat → Nat} {Hb : Heap} {tau : Nat → Int64} {d n s : Nat} {S : Nat → xS} {Z : xZ} {h : mx_H} {Post : mx_R → Prop} (hx : XH n s S Z h) (hG : GB n S Z)   (hP : ∀ (Z' : xZ) (h' : mx_H), XH n s S Z' h' → GB n S Z' → fr' [(62, (-1))] Z Z' → Post (none, h')) : mx_J (tB l D b0 ad Hb tau) mt_186 (d + 0) 0 [some (.ref 56), none] [] h Post := by
    have a56 : 56 < n := lt83 (GB_n hG) rfl
    have s56 : S 56 = .inl (12, [0, 2, 2, 2, 2, 0, 0, 0, 0, 0, 0, 0, 0, 0, 0, 2, 2, 2, 0, 2, 2, 2, 0, 0, 2, 2, 2, 2, 2, 2, 0, 0, 2, 2, 2, 2, 2, 2, 2, 2, 2, 2]) := GB_s hG 56 rfl
    have a62 : 62 < n := lt83 (GB_n hG) rfl
    have s62 : S 62 = .inr (.int, 20, 0) := GB_s hG 62 rfl
    refine JcI (z := 0) (show mx_Sn _ _ 0 (mx_const (.int 0) 1) from sn_186 0) rfl ?_
    refine mx_J.step (ls2 := [some (.ref 56), some (xI 0)]) (sn_186 1) (fun _ _ => rfl) ?_
    have c2 : ∀ (m1 : Nat) (w1_1 : Int) (Z2 : xZ) (h2 : mx_H), 20 - w1_1 < (m1 : Int) → 0 ≤ w1_1 ∧ w1_1 ≤ 20 → XH n s S Z2 h2 → GB n S Z2 → fr' [(62, (-1))] Z Z2 → mx_J (tB l D b0 ad Hb tau) mt_186 (d + 0) 2 [some (.ref 56), some (xI w1_1)] [] h2 Post := by
      intro m1
      induction m1 with
      | zero => intro w1_1 Z2 h2 q1 f1_0 hx2 hG2 hf2; exact absurd q1 (by omega)
      | succ m1 ih1 =>
        intro w1_1 Z2 h2 q1 f1_0 hx2 hG2 hf2
        refine mx_J.step (sn_186 2) (fun _ _ => rfl) ?_
        refine JcI (z := 20) (show mx_Sn _ _ 3 (mx_const (.int 20) 5) from sn_186 3) rfl ?_
        refine Jicmp_ge (show mx_Sn _ _ 5 (mx_icmp_ge 21 8) from sn_186 5) (by omega) (by omega) (fun q3 => ?_) (fun q3 => ?_)
        · skip
          exact mx_J.ret (sn_186 21) (fun _ _ => rfl) (hP Z2 h2 hx2 hG2 (fr_tr (M := [(62, (-1))]) fr_rf (hf2) (M1 := []) rfl rfl))
        · skip
          refine mx_J.step (sn_186 8) (fun _ _ => rfl) ?_
          refine JgetR (g := 16) (b := 62) hx2 (show mx_Sn _ _ 9 (mx_getf 12 16 12) from sn_186 9) a56 s56 rfl rfl (hG2.prr 56 16 rfl) ?_
          refine mx_J.step (sn_186 12) (fun _ _ => rfl) ?_
          refine JcI (z := 0) (show mx_Sn _ _ 13 (mx_const (.int 0) 14) from sn_186 13) rfl ?_
          refine JiastI hx2 (show mx_Sn _ _ 14 (mx_iast 1 15) from sn_186 14) a62 s62 rfl (by omega) (fun Z5 h5 hx5 hE5 => ?_)
          have hG5 := GB_up hG2 hE5 (show (-2147483648) ≤ 0 ∧ 0 ≤ 2147483647 by omega) trivial rfl
          refine Jiinc (z := w1_1) (cz := 1) (ls2 := [some (.ref 56), some (xI (w1_1 + 1))]) (show mx_Sn _ _ 15 (mx_iinc 1 1 18) from sn_186 15) rfl rfl rfl rfl ?_
          refine mx_J.step (sn_186 18) (fun _ _ => rfl) ?_
          exact ih1 (w1_1 + 1) Z5 h5 (by omega) (by omega) hx5 hG5 (fr_tr (M := [(62, (-1))]) (fr_tr (M := [(62, (-1))]) fr_rf (hf2) (M1 := []) rfl rfl) (fr_ua hE5) rfl rfl)
    exact c2 (Int.toNat (20 - 0) + 1) 0 Z h (by omega) (by omega) hx hG fr_rf
theorem ct_186_56_gb {l : Launch} {D : va_G} {b0 : Nat} {ad : Nat → Nat} {Hb : Heap} {tau : Nat → Int64} {d n s : Nat} {S : Nat → xS} {Z : xZ} {h : mx_H} (hx : XH n s S Z h) (hG : GB n S Z)   : ∃ (Z' : xZ) (h' : mx_H), mx_Ca (tB l D b0 ad Hb tau) (d + 1) 186 [.ref 56] h (none, h') ∧ XH n s S Z' h' ∧ GB n S Z' ∧ fr' [(62, (-1))] Z Z' := by
  obtain ⟨r, hca, Z', h', e, q⟩ := Jmt (B := tB l D b0 ad Hb tau) (M := mt_186) (mi := 186) (as := [.ref 56]) (d := d + 0) (ls := [some (.ref 56), none]) rfl rfl rfl rfl rfl rfl (cw_186_56_gb (l := l) (D := D) (b0 := b0) (ad := ad) (Hb := Hb) (tau := tau) (d := d) (Post := fun r => ∃ (Z' : xZ) (h' : mx_H), r = (none, h') ∧ XH n s S Z' h' ∧ GB n S Z' ∧ fr' [(62, (-1))] Z Z') hx hG  (fun Z' h' q1 q2 q3 => ⟨Z', h', rfl, q1, q2, q3⟩))
  subst e; exact ⟨Z', h', hca, q⟩
