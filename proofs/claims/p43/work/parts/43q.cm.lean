set_option maxRecDepth 100000 in
theorem cw_162_56 {l : Launch} {D : va_G} {b0 : Nat} {ad : Nat → Nat} {Hb : Heap} {tau : Nat → Int64} {d n s : Nat} {S : Nat → xS} {Z : xZ} {h : mx_H} {Post : mx_R → Prop} {T : Int → Int} {N : Int} (hx : XH n s S Z h) (hG : GI n S Z)   (k0 : Z 56 7 ≤ Z 56 8) (k1 : TM T N Z) (k2 : Z 56 8 = N) (hP : ∀ (Z' : xZ) (h' : mx_H), XH n s S Z' h' → GI n S Z' → fr' [(56, 6), (56, 7), (56, 9), (56, 10)] Z Z' → AW T N Z Z' ∧ ((Z' 56 6 ≤ Z' 56 7 ∧ Z' 56 7 ≤ Z 56 8 ∧ (Z' 56 9 = 24 ∨ Z' 56 6 < Z' 56 7)) ∧ Z 56 7 ≤ Z' 56 6) → Post (none, h')) : mx_J (tB l D b0 ad Hb tau) mt_162 (d + 5) 0 [some (.ref 56), none] [] h Post := by
    have a56 : 56 < n := lt83 (GI_n hG) rfl
    have s56 : S 56 = .inl (12, [0, 2, 2, 2, 2, 0, 0, 0, 0, 0, 0, 0, 0, 0, 0, 2, 2, 2, 0, 2, 2, 2, 0, 0, 2, 2, 2, 2, 2, 2, 0, 0, 2, 2, 2, 2, 2, 2, 2, 2, 2, 2]) := GI_s hG 56 rfl
    refine mx_J.step (sn_162 0) (fun _ _ => rfl) ?_
    refine mx_J.step (sn_162 1) (fun _ _ => rfl) ?_
    have b2 : 0 ≤ Z 56 7 ∧ Z 56 7 ≤ 900 := hG.pr 56 7
    refine JgetI (g := 7) (z := Z 56 7) hx (show mx_Sn _ _ 2 (mx_getf 12 7 5) from sn_162 2) a56 s56 rfl rfl rfl ?_
    refine JputI (g := 6) hx (show mx_Sn _ _ 5 (mx_putf 1 12 6 (.int) 8) from sn_162 5) a56 s56 rfl rfl rfl rfl (fun Z3 h3 hx3 hE3 => ?_)
    have hG3 := GI_up hG hE3 (show 0 ≤ Z 56 7 ∧ Z 56 7 ≤ 900 by omega) trivial rfl
    have c8 : ∀ (m4 : Nat)  (Z5 : xZ) (h5 : mx_H), Z 56 8 - Z5 56 6 < (m4 : Int) → (Z5 56 6 ≤ Z 56 8 ∧ Z 56 7 ≤ Z5 56 6) → tBg T N (Z5 56 6) = tBg T N (Z 56 7) → XH n s S Z5 h5 → GI n S Z5 → fr' [(56, 6)] Z3 Z5 → mx_J (tB l D b0 ad Hb tau) mt_162 (d + 5) 8 [some (.ref 56), none] [] h5 Post := by
      intro m4
      induction m4 with
      | zero => intro Z5 h5 q4 f4_0 f4_1 hx5 hG5 hf5; exact absurd q4 (by omega)
      | succ m4 ih4 =>
        intro Z5 h5 q4 f4_0 f4_1 hx5 hG5 hf5
        have b6 : 0 ≤ Z5 56 6 ∧ Z5 56 6 ≤ 900 := hG5.pr 56 6
        have tx : (Z5 56 6) < N → T (Z5 56 6) = Z 59 (Z5 56 6) := fun q => TM_i k1 (by omega) q
        refine mx_J.step (sn_162 8) (fun _ _ => rfl) ?_
        refine mx_J.step (sn_162 9) (fun _ _ => rfl) ?_
        refine JgetI (g := 6) (z := Z5 56 6) hx5 (show mx_Sn _ _ 10 (mx_getf 12 6 13) from sn_162 10) a56 s56 rfl rfl rfl ?_
        have eq9 : Z5 56 8 = Z 56 8 := ((hf5 56 8 rfl).trans (up_ni hE3 (by decide)))
        have b10 : 0 ≤ Z 56 8 ∧ Z 56 8 ≤ 900 := hG.pr 56 8
        have eq11 : Z5 59 (Z5 56 6) = Z 59 (Z5 56 6) := ((hf5 59 (Z5 56 6) rfl).trans (up_nk hE3 rfl))
        have b12 : 0 ≤ Z 59 (Z5 56 6) ∧ Z 59 (Z5 56 6) ≤ 255 := hG.pr 59 (Z5 56 6)
        obtain ⟨z8, hc8, b8⟩ := ct_158_56 (d := d + 4) (l := l) (D := D) (b0 := b0) (ad := ad) (Hb := Hb) (tau := tau) hx5 hG5 (show 0 ≤ Z5 56 6 ∧ Z5 56 6 ≤ 901 by omega)
        try rw [eq9] at b8
        try rw [eq11] at b8
        refine Jcv hx5 (show mx_Sn _ _ 13 (mx_callv 158 2 12 16) from sn_162 13) a56 s56 hc8 rfl rfl rfl ?_
        refine JcI (z := 10) (show mx_Sn _ _ 16 (mx_const (.int 10) 18) from sn_162 16) rfl ?_
        have c34 : ((Z5 56 6) < Z 56 8 ∧ (Z 59 (Z5 56 6) = 10 ∨ Z 59 (Z5 56 6) = 32)) → mx_J (tB l D b0 ad Hb tau) mt_162 (d + 5) 34 [some (.ref 56), none] [] h5 Post := by
          intro f13_0
          have tb := (tBg_e (T := T) (N := N) (Z5 56 6)).1 (by omega) (by have := tx (by omega); omega)
          refine mx_J.step (sn_162 34) (fun _ _ => rfl) ?_
          refine mx_J.step (sn_162 35) (fun _ _ => rfl) ?_
          refine JgetI (g := 6) (z := Z5 56 6) hx5 (show mx_Sn _ _ 36 (mx_getf 12 6 39) from sn_162 36) a56 s56 rfl rfl rfl ?_
          refine JcI (z := 1) (show mx_Sn _ _ 39 (mx_const (.int 1) 40) from sn_162 39) rfl ?_
          refine Jiadd (show mx_Sn _ _ 40 (mx_iadd 41) from sn_162 40) ?_
          refine JputI (g := 6) hx5 (show mx_Sn _ _ 41 (mx_putf 1 12 6 (.int) 44) from sn_162 41) a56 s56 rfl rfl rfl rfl (fun Z15 h15 hx15 hE15 => ?_)
          have hG15 := GI_up hG5 hE15 (show 0 ≤ (Z5 56 6) + 1 ∧ (Z5 56 6) + 1 ≤ 900 by omega) trivial rfl
          refine mx_J.step (sn_162 44) (fun _ _ => rfl) ?_
          have eq16 : Z15 56 6 = (Z5 56 6) + 1 := (up_at hE15)
          have eq17 : Z15 56 6 = (Z5 56 6) + 1 := (up_at hE15)
          exact ih4 Z15 h15 (by omega) (by omega) (by rw [(show Z15 56 6 = (Z5 56 6) + 1 from (up_at hE15))]; exact tb.symm.trans (by assumption)) hx15 hG15 (fr_tr (M := [(56, 6)]) (fr_tr (M := [(56, 6)]) fr_rf (hf5) (M1 := []) rfl rfl) (fr_up hE15) rfl rfl)
        refine Jicmp_eq (show mx_Sn _ _ 18 (mx_icmp_eq 34 21) from sn_162 18) (by omega) (by omega) (fun q18 => ?_) (fun q18 => ?_)
        · skip
          exact c34 (by omega)
        · skip
          refine mx_J.step (sn_162 21) (fun _ _ => rfl) ?_
          refine mx_J.step (sn_162 22) (fun _ _ => rfl) ?_
          refine JgetI (g := 6) (z := Z5 56 6) hx5 (show mx_Sn _ _ 23 (mx_getf 12 6 26) from sn_162 23) a56 s56 rfl rfl rfl ?_
          have eq21 : Z5 56 8 = Z 56 8 := ((hf5 56 8 rfl).trans (up_ni hE3 (by decide)))
          have eq22 : Z5 59 (Z5 56 6) = Z 59 (Z5 56 6) := ((hf5 59 (Z5 56 6) rfl).trans (up_nk hE3 rfl))
          obtain ⟨z20, hc20, b20⟩ := ct_158_56 (d := d + 4) (l := l) (D := D) (b0 := b0) (ad := ad) (Hb := Hb) (tau := tau) hx5 hG5 (show 0 ≤ Z5 56 6 ∧ Z5 56 6 ≤ 901 by omega)
          try rw [eq21] at b20
          try rw [eq22] at b20
          refine Jcv hx5 (show mx_Sn _ _ 26 (mx_callv 158 2 12 29) from sn_162 26) a56 s56 hc20 rfl rfl rfl ?_
          refine JcI (z := 32) (show mx_Sn _ _ 29 (mx_const (.int 32) 31) from sn_162 29) rfl ?_
          refine Jicmp_ne (show mx_Sn _ _ 31 (mx_icmp_ne 47 34) from sn_162 31) (by omega) (by omega) (fun q23 => ?_) (fun q23 => ?_)
          · skip
            have tb : (Z5 56 6) = tBg T N (Z 56 7) := ((tBg_e (T := T) (N := N) (Z5 56 6)).2.1 (fun q => by have := tx q.1; omega)).symm.trans (by assumption)
            refine mx_J.step (sn_162 47) (fun _ _ => rfl) ?_
            refine mx_J.step (sn_162 48) (fun _ _ => rfl) ?_
            refine JgetI (g := 6) (z := Z5 56 6) hx5 (show mx_Sn _ _ 49 (mx_getf 12 6 52) from sn_162 49) a56 s56 rfl rfl rfl ?_
            refine JputI (g := 7) hx5 (show mx_Sn _ _ 52 (mx_putf 1 12 7 (.int) 55) from sn_162 52) a56 s56 rfl rfl rfl rfl (fun Z25 h25 hx25 hE25 => ?_)
            have hG25 := GI_up hG5 hE25 (show 0 ≤ Z5 56 6 ∧ Z5 56 6 ≤ 900 by omega) trivial rfl
            refine mx_J.step (sn_162 55) (fun _ _ => rfl) ?_
            refine JgetI (g := 6) (z := Z5 56 6) hx25 (show mx_Sn _ _ 56 (mx_getf 12 6 59) from sn_162 56) a56 s56 rfl rfl (up_ni hE25 (by decide)) ?_
            refine mx_J.step (sn_162 59) (fun _ _ => rfl) ?_
            refine JgetI (g := 8) (z := Z 56 8) hx25 (show mx_Sn _ _ 60 (mx_getf 12 8 63) from sn_162 60) a56 s56 rfl rfl ((up_ni hE25 (by decide)).trans ((hf5 56 8 rfl).trans (up_ni hE3 (by decide)))) ?_
            refine Jicmp_lt (show mx_Sn _ _ 63 (mx_icmp_lt 75 66) from sn_162 63) (by omega) (by omega) (fun q28 => ?_) (fun q28 => ?_)
            · skip
              refine mx_J.step (sn_162 75) (fun _ _ => rfl) ?_
              refine mx_J.step (sn_162 76) (fun _ _ => rfl) ?_
              refine JgetI (g := 6) (z := Z5 56 6) hx25 (show mx_Sn _ _ 77 (mx_getf 12 6 80) from sn_162 77) a56 s56 rfl rfl (up_ni hE25 (by decide)) ?_
              have eq31 : Z25 56 8 = Z 56 8 := ((up_ni hE25 (by decide)).trans ((hf5 56 8 rfl).trans (up_ni hE3 (by decide))))
              have eq32 : Z25 59 (Z5 56 6) = Z 59 (Z5 56 6) := ((up_nk hE25 rfl).trans ((hf5 59 (Z5 56 6) rfl).trans (up_nk hE3 rfl)))
              obtain ⟨z30, hc30, b30⟩ := ct_158_56 (d := d + 4) (l := l) (D := D) (b0 := b0) (ad := ad) (Hb := Hb) (tau := tau) hx25 hG25 (show 0 ≤ Z5 56 6 ∧ Z5 56 6 ≤ 901 by omega)
              try rw [eq31] at b30
              try rw [eq32] at b30
              refine Jcv hx25 (show mx_Sn _ _ 80 (mx_callv 158 2 12 83) from sn_162 80) a56 s56 hc30 rfl rfl rfl ?_
              obtain ⟨z33, hc33, b33⟩ := ct_159_ (d := d + 4) (l := l) (D := D) (b0 := b0) (ad := ad) (Hb := Hb) (tau := tau) hx25 hG25 (show (-2147483648) ≤ z30 ∧ z30 ≤ 2147483647 by omega)
              refine Jcs (show mx_Sn _ _ 83 (mx_calls 159 1 86) from sn_162 83) hc33 rfl rfl rfl ?_
              refine Jif_eq (show mx_Sn _ _ 86 (mx_if_eq 127 89) from sn_162 86) (by omega) (fun q34 => ?_) (fun q34 => ?_)
              · skip
                refine mx_J.step (sn_162 127) (fun _ _ => rfl) ?_
                refine mx_J.step (sn_162 128) (fun _ _ => rfl) ?_
                refine JgetI (g := 6) (z := Z5 56 6) hx25 (show mx_Sn _ _ 129 (mx_getf 12 6 132) from sn_162 129) a56 s56 rfl rfl (up_ni hE25 (by decide)) ?_
                have eq37 : Z25 56 8 = Z 56 8 := ((up_ni hE25 (by decide)).trans ((hf5 56 8 rfl).trans (up_ni hE3 (by decide))))
                have eq38 : Z25 59 (Z5 56 6) = Z 59 (Z5 56 6) := ((up_nk hE25 rfl).trans ((hf5 59 (Z5 56 6) rfl).trans (up_nk hE3 rfl)))
                obtain ⟨z36, hc36, b36⟩ := ct_158_56 (d := d + 4) (l := l) (D := D) (b0 := b0) (ad := ad) (Hb := Hb) (tau := tau) hx25 hG25 (show 0 ≤ Z5 56 6 ∧ Z5 56 6 ≤ 901 by omega)
                try rw [eq37] at b36
                try rw [eq38] at b36
                refine Jcv hx25 (show mx_Sn _ _ 132 (mx_callv 158 2 12 135) from sn_162 132) a56 s56 hc36 rfl rfl rfl ?_
                obtain ⟨z39, hc39, b39⟩ := ct_160_ (d := d + 4) (l := l) (D := D) (b0 := b0) (ad := ad) (Hb := Hb) (tau := tau) hx25 hG25 (show (-2147483648) ≤ z36 ∧ z36 ≤ 2147483647 by omega)
                refine Jcs (show mx_Sn _ _ 135 (mx_calls 160 1 138) from sn_162 135) hc39 rfl rfl rfl ?_
                refine Jif_eq (show mx_Sn _ _ 138 (mx_if_eq 236 141) from sn_162 138) (by omega) (fun q40 => ?_) (fun q40 => ?_)
                · skip
                  have kd := tKd_sig (T := T) (N := N) (p := Z 56 7) (by omega) (by rw [← tb]; have := tx (by omega); omega) (by rw [← tb]; have := tx (by omega); omega)
                  have sb := tSg_b (T (tBg T N (Z 56 7)))
                  refine mx_J.step (sn_162 236) (fun _ _ => rfl) ?_
                  refine mx_J.step (sn_162 237) (fun _ _ => rfl) ?_
                  refine JgetI (g := 7) (z := Z5 56 6) hx25 (show mx_Sn _ _ 238 (mx_getf 12 7 241) from sn_162 238) a56 s56 rfl rfl (up_at hE25) ?_
                  refine JcI (z := 1) (show mx_Sn _ _ 241 (mx_const (.int 1) 242) from sn_162 241) rfl ?_
                  refine Jiadd (show mx_Sn _ _ 242 (mx_iadd 243) from sn_162 242) ?_
                  refine JputI (g := 7) hx25 (show mx_Sn _ _ 243 (mx_putf 1 12 7 (.int) 246) from sn_162 243) a56 s56 rfl rfl rfl rfl (fun Z42 h42 hx42 hE42 => ?_)
                  have hG42 := GI_up hG25 hE42 (show 0 ≤ (Z5 56 6) + 1 ∧ (Z5 56 6) + 1 ≤ 900 by omega) trivial rfl
                  refine mx_J.step (sn_162 246) (fun _ _ => rfl) ?_
                  refine JcI (z := 25) (show mx_Sn _ _ 247 (mx_const (.int 25) 249) from sn_162 247) rfl ?_
                  refine JputI (g := 9) hx42 (show mx_Sn _ _ 249 (mx_putf 1 12 9 (.int) 252) from sn_162 249) a56 s56 rfl rfl rfl rfl (fun Z43 h43 hx43 hE43 => ?_)
                  have hG43 := GI_up hG42 hE43 (show 0 ≤ 25 ∧ 25 ≤ 100 by omega) trivial rfl
                  refine JcI (z := 0) (show mx_Sn _ _ 252 (mx_const (.int 0) 253) from sn_162 252) rfl ?_
                  refine mx_J.step (ls2 := [some (.ref 56), some (xI 0)]) (sn_162 253) (fun _ _ => rfl) ?_
                  have c254 : ∀ (m44 : Nat) (w44_1 : Int) (Z45 : xZ) (h45 : mx_H), 12 - w44_1 < (m44 : Int) → 0 ≤ w44_1 ∧ w44_1 ≤ 12 → SI (Z 59 (Z5 56 6)) w44_1 (Z45 56 9) → XH n s S Z45 h45 → GI n S Z45 → fr' [(56, 9)] Z43 Z45 → mx_J (tB l D b0 ad Hb tau) mt_162 (d + 5) 254 [some (.ref 56), some (xI w44_1)] [] h45 Post := by
                    intro m44
                    induction m44 with
                    | zero => intro w44_1 Z45 h45 q44 f44_0 f44_1 hx45 hG45 hf45; exact absurd q44 (by omega)
                    | succ m44 ih44 =>
                      intro w44_1 Z45 h45 q44 f44_0 f44_1 hx45 hG45 hf45
                      refine mx_J.step (sn_162 254) (fun _ _ => rfl) ?_
                      refine mx_J.step (sn_162 255) (fun _ _ => rfl) ?_
                      obtain ⟨z46, hc46, b46⟩ := ct_291_4102 (d := d + 3) (l := l) (D := D) (b0 := b0) (ad := ad) (Hb := Hb) (tau := tau) hx45 hG45 
                      refine Jck (show mx_Sn _ _ 257 (mx_callk 291 1 260) from sn_162 257) rfl hc46 rfl rfl rfl ?_
                      refine Jicmp_ge (show mx_Sn _ _ 260 (mx_icmp_ge 294 263) from sn_162 260) (by omega) (by omega) (fun q47 => ?_) (fun q47 => ?_)
                      · skip
                        have av : AW T N Z Z45 := by first | assumption | exact ⟨((hf45 56 6 rfl).trans ((up_ni hE43 (by decide)).trans ((up_ni hE42 (by decide)).trans (up_ni hE25 (by decide))))).trans tb, (by have e := ((hf45 56 7 rfl).trans ((up_ni hE43 (by decide)).trans (up_at hE42))); omega), (by rw [kd.1, ← tb, tx (by omega)]; exact SI_e ((show w44_1 = (12 : Int) by omega) ▸ (by assumption))), fun q => by omega⟩
                        have eq48 : Z45 56 6 = Z5 56 6 := ((hf45 56 6 rfl).trans ((up_ni hE43 (by decide)).trans ((up_ni hE42 (by decide)).trans (up_ni hE25 (by decide)))))
                        have eq49 : Z45 56 7 = (Z5 56 6) + 1 := ((hf45 56 7 rfl).trans ((up_ni hE43 (by decide)).trans (up_at hE42)))
                        have b50 : 0 ≤ Z45 56 9 ∧ Z45 56 9 ≤ 100 := hG45.pr 56 9
                        have eq51 : Z45 56 7 = (Z5 56 6) + 1 := ((hf45 56 7 rfl).trans ((up_ni hE43 (by decide)).trans (up_at hE42)))
                        have eq52 : Z45 56 8 = Z 56 8 := ((hf45 56 8 rfl).trans ((up_ni hE43 (by decide)).trans ((up_ni hE42 (by decide)).trans ((up_ni hE25 (by decide)).trans ((hf5 56 8 rfl).trans (up_ni hE3 (by decide)))))))
                        exact mx_J.ret (sn_162 294) (fun _ _ => rfl) (hP Z45 h45 hx45 hG45 (fr_tr (M := [(56, 6), (56, 7), (56, 9), (56, 10)]) (fr_tr (M := [(56, 6), (56, 7), (56, 9), (56, 10)]) (fr_tr (M := [(56, 6), (56, 7), (56, 9), (56, 10)]) (fr_tr (M := [(56, 6), (56, 7), (56, 9), (56, 10)]) (fr_tr (M := [(56, 6), (56, 7), (56, 9), (56, 10)]) (fr_tr (M := [(56, 6), (56, 7), (56, 9), (56, 10)]) fr_rf (fr_up hE3) (M1 := []) rfl rfl) (hf5) rfl rfl) (fr_up hE25) rfl rfl) (fr_up hE42) rfl rfl) (fr_up hE43) rfl rfl) (hf45) rfl rfl) ⟨(av), by omega⟩)
                      · skip
                        refine mx_J.step (sn_162 263) (fun _ _ => rfl) ?_
                        refine mx_J.step (sn_162 264) (fun _ _ => rfl) ?_
                        refine JgetI (g := 6) (z := Z5 56 6) hx45 (show mx_Sn _ _ 265 (mx_getf 12 6 268) from sn_162 265) a56 s56 rfl rfl ((hf45 56 6 rfl).trans ((up_ni hE43 (by decide)).trans ((up_ni hE42 (by decide)).trans (up_ni hE25 (by decide))))) ?_
                        have eq55 : Z45 56 8 = Z 56 8 := ((hf45 56 8 rfl).trans ((up_ni hE43 (by decide)).trans ((up_ni hE42 (by decide)).trans ((up_ni hE25 (by decide)).trans ((hf5 56 8 rfl).trans (up_ni hE3 (by decide)))))))
                        have eq56 : Z45 59 (Z5 56 6) = Z 59 (Z5 56 6) := ((hf45 59 (Z5 56 6) rfl).trans ((up_nk hE43 rfl).trans ((up_nk hE42 rfl).trans ((up_nk hE25 rfl).trans ((hf5 59 (Z5 56 6) rfl).trans (up_nk hE3 rfl))))))
                        obtain ⟨z54, hc54, b54⟩ := ct_158_56 (d := d + 4) (l := l) (D := D) (b0 := b0) (ad := ad) (Hb := Hb) (tau := tau) hx45 hG45 (show 0 ≤ Z5 56 6 ∧ Z5 56 6 ≤ 901 by omega)
                        try rw [eq55] at b54
                        try rw [eq56] at b54
                        refine Jcv hx45 (show mx_Sn _ _ 268 (mx_callv 158 2 12 271) from sn_162 268) a56 s56 hc54 rfl rfl rfl ?_
                        refine mx_J.step (sn_162 271) (fun _ _ => rfl) ?_
                        refine mx_J.step (sn_162 273) (fun _ _ => rfl) ?_
                        obtain ⟨z57, hc57, b57⟩ := ct_292_4102 (d := d + 1) (l := l) (D := D) (b0 := b0) (ad := ad) (Hb := Hb) (tau := tau) hx45 hG45 (show 0 ≤ w44_1 ∧ w44_1 ≤ 11 by omega)
                        refine Jck (show mx_Sn _ _ 274 (mx_callk 292 2 277) from sn_162 274) rfl hc57 rfl rfl rfl ?_
                        have c288 : ∀  (Z59 : xZ) (h59 : mx_H), SI (Z 59 (Z5 56 6)) (w44_1 + 1) (Z59 56 9) → XH n s S Z59 h59 → GI n S Z59 → fr' [(56, 9)] Z45 Z59 → mx_J (tB l D b0 ad Hb tau) mt_162 (d + 5) 288 [some (.ref 56), some (xI w44_1)] [] h59 Post := by
                          intro Z59 h59 f58_0 hx59 hG59 hf59
                          refine Jiinc (z := w44_1) (cz := 1) (ls2 := [some (.ref 56), some (xI (w44_1 + 1))]) (show mx_Sn _ _ 288 (mx_iinc 1 1 291) from sn_162 288) rfl rfl rfl rfl ?_
                          refine mx_J.step (sn_162 291) (fun _ _ => rfl) ?_
                          exact ih44 (w44_1 + 1) Z59 h59 (by omega) (by omega) (by assumption) hx59 hG59 (fr_tr (M := [(56, 9)]) (fr_tr (M := [(56, 9)]) fr_rf (hf45) (M1 := []) rfl rfl) (hf59) rfl rfl)
                        refine Jicmp_ne (show mx_Sn _ _ 277 (mx_icmp_ne 288 280) from sn_162 277) (by omega) (by omega) (fun q60 => ?_) (fun q60 => ?_)
                        · skip
                          exact c288 Z45 h45 (SI_n (by assumption) (by omega) (by omega)) hx45 hG45 fr_rf
                        · skip
                          refine mx_J.step (sn_162 280) (fun _ _ => rfl) ?_
                          refine JcI (z := 30) (show mx_Sn _ _ 281 (mx_const (.int 30) 283) from sn_162 281) rfl ?_
                          refine mx_J.step (sn_162 283) (fun _ _ => rfl) ?_
                          refine Jiadd (show mx_Sn _ _ 284 (mx_iadd 285) from sn_162 284) ?_
                          refine JputI (g := 9) hx45 (show mx_Sn _ _ 285 (mx_putf 1 12 9 (.int) 288) from sn_162 285) a56 s56 rfl rfl rfl rfl (fun Z61 h61 hx61 hE61 => ?_)
                          have hG61 := GI_up hG45 hE61 (show 0 ≤ 30 + w44_1 ∧ 30 + w44_1 ≤ 100 by omega) trivial rfl
                          exact c288 Z61 h61 (by rw [(show Z61 56 9 = 30 + w44_1 from (up_at hE61))]; exact SI_y (by omega) (by omega)) hx61 hG61 (fr_tr (M := [(56, 9)]) fr_rf (fr_up hE61) (M1 := []) rfl rfl)
                  exact c254 (Int.toNat (12 - 0) + 1) 0 Z43 h43 (by omega) (by omega) (by rw [(show Z43 56 9 = 25 from (up_at hE43))]; exact SI_0) hx43 hG43 fr_rf
                · skip
                  refine mx_J.step (sn_162 141) (fun _ _ => rfl) ?_
                  refine JcI (z := 0) (show mx_Sn _ _ 142 (mx_const (.int 0) 143) from sn_162 142) rfl ?_
                  refine JputI (g := 10) hx25 (show mx_Sn _ _ 143 (mx_putf 1 12 10 (.int) 146) from sn_162 143) a56 s56 rfl rfl rfl rfl (fun Z62 h62 hx62 hE62 => ?_)
                  have hG62 := GI_up hG25 hE62 (show 0 ≤ 0 ∧ 0 ≤ 999 by omega) trivial rfl
                  have c146 : ∀ (m63 : Nat)  (Z64 : xZ) (h64 : mx_H), Z 56 8 - Z64 56 7 < (m63 : Int) → (Z64 56 6 ≤ Z64 56 7 ∧ Z64 56 7 ≤ Z 56 8 ∧ (Z64 56 6 < Z64 56 7 ∨ (48 ≤ Z 59 (Z5 56 6) ∧ Z 59 (Z5 56 6) ≤ 57)) ∧ (Z64 56 7 = Z64 56 6 → Z64 56 10 = 0) ∧ (Z64 56 7 ≤ Z64 56 6 + 1 → Z64 56 10 ≤ 9) ∧ (Z64 56 7 ≤ Z64 56 6 + 2 → Z64 56 10 ≤ 99)) → tDe T N (Z64 56 7) = tDe T N (Z5 56 6) → Z64 56 10 = tNv T (Z5 56 6) (Z64 56 7) → XH n s S Z64 h64 → GI n S Z64 → fr' [(56, 7), (56, 10)] Z62 Z64 → mx_J (tB l D b0 ad Hb tau) mt_162 (d + 5) 146 [some (.ref 56), none] [] h64 Post := by
                    intro m63
                    induction m63 with
                    | zero => intro Z64 h64 q63 f63_0 f63_1 f63_2 hx64 hG64 hf64; exact absurd q63 (by omega)
                    | succ m63 ih63 =>
                      intro Z64 h64 q63 f63_0 f63_1 f63_2 hx64 hG64 hf64
                      have eq65 : Z64 56 6 = Z5 56 6 := ((hf64 56 6 rfl).trans ((up_ni hE62 (by decide)).trans (up_ni hE25 (by decide))))
                      have b66 : 0 ≤ Z64 56 7 ∧ Z64 56 7 ≤ 900 := hG64.pr 56 7
                      have b67 : 0 ≤ Z64 56 10 ∧ Z64 56 10 ≤ 999 := hG64.pr 56 10
                      have tx2 : (Z64 56 7) < N → T (Z64 56 7) = Z 59 (Z64 56 7) := fun q => TM_i k1 (by omega) q
                      refine mx_J.step (sn_162 146) (fun _ _ => rfl) ?_
                      refine mx_J.step (sn_162 147) (fun _ _ => rfl) ?_
                      refine JgetI (g := 7) (z := Z64 56 7) hx64 (show mx_Sn _ _ 148 (mx_getf 12 7 151) from sn_162 148) a56 s56 rfl rfl rfl ?_
                      have eq70 : Z64 56 8 = Z 56 8 := ((hf64 56 8 rfl).trans ((up_ni hE62 (by decide)).trans ((up_ni hE25 (by decide)).trans ((hf5 56 8 rfl).trans (up_ni hE3 (by decide))))))
                      have eq71 : Z64 59 (Z64 56 7) = Z 59 (Z64 56 7) := ((hf64 59 (Z64 56 7) rfl).trans ((up_nk hE62 rfl).trans ((up_nk hE25 rfl).trans ((hf5 59 (Z64 56 7) rfl).trans (up_nk hE3 rfl)))))
                      have b72 : 0 ≤ Z 59 (Z64 56 7) ∧ Z 59 (Z64 56 7) ≤ 255 := hG.pr 59 (Z64 56 7)
                      obtain ⟨z69, hc69, b69⟩ := ct_158_56 (d := d + 4) (l := l) (D := D) (b0 := b0) (ad := ad) (Hb := Hb) (tau := tau) hx64 hG64 (show 0 ≤ Z64 56 7 ∧ Z64 56 7 ≤ 901 by omega)
                      try rw [eq70] at b69
                      try rw [eq71] at b69
                      refine Jcv hx64 (show mx_Sn _ _ 151 (mx_callv 158 2 12 154) from sn_162 151) a56 s56 hc69 rfl rfl rfl ?_
                      have cg64 : (Z64 56 7) = (Z5 56 6) → Z 59 (Z64 56 7) = Z 59 (Z5 56 6) := fun e => by rw [e]
                      obtain ⟨z73, hc73, b73⟩ := ct_160_ (d := d + 4) (l := l) (D := D) (b0 := b0) (ad := ad) (Hb := Hb) (tau := tau) hx64 hG64 (show (-2147483648) ≤ z69 ∧ z69 ≤ 2147483647 by omega)
                      refine Jcs (show mx_Sn _ _ 154 (mx_calls 160 1 157) from sn_162 154) hc73 rfl rfl rfl ?_
                      refine Jif_eq (show mx_Sn _ _ 157 (mx_if_eq 209 160) from sn_162 157) (by omega) (fun q74 => ?_) (fun q74 => ?_)
                      · skip
                        have ew : (Z64 56 7) = tDe T N (Z5 56 6) := ((tDe_e (T := T) (N := N) (Z64 56 7)).2.1 (fun q => by have := tx2 q.1; omega)).symm.trans (by assumption)
                        have en : (Z64 56 10) = tNv T (tBg T N (Z 56 7)) (tDe T N (tBg T N (Z 56 7))) := (by assumption : (Z64 56 10) = tNv T (Z5 56 6) (Z64 56 7)).trans (by rw [ew, tb])
                        have kd := tKd_dig (T := T) (N := N) (p := Z 56 7) (by omega) (by rw [← tb]; have := tx (by omega); omega)
                        have ed := congrArg (tDe T N) tb
                        refine mx_J.step (sn_162 209) (fun _ _ => rfl) ?_
                        refine mx_J.step (sn_162 210) (fun _ _ => rfl) ?_
                        refine JgetI (g := 7) (z := Z64 56 7) hx64 (show mx_Sn _ _ 211 (mx_getf 12 7 214) from sn_162 211) a56 s56 rfl rfl rfl ?_
                        refine mx_J.step (sn_162 214) (fun _ _ => rfl) ?_
                        refine JgetI (g := 6) (z := Z5 56 6) hx64 (show mx_Sn _ _ 215 (mx_getf 12 6 218) from sn_162 215) a56 s56 rfl rfl ((hf64 56 6 rfl).trans ((up_ni hE62 (by decide)).trans (up_ni hE25 (by decide)))) ?_
                        refine Jisub (show mx_Sn _ _ 218 (mx_isub 219) from sn_162 218) ?_
                        refine JcI (z := 3) (show mx_Sn _ _ 219 (mx_const (.int 3) 220) from sn_162 219) rfl ?_
                        refine Jicmp_le (show mx_Sn _ _ 220 (mx_icmp_le 228 223) from sn_162 220) (by omega) (by omega) (fun q77 => ?_) (fun q77 => ?_)
                        · skip
                          refine JcI (z := 23) (show mx_Sn _ _ 228 (mx_const (.int 23) 230) from sn_162 228) rfl ?_
                          refine JputI (g := 9) hx64 (show mx_Sn _ _ 230 (mx_putf 1 12 9 (.int) 233) from sn_162 230) a56 s56 rfl rfl rfl rfl (fun Z78 h78 hx78 hE78 => ?_)
                          have hG78 := GI_up hG64 hE78 (show 0 ≤ 23 ∧ 23 ≤ 100 by omega) trivial rfl
                          have e9 : Z78 56 9 = _ := (up_at hE78)
                          have av3 : Z78 56 9 = tKd T N (Z 56 7) := (Decidable.em (3 < tDe T N (tBg T N (Z 56 7)) - tBg T N (Z 56 7))).elim (fun q3 => by rw [kd.1 q3]; omega) (fun q3 => by rw [kd.2.1 q3]; omega)
                          have av5 : Z78 56 10 = tVl T N (Z 56 7) := (up_ni hE78 (by decide)).trans (en.trans (by unfold tVl; rw [kd.2.2]))
                          have av : AW T N Z Z78 := ⟨((up_ni hE78 (by decide)).trans ((hf64 56 6 rfl).trans ((up_ni hE62 (by decide)).trans (up_ni hE25 (by decide))))).trans tb, (up_ni hE78 (by decide)).trans (ew.trans (ed.trans kd.2.2.symm)), av3, fun _ => av5⟩
                          refine mx_J.step (sn_162 233) (fun _ _ => rfl) ?_
                          have av : AW T N Z Z78 := by first | assumption | exact ⟨((up_ni hE78 (by decide)).trans ((hf64 56 6 rfl).trans ((up_ni hE62 (by decide)).trans (up_ni hE25 (by decide))))).trans tb, (by have e := (up_ni hE78 (by decide)); omega), (by rw [kd.1, ← tb, tx (by omega)]; exact SI_e ((show (0 : Int) = (12 : Int) by omega) ▸ (by assumption))), fun q => by omega⟩
                          have eq79 : Z78 56 6 = Z5 56 6 := ((up_ni hE78 (by decide)).trans ((hf64 56 6 rfl).trans ((up_ni hE62 (by decide)).trans (up_ni hE25 (by decide)))))
                          have eq80 : Z78 56 7 = Z64 56 7 := (up_ni hE78 (by decide))
                          have eq81 : Z78 56 9 = 23 := (up_at hE78)
                          have eq82 : Z78 56 7 = Z64 56 7 := (up_ni hE78 (by decide))
                          have eq83 : Z78 56 8 = Z 56 8 := ((up_ni hE78 (by decide)).trans ((hf64 56 8 rfl).trans ((up_ni hE62 (by decide)).trans ((up_ni hE25 (by decide)).trans ((hf5 56 8 rfl).trans (up_ni hE3 (by decide)))))))
                          exact mx_J.ret (sn_162 294) (fun _ _ => rfl) (hP Z78 h78 hx78 hG78 (fr_tr (M := [(56, 6), (56, 7), (56, 9), (56, 10)]) (fr_tr (M := [(56, 6), (56, 7), (56, 9), (56, 10)]) (fr_tr (M := [(56, 6), (56, 7), (56, 9), (56, 10)]) (fr_tr (M := [(56, 6), (56, 7), (56, 9), (56, 10)]) (fr_tr (M := [(56, 6), (56, 7), (56, 9), (56, 10)]) (fr_tr (M := [(56, 6), (56, 7), (56, 9), (56, 10)]) fr_rf (fr_up hE3) (M1 := []) rfl rfl) (hf5) rfl rfl) (fr_up hE25) rfl rfl) (fr_up hE62) rfl rfl) (hf64) rfl rfl) (fr_up hE78) rfl rfl) ⟨(av), by omega⟩)
                        · skip
                          refine JcI (z := 25) (show mx_Sn _ _ 223 (mx_const (.int 25) 225) from sn_162 223) rfl ?_
                          refine mx_J.step (sn_162 225) (fun _ _ => rfl) ?_
                          refine JputI (g := 9) hx64 (show mx_Sn _ _ 230 (mx_putf 1 12 9 (.int) 233) from sn_162 230) a56 s56 rfl rfl rfl rfl (fun Z84 h84 hx84 hE84 => ?_)
                          have hG84 := GI_up hG64 hE84 (show 0 ≤ 25 ∧ 25 ≤ 100 by omega) trivial rfl
                          have e9 : Z84 56 9 = _ := (up_at hE84)
                          have av3 : Z84 56 9 = tKd T N (Z 56 7) := (Decidable.em (3 < tDe T N (tBg T N (Z 56 7)) - tBg T N (Z 56 7))).elim (fun q3 => by rw [kd.1 q3]; omega) (fun q3 => by rw [kd.2.1 q3]; omega)
                          have av5 : Z84 56 10 = tVl T N (Z 56 7) := (up_ni hE84 (by decide)).trans (en.trans (by unfold tVl; rw [kd.2.2]))
                          have av : AW T N Z Z84 := ⟨((up_ni hE84 (by decide)).trans ((hf64 56 6 rfl).trans ((up_ni hE62 (by decide)).trans (up_ni hE25 (by decide))))).trans tb, (up_ni hE84 (by decide)).trans (ew.trans (ed.trans kd.2.2.symm)), av3, fun _ => av5⟩
                          refine mx_J.step (sn_162 233) (fun _ _ => rfl) ?_
                          have av : AW T N Z Z84 := by first | assumption | exact ⟨((up_ni hE84 (by decide)).trans ((hf64 56 6 rfl).trans ((up_ni hE62 (by decide)).trans (up_ni hE25 (by decide))))).trans tb, (by have e := (up_ni hE84 (by decide)); omega), (by rw [kd.1, ← tb, tx (by omega)]; exact SI_e ((show (0 : Int) = (12 : Int) by omega) ▸ (by assumption))), fun q => by omega⟩
                          have eq85 : Z84 56 6 = Z5 56 6 := ((up_ni hE84 (by decide)).trans ((hf64 56 6 rfl).trans ((up_ni hE62 (by decide)).trans (up_ni hE25 (by decide)))))
                          have eq86 : Z84 56 7 = Z64 56 7 := (up_ni hE84 (by decide))
                          have eq87 : Z84 56 9 = 25 := (up_at hE84)
                          have eq88 : Z84 56 7 = Z64 56 7 := (up_ni hE84 (by decide))
                          have eq89 : Z84 56 8 = Z 56 8 := ((up_ni hE84 (by decide)).trans ((hf64 56 8 rfl).trans ((up_ni hE62 (by decide)).trans ((up_ni hE25 (by decide)).trans ((hf5 56 8 rfl).trans (up_ni hE3 (by decide)))))))
                          exact mx_J.ret (sn_162 294) (fun _ _ => rfl) (hP Z84 h84 hx84 hG84 (fr_tr (M := [(56, 6), (56, 7), (56, 9), (56, 10)]) (fr_tr (M := [(56, 6), (56, 7), (56, 9), (56, 10)]) (fr_tr (M := [(56, 6), (56, 7), (56, 9), (56, 10)]) (fr_tr (M := [(56, 6), (56, 7), (56, 9), (56, 10)]) (fr_tr (M := [(56, 6), (56, 7), (56, 9), (56, 10)]) (fr_tr (M := [(56, 6), (56, 7), (56, 9), (56, 10)]) fr_rf (fr_up hE3) (M1 := []) rfl rfl) (hf5) rfl rfl) (fr_up hE25) rfl rfl) (fr_up hE62) rfl rfl) (hf64) rfl rfl) (fr_up hE84) rfl rfl) ⟨(av), by omega⟩)
                      · skip
                        have td := (tDe_e (T := T) (N := N) (Z64 56 7)).1 (by omega) (by have := tx2 (by omega); omega) (by have := tx2 (by omega); omega)
                        refine mx_J.step (sn_162 160) (fun _ _ => rfl) ?_
                        refine JgetI (g := 7) (z := Z64 56 7) hx64 (show mx_Sn _ _ 161 (mx_getf 12 7 164) from sn_162 161) a56 s56 rfl rfl rfl ?_
                        refine mx_J.step (sn_162 164) (fun _ _ => rfl) ?_
                        refine JgetI (g := 6) (z := Z5 56 6) hx64 (show mx_Sn _ _ 165 (mx_getf 12 6 168) from sn_162 165) a56 s56 rfl rfl ((hf64 56 6 rfl).trans ((up_ni hE62 (by decide)).trans (up_ni hE25 (by decide)))) ?_
                        refine Jisub (show mx_Sn _ _ 168 (mx_isub 169) from sn_162 168) ?_
                        refine JcI (z := 3) (show mx_Sn _ _ 169 (mx_const (.int 3) 170) from sn_162 169) rfl ?_
                        have c196 : ∀  (Z93 : xZ) (h93 : mx_H), ((Z93 56 7 ≤ Z93 56 6 → Z93 56 10 ≤ 9) ∧ (Z93 56 7 ≤ Z93 56 6 + 1 → Z93 56 10 ≤ 99) ∧ Z93 56 7 < Z 56 8) → Z93 56 10 = tNv T (Z5 56 6) ((Z64 56 7) + 1) → XH n s S Z93 h93 → GI n S Z93 → fr' [(56, 10)] Z64 Z93 → mx_J (tB l D b0 ad Hb tau) mt_162 (d + 5) 196 [some (.ref 56), none] [] h93 Post := by
                          intro Z93 h93 f92_0 f92_1 hx93 hG93 hf93
                          have eq94 : Z93 56 6 = Z5 56 6 := ((hf93 56 6 rfl).trans ((hf64 56 6 rfl).trans ((up_ni hE62 (by decide)).trans (up_ni hE25 (by decide)))))
                          have eq95 : Z93 56 7 = Z64 56 7 := (hf93 56 7 rfl)
                          have b96 : 0 ≤ Z93 56 10 ∧ Z93 56 10 ≤ 999 := hG93.pr 56 10
                          refine mx_J.step (sn_162 196) (fun _ _ => rfl) ?_
                          refine mx_J.step (sn_162 197) (fun _ _ => rfl) ?_
                          refine JgetI (g := 7) (z := Z64 56 7) hx93 (show mx_Sn _ _ 198 (mx_getf 12 7 201) from sn_162 198) a56 s56 rfl rfl (hf93 56 7 rfl) ?_
                          refine JcI (z := 1) (show mx_Sn _ _ 201 (mx_const (.int 1) 202) from sn_162 201) rfl ?_
                          refine Jiadd (show mx_Sn _ _ 202 (mx_iadd 203) from sn_162 202) ?_
                          refine JputI (g := 7) hx93 (show mx_Sn _ _ 203 (mx_putf 1 12 7 (.int) 206) from sn_162 203) a56 s56 rfl rfl rfl rfl (fun Z98 h98 hx98 hE98 => ?_)
                          have hG98 := GI_up hG93 hE98 (show 0 ≤ (Z64 56 7) + 1 ∧ (Z64 56 7) + 1 ≤ 900 by omega) trivial rfl
                          refine mx_J.step (sn_162 206) (fun _ _ => rfl) ?_
                          have eq99 : Z98 56 6 = Z5 56 6 := ((up_ni hE98 (by decide)).trans ((hf93 56 6 rfl).trans ((hf64 56 6 rfl).trans ((up_ni hE62 (by decide)).trans (up_ni hE25 (by decide))))))
                          have eq100 : Z98 56 7 = (Z64 56 7) + 1 := (up_at hE98)
                          have eq101 : Z98 56 10 = Z93 56 10 := (up_ni hE98 (by decide))
                          have eq102 : Z98 56 7 = (Z64 56 7) + 1 := (up_at hE98)
                          exact ih63 Z98 h98 (by omega) (by omega) (by rw [(show Z98 56 7 = (Z64 56 7) + 1 from (up_at hE98))]; exact td.symm.trans (by assumption)) (by rw [(show Z98 56 7 = (Z64 56 7) + 1 from (up_at hE98)), (show Z98 56 10 = Z93 56 10 from (up_ni hE98 (by decide)))]; assumption) hx98 hG98 (fr_tr (M := [(56, 7), (56, 10)]) (fr_tr (M := [(56, 7), (56, 10)]) (fr_tr (M := [(56, 7), (56, 10)]) fr_rf (hf64) (M1 := []) rfl rfl) (hf93) rfl rfl) (fr_up hE98) rfl rfl)
                        refine Jicmp_ge (show mx_Sn _ _ 170 (mx_icmp_ge 196 173) from sn_162 170) (by omega) (by omega) (fun q103 => ?_) (fun q103 => ?_)
                        · skip
                          have eq104 : Z64 56 6 = Z5 56 6 := ((hf64 56 6 rfl).trans ((up_ni hE62 (by decide)).trans (up_ni hE25 (by decide))))
                          exact c196 Z64 h64 (by omega) ((by assumption : Z64 56 10 = tNv T (Z5 56 6) (Z64 56 7)).trans (tNv_m (by omega)).symm) hx64 hG64 fr_rf
                        · skip
                          refine mx_J.step (sn_162 173) (fun _ _ => rfl) ?_
                          refine JcI (z := 10) (show mx_Sn _ _ 174 (mx_const (.int 10) 176) from sn_162 174) rfl ?_
                          refine mx_J.step (sn_162 176) (fun _ _ => rfl) ?_
                          refine JgetI (g := 10) (z := Z64 56 10) hx64 (show mx_Sn _ _ 177 (mx_getf 12 10 180) from sn_162 177) a56 s56 rfl rfl rfl ?_
                          refine Jimul (show mx_Sn _ _ 180 (mx_imul 181) from sn_162 180) ?_
                          refine mx_J.step (sn_162 181) (fun _ _ => rfl) ?_
                          refine mx_J.step (sn_162 182) (fun _ _ => rfl) ?_
                          refine JgetI (g := 7) (z := Z64 56 7) hx64 (show mx_Sn _ _ 183 (mx_getf 12 7 186) from sn_162 183) a56 s56 rfl rfl rfl ?_
                          have eq108 : Z64 56 8 = Z 56 8 := ((hf64 56 8 rfl).trans ((up_ni hE62 (by decide)).trans ((up_ni hE25 (by decide)).trans ((hf5 56 8 rfl).trans (up_ni hE3 (by decide))))))
                          have eq109 : Z64 59 (Z64 56 7) = Z 59 (Z64 56 7) := ((hf64 59 (Z64 56 7) rfl).trans ((up_nk hE62 rfl).trans ((up_nk hE25 rfl).trans ((hf5 59 (Z64 56 7) rfl).trans (up_nk hE3 rfl)))))
                          obtain ⟨z107, hc107, b107⟩ := ct_158_56 (d := d + 4) (l := l) (D := D) (b0 := b0) (ad := ad) (Hb := Hb) (tau := tau) hx64 hG64 (show 0 ≤ Z64 56 7 ∧ Z64 56 7 ≤ 901 by omega)
                          try rw [eq108] at b107
                          try rw [eq109] at b107
                          refine Jcv hx64 (show mx_Sn _ _ 186 (mx_callv 158 2 12 189) from sn_162 186) a56 s56 hc107 rfl rfl rfl ?_
                          refine Jiadd (show mx_Sn _ _ 189 (mx_iadd 190) from sn_162 189) ?_
                          refine JcI (z := 48) (show mx_Sn _ _ 190 (mx_const (.int 48) 192) from sn_162 190) rfl ?_
                          refine Jisub (show mx_Sn _ _ 192 (mx_isub 193) from sn_162 192) ?_
                          refine JputI (g := 10) hx64 (show mx_Sn _ _ 193 (mx_putf 1 12 10 (.int) 196) from sn_162 193) a56 s56 rfl rfl rfl rfl (fun Z110 h110 hx110 hE110 => ?_)
                          have hG110 := GI_up hG64 hE110 (show 0 ≤ ((10 * (Z64 56 10)) + z107) - 48 ∧ ((10 * (Z64 56 10)) + z107) - 48 ≤ 999 by omega) trivial rfl
                          have eq111 : Z110 56 6 = Z5 56 6 := ((up_ni hE110 (by decide)).trans ((hf64 56 6 rfl).trans ((up_ni hE62 (by decide)).trans (up_ni hE25 (by decide)))))
                          have eq112 : Z110 56 7 = Z64 56 7 := (up_ni hE110 (by decide))
                          have eq113 : Z110 56 10 = ((10 * (Z64 56 10)) + z107) - 48 := (up_at hE110)
                          exact c196 Z110 h110 (by omega) (by have t1 := tNv_s (T := T) (b := (Z5 56 6)) (e := (Z64 56 7)) (by omega) (by omega); have t2 := tx2 (by omega); have t3 : Z110 56 10 = _ := (up_at hE110); omega) hx110 hG110 (fr_tr (M := [(56, 10)]) fr_rf (fr_up hE110) (M1 := []) rfl rfl)
                  have eq114 : Z62 56 6 = Z5 56 6 := ((up_ni hE62 (by decide)).trans (up_ni hE25 (by decide)))
                  have eq115 : Z62 56 7 = Z5 56 6 := ((up_ni hE62 (by decide)).trans (up_at hE25))
                  have eq116 : Z62 56 10 = 0 := (up_at hE62)
                  have eq117 : Z62 56 7 = Z5 56 6 := ((up_ni hE62 (by decide)).trans (up_at hE25))
                  exact c146 (Int.toNat (Z 56 8 - Z62 56 7) + 1) Z62 h62 (by omega) (by omega) (by rw [(show Z62 56 7 = Z5 56 6 from ((up_ni hE62 (by decide)).trans (up_at hE25)))]) (by rw [(show Z62 56 7 = Z5 56 6 from ((up_ni hE62 (by decide)).trans (up_at hE25))), (show Z62 56 10 = 0 from (up_at hE62)), tNv_0 rfl]) hx62 hG62 fr_rf
              · skip
                have c89 : ∀ (m118 : Nat)  (Z119 : xZ) (h119 : mx_H), Z 56 8 - Z119 56 7 < (m118 : Int) → (Z119 56 6 ≤ Z119 56 7 ∧ Z119 56 7 ≤ Z 56 8 ∧ (Z119 56 6 < Z119 56 7 ∨ (97 ≤ Z 59 (Z5 56 6) ∧ Z 59 (Z5 56 6) ≤ 122))) → tWe T N (Z119 56 7) = tWe T N (Z5 56 6) → XH n s S Z119 h119 → GI n S Z119 → fr' [(56, 7)] Z25 Z119 → mx_J (tB l D b0 ad Hb tau) mt_162 (d + 5) 89 [some (.ref 56), none] [] h119 Post := by
                  intro m118
                  induction m118 with
                  | zero => intro Z119 h119 q118 f118_0 f118_1 hx119 hG119 hf119; exact absurd q118 (by omega)
                  | succ m118 ih118 =>
                    intro Z119 h119 q118 f118_0 f118_1 hx119 hG119 hf119
                    have eq120 : Z119 56 6 = Z5 56 6 := ((hf119 56 6 rfl).trans (up_ni hE25 (by decide)))
                    have b121 : 0 ≤ Z119 56 7 ∧ Z119 56 7 ≤ 900 := hG119.pr 56 7
                    have tx2 : (Z119 56 7) < N → T (Z119 56 7) = Z 59 (Z119 56 7) := fun q => TM_i k1 (by omega) q
                    refine mx_J.step (sn_162 89) (fun _ _ => rfl) ?_
                    refine mx_J.step (sn_162 90) (fun _ _ => rfl) ?_
                    refine JgetI (g := 7) (z := Z119 56 7) hx119 (show mx_Sn _ _ 91 (mx_getf 12 7 94) from sn_162 91) a56 s56 rfl rfl rfl ?_
                    have eq124 : Z119 56 8 = Z 56 8 := ((hf119 56 8 rfl).trans ((up_ni hE25 (by decide)).trans ((hf5 56 8 rfl).trans (up_ni hE3 (by decide)))))
                    have eq125 : Z119 59 (Z119 56 7) = Z 59 (Z119 56 7) := ((hf119 59 (Z119 56 7) rfl).trans ((up_nk hE25 rfl).trans ((hf5 59 (Z119 56 7) rfl).trans (up_nk hE3 rfl))))
                    have b126 : 0 ≤ Z 59 (Z119 56 7) ∧ Z 59 (Z119 56 7) ≤ 255 := hG.pr 59 (Z119 56 7)
                    obtain ⟨z123, hc123, b123⟩ := ct_158_56 (d := d + 4) (l := l) (D := D) (b0 := b0) (ad := ad) (Hb := Hb) (tau := tau) hx119 hG119 (show 0 ≤ Z119 56 7 ∧ Z119 56 7 ≤ 901 by omega)
                    try rw [eq124] at b123
                    try rw [eq125] at b123
                    refine Jcv hx119 (show mx_Sn _ _ 94 (mx_callv 158 2 12 97) from sn_162 94) a56 s56 hc123 rfl rfl rfl ?_
                    have cg119 : (Z119 56 7) = (Z5 56 6) → Z 59 (Z119 56 7) = Z 59 (Z5 56 6) := fun e => by rw [e]
                    obtain ⟨z127, hc127, b127⟩ := ct_159_ (d := d + 4) (l := l) (D := D) (b0 := b0) (ad := ad) (Hb := Hb) (tau := tau) hx119 hG119 (show (-2147483648) ≤ z123 ∧ z123 ≤ 2147483647 by omega)
                    refine Jcs (show mx_Sn _ _ 97 (mx_calls 159 1 100) from sn_162 97) hc127 rfl rfl rfl ?_
                    refine Jif_eq (show mx_Sn _ _ 100 (mx_if_eq 116 103) from sn_162 100) (by omega) (fun q128 => ?_) (fun q128 => ?_)
                    · skip
                      have ew : (Z119 56 7) = tWe T N (Z5 56 6) := ((tWe_e (T := T) (N := N) (Z119 56 7)).2.1 (fun q => by have := tx2 q.1; omega)).symm.trans (by assumption)
                      have kd := tKd_let (T := T) (N := N) (p := Z 56 7) (by omega) (by rw [← tb]; have := tx (by omega); omega)
                      have eq129 : Z119 56 6 = Z5 56 6 := ((hf119 56 6 rfl).trans (up_ni hE25 (by decide)))
                      have eq130 : Z119 56 9 = Z 56 9 := ((hf119 56 9 rfl).trans ((up_ni hE25 (by decide)).trans ((hf5 56 9 rfl).trans (up_ni hE3 (by decide)))))
                      have b131 : 0 ≤ Z 56 9 ∧ Z 56 9 ≤ 100 := hG.pr 56 9
                      refine mx_J.step (sn_162 116) (fun _ _ => rfl) ?_
                      refine mx_J.step (sn_162 117) (fun _ _ => rfl) ?_
                      have eq133 : Z119 56 6 = Z5 56 6 := ((hf119 56 6 rfl).trans (up_ni hE25 (by decide)))
                      have eq134 : Z119 56 8 = Z 56 8 := ((hf119 56 8 rfl).trans ((up_ni hE25 (by decide)).trans ((hf5 56 8 rfl).trans (up_ni hE3 (by decide)))))
                      obtain ⟨z132, hc132, b132⟩ := ct_161_56 (T := T) (N := N) (d := d + 0) (l := l) (D := D) (b0 := b0) (ad := ad) (Hb := Hb) (tau := tau) hx119 hG119  (show Z119 56 7 ≤ Z119 56 8 by first | omega | (simp only [eq133, eq134]; omega)) (TM_c k1 ((hf119 56 8 rfl).trans ((up_ni hE25 (by decide)).trans ((hf5 56 8 rfl).trans (up_ni hE3 (by decide))))) (fun i => ((hf119 59 i rfl).trans ((up_nk hE25 rfl).trans ((hf5 59 i rfl).trans (up_nk hE3 rfl)))))) (show Z119 56 8 = N by first | omega | (simp only [eq133, eq134]; omega))
                      try rw [eq133] at b132
                      try rw [eq134] at b132
                      obtain ⟨bs132_0, b132⟩ := b132
                      refine Jcv hx119 (show mx_Sn _ _ 118 (mx_callv 161 1 12 121) from sn_162 118) a56 s56 hc132 rfl rfl rfl ?_
                      refine JputI (g := 9) hx119 (show mx_Sn _ _ 121 (mx_putf 1 12 9 (.int) 124) from sn_162 121) a56 s56 rfl rfl rfl rfl (fun Z135 h135 hx135 hE135 => ?_)
                      have hG135 := GI_up hG119 hE135 (show 0 ≤ z132 ∧ z132 ≤ 100 by omega) trivial rfl
                      have ee : Z119 56 7 = tWe T N (tBg T N (Z 56 7)) := rfl.trans (ew.trans (congrArg (tWe T N) tb))
                      have av3 : z132 = tKd T N (Z 56 7) := bs132_0.trans (by rw [kd.1, ee, tb])
                      have av : AW T N Z Z135 := ⟨((up_ni hE135 (by decide)).trans ((hf119 56 6 rfl).trans (up_ni hE25 (by decide)))).trans tb, (up_ni hE135 (by decide)).trans (ew.trans ((congrArg (tWe T N) tb).trans kd.2.symm)), (up_at hE135).trans av3, fun q => by have := tKey_b (T := T) (b := tBg T N (Z 56 7)) (e := tWe T N (tBg T N (Z 56 7))); omega⟩
                      refine mx_J.step (sn_162 124) (fun _ _ => rfl) ?_
                      have av : AW T N Z Z135 := by first | assumption | exact ⟨((up_ni hE135 (by decide)).trans ((hf119 56 6 rfl).trans (up_ni hE25 (by decide)))).trans tb, (by have e := (up_ni hE135 (by decide)); omega), (by rw [kd.1, ← tb, tx (by omega)]; exact SI_e ((show (0 : Int) = (12 : Int) by omega) ▸ (by assumption))), fun q => by omega⟩
                      have eq136 : Z135 56 6 = Z5 56 6 := ((up_ni hE135 (by decide)).trans ((hf119 56 6 rfl).trans (up_ni hE25 (by decide))))
                      have eq137 : Z135 56 7 = Z119 56 7 := (up_ni hE135 (by decide))
                      have eq138 : Z135 56 9 = z132 := (up_at hE135)
                      have eq139 : Z135 56 7 = Z119 56 7 := (up_ni hE135 (by decide))
                      have eq140 : Z135 56 8 = Z 56 8 := ((up_ni hE135 (by decide)).trans ((hf119 56 8 rfl).trans ((up_ni hE25 (by decide)).trans ((hf5 56 8 rfl).trans (up_ni hE3 (by decide))))))
                      exact mx_J.ret (sn_162 294) (fun _ _ => rfl) (hP Z135 h135 hx135 hG135 (fr_tr (M := [(56, 6), (56, 7), (56, 9), (56, 10)]) (fr_tr (M := [(56, 6), (56, 7), (56, 9), (56, 10)]) (fr_tr (M := [(56, 6), (56, 7), (56, 9), (56, 10)]) (fr_tr (M := [(56, 6), (56, 7), (56, 9), (56, 10)]) (fr_tr (M := [(56, 6), (56, 7), (56, 9), (56, 10)]) fr_rf (fr_up hE3) (M1 := []) rfl rfl) (hf5) rfl rfl) (fr_up hE25) rfl rfl) (hf119) rfl rfl) (fr_up hE135) rfl rfl) ⟨(av), by omega⟩)
                    · skip
                      have tw := (tWe_e (T := T) (N := N) (Z119 56 7)).1 (by omega) (by have := tx2 (by omega); omega) (by have := tx2 (by omega); omega)
                      refine mx_J.step (sn_162 103) (fun _ _ => rfl) ?_
                      refine mx_J.step (sn_162 104) (fun _ _ => rfl) ?_
                      refine JgetI (g := 7) (z := Z119 56 7) hx119 (show mx_Sn _ _ 105 (mx_getf 12 7 108) from sn_162 105) a56 s56 rfl rfl rfl ?_
                      refine JcI (z := 1) (show mx_Sn _ _ 108 (mx_const (.int 1) 109) from sn_162 108) rfl ?_
                      refine Jiadd (show mx_Sn _ _ 109 (mx_iadd 110) from sn_162 109) ?_
                      refine JputI (g := 7) hx119 (show mx_Sn _ _ 110 (mx_putf 1 12 7 (.int) 113) from sn_162 110) a56 s56 rfl rfl rfl rfl (fun Z142 h142 hx142 hE142 => ?_)
                      have hG142 := GI_up hG119 hE142 (show 0 ≤ (Z119 56 7) + 1 ∧ (Z119 56 7) + 1 ≤ 900 by omega) trivial rfl
                      refine mx_J.step (sn_162 113) (fun _ _ => rfl) ?_
                      have eq143 : Z142 56 6 = Z5 56 6 := ((up_ni hE142 (by decide)).trans ((hf119 56 6 rfl).trans (up_ni hE25 (by decide))))
                      have eq144 : Z142 56 7 = (Z119 56 7) + 1 := (up_at hE142)
                      have eq145 : Z142 56 7 = (Z119 56 7) + 1 := (up_at hE142)
                      exact ih118 Z142 h142 (by omega) (by omega) (by rw [(show Z142 56 7 = (Z119 56 7) + 1 from (up_at hE142))]; exact tw.symm.trans (by assumption)) hx142 hG142 (fr_tr (M := [(56, 7)]) (fr_tr (M := [(56, 7)]) fr_rf (hf119) (M1 := []) rfl rfl) (fr_up hE142) rfl rfl)
                have eq146 : Z25 56 6 = Z5 56 6 := (up_ni hE25 (by decide))
                have eq147 : Z25 56 7 = Z5 56 6 := (up_at hE25)
                have eq148 : Z25 56 7 = Z5 56 6 := (up_at hE25)
                exact c89 (Int.toNat (Z 56 8 - Z25 56 7) + 1) Z25 h25 (by omega) (by omega) (by rw [(show Z25 56 7 = Z5 56 6 from (up_at hE25))]) hx25 hG25 fr_rf
            · skip
              have kd := tKd_end (T := T) (N := N) (p := Z 56 7) (by omega)
              refine mx_J.step (sn_162 66) (fun _ _ => rfl) ?_
              refine JcI (z := 24) (show mx_Sn _ _ 67 (mx_const (.int 24) 69) from sn_162 67) rfl ?_
              refine JputI (g := 9) hx25 (show mx_Sn _ _ 69 (mx_putf 1 12 9 (.int) 72) from sn_162 69) a56 s56 rfl rfl rfl rfl (fun Z149 h149 hx149 hE149 => ?_)
              have hG149 := GI_up hG25 hE149 (show 0 ≤ 24 ∧ 24 ≤ 100 by omega) trivial rfl
              have av : AW T N Z Z149 := ⟨((up_ni hE149 (by decide)).trans (up_ni hE25 (by decide))).trans tb, ((up_ni hE149 (by decide)).trans (up_at hE25)).trans (tb.trans kd.2.symm), (up_at hE149).trans kd.1.symm, fun q => absurd (kd.1.symm.trans q) (by decide)⟩
              refine mx_J.step (sn_162 72) (fun _ _ => rfl) ?_
              have av : AW T N Z Z149 := by first | assumption | exact ⟨((up_ni hE149 (by decide)).trans (up_ni hE25 (by decide))).trans tb, (by have e := ((up_ni hE149 (by decide)).trans (up_at hE25)); omega), (by rw [kd.1, ← tb, tx (by omega)]; exact SI_e ((show (0 : Int) = (12 : Int) by omega) ▸ (by assumption))), fun q => by omega⟩
              have eq150 : Z149 56 6 = Z5 56 6 := ((up_ni hE149 (by decide)).trans (up_ni hE25 (by decide)))
              have eq151 : Z149 56 7 = Z5 56 6 := ((up_ni hE149 (by decide)).trans (up_at hE25))
              have eq152 : Z149 56 9 = 24 := (up_at hE149)
              have eq153 : Z149 56 7 = Z5 56 6 := ((up_ni hE149 (by decide)).trans (up_at hE25))
              have eq154 : Z149 56 8 = Z 56 8 := ((up_ni hE149 (by decide)).trans ((up_ni hE25 (by decide)).trans ((hf5 56 8 rfl).trans (up_ni hE3 (by decide)))))
              exact mx_J.ret (sn_162 294) (fun _ _ => rfl) (hP Z149 h149 hx149 hG149 (fr_tr (M := [(56, 6), (56, 7), (56, 9), (56, 10)]) (fr_tr (M := [(56, 6), (56, 7), (56, 9), (56, 10)]) (fr_tr (M := [(56, 6), (56, 7), (56, 9), (56, 10)]) (fr_tr (M := [(56, 6), (56, 7), (56, 9), (56, 10)]) fr_rf (fr_up hE3) (M1 := []) rfl rfl) (hf5) rfl rfl) (fr_up hE25) rfl rfl) (fr_up hE149) rfl rfl) ⟨(av), by omega⟩)
          · skip
            exact c34 (by omega)
    have eq155 : Z3 56 6 = Z 56 7 := (up_at hE3)
    have eq156 : Z3 56 6 = Z 56 7 := (up_at hE3)
    exact c8 (Int.toNat (Z 56 8 - Z3 56 6) + 1) Z3 h3 (by omega) (by omega) (by rw [(show Z3 56 6 = Z 56 7 from (up_at hE3))]) hx3 hG3 fr_rf
theorem ct_162_56 {l : Launch} {D : va_G} {b0 : Nat} {ad : Nat → Nat} {Hb : Heap} {tau : Nat → Int64} {d n s : Nat} {S : Nat → xS} {Z : xZ} {h : mx_H} {T : Int → Int} {N : Int} (hx : XH n s S Z h) (hG : GI n S Z)   (k0 : Z 56 7 ≤ Z 56 8) (k1 : TM T N Z) (k2 : Z 56 8 = N) : ∃ (Z' : xZ) (h' : mx_H), mx_Ca (tB l D b0 ad Hb tau) (d + 6) 162 [.ref 56] h (none, h') ∧ XH n s S Z' h' ∧ GI n S Z' ∧ fr' [(56, 6), (56, 7), (56, 9), (56, 10)] Z Z' ∧ (AW T N Z Z' ∧ ((Z' 56 6 ≤ Z' 56 7 ∧ Z' 56 7 ≤ Z 56 8 ∧ (Z' 56 9 = 24 ∨ Z' 56 6 < Z' 56 7)) ∧ Z 56 7 ≤ Z' 56 6)) := by
  obtain ⟨r, hca, Z', h', e, q⟩ := Jmt (B := tB l D b0 ad Hb tau) (M := mt_162) (mi := 162) (as := [.ref 56]) (d := d + 5) (ls := [some (.ref 56), none]) rfl rfl rfl rfl rfl rfl (cw_162_56 (l := l) (D := D) (b0 := b0) (ad := ad) (Hb := Hb) (tau := tau) (d := d) (Post := fun r => ∃ (Z' : xZ) (h' : mx_H), r = (none, h') ∧ XH n s S Z' h' ∧ GI n S Z' ∧ fr' [(56, 6), (56, 7), (56, 9), (56, 10)] Z Z' ∧ (AW T N Z Z' ∧ ((Z' 56 6 ≤ Z' 56 7 ∧ Z' 56 7 ≤ Z 56 8 ∧ (Z' 56 9 = 24 ∨ Z' 56 6 < Z' 56 7)) ∧ Z 56 7 ≤ Z' 56 6))) hx hG k0 k1 k2 (fun Z' h' q1 q2 q3 q4 => ⟨Z', h', rfl, q1, q2, q3, q4⟩))
  subst e; exact ⟨Z', h', hca, q⟩
theorem ct_162_56r {l : Launch} {D : va_G} {b0 : Nat} {ad : Nat → Nat} {Hb : Heap} {tau : Nat → Int64} {g0 : Int} {T : Int → Int} {N : Int} {sg : SS} {d n s : Nat} {S : Nat → xS} {Z : xZ} {h : mx_H} (hx : XH n s S Z h) (hG : GI n S Z) (k0 : Z 56 7 ≤ Z 56 8) (k1 : Z 56 11 = 0) (hr : RM g0 T N Z sg) : ∃ (Z' : xZ) (h' : mx_H), mx_Ca (tB l D b0 ad Hb tau) (d + 6) 162 [.ref 56] h (none, h') ∧ XH n s S Z' h' ∧ GI n S Z' ∧ fr' [(56, 6), (56, 7), (56, 9), (56, 10)] Z Z' ∧ (RM g0 T N Z' (gAd T N sg) ∧ ((Z' 56 6 ≤ Z' 56 7 ∧ Z' 56 7 ≤ Z 56 8 ∧ (Z' 56 9 = 24 ∨ Z' 56 6 < Z' 56 7)) ∧ Z 56 7 ≤ Z' 56 6)) := by
  obtain ⟨Z', h', hca, q1, q2, q3, q5, q4⟩ := ct_162_56 (T := T) (N := N) (d := d) (l := l) (D := D) (b0 := b0) (ad := ad) (Hb := Hb) (tau := tau) hx hG k0 (RM_t hr) (RM_p hr).2.2.2
  exact ⟨Z', h', hca, q1, q2, q3, RM_ad hr k1 q5 (q3 56 11 rfl) (q3 60 61 rfl) (fun i => q3 60 i rfl) (q3 56 8 rfl) (fun i => q3 59 i rfl), q4⟩
set_option maxRecDepth 100000 in
theorem cw_163_56 {l : Launch} {D : va_G} {b0 : Nat} {ad : Nat → Nat} {Hb : Heap} {tau : Nat → Int64} {d n s : Nat} {S : Nat → xS} {Z : xZ} {h : mx_H} {Post : mx_R → Prop} {g0 : Int} {T : Int → Int} {N : Int} {sg : SS} (hx : XH n s S Z h) (hG : GI n S Z)  {x0 : Int} (p0 : 2 ≤ x0 ∧ x0 ≤ 4) (hr : RM g0 T N Z sg) (hP : ∀ (Z' : xZ) (h' : mx_H), XH n s S Z' h' → GI n S Z' → fr' [(56, 11), (56, 12)] Z Z' → RM g0 T N Z' (gFt T N x0 sg) ∧ ((¬ Z' 56 11 = 0) ∧ 1 ≤ Z' 56 11) → Post (none, h')) : mx_J (tB l D b0 ad Hb tau) mt_163 (d + 0) 0 [some (.ref 56), some (xI x0)] [] h Post := by
    have a56 : 56 < n := lt83 (GI_n hG) rfl
    have s56 : S 56 = .inl (12, [0, 2, 2, 2, 2, 0, 0, 0, 0, 0, 0, 0, 0, 0, 0, 2, 2, 2, 0, 2, 2, 2, 0, 0, 2, 2, 2, 2, 2, 2, 0, 0, 2, 2, 2, 2, 2, 2, 2, 2, 2, 2]) := GI_s hG 56 rfl
    refine mx_J.step (sn_163 0) (fun _ _ => rfl) ?_
    have b2 : 0 ≤ Z 56 11 ∧ Z 56 11 ≤ 4 := hG.pr 56 11
    refine JgetI (g := 11) (z := Z 56 11) hx (show mx_Sn _ _ 1 (mx_getf 12 11 4) from sn_163 1) a56 s56 rfl rfl rfl ?_
    refine Jif_eq (show mx_Sn _ _ 4 (mx_if_eq 8 7) from sn_163 4) (by omega) (fun q3 => ?_) (fun q3 => ?_)
    · skip
      refine mx_J.step (sn_163 8) (fun _ _ => rfl) ?_
      refine mx_J.step (sn_163 9) (fun _ _ => rfl) ?_
      have b5 : 0 ≤ Z 56 9 ∧ Z 56 9 ≤ 100 := hG.pr 56 9
      refine JgetI (g := 9) (z := Z 56 9) hx (show mx_Sn _ _ 10 (mx_getf 12 9 13) from sn_163 10) a56 s56 rfl rfl rfl ?_
      refine JcI (z := 25) (show mx_Sn _ _ 13 (mx_const (.int 25) 15) from sn_163 13) rfl ?_
      have c23 : ∀ (k6_1 : Int), 1 ≤ k6_1 ∧ k6_1 ≤ 4 → ((Z 56 9 = 25 → k6_1 = 1) ∧ (¬ Z 56 9 = 25 → k6_1 = x0)) → mx_J (tB l D b0 ad Hb tau) mt_163 (d + 0) 23 [some (.ref 56), some (xI x0)] [xI k6_1, .ref 56] h Post := by
        intro k6_1 f6_0 f6_1
        refine JputI (g := 11) hx (show mx_Sn _ _ 23 (mx_putf 1 12 11 (.int) 26) from sn_163 23) a56 s56 rfl rfl rfl rfl (fun Z7 h7 hx7 hE7 => ?_)
        have hG7 := GI_up hG hE7 (show 0 ≤ k6_1 ∧ k6_1 ≤ 4 by omega) trivial rfl
        refine mx_J.step (sn_163 26) (fun _ _ => rfl) ?_
        refine mx_J.step (sn_163 27) (fun _ _ => rfl) ?_
        have b9 : 0 ≤ Z 56 6 ∧ Z 56 6 ≤ 900 := hG.pr 56 6
        refine JgetI (g := 6) (z := Z 56 6) hx7 (show mx_Sn _ _ 28 (mx_getf 12 6 31) from sn_163 28) a56 s56 rfl rfl (up_ni hE7 (by decide)) ?_
        refine JputI (g := 12) hx7 (show mx_Sn _ _ 31 (mx_putf 1 12 12 (.int) 34) from sn_163 31) a56 s56 rfl rfl rfl rfl (fun Z10 h10 hx10 hE10 => ?_)
        have hG10 := GI_up hG7 hE10 (show 0 ≤ Z 56 6 ∧ Z 56 6 ≤ 900 by omega) trivial rfl
        have rc11 : RM g0 T N Z10 (gFt T N x0 sg) := RM_ft hr (by omega) (up_at hE10) ⟨fun q => ((up_ni hE10 (by decide)).trans (up_at hE7)).trans (by omega), fun q => ((up_ni hE10 (by decide)).trans (up_at hE7)).trans (by omega)⟩ (by omega) ((up_ni hE10 (by decide)).trans (up_ni hE7 (by decide))) (fun i => ((up_nk hE10 rfl).trans (up_nk hE7 rfl)))
        have eq12 : Z10 56 11 = k6_1 := ((up_ni hE10 (by decide)).trans (up_at hE7))
        have eq13 : Z10 56 9 = Z 56 9 := ((up_ni hE10 (by decide)).trans (up_ni hE7 (by decide)))
        have eq14 : Z10 56 11 = k6_1 := ((up_ni hE10 (by decide)).trans (up_at hE7))
        exact mx_J.ret (sn_163 34) (fun _ _ => rfl) (hP Z10 h10 hx10 hG10 (fr_tr (M := [(56, 11), (56, 12)]) (fr_tr (M := [(56, 11), (56, 12)]) fr_rf (fr_up hE7) (M1 := []) rfl rfl) (fr_up hE10) rfl rfl) ⟨rc11, by omega⟩)
      refine Jicmp_ne (show mx_Sn _ _ 15 (mx_icmp_ne 22 18) from sn_163 15) (by omega) (by omega) (fun q15 => ?_) (fun q15 => ?_)
      · skip
        refine mx_J.step (sn_163 22) (fun _ _ => rfl) ?_
        exact c23 x0 (by omega) (by omega)
      · skip
        refine JcI (z := 1) (show mx_Sn _ _ 18 (mx_const (.int 1) 19) from sn_163 18) rfl ?_
        refine mx_J.step (sn_163 19) (fun _ _ => rfl) ?_
        exact c23 1 (by omega) (by omega)
    · skip
      have b16 : 0 ≤ Z 56 9 ∧ Z 56 9 ≤ 100 := hG.pr 56 9
      exact mx_J.ret (sn_163 7) (fun _ _ => rfl) (hP Z h hx hG fr_rf ⟨(RM_e hr (RM_fx hr (by omega))), by omega⟩)
theorem ct_163_56 {l : Launch} {D : va_G} {b0 : Nat} {ad : Nat → Nat} {Hb : Heap} {tau : Nat → Int64} {d n s : Nat} {S : Nat → xS} {Z : xZ} {h : mx_H} {g0 : Int} {T : Int → Int} {N : Int} {sg : SS} (hx : XH n s S Z h) (hG : GI n S Z)  {x0 : Int} (p0 : 2 ≤ x0 ∧ x0 ≤ 4) (hr : RM g0 T N Z sg) : ∃ (Z' : xZ) (h' : mx_H), mx_Ca (tB l D b0 ad Hb tau) (d + 1) 163 [.ref 56, xI x0] h (none, h') ∧ XH n s S Z' h' ∧ GI n S Z' ∧ fr' [(56, 11), (56, 12)] Z Z' ∧ (RM g0 T N Z' (gFt T N x0 sg) ∧ ((¬ Z' 56 11 = 0) ∧ 1 ≤ Z' 56 11)) := by
  obtain ⟨r, hca, Z', h', e, q⟩ := Jmt (B := tB l D b0 ad Hb tau) (M := mt_163) (mi := 163) (as := [.ref 56, xI x0]) (d := d + 0) (ls := [some (.ref 56), some (xI x0)]) rfl rfl rfl rfl rfl rfl (cw_163_56 (l := l) (D := D) (b0 := b0) (ad := ad) (Hb := Hb) (tau := tau) (d := d) (Post := fun r => ∃ (Z' : xZ) (h' : mx_H), r = (none, h') ∧ XH n s S Z' h' ∧ GI n S Z' ∧ fr' [(56, 11), (56, 12)] Z Z' ∧ (RM g0 T N Z' (gFt T N x0 sg) ∧ ((¬ Z' 56 11 = 0) ∧ 1 ≤ Z' 56 11))) hx hG p0 hr (fun Z' h' q1 q2 q3 q4 => ⟨Z', h', rfl, q1, q2, q3, q4⟩))
  subst e; exact ⟨Z', h', hca, q⟩
theorem ct_163_56x {l : Launch} {D : va_G} {b0 : Nat} {ad : Nat → Nat} {Hb : Heap} {tau : Nat → Int64} {T : Int → Int} {N : Int} {sg : SS} {d n s : Nat} {S : Nat → xS} {Z : xZ} {h : mx_H} (hx : XH n s S Z h) (hG : GI n S Z) {x0 : Int} (p0 : 2 ≤ x0 ∧ x0 ≤ 4)  (hr : RMx T N Z sg) : ∃ (Z' : xZ) (h' : mx_H), mx_Ca (tB l D b0 ad Hb tau) (d + 1) 163 [.ref 56, xI x0] h (none, h') ∧ XH n s S Z' h' ∧ GI n S Z' ∧ fr' [(56, 11), (56, 12)] Z Z' ∧ (RMx T N Z' (gFt T N x0 sg) ∧ ((¬ Z' 56 11 = 0) ∧ 1 ≤ Z' 56 11)) := by
  obtain ⟨g, hg, hr⟩ := hr
  obtain ⟨Z', h', hca, q1, q2, q3, q5, q4⟩ := ct_163_56 (g0 := g) (T := T) (N := N) (sg := sg) (d := d) (l := l) (D := D) (b0 := b0) (ad := ad) (Hb := Hb) (tau := tau) hx hG p0  hr
  exact ⟨Z', h', hca, q1, q2, q3, ⟨g, hg, q5⟩, q4⟩
set_option maxRecDepth 100000 in
theorem cw_164_56 {l : Launch} {D : va_G} {b0 : Nat} {ad : Nat → Nat} {Hb : Heap} {tau : Nat → Int64} {d n s : Nat} {S : Nat → xS} {Z : xZ} {h : mx_H} {Post : mx_R → Prop} (hx : XH n s S Z h) (hG : GI n S Z)  {x0 : Int} (p0 : 0 ≤ x0 ∧ x0 ≤ 100) (hP : ∀ z : Int, 0 ≤ z ∧ z ≤ 1 ∧ ((z = 1 ∧ Z 56 11 = 0 ∧ Z 56 9 = x0) ∨ (z = 0 ∧ ¬ (Z 56 11 = 0 ∧ Z 56 9 = x0))) → Post (some (xI z), h)) : mx_J (tB l D b0 ad Hb tau) mt_164 (d + 0) 0 [some (.ref 56), some (xI x0)] [] h Post := by
    have a56 : 56 < n := lt83 (GI_n hG) rfl
    have s56 : S 56 = .inl (12, [0, 2, 2, 2, 2, 0, 0, 0, 0, 0, 0, 0, 0, 0, 0, 2, 2, 2, 0, 2, 2, 2, 0, 0, 2, 2, 2, 2, 2, 2, 0, 0, 2, 2, 2, 2, 2, 2, 2, 2, 2, 2]) := GI_s hG 56 rfl
    refine mx_J.step (sn_164 0) (fun _ _ => rfl) ?_
    have b2 : 0 ≤ Z 56 11 ∧ Z 56 11 ≤ 4 := hG.pr 56 11
    refine JgetI (g := 11) (z := Z 56 11) hx (show mx_Sn _ _ 1 (mx_getf 12 11 4) from sn_164 1) a56 s56 rfl rfl rfl ?_
    have c20 : ∀ (k3_0 : Int), 0 ≤ k3_0 ∧ k3_0 ≤ 1 → ((k3_0 = 1 ∧ Z 56 11 = 0 ∧ Z 56 9 = x0) ∨ (k3_0 = 0 ∧ ¬ (Z 56 11 = 0 ∧ Z 56 9 = x0))) → mx_J (tB l D b0 ad Hb tau) mt_164 (d + 0) 20 [some (.ref 56), some (xI x0)] [xI k3_0] h Post := by
      intro k3_0 f3_0 f3_1
      have b4 : 0 ≤ Z 56 9 ∧ Z 56 9 ≤ 100 := hG.pr 56 9
      exact mx_J.ret (show mx_Sn _ _ 20 (mx_zret) from sn_164 20) (fun _ _ => zr_ok (by omega)) (hP k3_0 (by omega))
    have c19 : ¬ (Z 56 11 = 0 ∧ Z 56 9 = x0) → mx_J (tB l D b0 ad Hb tau) mt_164 (d + 0) 19 [some (.ref 56), some (xI x0)] [] h Post := by
      intro f5_0
      refine JcI (z := 0) (show mx_Sn _ _ 19 (mx_const (.int 0) 20) from sn_164 19) rfl ?_
      exact c20 0 (by omega) (by omega)
    refine Jif_ne (show mx_Sn _ _ 4 (mx_if_ne 19 7) from sn_164 4) (by omega) (fun q6 => ?_) (fun q6 => ?_)
    · skip
      exact c19 (by omega)
    · skip
      refine mx_J.step (sn_164 7) (fun _ _ => rfl) ?_
      have b8 : 0 ≤ Z 56 9 ∧ Z 56 9 ≤ 100 := hG.pr 56 9
      refine JgetI (g := 9) (z := Z 56 9) hx (show mx_Sn _ _ 8 (mx_getf 12 9 11) from sn_164 8) a56 s56 rfl rfl rfl ?_
      refine mx_J.step (sn_164 11) (fun _ _ => rfl) ?_
      refine Jicmp_ne (show mx_Sn _ _ 12 (mx_icmp_ne 19 15) from sn_164 12) (by omega) (by omega) (fun q9 => ?_) (fun q9 => ?_)
      · skip
        exact c19 (by omega)
      · skip
        refine JcI (z := 1) (show mx_Sn _ _ 15 (mx_const (.int 1) 16) from sn_164 15) rfl ?_
        refine mx_J.step (sn_164 16) (fun _ _ => rfl) ?_
        exact c20 1 (by omega) (by omega)
theorem ct_164_56 {l : Launch} {D : va_G} {b0 : Nat} {ad : Nat → Nat} {Hb : Heap} {tau : Nat → Int64} {d n s : Nat} {S : Nat → xS} {Z : xZ} {h : mx_H} (hx : XH n s S Z h) (hG : GI n S Z)  {x0 : Int} (p0 : 0 ≤ x0 ∧ x0 ≤ 100) : ∃ z : Int, mx_Ca (tB l D b0 ad Hb tau) (d + 1) 164 [.ref 56, xI x0] h (some (xI z), h) ∧ (0 ≤ z ∧ z ≤ 1 ∧ ((z = 1 ∧ Z 56 11 = 0 ∧ Z 56 9 = x0) ∨ (z = 0 ∧ ¬ (Z 56 11 = 0 ∧ Z 56 9 = x0)))) := by
  obtain ⟨r, hca, z, e, hp⟩ := Jmt (B := tB l D b0 ad Hb tau) (M := mt_164) (mi := 164) (as := [.ref 56, xI x0]) (d := d + 0) (ls := [some (.ref 56), some (xI x0)]) rfl rfl rfl rfl rfl rfl (cw_164_56 (l := l) (D := D) (b0 := b0) (ad := ad) (Hb := Hb) (tau := tau) (d := d) (Post := fun r => ∃ z : Int, r = (some (xI z), h) ∧ (0 ≤ z ∧ z ≤ 1 ∧ ((z = 1 ∧ Z 56 11 = 0 ∧ Z 56 9 = x0) ∨ (z = 0 ∧ ¬ (Z 56 11 = 0 ∧ Z 56 9 = x0))))) hx hG p0 (fun z hz => ⟨z, rfl, hz⟩))
  subst e; exact ⟨z, hca, hp⟩
set_option maxRecDepth 100000 in
theorem cw_165_56 {l : Launch} {D : va_G} {b0 : Nat} {ad : Nat → Nat} {Hb : Heap} {tau : Nat → Int64} {d n s : Nat} {S : Nat → xS} {Z : xZ} {h : mx_H} {Post : mx_R → Prop} {g0 : Int} {T : Int → Int} {N : Int} {sg : SS} (hx : XH n s S Z h) (hG : GI n S Z)  {x0 : Int} (p0 : 0 ≤ x0 ∧ x0 ≤ 100) (k0 : (Z 56 6 ≤ Z 56 7 ∧ Z 56 7 ≤ Z 56 8 ∧ (Z 56 9 = 24 ∨ Z 56 6 < Z 56 7))) (k1 : ¬ x0 = 24) (hr : RM g0 T N Z sg) (hP : ∀ (z : Int) (Z' : xZ) (h' : mx_H), XH n s S Z' h' → GI n S Z' → fr' [(56, 6), (56, 7), (56, 9), (56, 10)] Z Z' → RM g0 T N Z' (gEt T N x0 sg) ∧ 0 ≤ z ∧ z ≤ 1 ∧ ((Z' 56 6 ≤ Z' 56 7 ∧ Z' 56 7 ≤ Z 56 8 ∧ (Z' 56 9 = 24 ∨ Z' 56 6 < Z' 56 7)) ∧ Z 56 6 ≤ Z' 56 6 ∧ (z = 1 → Z 56 11 = 0 ∧ Z 56 9 = x0 ∧ Z 56 6 + 1 ≤ Z' 56 6) ∧ (z = 0 → Z' 56 6 = Z 56 6 ∧ ¬ (Z 56 11 = 0 ∧ Z 56 9 = x0))) → Post (some (xI z), h')) : mx_J (tB l D b0 ad Hb tau) mt_165 (d + 6) 0 [some (.ref 56), some (xI x0)] [] h Post := by
    have a56 : 56 < n := lt83 (GI_n hG) rfl
    have s56 : S 56 = .inl (12, [0, 2, 2, 2, 2, 0, 0, 0, 0, 0, 0, 0, 0, 0, 0, 2, 2, 2, 0, 2, 2, 2, 0, 0, 2, 2, 2, 2, 2, 2, 0, 0, 2, 2, 2, 2, 2, 2, 2, 2, 2, 2]) := GI_s hG 56 rfl
    refine mx_J.step (sn_165 0) (fun _ _ => rfl) ?_
    refine mx_J.step (sn_165 1) (fun _ _ => rfl) ?_
    have b2 : 0 ≤ Z 56 9 ∧ Z 56 9 ≤ 100 := hG.pr 56 9
    have b3 : 0 ≤ Z 56 11 ∧ Z 56 11 ≤ 4 := hG.pr 56 11
    obtain ⟨z1, hc1, b1⟩ := ct_164_56 (d := d + 5) (l := l) (D := D) (b0 := b0) (ad := ad) (Hb := Hb) (tau := tau) hx hG (show 0 ≤ x0 ∧ x0 ≤ 100 by omega)
    refine Jcv hx (show mx_Sn _ _ 2 (mx_callv 164 2 12 5) from sn_165 2) a56 s56 hc1 rfl rfl rfl ?_
    refine Jif_ne (show mx_Sn _ _ 5 (mx_if_ne 10 8) from sn_165 5) (by omega) (fun q4 => ?_) (fun q4 => ?_)
    · skip
      refine mx_J.step (sn_165 10) (fun _ _ => rfl) ?_
      have b6 : 0 ≤ Z 56 7 ∧ Z 56 7 ≤ 900 := hG.pr 56 7
      have b7 : 0 ≤ Z 56 8 ∧ Z 56 8 ≤ 900 := hG.pr 56 8
      obtain ⟨Z5, h5, hc5, hx5, hG5, hf5, b5⟩ := ct_162_56r (g0 := g0) (T := T) (N := N) (sg := sg) (d := d + 0) (l := l) (D := D) (b0 := b0) (ad := ad) (Hb := Hb) (tau := tau) hx hG  (show Z 56 7 ≤ Z 56 8 by omega) (show Z 56 11 = 0 by omega) hr
      obtain ⟨br5, b5⟩ := b5
      have b8 : 0 ≤ Z5 56 6 ∧ Z5 56 6 ≤ 900 := hG5.pr 56 6
      have b9 : 0 ≤ Z5 56 7 ∧ Z5 56 7 ≤ 900 := hG5.pr 56 7
      have b10 : 0 ≤ Z5 56 9 ∧ Z5 56 9 ≤ 100 := hG5.pr 56 9
      refine Jcv0 hx (show mx_Sn _ _ 11 (mx_callv 162 1 12 14) from sn_165 11) a56 s56 hc5 rfl rfl rfl ?_
      refine JcI (z := 1) (show mx_Sn _ _ 14 (mx_const (.int 1) 15) from sn_165 14) rfl ?_
      have eq11 : Z5 56 8 = Z 56 8 := (hf5 56 8 rfl)
      have eq12 : Z5 56 11 = Z 56 11 := (hf5 56 11 rfl)
      exact mx_J.ret (show mx_Sn _ _ 15 (mx_zret) from sn_165 15) (fun _ _ => zr_ok (by omega)) (hP 1 Z5 h5 hx5 hG5 (fr_tr (M := [(56, 6), (56, 7), (56, 9), (56, 10)]) fr_rf (hf5) (M1 := []) rfl rfl) ⟨(RM_e br5 (gEt_y ((RM_is hr).mp (by omega)))), by omega⟩)
    · skip
      refine JcI (z := 0) (show mx_Sn _ _ 8 (mx_const (.int 0) 9) from sn_165 8) rfl ?_
      have b13 : 0 ≤ Z 56 6 ∧ Z 56 6 ≤ 900 := hG.pr 56 6
      have b14 : 0 ≤ Z 56 7 ∧ Z 56 7 ≤ 900 := hG.pr 56 7
      have b15 : 0 ≤ Z 56 8 ∧ Z 56 8 ≤ 900 := hG.pr 56 8
      exact mx_J.ret (show mx_Sn _ _ 9 (mx_zret) from sn_165 9) (fun _ _ => zr_ok (by omega)) (hP 0 Z h hx hG fr_rf ⟨(RM_e hr (gEt_n (fun q => by have := (RM_is hr).mpr q; omega))), by omega⟩)
theorem ct_165_56 {l : Launch} {D : va_G} {b0 : Nat} {ad : Nat → Nat} {Hb : Heap} {tau : Nat → Int64} {d n s : Nat} {S : Nat → xS} {Z : xZ} {h : mx_H} {g0 : Int} {T : Int → Int} {N : Int} {sg : SS} (hx : XH n s S Z h) (hG : GI n S Z)  {x0 : Int} (p0 : 0 ≤ x0 ∧ x0 ≤ 100) (k0 : (Z 56 6 ≤ Z 56 7 ∧ Z 56 7 ≤ Z 56 8 ∧ (Z 56 9 = 24 ∨ Z 56 6 < Z 56 7))) (k1 : ¬ x0 = 24) (hr : RM g0 T N Z sg) : ∃ (z : Int) (Z' : xZ) (h' : mx_H), mx_Ca (tB l D b0 ad Hb tau) (d + 7) 165 [.ref 56, xI x0] h (some (xI z), h') ∧ XH n s S Z' h' ∧ GI n S Z' ∧ fr' [(56, 6), (56, 7), (56, 9), (56, 10)] Z Z' ∧ (RM g0 T N Z' (gEt T N x0 sg) ∧ 0 ≤ z ∧ z ≤ 1 ∧ ((Z' 56 6 ≤ Z' 56 7 ∧ Z' 56 7 ≤ Z 56 8 ∧ (Z' 56 9 = 24 ∨ Z' 56 6 < Z' 56 7)) ∧ Z 56 6 ≤ Z' 56 6 ∧ (z = 1 → Z 56 11 = 0 ∧ Z 56 9 = x0 ∧ Z 56 6 + 1 ≤ Z' 56 6) ∧ (z = 0 → Z' 56 6 = Z 56 6 ∧ ¬ (Z 56 11 = 0 ∧ Z 56 9 = x0)))) := by
  obtain ⟨r, hca, z, Z', h', e, q⟩ := Jmt (B := tB l D b0 ad Hb tau) (M := mt_165) (mi := 165) (as := [.ref 56, xI x0]) (d := d + 6) (ls := [some (.ref 56), some (xI x0)]) rfl rfl rfl rfl rfl rfl (cw_165_56 (l := l) (D := D) (b0 := b0) (ad := ad) (Hb := Hb) (tau := tau) (d := d) (Post := fun r => ∃ (z : Int) (Z' : xZ) (h' : mx_H), r = (some (xI z), h') ∧ XH n s S Z' h' ∧ GI n S Z' ∧ fr' [(56, 6), (56, 7), (56, 9), (56, 10)] Z Z' ∧ (RM g0 T N Z' (gEt T N x0 sg) ∧ 0 ≤ z ∧ z ≤ 1 ∧ ((Z' 56 6 ≤ Z' 56 7 ∧ Z' 56 7 ≤ Z 56 8 ∧ (Z' 56 9 = 24 ∨ Z' 56 6 < Z' 56 7)) ∧ Z 56 6 ≤ Z' 56 6 ∧ (z = 1 → Z 56 11 = 0 ∧ Z 56 9 = x0 ∧ Z 56 6 + 1 ≤ Z' 56 6) ∧ (z = 0 → Z' 56 6 = Z 56 6 ∧ ¬ (Z 56 11 = 0 ∧ Z 56 9 = x0))))) hx hG p0 k0 k1 hr (fun z Z' h' q1 q2 q3 q4 => ⟨z, Z', h', rfl, q1, q2, q3, q4⟩))
  subst e; exact ⟨z, Z', h', hca, q⟩
theorem ct_165_56x {l : Launch} {D : va_G} {b0 : Nat} {ad : Nat → Nat} {Hb : Heap} {tau : Nat → Int64} {T : Int → Int} {N : Int} {sg : SS} {d n s : Nat} {S : Nat → xS} {Z : xZ} {h : mx_H} (hx : XH n s S Z h) (hG : GI n S Z) {x0 : Int} (p0 : 0 ≤ x0 ∧ x0 ≤ 100) (k0 : (Z 56 6 ≤ Z 56 7 ∧ Z 56 7 ≤ Z 56 8 ∧ (Z 56 9 = 24 ∨ Z 56 6 < Z 56 7))) (k1 : ¬ x0 = 24) (hr : RMx T N Z sg) : ∃ (z : Int) (Z' : xZ) (h' : mx_H), mx_Ca (tB l D b0 ad Hb tau) (d + 7) 165 [.ref 56, xI x0] h (some (xI z), h') ∧ XH n s S Z' h' ∧ GI n S Z' ∧ fr' [(56, 6), (56, 7), (56, 9), (56, 10)] Z Z' ∧ (RMx T N Z' (gEt T N x0 sg) ∧ 0 ≤ z ∧ z ≤ 1 ∧ ((Z' 56 6 ≤ Z' 56 7 ∧ Z' 56 7 ≤ Z 56 8 ∧ (Z' 56 9 = 24 ∨ Z' 56 6 < Z' 56 7)) ∧ Z 56 6 ≤ Z' 56 6 ∧ (z = 1 → Z 56 11 = 0 ∧ Z 56 9 = x0 ∧ Z 56 6 + 1 ≤ Z' 56 6) ∧ (z = 0 → Z' 56 6 = Z 56 6 ∧ ¬ (Z 56 11 = 0 ∧ Z 56 9 = x0)))) := by
  obtain ⟨g, hg, hr⟩ := hr
  obtain ⟨z, Z', h', hca, q1, q2, q3, q5, q4⟩ := ct_165_56 (g0 := g) (T := T) (N := N) (sg := sg) (d := d) (l := l) (D := D) (b0 := b0) (ad := ad) (Hb := Hb) (tau := tau) hx hG p0 k0 k1 hr
  exact ⟨z, Z', h', hca, q1, q2, q3, ⟨g, hg, q5⟩, q4⟩
set_option maxRecDepth 100000 in
theorem cw_169_56_0 {l : Launch} {D : va_G} {b0 : Nat} {ad : Nat → Nat} {Hb : Heap} {tau : Nat → Int64} {d n s : Nat} {S : Nat → xS} {Z : xZ} {h : mx_H} {Post : mx_R → Prop} {a0 : Int} {g0 : Int} {T : Int → Int} {N : Int} {sg : SS} (hx : XH n s S Z h) (hG : GI n S Z)  {x0 : Int} (p0 : 0 ≤ x0 ∧ x0 ≤ 1004) (k0 : (Z 56 11 = 0 → Z 60 61 ≤ 899)) (k1 : a0 ≤ Z 60 61) (k2 : 0 ≤ a0) (k3 : 0 ≤ g0) (hr : RM g0 T N Z sg) (hP : ∀ (Z' : xZ) (h' : mx_H), XH n s S Z' h' → GI n S Z' → fr' [(60, (-1))] Z Z' → RM g0 T N Z' (gEm (x0) sg) ∧ QC Z Z' a0 1 0 ∧ (Z' 60 0 = Z 60 0 ∧ Z' 60 1 = Z 60 1 ∧ Z' 60 2 = Z 60 2 ∧ ((¬ Z 56 11 = 0 ∧ Z' 60 61 = Z 60 61) ∨ (Z 56 11 = 0 ∧ Z' 60 61 = Z 60 61 + 1))) → Post (none, h')) : mx_J (tB l D b0 ad Hb tau) mt_169 (d + 0) 0 [some (.ref 56), some (xI x0)] [] h Post := by
    have a56 : 56 < n := lt83 (GI_n hG) rfl
    have s56 : S 56 = .inl (12, [0, 2, 2, 2, 2, 0, 0, 0, 0, 0, 0, 0, 0, 0, 0, 2, 2, 2, 0, 2, 2, 2, 0, 0, 2, 2, 2, 2, 2, 2, 0, 0, 2, 2, 2, 2, 2, 2, 2, 2, 2, 2]) := GI_s hG 56 rfl
    have a60 : 60 < n := lt83 (GI_n hG) rfl
    have s60 : S 60 = .inr (.int, 962, 0) := GI_s hG 60 rfl
    refine mx_J.step (sn_169 0) (fun _ _ => rfl) ?_
    have b2 : 0 ≤ Z 56 11 ∧ Z 56 11 ≤ 4 := hG.pr 56 11
    refine JgetI (g := 11) (z := Z 56 11) hx (show mx_Sn _ _ 1 (mx_getf 12 11 4) from sn_169 1) a56 s56 rfl rfl rfl ?_
    refine Jif_eq (show mx_Sn _ _ 4 (mx_if_eq 8 7) from sn_169 4) (by omega) (fun q3 => ?_) (fun q3 => ?_)
    · skip
      refine mx_J.step (sn_169 8) (fun _ _ => rfl) ?_
      refine JgetR (g := 4) (b := 60) hx (show mx_Sn _ _ 9 (mx_getf 12 4 12) from sn_169 9) a56 s56 rfl rfl (hG.prr 56 4 rfl) ?_
      refine JcI (z := 62) (show mx_Sn _ _ 12 (mx_const (.int 62) 14) from sn_169 12) rfl ?_
      refine mx_J.step (sn_169 14) (fun _ _ => rfl) ?_
      refine JgetR (g := 4) (b := 60) hx (show mx_Sn _ _ 15 (mx_getf 12 4 18) from sn_169 15) a56 s56 rfl rfl (hG.prr 56 4 rfl) ?_
      refine JcI (z := 61) (show mx_Sn _ _ 18 (mx_const (.int 61) 20) from sn_169 18) rfl ?_
      have b6 : 0 ≤ Z 60 61 ∧ Z 60 61 ≤ 900 := by have hq := GI_ex hG 60 61; replace hq : f60 (61 % 962) (Z 60 61) := hq; unfold f60 at hq; omega
      have b7 : (-2147483648) ≤ Z 60 61 ∧ Z 60 61 ≤ 2147483647 := hG.pr 60 61
      refine JialdI (z := Z 60 61) hx (show mx_Sn _ _ 20 (mx_iald 21) from sn_169 20) a60 s60 (by omega) rfl ?_
      refine Jiadd (show mx_Sn _ _ 21 (mx_iadd 22) from sn_169 21) ?_
      refine mx_J.step (sn_169 22) (fun _ _ => rfl) ?_
      refine JiastI hx (show mx_Sn _ _ 23 (mx_iast 1 24) from sn_169 23) a60 s60 rfl (by omega) (fun Z8 h8 hx8 hE8 => ?_)
      have hG8 := GI_up hG hE8 (show (-2147483648) ≤ x0 ∧ x0 ≤ 2147483647 by omega) (show f60 ((62 + (Z 60 61)) % 962) (x0) by first | (rw [Int.emod_eq_of_lt (by omega) (by omega)]; unfold f60; omega) | assumption | (unfold f60; omega) | (unfold f60 at *; omega)) rfl
      refine mx_J.step (sn_169 24) (fun _ _ => rfl) ?_
      refine JgetR (g := 4) (b := 60) hx8 (show mx_Sn _ _ 25 (mx_getf 12 4 28) from sn_169 25) a56 s56 rfl rfl (hG8.prr 56 4 rfl) ?_
      refine JcI (z := 61) (show mx_Sn _ _ 28 (mx_const (.int 61) 30) from sn_169 28) rfl ?_
      refine mx_J.step (sn_169 30) (fun _ _ => rfl) ?_
      refine JialdI (z := Z 60 61) hx8 (show mx_Sn _ _ 31 (mx_iald 32) from sn_169 31) a60 s60 (by omega) (up_ni hE8 (by omega)) ?_
      refine JcI (z := 1) (show mx_Sn _ _ 32 (mx_const (.int 1) 33) from sn_169 32) rfl ?_
      refine Jiadd (show mx_Sn _ _ 33 (mx_iadd 34) from sn_169 33) ?_
      refine JiastI hx8 (show mx_Sn _ _ 34 (mx_iast 1 35) from sn_169 34) a60 s60 rfl (by omega) (fun Z10 h10 hx10 hE10 => ?_)
      have hG10 := GI_up hG8 hE10 (show (-2147483648) ≤ (Z 60 61) + 1 ∧ (Z 60 61) + 1 ≤ 2147483647 by omega) (show f60 ((61) % 962) ((Z 60 61) + 1) by first | assumption | (unfold f60; omega) | (unfold f60 at *; omega)) rfl
      have rc11 : RM g0 T N Z10 (gEm (x0) sg) := RM_e (RM_em hr ⟨((up_nk hE10 rfl).trans (up_nk hE8 rfl)), ((up_nk hE10 rfl).trans (up_nk hE8 rfl)), ((up_nk hE10 rfl).trans (up_nk hE8 rfl)), ((up_nk hE10 rfl).trans (up_nk hE8 rfl)), ((up_nk hE10 rfl).trans (up_nk hE8 rfl)), ((up_nk hE10 rfl).trans (up_nk hE8 rfl)), ((up_nk hE10 rfl).trans (up_nk hE8 rfl)), fun i => ((up_nk hE10 rfl).trans (up_nk hE8 rfl))⟩ (by omega) (up_at hE10) ((up_ni hE10 (by omega)).trans (up_at hE8)) (fun i h6 hi => (up_ni hE10 (by omega)).trans (up_ni hE8 hi)) (by omega)) (congrArg (fun w => gEm w sg) (um_a (by omega)))
      have c1 := cd_dp (a := a0) hE8 hE10 (by omega) (by omega)
      have dv := dl_e x0
      have c2 : MW Z a0 = 1 → nd x0 ≤ DP Z a0 → MW Z10 a0 = 1 := fun h1 h2 => cd_mw hE8 hE10 h1 (by unfold okc; omega) h2
      have c3 : WFF Z = 1 → WFF Z10 = 1 := cd_wf hE8 hE10 (by omega)
      have eq12 : Z10 60 61 = (Z 60 61) + 1 := (up_at hE10)
      have eq13 : Z10 60 0 = Z 60 0 := ((up_ni hE10 (by decide)).trans (up_ni hE8 (by omega)))
      have b14 : (-2147483648) ≤ Z 60 0 ∧ Z 60 0 ≤ 2147483647 := hG.pr 60 0
      have eq15 : Z10 60 1 = Z 60 1 := ((up_ni hE10 (by decide)).trans (up_ni hE8 (by omega)))
      have b16 : 0 ≤ Z 60 1 ∧ Z 60 1 ≤ 18 := by have hq := GI_ex hG 60 1; replace hq : f60 (1 % 962) (Z 60 1) := hq; unfold f60 at hq; omega
      have b17 : (-2147483648) ≤ Z 60 1 ∧ Z 60 1 ≤ 2147483647 := hG.pr 60 1
      have eq18 : Z10 60 2 = Z 60 2 := ((up_ni hE10 (by decide)).trans (up_ni hE8 (by omega)))
      have b19 : 0 ≤ Z 60 2 ∧ Z 60 2 ≤ 18 := by have hq := GI_ex hG 60 2; replace hq : f60 (2 % 962) (Z 60 2) := hq; unfold f60 at hq; omega
      have b20 : (-2147483648) ≤ Z 60 2 ∧ Z 60 2 ≤ 2147483647 := hG.pr 60 2
      have eq21 : Z10 56 8 = Z 56 8 := ((up_nk hE10 rfl).trans (up_nk hE8 rfl))
      have b22 : 0 ≤ Z 56 8 ∧ Z 56 8 ≤ 900 := hG.pr 56 8
      have eq23 : Z10 56 11 = Z 56 11 := ((up_nk hE10 rfl).trans (up_nk hE8 rfl))
      have eq24 : Z10 60 61 = (Z 60 61) + 1 := (up_at hE10)
      have eq25 : Z10 60 0 = Z 60 0 := ((up_ni hE10 (by decide)).trans (up_ni hE8 (by omega)))
      have eq26 : Z10 60 1 = Z 60 1 := ((up_ni hE10 (by decide)).trans (up_ni hE8 (by omega)))
      have eq27 : Z10 60 2 = Z 60 2 := ((up_ni hE10 (by decide)).trans (up_ni hE8 (by omega)))
      exact mx_J.ret (sn_169 35) (fun _ _ => rfl) (hP Z10 h10 hx10 hG10 (fr_tr (M := [(60, (-1))]) (fr_tr (M := [(60, (-1))]) fr_rf (fr_ua hE8) (M1 := []) rfl rfl) (fr_ua hE10) rfl rfl) ⟨rc11, fun e => ⟨by omega, fun h1 h2 => c2 h1 (by omega), c3⟩, by omega⟩)
    · skip
      have b28 : 0 ≤ Z 60 61 ∧ Z 60 61 ≤ 900 := by have hq := GI_ex hG 60 61; replace hq : f60 (61 % 962) (Z 60 61) := hq; unfold f60 at hq; omega
      have b29 : (-2147483648) ≤ Z 60 61 ∧ Z 60 61 ≤ 2147483647 := hG.pr 60 61
      have b30 : (-2147483648) ≤ Z 60 0 ∧ Z 60 0 ≤ 2147483647 := hG.pr 60 0
      have b31 : 0 ≤ Z 60 1 ∧ Z 60 1 ≤ 18 := by have hq := GI_ex hG 60 1; replace hq : f60 (1 % 962) (Z 60 1) := hq; unfold f60 at hq; omega
      have b32 : (-2147483648) ≤ Z 60 1 ∧ Z 60 1 ≤ 2147483647 := hG.pr 60 1
      have b33 : 0 ≤ Z 60 2 ∧ Z 60 2 ≤ 18 := by have hq := GI_ex hG 60 2; replace hq : f60 (2 % 962) (Z 60 2) := hq; unfold f60 at hq; omega
      have b34 : (-2147483648) ≤ Z 60 2 ∧ Z 60 2 ≤ 2147483647 := hG.pr 60 2
      have b35 : 0 ≤ Z 56 8 ∧ Z 56 8 ≤ 900 := hG.pr 56 8
      exact mx_J.ret (sn_169 7) (fun _ _ => rfl) (hP Z h hx hG fr_rf ⟨(RM_e hr (RM_emx hr (by omega))), fun e => absurd e (by omega), by omega⟩)
theorem ct_169_56_0 {l : Launch} {D : va_G} {b0 : Nat} {ad : Nat → Nat} {Hb : Heap} {tau : Nat → Int64} {d n s : Nat} {S : Nat → xS} {Z : xZ} {h : mx_H} {a0 : Int} {g0 : Int} {T : Int → Int} {N : Int} {sg : SS} (hx : XH n s S Z h) (hG : GI n S Z)  {x0 : Int} (p0 : 0 ≤ x0 ∧ x0 ≤ 1004) (k0 : (Z 56 11 = 0 → Z 60 61 ≤ 899)) (k1 : a0 ≤ Z 60 61) (k2 : 0 ≤ a0) (k3 : 0 ≤ g0) (hr : RM g0 T N Z sg) : ∃ (Z' : xZ) (h' : mx_H), mx_Ca (tB l D b0 ad Hb tau) (d + 1) 169 [.ref 56, xI x0] h (none, h') ∧ XH n s S Z' h' ∧ GI n S Z' ∧ fr' [(60, (-1))] Z Z' ∧ (RM g0 T N Z' (gEm (x0) sg) ∧ QC Z Z' a0 1 0 ∧ (Z' 60 0 = Z 60 0 ∧ Z' 60 1 = Z 60 1 ∧ Z' 60 2 = Z 60 2 ∧ ((¬ Z 56 11 = 0 ∧ Z' 60 61 = Z 60 61) ∨ (Z 56 11 = 0 ∧ Z' 60 61 = Z 60 61 + 1)))) := by
  obtain ⟨r, hca, Z', h', e, q⟩ := Jmt (B := tB l D b0 ad Hb tau) (M := mt_169) (mi := 169) (as := [.ref 56, xI x0]) (d := d + 0) (ls := [some (.ref 56), some (xI x0)]) rfl rfl rfl rfl rfl rfl (cw_169_56_0 (l := l) (D := D) (b0 := b0) (ad := ad) (Hb := Hb) (tau := tau) (d := d) (Post := fun r => ∃ (Z' : xZ) (h' : mx_H), r = (none, h') ∧ XH n s S Z' h' ∧ GI n S Z' ∧ fr' [(60, (-1))] Z Z' ∧ (RM g0 T N Z' (gEm (x0) sg) ∧ QC Z Z' a0 1 0 ∧ (Z' 60 0 = Z 60 0 ∧ Z' 60 1 = Z 60 1 ∧ Z' 60 2 = Z 60 2 ∧ ((¬ Z 56 11 = 0 ∧ Z' 60 61 = Z 60 61) ∨ (Z 56 11 = 0 ∧ Z' 60 61 = Z 60 61 + 1))))) hx hG p0 k0 k1 k2 k3 hr (fun Z' h' q1 q2 q3 q4 => ⟨Z', h', rfl, q1, q2, q3, q4⟩))
  subst e; exact ⟨Z', h', hca, q⟩
set_option maxRecDepth 100000 in
theorem cw_169_56_3002 {l : Launch} {D : va_G} {b0 : Nat} {ad : Nat → Nat} {Hb : Heap} {tau : Nat → Int64} {d n s : Nat} {S : Nat → xS} {Z : xZ} {h : mx_H} {Post : mx_R → Prop} {a0 : Int} {g0 : Int} {T : Int → Int} {N : Int} {sg : SS} (hx : XH n s S Z h) (hG : GI n S Z)   (k0 : (Z 56 11 = 0 → Z 60 61 ≤ 899)) (k1 : a0 ≤ Z 60 61) (k2 : 0 ≤ a0) (k3 : 0 ≤ g0) (hr : RM g0 T N Z sg) (hP : ∀ (Z' : xZ) (h' : mx_H), XH n s S Z' h' → GI n S Z' → fr' [(60, (-1))] Z Z' → RM g0 T N Z' (gEm (1012) sg) ∧ QC Z Z' a0 (-1) 2 ∧ (Z' 60 0 = Z 60 0 ∧ Z' 60 1 = Z 60 1 ∧ Z' 60 2 = Z 60 2 ∧ ((¬ Z 56 11 = 0 ∧ Z' 60 61 = Z 60 61) ∨ (Z 56 11 = 0 ∧ Z' 60 61 = Z 60 61 + 1))) → Post (none, h')) : mx_J (tB l D b0 ad Hb tau) mt_169 (d + 0) 0 [some (.ref 56), some (xI 3002)] [] h Post := by
    have a56 : 56 < n := lt83 (GI_n hG) rfl
    have s56 : S 56 = .inl (12, [0, 2, 2, 2, 2, 0, 0, 0, 0, 0, 0, 0, 0, 0, 0, 2, 2, 2, 0, 2, 2, 2, 0, 0, 2, 2, 2, 2, 2, 2, 0, 0, 2, 2, 2, 2, 2, 2, 2, 2, 2, 2]) := GI_s hG 56 rfl
    have a60 : 60 < n := lt83 (GI_n hG) rfl
    have s60 : S 60 = .inr (.int, 962, 0) := GI_s hG 60 rfl
    refine mx_J.step (sn_169 0) (fun _ _ => rfl) ?_
    have b2 : 0 ≤ Z 56 11 ∧ Z 56 11 ≤ 4 := hG.pr 56 11
    refine JgetI (g := 11) (z := Z 56 11) hx (show mx_Sn _ _ 1 (mx_getf 12 11 4) from sn_169 1) a56 s56 rfl rfl rfl ?_
    refine Jif_eq (show mx_Sn _ _ 4 (mx_if_eq 8 7) from sn_169 4) (by omega) (fun q3 => ?_) (fun q3 => ?_)
    · skip
      refine mx_J.step (sn_169 8) (fun _ _ => rfl) ?_
      refine JgetR (g := 4) (b := 60) hx (show mx_Sn _ _ 9 (mx_getf 12 4 12) from sn_169 9) a56 s56 rfl rfl (hG.prr 56 4 rfl) ?_
      refine JcI (z := 62) (show mx_Sn _ _ 12 (mx_const (.int 62) 14) from sn_169 12) rfl ?_
      refine mx_J.step (sn_169 14) (fun _ _ => rfl) ?_
      refine JgetR (g := 4) (b := 60) hx (show mx_Sn _ _ 15 (mx_getf 12 4 18) from sn_169 15) a56 s56 rfl rfl (hG.prr 56 4 rfl) ?_
      refine JcI (z := 61) (show mx_Sn _ _ 18 (mx_const (.int 61) 20) from sn_169 18) rfl ?_
      have b6 : 0 ≤ Z 60 61 ∧ Z 60 61 ≤ 900 := by have hq := GI_ex hG 60 61; replace hq : f60 (61 % 962) (Z 60 61) := hq; unfold f60 at hq; omega
      have b7 : (-2147483648) ≤ Z 60 61 ∧ Z 60 61 ≤ 2147483647 := hG.pr 60 61
      refine JialdI (z := Z 60 61) hx (show mx_Sn _ _ 20 (mx_iald 21) from sn_169 20) a60 s60 (by omega) rfl ?_
      refine Jiadd (show mx_Sn _ _ 21 (mx_iadd 22) from sn_169 21) ?_
      refine mx_J.step (sn_169 22) (fun _ _ => rfl) ?_
      refine JiastI hx (show mx_Sn _ _ 23 (mx_iast 1 24) from sn_169 23) a60 s60 rfl (by omega) (fun Z8 h8 hx8 hE8 => ?_)
      have hG8 := GI_up hG hE8 (show (-2147483648) ≤ 3002 ∧ 3002 ≤ 2147483647 by omega) (show f60 ((62 + (Z 60 61)) % 962) (3002) by first | (rw [Int.emod_eq_of_lt (by omega) (by omega)]; unfold f60; omega) | assumption | (unfold f60; omega) | (unfold f60 at *; omega)) rfl
      refine mx_J.step (sn_169 24) (fun _ _ => rfl) ?_
      refine JgetR (g := 4) (b := 60) hx8 (show mx_Sn _ _ 25 (mx_getf 12 4 28) from sn_169 25) a56 s56 rfl rfl (hG8.prr 56 4 rfl) ?_
      refine JcI (z := 61) (show mx_Sn _ _ 28 (mx_const (.int 61) 30) from sn_169 28) rfl ?_
      refine mx_J.step (sn_169 30) (fun _ _ => rfl) ?_
      refine JialdI (z := Z 60 61) hx8 (show mx_Sn _ _ 31 (mx_iald 32) from sn_169 31) a60 s60 (by omega) (up_ni hE8 (by omega)) ?_
      refine JcI (z := 1) (show mx_Sn _ _ 32 (mx_const (.int 1) 33) from sn_169 32) rfl ?_
      refine Jiadd (show mx_Sn _ _ 33 (mx_iadd 34) from sn_169 33) ?_
      refine JiastI hx8 (show mx_Sn _ _ 34 (mx_iast 1 35) from sn_169 34) a60 s60 rfl (by omega) (fun Z10 h10 hx10 hE10 => ?_)
      have hG10 := GI_up hG8 hE10 (show (-2147483648) ≤ (Z 60 61) + 1 ∧ (Z 60 61) + 1 ≤ 2147483647 by omega) (show f60 ((61) % 962) ((Z 60 61) + 1) by first | assumption | (unfold f60; omega) | (unfold f60 at *; omega)) rfl
      have rc11 : RM g0 T N Z10 (gEm (1012) sg) := RM_e (RM_em hr ⟨((up_nk hE10 rfl).trans (up_nk hE8 rfl)), ((up_nk hE10 rfl).trans (up_nk hE8 rfl)), ((up_nk hE10 rfl).trans (up_nk hE8 rfl)), ((up_nk hE10 rfl).trans (up_nk hE8 rfl)), ((up_nk hE10 rfl).trans (up_nk hE8 rfl)), ((up_nk hE10 rfl).trans (up_nk hE8 rfl)), ((up_nk hE10 rfl).trans (up_nk hE8 rfl)), fun i => ((up_nk hE10 rfl).trans (up_nk hE8 rfl))⟩ (by omega) (up_at hE10) ((up_ni hE10 (by omega)).trans (up_at hE8)) (fun i h6 hi => (up_ni hE10 (by omega)).trans (up_ni hE8 hi)) (by omega)) (congrArg (fun w => gEm w sg) (um_l.1))
      have c1 := cd_dp (a := a0) hE8 hE10 (by omega) (by omega)
      have dv := dl_e 3002
      have c2 : MW Z a0 = 1 → nd 3002 ≤ DP Z a0 → MW Z10 a0 = 1 := fun h1 h2 => cd_mw hE8 hE10 h1 (by unfold okc; omega) h2
      have c3 : WFF Z = 1 → WFF Z10 = 1 := cd_wf hE8 hE10 (by omega)
      have eq12 : Z10 60 61 = (Z 60 61) + 1 := (up_at hE10)
      have eq13 : Z10 60 0 = Z 60 0 := ((up_ni hE10 (by decide)).trans (up_ni hE8 (by omega)))
      have b14 : (-2147483648) ≤ Z 60 0 ∧ Z 60 0 ≤ 2147483647 := hG.pr 60 0
      have eq15 : Z10 60 1 = Z 60 1 := ((up_ni hE10 (by decide)).trans (up_ni hE8 (by omega)))
      have b16 : 0 ≤ Z 60 1 ∧ Z 60 1 ≤ 18 := by have hq := GI_ex hG 60 1; replace hq : f60 (1 % 962) (Z 60 1) := hq; unfold f60 at hq; omega
      have b17 : (-2147483648) ≤ Z 60 1 ∧ Z 60 1 ≤ 2147483647 := hG.pr 60 1
      have eq18 : Z10 60 2 = Z 60 2 := ((up_ni hE10 (by decide)).trans (up_ni hE8 (by omega)))
      have b19 : 0 ≤ Z 60 2 ∧ Z 60 2 ≤ 18 := by have hq := GI_ex hG 60 2; replace hq : f60 (2 % 962) (Z 60 2) := hq; unfold f60 at hq; omega
      have b20 : (-2147483648) ≤ Z 60 2 ∧ Z 60 2 ≤ 2147483647 := hG.pr 60 2
      have eq21 : Z10 56 8 = Z 56 8 := ((up_nk hE10 rfl).trans (up_nk hE8 rfl))
      have b22 : 0 ≤ Z 56 8 ∧ Z 56 8 ≤ 900 := hG.pr 56 8
      have eq23 : Z10 56 11 = Z 56 11 := ((up_nk hE10 rfl).trans (up_nk hE8 rfl))
      have eq24 : Z10 60 61 = (Z 60 61) + 1 := (up_at hE10)
      have eq25 : Z10 60 0 = Z 60 0 := ((up_ni hE10 (by decide)).trans (up_ni hE8 (by omega)))
      have eq26 : Z10 60 1 = Z 60 1 := ((up_ni hE10 (by decide)).trans (up_ni hE8 (by omega)))
      have eq27 : Z10 60 2 = Z 60 2 := ((up_ni hE10 (by decide)).trans (up_ni hE8 (by omega)))
      exact mx_J.ret (sn_169 35) (fun _ _ => rfl) (hP Z10 h10 hx10 hG10 (fr_tr (M := [(60, (-1))]) (fr_tr (M := [(60, (-1))]) fr_rf (fr_ua hE8) (M1 := []) rfl rfl) (fr_ua hE10) rfl rfl) ⟨rc11, fun e => ⟨by omega, fun h1 h2 => c2 h1 (by omega), c3⟩, by omega⟩)
    · skip
      have b28 : 0 ≤ Z 60 61 ∧ Z 60 61 ≤ 900 := by have hq := GI_ex hG 60 61; replace hq : f60 (61 % 962) (Z 60 61) := hq; unfold f60 at hq; omega
      have b29 : (-2147483648) ≤ Z 60 61 ∧ Z 60 61 ≤ 2147483647 := hG.pr 60 61
      have b30 : (-2147483648) ≤ Z 60 0 ∧ Z 60 0 ≤ 2147483647 := hG.pr 60 0
      have b31 : 0 ≤ Z 60 1 ∧ Z 60 1 ≤ 18 := by have hq := GI_ex hG 60 1; replace hq : f60 (1 % 962) (Z 60 1) := hq; unfold f60 at hq; omega
      have b32 : (-2147483648) ≤ Z 60 1 ∧ Z 60 1 ≤ 2147483647 := hG.pr 60 1
      have b33 : 0 ≤ Z 60 2 ∧ Z 60 2 ≤ 18 := by have hq := GI_ex hG 60 2; replace hq : f60 (2 % 962) (Z 60 2) := hq; unfold f60 at hq; omega
      have b34 : (-2147483648) ≤ Z 60 2 ∧ Z 60 2 ≤ 2147483647 := hG.pr 60 2
      have b35 : 0 ≤ Z 56 8 ∧ Z 56 8 ≤ 900 := hG.pr 56 8
      exact mx_J.ret (sn_169 7) (fun _ _ => rfl) (hP Z h hx hG fr_rf ⟨(RM_e hr (RM_emx hr (by omega))), fun e => absurd e (by omega), by omega⟩)
theorem ct_169_56_3002 {l : Launch} {D : va_G} {b0 : Nat} {ad : Nat → Nat} {Hb : Heap} {tau : Nat → Int64} {d n s : Nat} {S : Nat → xS} {Z : xZ} {h : mx_H} {a0 : Int} {g0 : Int} {T : Int → Int} {N : Int} {sg : SS} (hx : XH n s S Z h) (hG : GI n S Z)   (k0 : (Z 56 11 = 0 → Z 60 61 ≤ 899)) (k1 : a0 ≤ Z 60 61) (k2 : 0 ≤ a0) (k3 : 0 ≤ g0) (hr : RM g0 T N Z sg) : ∃ (Z' : xZ) (h' : mx_H), mx_Ca (tB l D b0 ad Hb tau) (d + 1) 169 [.ref 56, xI 3002] h (none, h') ∧ XH n s S Z' h' ∧ GI n S Z' ∧ fr' [(60, (-1))] Z Z' ∧ (RM g0 T N Z' (gEm (1012) sg) ∧ QC Z Z' a0 (-1) 2 ∧ (Z' 60 0 = Z 60 0 ∧ Z' 60 1 = Z 60 1 ∧ Z' 60 2 = Z 60 2 ∧ ((¬ Z 56 11 = 0 ∧ Z' 60 61 = Z 60 61) ∨ (Z 56 11 = 0 ∧ Z' 60 61 = Z 60 61 + 1)))) := by
  obtain ⟨r, hca, Z', h', e, q⟩ := Jmt (B := tB l D b0 ad Hb tau) (M := mt_169) (mi := 169) (as := [.ref 56, xI 3002]) (d := d + 0) (ls := [some (.ref 56), some (xI 3002)]) rfl rfl rfl rfl rfl rfl (cw_169_56_3002 (l := l) (D := D) (b0 := b0) (ad := ad) (Hb := Hb) (tau := tau) (d := d) (Post := fun r => ∃ (Z' : xZ) (h' : mx_H), r = (none, h') ∧ XH n s S Z' h' ∧ GI n S Z' ∧ fr' [(60, (-1))] Z Z' ∧ (RM g0 T N Z' (gEm (1012) sg) ∧ QC Z Z' a0 (-1) 2 ∧ (Z' 60 0 = Z 60 0 ∧ Z' 60 1 = Z 60 1 ∧ Z' 60 2 = Z 60 2 ∧ ((¬ Z 56 11 = 0 ∧ Z' 60 61 = Z 60 61) ∨ (Z 56 11 = 0 ∧ Z' 60 61 = Z 60 61 + 1))))) hx hG k0 k1 k2 k3 hr (fun Z' h' q1 q2 q3 q4 => ⟨Z', h', rfl, q1, q2, q3, q4⟩))
  subst e; exact ⟨Z', h', hca, q⟩
set_option maxRecDepth 100000 in
theorem cw_169_56_3006 {l : Launch} {D : va_G} {b0 : Nat} {ad : Nat → Nat} {Hb : Heap} {tau : Nat → Int64} {d n s : Nat} {S : Nat → xS} {Z : xZ} {h : mx_H} {Post : mx_R → Prop} {a0 : Int} {g0 : Int} {T : Int → Int} {N : Int} {sg : SS} (hx : XH n s S Z h) (hG : GI n S Z)   (k0 : (Z 56 11 = 0 → Z 60 61 ≤ 899)) (k1 : a0 ≤ Z 60 61) (k2 : 0 ≤ a0) (k3 : 0 ≤ g0) (hr : RM g0 T N Z sg) (hP : ∀ (Z' : xZ) (h' : mx_H), XH n s S Z' h' → GI n S Z' → fr' [(60, (-1))] Z Z' → RM g0 T N Z' (gEm (1018) sg) ∧ QC Z Z' a0 0 1 ∧ (Z' 60 0 = Z 60 0 ∧ Z' 60 1 = Z 60 1 ∧ Z' 60 2 = Z 60 2 ∧ ((¬ Z 56 11 = 0 ∧ Z' 60 61 = Z 60 61) ∨ (Z 56 11 = 0 ∧ Z' 60 61 = Z 60 61 + 1))) → Post (none, h')) : mx_J (tB l D b0 ad Hb tau) mt_169 (d + 0) 0 [some (.ref 56), some (xI 3006)] [] h Post := by
    have a56 : 56 < n := lt83 (GI_n hG) rfl
    have s56 : S 56 = .inl (12, [0, 2, 2, 2, 2, 0, 0, 0, 0, 0, 0, 0, 0, 0, 0, 2, 2, 2, 0, 2, 2, 2, 0, 0, 2, 2, 2, 2, 2, 2, 0, 0, 2, 2, 2, 2, 2, 2, 2, 2, 2, 2]) := GI_s hG 56 rfl
    have a60 : 60 < n := lt83 (GI_n hG) rfl
    have s60 : S 60 = .inr (.int, 962, 0) := GI_s hG 60 rfl
    refine mx_J.step (sn_169 0) (fun _ _ => rfl) ?_
    have b2 : 0 ≤ Z 56 11 ∧ Z 56 11 ≤ 4 := hG.pr 56 11
    refine JgetI (g := 11) (z := Z 56 11) hx (show mx_Sn _ _ 1 (mx_getf 12 11 4) from sn_169 1) a56 s56 rfl rfl rfl ?_
    refine Jif_eq (show mx_Sn _ _ 4 (mx_if_eq 8 7) from sn_169 4) (by omega) (fun q3 => ?_) (fun q3 => ?_)
    · skip
      refine mx_J.step (sn_169 8) (fun _ _ => rfl) ?_
      refine JgetR (g := 4) (b := 60) hx (show mx_Sn _ _ 9 (mx_getf 12 4 12) from sn_169 9) a56 s56 rfl rfl (hG.prr 56 4 rfl) ?_
      refine JcI (z := 62) (show mx_Sn _ _ 12 (mx_const (.int 62) 14) from sn_169 12) rfl ?_
      refine mx_J.step (sn_169 14) (fun _ _ => rfl) ?_
      refine JgetR (g := 4) (b := 60) hx (show mx_Sn _ _ 15 (mx_getf 12 4 18) from sn_169 15) a56 s56 rfl rfl (hG.prr 56 4 rfl) ?_
      refine JcI (z := 61) (show mx_Sn _ _ 18 (mx_const (.int 61) 20) from sn_169 18) rfl ?_
      have b6 : 0 ≤ Z 60 61 ∧ Z 60 61 ≤ 900 := by have hq := GI_ex hG 60 61; replace hq : f60 (61 % 962) (Z 60 61) := hq; unfold f60 at hq; omega
      have b7 : (-2147483648) ≤ Z 60 61 ∧ Z 60 61 ≤ 2147483647 := hG.pr 60 61
      refine JialdI (z := Z 60 61) hx (show mx_Sn _ _ 20 (mx_iald 21) from sn_169 20) a60 s60 (by omega) rfl ?_
      refine Jiadd (show mx_Sn _ _ 21 (mx_iadd 22) from sn_169 21) ?_
      refine mx_J.step (sn_169 22) (fun _ _ => rfl) ?_
      refine JiastI hx (show mx_Sn _ _ 23 (mx_iast 1 24) from sn_169 23) a60 s60 rfl (by omega) (fun Z8 h8 hx8 hE8 => ?_)
      have hG8 := GI_up hG hE8 (show (-2147483648) ≤ 3006 ∧ 3006 ≤ 2147483647 by omega) (show f60 ((62 + (Z 60 61)) % 962) (3006) by first | (rw [Int.emod_eq_of_lt (by omega) (by omega)]; unfold f60; omega) | assumption | (unfold f60; omega) | (unfold f60 at *; omega)) rfl
      refine mx_J.step (sn_169 24) (fun _ _ => rfl) ?_
      refine JgetR (g := 4) (b := 60) hx8 (show mx_Sn _ _ 25 (mx_getf 12 4 28) from sn_169 25) a56 s56 rfl rfl (hG8.prr 56 4 rfl) ?_
      refine JcI (z := 61) (show mx_Sn _ _ 28 (mx_const (.int 61) 30) from sn_169 28) rfl ?_
      refine mx_J.step (sn_169 30) (fun _ _ => rfl) ?_
      refine JialdI (z := Z 60 61) hx8 (show mx_Sn _ _ 31 (mx_iald 32) from sn_169 31) a60 s60 (by omega) (up_ni hE8 (by omega)) ?_
      refine JcI (z := 1) (show mx_Sn _ _ 32 (mx_const (.int 1) 33) from sn_169 32) rfl ?_
      refine Jiadd (show mx_Sn _ _ 33 (mx_iadd 34) from sn_169 33) ?_
      refine JiastI hx8 (show mx_Sn _ _ 34 (mx_iast 1 35) from sn_169 34) a60 s60 rfl (by omega) (fun Z10 h10 hx10 hE10 => ?_)
      have hG10 := GI_up hG8 hE10 (show (-2147483648) ≤ (Z 60 61) + 1 ∧ (Z 60 61) + 1 ≤ 2147483647 by omega) (show f60 ((61) % 962) ((Z 60 61) + 1) by first | assumption | (unfold f60; omega) | (unfold f60 at *; omega)) rfl
      have rc11 : RM g0 T N Z10 (gEm (1018) sg) := RM_e (RM_em hr ⟨((up_nk hE10 rfl).trans (up_nk hE8 rfl)), ((up_nk hE10 rfl).trans (up_nk hE8 rfl)), ((up_nk hE10 rfl).trans (up_nk hE8 rfl)), ((up_nk hE10 rfl).trans (up_nk hE8 rfl)), ((up_nk hE10 rfl).trans (up_nk hE8 rfl)), ((up_nk hE10 rfl).trans (up_nk hE8 rfl)), ((up_nk hE10 rfl).trans (up_nk hE8 rfl)), fun i => ((up_nk hE10 rfl).trans (up_nk hE8 rfl))⟩ (by omega) (up_at hE10) ((up_ni hE10 (by omega)).trans (up_at hE8)) (fun i h6 hi => (up_ni hE10 (by omega)).trans (up_ni hE8 hi)) (by omega)) (congrArg (fun w => gEm w sg) (um_l.2.1))
      have c1 := cd_dp (a := a0) hE8 hE10 (by omega) (by omega)
      have dv := dl_e 3006
      have c2 : MW Z a0 = 1 → nd 3006 ≤ DP Z a0 → MW Z10 a0 = 1 := fun h1 h2 => cd_mw hE8 hE10 h1 (by unfold okc; omega) h2
      have c3 : WFF Z = 1 → WFF Z10 = 1 := cd_wf hE8 hE10 (by omega)
      have eq12 : Z10 60 61 = (Z 60 61) + 1 := (up_at hE10)
      have eq13 : Z10 60 0 = Z 60 0 := ((up_ni hE10 (by decide)).trans (up_ni hE8 (by omega)))
      have b14 : (-2147483648) ≤ Z 60 0 ∧ Z 60 0 ≤ 2147483647 := hG.pr 60 0
      have eq15 : Z10 60 1 = Z 60 1 := ((up_ni hE10 (by decide)).trans (up_ni hE8 (by omega)))
      have b16 : 0 ≤ Z 60 1 ∧ Z 60 1 ≤ 18 := by have hq := GI_ex hG 60 1; replace hq : f60 (1 % 962) (Z 60 1) := hq; unfold f60 at hq; omega
      have b17 : (-2147483648) ≤ Z 60 1 ∧ Z 60 1 ≤ 2147483647 := hG.pr 60 1
      have eq18 : Z10 60 2 = Z 60 2 := ((up_ni hE10 (by decide)).trans (up_ni hE8 (by omega)))
      have b19 : 0 ≤ Z 60 2 ∧ Z 60 2 ≤ 18 := by have hq := GI_ex hG 60 2; replace hq : f60 (2 % 962) (Z 60 2) := hq; unfold f60 at hq; omega
      have b20 : (-2147483648) ≤ Z 60 2 ∧ Z 60 2 ≤ 2147483647 := hG.pr 60 2
      have eq21 : Z10 56 8 = Z 56 8 := ((up_nk hE10 rfl).trans (up_nk hE8 rfl))
      have b22 : 0 ≤ Z 56 8 ∧ Z 56 8 ≤ 900 := hG.pr 56 8
      have eq23 : Z10 56 11 = Z 56 11 := ((up_nk hE10 rfl).trans (up_nk hE8 rfl))
      have eq24 : Z10 60 61 = (Z 60 61) + 1 := (up_at hE10)
      have eq25 : Z10 60 0 = Z 60 0 := ((up_ni hE10 (by decide)).trans (up_ni hE8 (by omega)))
      have eq26 : Z10 60 1 = Z 60 1 := ((up_ni hE10 (by decide)).trans (up_ni hE8 (by omega)))
      have eq27 : Z10 60 2 = Z 60 2 := ((up_ni hE10 (by decide)).trans (up_ni hE8 (by omega)))
      exact mx_J.ret (sn_169 35) (fun _ _ => rfl) (hP Z10 h10 hx10 hG10 (fr_tr (M := [(60, (-1))]) (fr_tr (M := [(60, (-1))]) fr_rf (fr_ua hE8) (M1 := []) rfl rfl) (fr_ua hE10) rfl rfl) ⟨rc11, fun e => ⟨by omega, fun h1 h2 => c2 h1 (by omega), c3⟩, by omega⟩)
    · skip
      have b28 : 0 ≤ Z 60 61 ∧ Z 60 61 ≤ 900 := by have hq := GI_ex hG 60 61; replace hq : f60 (61 % 962) (Z 60 61) := hq; unfold f60 at hq; omega
      have b29 : (-2147483648) ≤ Z 60 61 ∧ Z 60 61 ≤ 2147483647 := hG.pr 60 61
      have b30 : (-2147483648) ≤ Z 60 0 ∧ Z 60 0 ≤ 2147483647 := hG.pr 60 0
      have b31 : 0 ≤ Z 60 1 ∧ Z 60 1 ≤ 18 := by have hq := GI_ex hG 60 1; replace hq : f60 (1 % 962) (Z 60 1) := hq; unfold f60 at hq; omega
      have b32 : (-2147483648) ≤ Z 60 1 ∧ Z 60 1 ≤ 2147483647 := hG.pr 60 1
      have b33 : 0 ≤ Z 60 2 ∧ Z 60 2 ≤ 18 := by have hq := GI_ex hG 60 2; replace hq : f60 (2 % 962) (Z 60 2) := hq; unfold f60 at hq; omega
      have b34 : (-2147483648) ≤ Z 60 2 ∧ Z 60 2 ≤ 2147483647 := hG.pr 60 2
      have b35 : 0 ≤ Z 56 8 ∧ Z 56 8 ≤ 900 := hG.pr 56 8
      exact mx_J.ret (sn_169 7) (fun _ _ => rfl) (hP Z h hx hG fr_rf ⟨(RM_e hr (RM_emx hr (by omega))), fun e => absurd e (by omega), by omega⟩)
theorem ct_169_56_3006 {l : Launch} {D : va_G} {b0 : Nat} {ad : Nat → Nat} {Hb : Heap} {tau : Nat → Int64} {d n s : Nat} {S : Nat → xS} {Z : xZ} {h : mx_H} {a0 : Int} {g0 : Int} {T : Int → Int} {N : Int} {sg : SS} (hx : XH n s S Z h) (hG : GI n S Z)   (k0 : (Z 56 11 = 0 → Z 60 61 ≤ 899)) (k1 : a0 ≤ Z 60 61) (k2 : 0 ≤ a0) (k3 : 0 ≤ g0) (hr : RM g0 T N Z sg) : ∃ (Z' : xZ) (h' : mx_H), mx_Ca (tB l D b0 ad Hb tau) (d + 1) 169 [.ref 56, xI 3006] h (none, h') ∧ XH n s S Z' h' ∧ GI n S Z' ∧ fr' [(60, (-1))] Z Z' ∧ (RM g0 T N Z' (gEm (1018) sg) ∧ QC Z Z' a0 0 1 ∧ (Z' 60 0 = Z 60 0 ∧ Z' 60 1 = Z 60 1 ∧ Z' 60 2 = Z 60 2 ∧ ((¬ Z 56 11 = 0 ∧ Z' 60 61 = Z 60 61) ∨ (Z 56 11 = 0 ∧ Z' 60 61 = Z 60 61 + 1)))) := by
  obtain ⟨r, hca, Z', h', e, q⟩ := Jmt (B := tB l D b0 ad Hb tau) (M := mt_169) (mi := 169) (as := [.ref 56, xI 3006]) (d := d + 0) (ls := [some (.ref 56), some (xI 3006)]) rfl rfl rfl rfl rfl rfl (cw_169_56_3006 (l := l) (D := D) (b0 := b0) (ad := ad) (Hb := Hb) (tau := tau) (d := d) (Post := fun r => ∃ (Z' : xZ) (h' : mx_H), r = (none, h') ∧ XH n s S Z' h' ∧ GI n S Z' ∧ fr' [(60, (-1))] Z Z' ∧ (RM g0 T N Z' (gEm (1018) sg) ∧ QC Z Z' a0 0 1 ∧ (Z' 60 0 = Z 60 0 ∧ Z' 60 1 = Z 60 1 ∧ Z' 60 2 = Z 60 2 ∧ ((¬ Z 56 11 = 0 ∧ Z' 60 61 = Z 60 61) ∨ (Z 56 11 = 0 ∧ Z' 60 61 = Z 60 61 + 1))))) hx hG k0 k1 k2 k3 hr (fun Z' h' q1 q2 q3 q4 => ⟨Z', h', rfl, q1, q2, q3, q4⟩))
  subst e; exact ⟨Z', h', hca, q⟩
set_option maxRecDepth 100000 in
theorem cw_169_56_3009 {l : Launch} {D : va_G} {b0 : Nat} {ad : Nat → Nat} {Hb : Heap} {tau : Nat → Int64} {d n s : Nat} {S : Nat → xS} {Z : xZ} {h : mx_H} {Post : mx_R → Prop} {a0 : Int} {g0 : Int} {T : Int → Int} {N : Int} {sg : SS} (hx : XH n s S Z h) (hG : GI n S Z)   (k0 : (Z 56 11 = 0 → Z 60 61 ≤ 899)) (k1 : a0 ≤ Z 60 61) (k2 : 0 ≤ a0) (k3 : 0 ≤ g0) (hr : RM g0 T N Z sg) (hP : ∀ (Z' : xZ) (h' : mx_H), XH n s S Z' h' → GI n S Z' → fr' [(60, (-1))] Z Z' → RM g0 T N Z' (gEm (1019) sg) ∧ QC Z Z' a0 (-2) 3 ∧ (Z' 60 0 = Z 60 0 ∧ Z' 60 1 = Z 60 1 ∧ Z' 60 2 = Z 60 2 ∧ ((¬ Z 56 11 = 0 ∧ Z' 60 61 = Z 60 61) ∨ (Z 56 11 = 0 ∧ Z' 60 61 = Z 60 61 + 1))) → Post (none, h')) : mx_J (tB l D b0 ad Hb tau) mt_169 (d + 0) 0 [some (.ref 56), some (xI 3009)] [] h Post := by
    have a56 : 56 < n := lt83 (GI_n hG) rfl
    have s56 : S 56 = .inl (12, [0, 2, 2, 2, 2, 0, 0, 0, 0, 0, 0, 0, 0, 0, 0, 2, 2, 2, 0, 2, 2, 2, 0, 0, 2, 2, 2, 2, 2, 2, 0, 0, 2, 2, 2, 2, 2, 2, 2, 2, 2, 2]) := GI_s hG 56 rfl
    have a60 : 60 < n := lt83 (GI_n hG) rfl
    have s60 : S 60 = .inr (.int, 962, 0) := GI_s hG 60 rfl
    refine mx_J.step (sn_169 0) (fun _ _ => rfl) ?_
    have b2 : 0 ≤ Z 56 11 ∧ Z 56 11 ≤ 4 := hG.pr 56 11
    refine JgetI (g := 11) (z := Z 56 11) hx (show mx_Sn _ _ 1 (mx_getf 12 11 4) from sn_169 1) a56 s56 rfl rfl rfl ?_
    refine Jif_eq (show mx_Sn _ _ 4 (mx_if_eq 8 7) from sn_169 4) (by omega) (fun q3 => ?_) (fun q3 => ?_)
    · skip
      refine mx_J.step (sn_169 8) (fun _ _ => rfl) ?_
      refine JgetR (g := 4) (b := 60) hx (show mx_Sn _ _ 9 (mx_getf 12 4 12) from sn_169 9) a56 s56 rfl rfl (hG.prr 56 4 rfl) ?_
      refine JcI (z := 62) (show mx_Sn _ _ 12 (mx_const (.int 62) 14) from sn_169 12) rfl ?_
      refine mx_J.step (sn_169 14) (fun _ _ => rfl) ?_
      refine JgetR (g := 4) (b := 60) hx (show mx_Sn _ _ 15 (mx_getf 12 4 18) from sn_169 15) a56 s56 rfl rfl (hG.prr 56 4 rfl) ?_
      refine JcI (z := 61) (show mx_Sn _ _ 18 (mx_const (.int 61) 20) from sn_169 18) rfl ?_
      have b6 : 0 ≤ Z 60 61 ∧ Z 60 61 ≤ 900 := by have hq := GI_ex hG 60 61; replace hq : f60 (61 % 962) (Z 60 61) := hq; unfold f60 at hq; omega
      have b7 : (-2147483648) ≤ Z 60 61 ∧ Z 60 61 ≤ 2147483647 := hG.pr 60 61
      refine JialdI (z := Z 60 61) hx (show mx_Sn _ _ 20 (mx_iald 21) from sn_169 20) a60 s60 (by omega) rfl ?_
      refine Jiadd (show mx_Sn _ _ 21 (mx_iadd 22) from sn_169 21) ?_
      refine mx_J.step (sn_169 22) (fun _ _ => rfl) ?_
      refine JiastI hx (show mx_Sn _ _ 23 (mx_iast 1 24) from sn_169 23) a60 s60 rfl (by omega) (fun Z8 h8 hx8 hE8 => ?_)
      have hG8 := GI_up hG hE8 (show (-2147483648) ≤ 3009 ∧ 3009 ≤ 2147483647 by omega) (show f60 ((62 + (Z 60 61)) % 962) (3009) by first | (rw [Int.emod_eq_of_lt (by omega) (by omega)]; unfold f60; omega) | assumption | (unfold f60; omega) | (unfold f60 at *; omega)) rfl
      refine mx_J.step (sn_169 24) (fun _ _ => rfl) ?_
      refine JgetR (g := 4) (b := 60) hx8 (show mx_Sn _ _ 25 (mx_getf 12 4 28) from sn_169 25) a56 s56 rfl rfl (hG8.prr 56 4 rfl) ?_
      refine JcI (z := 61) (show mx_Sn _ _ 28 (mx_const (.int 61) 30) from sn_169 28) rfl ?_
      refine mx_J.step (sn_169 30) (fun _ _ => rfl) ?_
      refine JialdI (z := Z 60 61) hx8 (show mx_Sn _ _ 31 (mx_iald 32) from sn_169 31) a60 s60 (by omega) (up_ni hE8 (by omega)) ?_
      refine JcI (z := 1) (show mx_Sn _ _ 32 (mx_const (.int 1) 33) from sn_169 32) rfl ?_
      refine Jiadd (show mx_Sn _ _ 33 (mx_iadd 34) from sn_169 33) ?_
      refine JiastI hx8 (show mx_Sn _ _ 34 (mx_iast 1 35) from sn_169 34) a60 s60 rfl (by omega) (fun Z10 h10 hx10 hE10 => ?_)
      have hG10 := GI_up hG8 hE10 (show (-2147483648) ≤ (Z 60 61) + 1 ∧ (Z 60 61) + 1 ≤ 2147483647 by omega) (show f60 ((61) % 962) ((Z 60 61) + 1) by first | assumption | (unfold f60; omega) | (unfold f60 at *; omega)) rfl
      have rc11 : RM g0 T N Z10 (gEm (1019) sg) := RM_e (RM_em hr ⟨((up_nk hE10 rfl).trans (up_nk hE8 rfl)), ((up_nk hE10 rfl).trans (up_nk hE8 rfl)), ((up_nk hE10 rfl).trans (up_nk hE8 rfl)), ((up_nk hE10 rfl).trans (up_nk hE8 rfl)), ((up_nk hE10 rfl).trans (up_nk hE8 rfl)), ((up_nk hE10 rfl).trans (up_nk hE8 rfl)), ((up_nk hE10 rfl).trans (up_nk hE8 rfl)), fun i => ((up_nk hE10 rfl).trans (up_nk hE8 rfl))⟩ (by omega) (up_at hE10) ((up_ni hE10 (by omega)).trans (up_at hE8)) (fun i h6 hi => (up_ni hE10 (by omega)).trans (up_ni hE8 hi)) (by omega)) (congrArg (fun w => gEm w sg) (um_l.2.2.2.2))
      have c1 := cd_dp (a := a0) hE8 hE10 (by omega) (by omega)
      have dv := dl_e 3009
      have c2 : MW Z a0 = 1 → nd 3009 ≤ DP Z a0 → MW Z10 a0 = 1 := fun h1 h2 => cd_mw hE8 hE10 h1 (by unfold okc; omega) h2
      have c3 : WFF Z = 1 → WFF Z10 = 1 := cd_wf hE8 hE10 (by omega)
      have eq12 : Z10 60 61 = (Z 60 61) + 1 := (up_at hE10)
      have eq13 : Z10 60 0 = Z 60 0 := ((up_ni hE10 (by decide)).trans (up_ni hE8 (by omega)))
      have b14 : (-2147483648) ≤ Z 60 0 ∧ Z 60 0 ≤ 2147483647 := hG.pr 60 0
      have eq15 : Z10 60 1 = Z 60 1 := ((up_ni hE10 (by decide)).trans (up_ni hE8 (by omega)))
      have b16 : 0 ≤ Z 60 1 ∧ Z 60 1 ≤ 18 := by have hq := GI_ex hG 60 1; replace hq : f60 (1 % 962) (Z 60 1) := hq; unfold f60 at hq; omega
      have b17 : (-2147483648) ≤ Z 60 1 ∧ Z 60 1 ≤ 2147483647 := hG.pr 60 1
      have eq18 : Z10 60 2 = Z 60 2 := ((up_ni hE10 (by decide)).trans (up_ni hE8 (by omega)))
      have b19 : 0 ≤ Z 60 2 ∧ Z 60 2 ≤ 18 := by have hq := GI_ex hG 60 2; replace hq : f60 (2 % 962) (Z 60 2) := hq; unfold f60 at hq; omega
      have b20 : (-2147483648) ≤ Z 60 2 ∧ Z 60 2 ≤ 2147483647 := hG.pr 60 2
      have eq21 : Z10 56 8 = Z 56 8 := ((up_nk hE10 rfl).trans (up_nk hE8 rfl))
      have b22 : 0 ≤ Z 56 8 ∧ Z 56 8 ≤ 900 := hG.pr 56 8
      have eq23 : Z10 56 11 = Z 56 11 := ((up_nk hE10 rfl).trans (up_nk hE8 rfl))
      have eq24 : Z10 60 61 = (Z 60 61) + 1 := (up_at hE10)
      have eq25 : Z10 60 0 = Z 60 0 := ((up_ni hE10 (by decide)).trans (up_ni hE8 (by omega)))
      have eq26 : Z10 60 1 = Z 60 1 := ((up_ni hE10 (by decide)).trans (up_ni hE8 (by omega)))
      have eq27 : Z10 60 2 = Z 60 2 := ((up_ni hE10 (by decide)).trans (up_ni hE8 (by omega)))
      exact mx_J.ret (sn_169 35) (fun _ _ => rfl) (hP Z10 h10 hx10 hG10 (fr_tr (M := [(60, (-1))]) (fr_tr (M := [(60, (-1))]) fr_rf (fr_ua hE8) (M1 := []) rfl rfl) (fr_ua hE10) rfl rfl) ⟨rc11, fun e => ⟨by omega, fun h1 h2 => c2 h1 (by omega), c3⟩, by omega⟩)
    · skip
      have b28 : 0 ≤ Z 60 61 ∧ Z 60 61 ≤ 900 := by have hq := GI_ex hG 60 61; replace hq : f60 (61 % 962) (Z 60 61) := hq; unfold f60 at hq; omega
      have b29 : (-2147483648) ≤ Z 60 61 ∧ Z 60 61 ≤ 2147483647 := hG.pr 60 61
      have b30 : (-2147483648) ≤ Z 60 0 ∧ Z 60 0 ≤ 2147483647 := hG.pr 60 0
      have b31 : 0 ≤ Z 60 1 ∧ Z 60 1 ≤ 18 := by have hq := GI_ex hG 60 1; replace hq : f60 (1 % 962) (Z 60 1) := hq; unfold f60 at hq; omega
      have b32 : (-2147483648) ≤ Z 60 1 ∧ Z 60 1 ≤ 2147483647 := hG.pr 60 1
      have b33 : 0 ≤ Z 60 2 ∧ Z 60 2 ≤ 18 := by have hq := GI_ex hG 60 2; replace hq : f60 (2 % 962) (Z 60 2) := hq; unfold f60 at hq; omega
      have b34 : (-2147483648) ≤ Z 60 2 ∧ Z 60 2 ≤ 2147483647 := hG.pr 60 2
      have b35 : 0 ≤ Z 56 8 ∧ Z 56 8 ≤ 900 := hG.pr 56 8
      exact mx_J.ret (sn_169 7) (fun _ _ => rfl) (hP Z h hx hG fr_rf ⟨(RM_e hr (RM_emx hr (by omega))), fun e => absurd e (by omega), by omega⟩)
theorem ct_169_56_3009 {l : Launch} {D : va_G} {b0 : Nat} {ad : Nat → Nat} {Hb : Heap} {tau : Nat → Int64} {d n s : Nat} {S : Nat → xS} {Z : xZ} {h : mx_H} {a0 : Int} {g0 : Int} {T : Int → Int} {N : Int} {sg : SS} (hx : XH n s S Z h) (hG : GI n S Z)   (k0 : (Z 56 11 = 0 → Z 60 61 ≤ 899)) (k1 : a0 ≤ Z 60 61) (k2 : 0 ≤ a0) (k3 : 0 ≤ g0) (hr : RM g0 T N Z sg) : ∃ (Z' : xZ) (h' : mx_H), mx_Ca (tB l D b0 ad Hb tau) (d + 1) 169 [.ref 56, xI 3009] h (none, h') ∧ XH n s S Z' h' ∧ GI n S Z' ∧ fr' [(60, (-1))] Z Z' ∧ (RM g0 T N Z' (gEm (1019) sg) ∧ QC Z Z' a0 (-2) 3 ∧ (Z' 60 0 = Z 60 0 ∧ Z' 60 1 = Z 60 1 ∧ Z' 60 2 = Z 60 2 ∧ ((¬ Z 56 11 = 0 ∧ Z' 60 61 = Z 60 61) ∨ (Z 56 11 = 0 ∧ Z' 60 61 = Z 60 61 + 1)))) := by
  obtain ⟨r, hca, Z', h', e, q⟩ := Jmt (B := tB l D b0 ad Hb tau) (M := mt_169) (mi := 169) (as := [.ref 56, xI 3009]) (d := d + 0) (ls := [some (.ref 56), some (xI 3009)]) rfl rfl rfl rfl rfl rfl (cw_169_56_3009 (l := l) (D := D) (b0 := b0) (ad := ad) (Hb := Hb) (tau := tau) (d := d) (Post := fun r => ∃ (Z' : xZ) (h' : mx_H), r = (none, h') ∧ XH n s S Z' h' ∧ GI n S Z' ∧ fr' [(60, (-1))] Z Z' ∧ (RM g0 T N Z' (gEm (1019) sg) ∧ QC Z Z' a0 (-2) 3 ∧ (Z' 60 0 = Z 60 0 ∧ Z' 60 1 = Z 60 1 ∧ Z' 60 2 = Z 60 2 ∧ ((¬ Z 56 11 = 0 ∧ Z' 60 61 = Z 60 61) ∨ (Z 56 11 = 0 ∧ Z' 60 61 = Z 60 61 + 1))))) hx hG k0 k1 k2 k3 hr (fun Z' h' q1 q2 q3 q4 => ⟨Z', h', rfl, q1, q2, q3, q4⟩))
  subst e; exact ⟨Z', h', hca, q⟩
set_option maxRecDepth 100000 in
theorem cw_169_56_3000 {l : Launch} {D : va_G} {b0 : Nat} {ad : Nat → Nat} {Hb : Heap} {tau : Nat → Int64} {d n s : Nat} {S : Nat → xS} {Z : xZ} {h : mx_H} {Post : mx_R → Prop} {a0 : Int} {g0 : Int} {T : Int → Int} {N : Int} {sg : SS} (hx : XH n s S Z h) (hG : GI n S Z)  {x0 : Int} (p0 : 3000 ≤ x0 ∧ x0 ≤ 3005) (k0 : (Z 56 11 = 0 → Z 60 61 ≤ 899)) (k1 : a0 ≤ Z 60 61) (k2 : 0 ≤ a0) (k3 : 0 ≤ g0) (hr : RM g0 T N Z sg) (hP : ∀ (Z' : xZ) (h' : mx_H), XH n s S Z' h' → GI n S Z' → fr' [(60, (-1))] Z Z' → RM g0 T N Z' (gEm (x0 - 1990) sg) ∧ QC Z Z' a0 (-1) 2 ∧ (Z' 60 0 = Z 60 0 ∧ Z' 60 1 = Z 60 1 ∧ Z' 60 2 = Z 60 2 ∧ ((¬ Z 56 11 = 0 ∧ Z' 60 61 = Z 60 61) ∨ (Z 56 11 = 0 ∧ Z' 60 61 = Z 60 61 + 1))) → Post (none, h')) : mx_J (tB l D b0 ad Hb tau) mt_169 (d + 0) 0 [some (.ref 56), some (xI x0)] [] h Post := by
    have a56 : 56 < n := lt83 (GI_n hG) rfl
    have s56 : S 56 = .inl (12, [0, 2, 2, 2, 2, 0, 0, 0, 0, 0, 0, 0, 0, 0, 0, 2, 2, 2, 0, 2, 2, 2, 0, 0, 2, 2, 2, 2, 2, 2, 0, 0, 2, 2, 2, 2, 2, 2, 2, 2, 2, 2]) := GI_s hG 56 rfl
    have a60 : 60 < n := lt83 (GI_n hG) rfl
    have s60 : S 60 = .inr (.int, 962, 0) := GI_s hG 60 rfl
    refine mx_J.step (sn_169 0) (fun _ _ => rfl) ?_
    have b2 : 0 ≤ Z 56 11 ∧ Z 56 11 ≤ 4 := hG.pr 56 11
    refine JgetI (g := 11) (z := Z 56 11) hx (show mx_Sn _ _ 1 (mx_getf 12 11 4) from sn_169 1) a56 s56 rfl rfl rfl ?_
    refine Jif_eq (show mx_Sn _ _ 4 (mx_if_eq 8 7) from sn_169 4) (by omega) (fun q3 => ?_) (fun q3 => ?_)
    · skip
      refine mx_J.step (sn_169 8) (fun _ _ => rfl) ?_
      refine JgetR (g := 4) (b := 60) hx (show mx_Sn _ _ 9 (mx_getf 12 4 12) from sn_169 9) a56 s56 rfl rfl (hG.prr 56 4 rfl) ?_
      refine JcI (z := 62) (show mx_Sn _ _ 12 (mx_const (.int 62) 14) from sn_169 12) rfl ?_
      refine mx_J.step (sn_169 14) (fun _ _ => rfl) ?_
      refine JgetR (g := 4) (b := 60) hx (show mx_Sn _ _ 15 (mx_getf 12 4 18) from sn_169 15) a56 s56 rfl rfl (hG.prr 56 4 rfl) ?_
      refine JcI (z := 61) (show mx_Sn _ _ 18 (mx_const (.int 61) 20) from sn_169 18) rfl ?_
      have b6 : 0 ≤ Z 60 61 ∧ Z 60 61 ≤ 900 := by have hq := GI_ex hG 60 61; replace hq : f60 (61 % 962) (Z 60 61) := hq; unfold f60 at hq; omega
      have b7 : (-2147483648) ≤ Z 60 61 ∧ Z 60 61 ≤ 2147483647 := hG.pr 60 61
      refine JialdI (z := Z 60 61) hx (show mx_Sn _ _ 20 (mx_iald 21) from sn_169 20) a60 s60 (by omega) rfl ?_
      refine Jiadd (show mx_Sn _ _ 21 (mx_iadd 22) from sn_169 21) ?_
      refine mx_J.step (sn_169 22) (fun _ _ => rfl) ?_
      refine JiastI hx (show mx_Sn _ _ 23 (mx_iast 1 24) from sn_169 23) a60 s60 rfl (by omega) (fun Z8 h8 hx8 hE8 => ?_)
      have hG8 := GI_up hG hE8 (show (-2147483648) ≤ x0 ∧ x0 ≤ 2147483647 by omega) (show f60 ((62 + (Z 60 61)) % 962) (x0) by first | (rw [Int.emod_eq_of_lt (by omega) (by omega)]; unfold f60; omega) | assumption | (unfold f60; omega) | (unfold f60 at *; omega)) rfl
      refine mx_J.step (sn_169 24) (fun _ _ => rfl) ?_
      refine JgetR (g := 4) (b := 60) hx8 (show mx_Sn _ _ 25 (mx_getf 12 4 28) from sn_169 25) a56 s56 rfl rfl (hG8.prr 56 4 rfl) ?_
      refine JcI (z := 61) (show mx_Sn _ _ 28 (mx_const (.int 61) 30) from sn_169 28) rfl ?_
      refine mx_J.step (sn_169 30) (fun _ _ => rfl) ?_
      refine JialdI (z := Z 60 61) hx8 (show mx_Sn _ _ 31 (mx_iald 32) from sn_169 31) a60 s60 (by omega) (up_ni hE8 (by omega)) ?_
      refine JcI (z := 1) (show mx_Sn _ _ 32 (mx_const (.int 1) 33) from sn_169 32) rfl ?_
      refine Jiadd (show mx_Sn _ _ 33 (mx_iadd 34) from sn_169 33) ?_
      refine JiastI hx8 (show mx_Sn _ _ 34 (mx_iast 1 35) from sn_169 34) a60 s60 rfl (by omega) (fun Z10 h10 hx10 hE10 => ?_)
      have hG10 := GI_up hG8 hE10 (show (-2147483648) ≤ (Z 60 61) + 1 ∧ (Z 60 61) + 1 ≤ 2147483647 by omega) (show f60 ((61) % 962) ((Z 60 61) + 1) by first | assumption | (unfold f60; omega) | (unfold f60 at *; omega)) rfl
      have rc11 : RM g0 T N Z10 (gEm (x0 - 1990) sg) := RM_e (RM_em hr ⟨((up_nk hE10 rfl).trans (up_nk hE8 rfl)), ((up_nk hE10 rfl).trans (up_nk hE8 rfl)), ((up_nk hE10 rfl).trans (up_nk hE8 rfl)), ((up_nk hE10 rfl).trans (up_nk hE8 rfl)), ((up_nk hE10 rfl).trans (up_nk hE8 rfl)), ((up_nk hE10 rfl).trans (up_nk hE8 rfl)), ((up_nk hE10 rfl).trans (up_nk hE8 rfl)), fun i => ((up_nk hE10 rfl).trans (up_nk hE8 rfl))⟩ (by omega) (up_at hE10) ((up_ni hE10 (by omega)).trans (up_at hE8)) (fun i h6 hi => (up_ni hE10 (by omega)).trans (up_ni hE8 hi)) (by omega)) (congrArg (fun w => gEm w sg) (um_b (by omega)))
      have c1 := cd_dp (a := a0) hE8 hE10 (by omega) (by omega)
      have dv := dl_e x0
      have c2 : MW Z a0 = 1 → nd x0 ≤ DP Z a0 → MW Z10 a0 = 1 := fun h1 h2 => cd_mw hE8 hE10 h1 (by unfold okc; omega) h2
      have c3 : WFF Z = 1 → WFF Z10 = 1 := cd_wf hE8 hE10 (by omega)
      have eq12 : Z10 60 61 = (Z 60 61) + 1 := (up_at hE10)
      have eq13 : Z10 60 0 = Z 60 0 := ((up_ni hE10 (by decide)).trans (up_ni hE8 (by omega)))
      have b14 : (-2147483648) ≤ Z 60 0 ∧ Z 60 0 ≤ 2147483647 := hG.pr 60 0
      have eq15 : Z10 60 1 = Z 60 1 := ((up_ni hE10 (by decide)).trans (up_ni hE8 (by omega)))
      have b16 : 0 ≤ Z 60 1 ∧ Z 60 1 ≤ 18 := by have hq := GI_ex hG 60 1; replace hq : f60 (1 % 962) (Z 60 1) := hq; unfold f60 at hq; omega
      have b17 : (-2147483648) ≤ Z 60 1 ∧ Z 60 1 ≤ 2147483647 := hG.pr 60 1
      have eq18 : Z10 60 2 = Z 60 2 := ((up_ni hE10 (by decide)).trans (up_ni hE8 (by omega)))
      have b19 : 0 ≤ Z 60 2 ∧ Z 60 2 ≤ 18 := by have hq := GI_ex hG 60 2; replace hq : f60 (2 % 962) (Z 60 2) := hq; unfold f60 at hq; omega
      have b20 : (-2147483648) ≤ Z 60 2 ∧ Z 60 2 ≤ 2147483647 := hG.pr 60 2
      have eq21 : Z10 56 8 = Z 56 8 := ((up_nk hE10 rfl).trans (up_nk hE8 rfl))
      have b22 : 0 ≤ Z 56 8 ∧ Z 56 8 ≤ 900 := hG.pr 56 8
      have eq23 : Z10 56 11 = Z 56 11 := ((up_nk hE10 rfl).trans (up_nk hE8 rfl))
      have eq24 : Z10 60 61 = (Z 60 61) + 1 := (up_at hE10)
      have eq25 : Z10 60 0 = Z 60 0 := ((up_ni hE10 (by decide)).trans (up_ni hE8 (by omega)))
      have eq26 : Z10 60 1 = Z 60 1 := ((up_ni hE10 (by decide)).trans (up_ni hE8 (by omega)))
      have eq27 : Z10 60 2 = Z 60 2 := ((up_ni hE10 (by decide)).trans (up_ni hE8 (by omega)))
      exact mx_J.ret (sn_169 35) (fun _ _ => rfl) (hP Z10 h10 hx10 hG10 (fr_tr (M := [(60, (-1))]) (fr_tr (M := [(60, (-1))]) fr_rf (fr_ua hE8) (M1 := []) rfl rfl) (fr_ua hE10) rfl rfl) ⟨rc11, fun e => ⟨by omega, fun h1 h2 => c2 h1 (by omega), c3⟩, by omega⟩)
    · skip
      have b28 : 0 ≤ Z 60 61 ∧ Z 60 61 ≤ 900 := by have hq := GI_ex hG 60 61; replace hq : f60 (61 % 962) (Z 60 61) := hq; unfold f60 at hq; omega
      have b29 : (-2147483648) ≤ Z 60 61 ∧ Z 60 61 ≤ 2147483647 := hG.pr 60 61
      have b30 : (-2147483648) ≤ Z 60 0 ∧ Z 60 0 ≤ 2147483647 := hG.pr 60 0
      have b31 : 0 ≤ Z 60 1 ∧ Z 60 1 ≤ 18 := by have hq := GI_ex hG 60 1; replace hq : f60 (1 % 962) (Z 60 1) := hq; unfold f60 at hq; omega
      have b32 : (-2147483648) ≤ Z 60 1 ∧ Z 60 1 ≤ 2147483647 := hG.pr 60 1
      have b33 : 0 ≤ Z 60 2 ∧ Z 60 2 ≤ 18 := by have hq := GI_ex hG 60 2; replace hq : f60 (2 % 962) (Z 60 2) := hq; unfold f60 at hq; omega
      have b34 : (-2147483648) ≤ Z 60 2 ∧ Z 60 2 ≤ 2147483647 := hG.pr 60 2
      have b35 : 0 ≤ Z 56 8 ∧ Z 56 8 ≤ 900 := hG.pr 56 8
      exact mx_J.ret (sn_169 7) (fun _ _ => rfl) (hP Z h hx hG fr_rf ⟨(RM_e hr (RM_emx hr (by omega))), fun e => absurd e (by omega), by omega⟩)
theorem ct_169_56_3000 {l : Launch} {D : va_G} {b0 : Nat} {ad : Nat → Nat} {Hb : Heap} {tau : Nat → Int64} {d n s : Nat} {S : Nat → xS} {Z : xZ} {h : mx_H} {a0 : Int} {g0 : Int} {T : Int → Int} {N : Int} {sg : SS} (hx : XH n s S Z h) (hG : GI n S Z)  {x0 : Int} (p0 : 3000 ≤ x0 ∧ x0 ≤ 3005) (k0 : (Z 56 11 = 0 → Z 60 61 ≤ 899)) (k1 : a0 ≤ Z 60 61) (k2 : 0 ≤ a0) (k3 : 0 ≤ g0) (hr : RM g0 T N Z sg) : ∃ (Z' : xZ) (h' : mx_H), mx_Ca (tB l D b0 ad Hb tau) (d + 1) 169 [.ref 56, xI x0] h (none, h') ∧ XH n s S Z' h' ∧ GI n S Z' ∧ fr' [(60, (-1))] Z Z' ∧ (RM g0 T N Z' (gEm (x0 - 1990) sg) ∧ QC Z Z' a0 (-1) 2 ∧ (Z' 60 0 = Z 60 0 ∧ Z' 60 1 = Z 60 1 ∧ Z' 60 2 = Z 60 2 ∧ ((¬ Z 56 11 = 0 ∧ Z' 60 61 = Z 60 61) ∨ (Z 56 11 = 0 ∧ Z' 60 61 = Z 60 61 + 1)))) := by
  obtain ⟨r, hca, Z', h', e, q⟩ := Jmt (B := tB l D b0 ad Hb tau) (M := mt_169) (mi := 169) (as := [.ref 56, xI x0]) (d := d + 0) (ls := [some (.ref 56), some (xI x0)]) rfl rfl rfl rfl rfl rfl (cw_169_56_3000 (l := l) (D := D) (b0 := b0) (ad := ad) (Hb := Hb) (tau := tau) (d := d) (Post := fun r => ∃ (Z' : xZ) (h' : mx_H), r = (none, h') ∧ XH n s S Z' h' ∧ GI n S Z' ∧ fr' [(60, (-1))] Z Z' ∧ (RM g0 T N Z' (gEm (x0 - 1990) sg) ∧ QC Z Z' a0 (-1) 2 ∧ (Z' 60 0 = Z 60 0 ∧ Z' 60 1 = Z 60 1 ∧ Z' 60 2 = Z 60 2 ∧ ((¬ Z 56 11 = 0 ∧ Z' 60 61 = Z 60 61) ∨ (Z 56 11 = 0 ∧ Z' 60 61 = Z 60 61 + 1))))) hx hG p0 k0 k1 k2 k3 hr (fun Z' h' q1 q2 q3 q4 => ⟨Z', h', rfl, q1, q2, q3, q4⟩))
  subst e; exact ⟨Z', h', hca, q⟩
