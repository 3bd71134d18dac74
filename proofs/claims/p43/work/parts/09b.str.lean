section MXT
variable {B : mx_B} {M : mx_M} {pc : Nat}
noncomputable def mx_callk (mi nt nx : Nat) : mx_O := fun k call ls st h => match (st.take nt).reverse with
  | .ref b :: as => match mx_sfd b with
    | some _ => bif Nat.beq as.length (nt - 1) && Nat.ble (mx_cat (st.drop nt)) 8 then match call mi (.ref b :: as) h with
        | some r => mx_ret1 k nx ls (st.drop nt) r
        | none => none
      else none
    | none => none
  | _ => none
theorem mx_s_callk {i mi nt maxL : Nat} {y : MethodName} {bytes : ByteArray} {ret : Option FieldType} (hd : decode M.1 pc = .ok (.invokevirtual i, 3)) (hm : mx_Me B mi y bytes maxL ret (nt - 1)) (hin : Cond.instanceMethod y ∈ B.2.1.2.1) (hsel : Cond.selects "java/lang/String" y y ∈ B.2.1.2.1) (hlink : Cond.methodLink M.2.2.1 i y ∈ B.2.1.2.1) : mx_Sn B M pc (mx_callk mi nt (pc + 3)) := by
  intro d k call hk hcall ls st h rr e
  unfold mx_callk at e
  split at e
  · rename_i b as hst
    split at e
    · rename_i L hL
      replace e := mx_bt e
      obtain ⟨hb, e⟩ := e
      obtain ⟨hb2, hb3⟩ := mx_and hb
      have hlen : as.length = nt - 1 := Nat.eq_of_beq_eq_true hb2
      have hcat := Nat.ble_eq.mp hb3
      obtain ⟨r1, hr1, e⟩ := mx_om e
      rw [mx_ret1_eq] at e
      have G := hk _ _ _ _ _ e
      obtain ⟨hm0, hm1, ⟨ws', hm2⟩, hm3, hm4, hm5, hm6⟩ := hm
      obtain ⟨d', hdd, hle, hMet⟩ := hcall _ _ _ _ hr1
      have hMet := hMet hm0
      rw [hm1] at hMet
      have g1 := G.1.1
      have g2 := G.1.2
      refine ⟨hle.tr G.1, fun p e s m args below meth c hc hs H locs la A h1 h2 hR hL2 hl => ?_⟩
      subst hdd
      obtain ⟨ha, w, hw, hwa, -⟩ := mx_sfd_ok hL
      obtain ⟨cell, q1, q2, q3, q4⟩ := (A.2.2.2.2.2.2.2.2.2.2.2.2.2.1 _ hw).2.1
      have hbr : mx_rho B.2.1.1 b = B.2.1.1.2.2.2.2.1 w.2.2.2.1 := by rw [hwa]; exact mx_rho_k ha
      have q1' : H[mx_rho B.2.1.1 b]? = some cell := by rw [hbr, hR.2.2.2.1 _ (Nat.not_le.mp q4)]; exact q1
      refine mx_after (aa := ((Value.ref b :: as).map (mx_v B.2.1.1)).toArray) A rfl h1 h2 hle hL2 hl G ?_
      exact va_runV (C := "java/lang/String") (b := mx_rho B.2.1.1 b) (As := as.map (mx_v B.2.1.1)) (rest := (st.drop nt).map (mx_v B.2.1.1)) ⟨A.1, A.2.1, A.2.2.1, A.2.2.2.1, A.2.2.2.2.1⟩ hMet ⟨callB_of (nt - 1) A.2.2.2.2.1 hm3 hm2 rfl rfl (A.2.2.2.2.1 _ hm4) (A.2.2.2.2.1 _ hlink) hm5 ⟨Nat.le_refl _, by show 8 + (maxL + 11) + 64 * d' ≤ 64 * (d' + 1); omega⟩, A.2.2.2.2.1 _ hin, A.2.2.2.2.1 _ hsel⟩ ⟨mx_blind, ⟨cell, q1', q2, q3⟩, mx_pre (as := .ref b :: as) hR A.2.2.2.2.2.2.2.2⟩ rfl (by rw [List.length_map]; exact hlen) (hl.1) (by
          show st.map (mx_v B.2.1.1) = _
          conv => lhs; rw [mx_take hst]
          rw [List.reverse_cons, List.append_assoc, List.map_append, List.map_append, List.map_reverse]; rfl) (lv_room (by rw [mx_cat_sum]; exact hcat)) hd ⟨by show _ ≤ rr.2.1 - hc; have := hle.1; omega, by show _ ≤ rr.2.2.1 - hs; have := hle.2; omega⟩
    · cases e
  · cases e
end MXT
