section MXT
variable {B : mx_B} {M : mx_M} {pc : Nat}
noncomputable def mx_callk (mi nt nx : Nat) : mx_O := fun k call ls st h => match (st.take nt).reverse with
  | .ref b :: as => match mx_sfd b with
    | some _ => bif Nat.beq as.length (nt - 1) && Nat.ble (mx_cat (st.drop nt)) 8 then match call mi (.ref b :: as) h with
        | some r => mx_ret1 k nx ls (st.drop nt) r
        | none => none
      else none
    | none => none
  | _ => none
theorem mx_s_callk {i mi nt maxL : Nat} {y : MethodName} {bytes : ByteArray} {ret : Option FieldType} (hd : decode M.1 pc = .ok (.invokevirtual i, 3)) (hm : mx_Me B mi y bytes maxL ret (nt - 1)) (hin : Cond.instanceMethod y ∈ B.2.1.2.1) (hsel : Cond.selects "java/lang/String" y y ∈ B.2.1.2.1) (hlink : Cond.methodLink M.2.2.1 i y ∈ B.2.1.2.1) : mx_Sn B M pc (mx_callk mi nt (pc + 3)) := by
  intro d k call hk hcall ls st h rr e
  unfold mx_callk at e
  split at e
  · rename_i b as hst
    split at e
    · rename_i L hL
      replace e := mx_bt e
      obtain ⟨hb, e⟩ := e
      obtain ⟨hb2, hb3⟩ := mx_and hb
      have hlen : as.length = nt - 1 := Nat.eq_of_beq_eq_true hb2
      have hcat := Nat.ble_eq.mp hb3
      split at e
      · rename_i r1 hr1
        rw [mx_ret1_eq] at e
        have G := hk _ _ _ _ _ e
        obtain ⟨hm0, hm1, ⟨ws', hm2⟩, hm3, hm4, hm5, hm6⟩ := hm
        obtain ⟨d', hdd, hle, hMet⟩ := hcall _ _ _ _ hr1
        have hMet := hMet hm0
        rw [hm1] at hMet
        have g1 := G.1.1
        have g2 := G.1.2
        refine ⟨hle.tr G.1, fun p e s m args below meth c hc hs H locs la A h1 h2 hR hL2 hl => ?_⟩
        subst hdd
        obtain ⟨ha, w, hw, hwa, -⟩ := mx_sfd_ok hL
        obtain ⟨cell, q1, q2, q3, q4⟩ := (A.2.2.2.2.2.2.2.2.2.2.2.2.2.1 _ hw).2.1
        have hbr : mx_rho B.2.1.1 b = B.2.1.1.2.2.2.2.1 w.2.2.2.1 := by rw [hwa]; exact mx_rho_k ha
        have q1' : H[mx_rho B.2.1.1 b]? = some cell := by rw [hbr, hR.2.2.2.1 _ (Nat.not_le.mp q4)]; exact q1
        refine mx_after (aa := ((Value.ref b :: as).map (mx_v B.2.1.1)).toArray) A rfl h1 h2 hle hL2 hl G ?_
        exact va_runV (C := "java/lang/String") (b := mx_rho B.2.1.1 b) (As := as.map (mx_v B.2.1.1)) (rest := (st.drop nt).map (mx_v B.2.1.1)) ⟨A.1, A.2.1, A.2.2.1, A.2.2.2.1, A.2.2.2.2.1⟩ hMet ⟨callB_of (nt - 1) A.2.2.2.2.1 hm3 hm2 rfl rfl (A.2.2.2.2.1 _ hm4) (A.2.2.2.2.1 _ hlink) hm5 ⟨Nat.le_refl _, by show 8 + (maxL + 11) + 64 * d' ≤ 64 * (d' + 1); omega⟩, A.2.2.2.2.1 _ hin, A.2.2.2.2.1 _ hsel⟩ ⟨mx_blind, ⟨cell, q1', q2, q3⟩, mx_pre (as := .ref b :: as) hR A.2.2.2.2.2.2.2.2⟩ rfl (by rw [List.length_map]; exact hlen) (hl.1) (by
            show st.map (mx_v B.2.1.1) = _
            conv => lhs; rw [mx_take hst]
            rw [List.reverse_cons, List.append_assoc, List.map_append, List.map_append, List.map_reverse]; rfl) (lv_room (by rw [mx_cat_sum]; exact hcat)) hd ⟨by show _ ≤ rr.2.1 - hc; have := hle.1; omega, by show _ ≤ rr.2.2.1 - hs; have := hle.2; omega⟩
      · cases e
    · cases e
  · cases e
/-- String.checkIndex's middle: a static whose value isn't known, Preconditions.checkIndex, pop -/
noncomputable def mx_sio (nx : Nat) : mx_O := fun k call ls st h => match st with
  | .int n :: .int i :: r => if ¬ i < 0 ∧ i < n then (bif Nat.ble (mx_cat r) 8 then match call 0 [] h with
      | some _ => k nx ls r h
      | none => none
    else none) else none
  | _ => none
theorem mx_s_sio {i1 i2 mi maxL : Nat} {y : MethodName} {bytes : ByteArray} {ret : Option FieldType} (hd1 : decode M.1 pc = .ok (.getstatic i1, 3)) (hd2 : decode M.1 (pc + 3) = .ok (.invokestatic i2, 3)) (hd3 : decode M.1 (pc + 6) = .ok (.pop, 1)) (hlink1 : Cond.fieldLink M.2.2.1 i1 "jdk/internal/util/Preconditions" "SIOOBE_FORMATTER" "Ljava/util/function/BiFunction;" ∈ B.2.1.2.1)
    (hm : mx_Me B mi y bytes maxL ret 3) (hstat : Cond.static y ∈ B.2.1.2.1) (hlink : Cond.methodLink M.2.2.1 i2 y ∈ B.2.1.2.1) (hck : ∀ (d : Nat) (i n : Int32) (X : Value) (h : mx_H), ¬ i < 0 → i < n → (X = .null ∨ X = .ref 4104) → mx_Ca B (d + 1) mi [.int i, .int n, X] h (some (.int i), h)) : mx_Sn B M pc (mx_sio (pc + 7)) := by
  intro d k call hk hcall ls st h rr e
  unfold mx_sio at e
  split at e
  · rename_i n i rest
    split at e
    · rename_i hin
      replace e := mx_bt e
      obtain ⟨hb, e⟩ := e
      have hcat := Nat.ble_eq.mp hb
      split at e
      · rename_i r0 hr0
        obtain ⟨d', hdd, -, -⟩ := hcall _ _ _ _ hr0
        have G := hk _ _ _ _ _ e
        have Gp : mx_G B M d (pc + 6) ls (.int i :: rest) h rr := mx_G.step G (fun p e s m args below meth c R H locs cells slots Q la A hl K => lv_pop A.1 A.2.1 hd3 rfl K)
        refine ⟨G.1, fun p e s m args below meth c hc hs H locs la A h1 h2 hR hL hl => ?_⟩
        subst hdd
        obtain ⟨v, hv, cf, kf, fi, f, a, cell, k1, k2, k3, k4, k5, k6, k7, k8⟩ := A.2.2.2.2.2.2.2.2.2.2.2.2.2.2.2
        refine W.gets A.1 A.2.1 A.2.2.2.1 (A.2.2.2.2.1 _ hlink1) k1 k2 k3 k4 (by rw [hR.2.2.2.1 a (Nat.not_le.mp k8)]; exact k5) (fun e => by rw [e] at k6; cases k6) k7 rfl hd1 ?_
        have key : ∀ X : Value, (X = .null ∨ X = .ref 4104) → mx_v B.2.1.1 X = v → W p B.1 e (mx_rm (d' + 1) (rr.2.1 - hc) (rr.2.2.1 - hs)) s m args below meth c H locs (h.1 - hc) (h.2.1 - hs) (MQ below (mx_Qc B.2.1 rr) args s (rr.2.1 - hc) (rr.2.2.1 - hs) (mx_up B.2.1)) (F0 m (pc + 3) la ((X :: .int n :: .int i :: rest).map (mx_v B.2.1.1))) := by
          intro X hX hXv
          obtain ⟨hm0, hm1, ⟨ws', hm2⟩, hm3, hm4, hm5, hm6⟩ := hm
          obtain ⟨d2, hdd2, hle, hMet⟩ := hck d' i n X h hin.1 hin.2 hX
          have hd2' : d2 = d' := by omega
          subst hd2'
          have hMet := hMet hm0
          rw [hm1] at hMet
          have g1 := G.1.1
          have g2 := G.1.2
          refine mx_after (pc := pc + 3) (r1 := (some (.int i), h)) (rest := rest) (aa := (([Value.int i, .int n, X] : List Value).map (mx_v B.2.1.1)).toArray) A rfl h1 h2 (mx_le.rf h) hL hl Gp ?_
          exact va_runS (As := ([Value.int i, .int n, X] : List Value).map (mx_v B.2.1.1)) (rest := rest.map (mx_v B.2.1.1)) ⟨A.1, A.2.1, A.2.2.1, A.2.2.2.1, A.2.2.2.2.1⟩ hMet ⟨callB_of 3 A.2.2.2.2.1 hm3 hm2 rfl rfl (A.2.2.2.2.1 _ hm4) (A.2.2.2.2.1 _ hlink) hm5 ⟨Nat.le_refl _, by show 8 + (maxL + 11) + 64 * d2 ≤ 64 * (d2 + 1); omega⟩, A.2.2.2.2.1 _ hstat⟩ ⟨mx_blind, mx_pre hR A.2.2.2.2.2.2.2.2⟩ rfl rfl (hl.1) rfl (lv_room (by rw [mx_cat_sum]; exact hcat)) hd2 ⟨by show _ ≤ rr.2.1 - hc; omega, by show _ ≤ rr.2.2.1 - hs; omega⟩
        rcases hv with hv | hv
        · have K := key .null (Or.inl rfl) (by rw [hv]; rfl)
          rw [hv]
          exact K
        · have z : mx_v B.2.1.1 (.ref 4104) = v := by rw [hv]; show Value.ref (mx_rho B.2.1.1 4104) = _; rw [mx_rho_k (by decide)]
          have K := key (.ref 4104) (Or.inr rfl) z
          have z2 : ((Value.ref 4104 :: Value.int n :: .int i :: rest).map (mx_v B.2.1.1)) = v :: ((Value.int n :: .int i :: rest).map (mx_v B.2.1.1)) := by
            show mx_v B.2.1.1 (.ref 4104) :: _ = _
            rw [z]
          rw [z2] at K
          exact K
      · cases e
    · cases e
  · cases e
noncomputable def mx_nret (ty : FieldType) : mx_O := fun _ _ _ st h => match st with
  | [.int v] => if narrow ty (.int v) = .int v then some (some (.int v), h) else none
  | _ => none
theorem mx_s_nret {ty : FieldType} (hd : decode M.1 pc = .ok (.ireturn, 1)) (hr : M.2.2.2.2 = some ty) : mx_Sn B M pc (mx_nret ty) := by
  intro d k call hk hcall ls st h rr e
  unfold mx_nret at e
  split at e
  · split at e
    · rename_i hv
      cases e
      refine ⟨mx_le.rf h, fun p e s m args below meth c hc hs H locs la A h1 h2 hR hL hl => ?_⟩
      exact W.zret A.1 A.2.1 (A.2.2.2.2.2.1.trans hr) hv (fun t ht hW => ⟨rfl, by rw [ht]; exact mx_Rp.moved hW.alike hR⟩) hL hd A.2.2.2.2.2.2.1
    · cases e
  · cases e
end MXT
