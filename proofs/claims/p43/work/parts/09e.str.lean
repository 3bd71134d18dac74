section MXT
variable {B : mx_B} {M : mx_M} {pc : Nat}
/-- String.checkIndex's middle: a static whose value isn't known, Preconditions.checkIndex, pop -/
noncomputable def mx_sio (nx : Nat) : mx_O := fun k call ls st h => match st with
  | .int n :: .int i :: r => if ¬ i < 0 ∧ i < n then (bif Nat.ble (mx_cat r) 8 then match call 0 [] h with
      | some _ => k nx ls r h
      | none => none
    else none) else none
  | _ => none
theorem mx_s_sio {i1 i2 mi maxL : Nat} {y : MethodName} {bytes : ByteArray} {ret : Option FieldType} (hd1 : decode M.1 pc = .ok (.getstatic i1, 3)) (hd2 : decode M.1 (pc + 3) = .ok (.invokestatic i2, 3)) (hd3 : decode M.1 (pc + 6) = .ok (.pop, 1)) (hlink1 : Cond.fieldLink M.2.2.1 i1 "jdk/internal/util/Preconditions" "SIOOBE_FORMATTER" "Ljava/util/function/BiFunction;" ∈ B.2.1.2.1)
    (hm : mx_Me B mi y bytes maxL ret 3) (hstat : Cond.static y ∈ B.2.1.2.1) (hlink : Cond.methodLink M.2.2.1 i2 y ∈ B.2.1.2.1) (hck : ∀ (d : Nat) (i n : Int32) (X : Value) (h : mx_H), ¬ i < 0 → i < n → (X = .null ∨ X = .ref 4104) → mx_Ca B (d + 1) mi [.int i, .int n, X] h (some (.int i), h)) : mx_Sn B M pc (mx_sio (pc + 7)) := by
  intro d k call hk hcall ls st h rr e
  unfold mx_sio at e
  split at e
  · rename_i n i rest
    split at e
    · rename_i hin
      replace e := mx_bt e
      obtain ⟨hb, e⟩ := e
      have hcat := Nat.ble_eq.mp hb
      obtain ⟨r0, hr0, e⟩ := mx_om e
      obtain ⟨d', hdd, -, -⟩ := hcall _ _ _ _ hr0
      have G := hk _ _ _ _ _ e
      have Gp : mx_G B M d (pc + 6) ls (.int i :: rest) h rr := mx_G.step G (fun p e s m args below meth c R H locs cells slots Q la A hl K => lv_pop A.1 A.2.1 hd3 rfl K)
      refine ⟨G.1, fun p e s m args below meth c hc hs H locs la A h1 h2 hR hL hl => ?_⟩
      subst hdd
      obtain ⟨v, hv, cf, kf, fi, f, a, cell, k1, k2, k3, k4, k5, k6, k7, k8⟩ := A.2.2.2.2.2.2.2.2.2.2.2.2.2.2.2
      refine W.gets A.1 A.2.1 A.2.2.2.1 (A.2.2.2.2.1 _ hlink1) k1 k2 k3 k4 (by rw [hR.2.2.2.1 a (Nat.not_le.mp k8)]; exact k5) (fun e => by rw [e] at k6; cases k6) k7 rfl hd1 ?_
      have key : ∀ X : Value, (X = .null ∨ X = .ref 4104) → mx_v B.2.1.1 X = v → W p B.1 e (mx_rm (d' + 1) (rr.2.1 - hc) (rr.2.2.1 - hs)) s m args below meth c H locs (h.1 - hc) (h.2.1 - hs) (MQ below (mx_Qc B.2.1 rr) args s (rr.2.1 - hc) (rr.2.2.1 - hs) (mx_up B.2.1)) (F0 m (pc + 3) la ((X :: .int n :: .int i :: rest).map (mx_v B.2.1.1))) := by
        intro X hX hXv
        obtain ⟨hm0, hm1, ⟨ws', hm2⟩, hm3, hm4, hm5, hm6⟩ := hm
        obtain ⟨d2, hdd2, hle, hMet⟩ := hck d' i n X h hin.1 hin.2 hX
        have hd2' : d2 = d' := by omega
        subst hd2'
        have hMet := hMet hm0
        rw [hm1] at hMet
        have g1 := G.1.1
        have g2 := G.1.2
        refine mx_after (pc := pc + 3) (r1 := (some (.int i), h)) (rest := rest) (aa := (([Value.int i, .int n, X] : List Value).map (mx_v B.2.1.1)).toArray) A rfl h1 h2 (mx_le.rf h) hL hl Gp ?_
        exact va_runS (As := ([Value.int i, .int n, X] : List Value).map (mx_v B.2.1.1)) (rest := rest.map (mx_v B.2.1.1)) ⟨A.1, A.2.1, A.2.2.1, A.2.2.2.1, A.2.2.2.2.1⟩ hMet ⟨callB_of 3 A.2.2.2.2.1 hm3 hm2 rfl rfl (A.2.2.2.2.1 _ hm4) (A.2.2.2.2.1 _ hlink) hm5 ⟨Nat.le_refl _, by show 8 + (maxL + 11) + 64 * d2 ≤ 64 * (d2 + 1); omega⟩, A.2.2.2.2.1 _ hstat⟩ ⟨mx_blind, mx_pre hR A.2.2.2.2.2.2.2.2⟩ rfl rfl (hl.1) rfl (lv_room (by rw [mx_cat_sum]; exact hcat)) hd2 ⟨(by show (h.1 - hc) + (h.1 - h.1) ≤ rr.2.1 - hc; omega), (by show (h.2.1 - hs) + (h.2.1 - h.2.1) ≤ rr.2.2.1 - hs; omega)⟩
      rcases hv with hv | hv
      · have K := key .null (Or.inl rfl) (by rw [hv]; rfl)
        rw [hv]
        exact K
      · have z : mx_v B.2.1.1 (.ref 4104) = v := by rw [hv]; show Value.ref (mx_rho B.2.1.1 4104) = _; rw [mx_rho_k (by decide)]
        have K := key (.ref 4104) (Or.inr rfl) z
        have z2 : ((Value.ref 4104 :: Value.int n :: .int i :: rest).map (mx_v B.2.1.1)) = v :: ((Value.int n :: .int i :: rest).map (mx_v B.2.1.1)) := by
          show mx_v B.2.1.1 (.ref 4104) :: _ = _
          rw [z]
        rw [z2] at K
        exact K
    · cases e
  · cases e
end MXT
