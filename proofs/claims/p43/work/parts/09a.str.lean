/-! instructions over String constants, a copy of a row of ints, a char's answer -/
section MXT
variable {B : mx_B} {M : mx_M} {pc : Nat}
noncomputable def mx_sfd (a : Nat) : Option (List Int32) := bif Nat.beq a 4096 then some sb_0 else bif Nat.beq a 4098 then some sb_1 else bif Nat.beq a 4100 then some sb_2 else bif Nat.beq a 4102 then some sb_1 else none
theorem mx_sfd_ok {a : Nat} {L : List Int32} (h : mx_sfd a = some L) : 4096 ≤ a ∧ ∃ w ∈ tSR, w.2.2.2.1 = a ∧ w.2.2.2.2 = L := by
  unfold mx_sfd at h
  cases h1 : Nat.beq a 4096 with
  | true =>
    rw [h1] at h
    have h : some sb_0 = some L := h
    have ha := Nat.eq_of_beq_eq_true h1
    cases h; subst ha
    exact ⟨by decide, _, List.mem_of_getElem? (i := 0) rfl, rfl, rfl⟩
  | false =>
    rw [h1] at h
    cases h2 : Nat.beq a 4098 with
    | true =>
      rw [h2] at h
      have h : some sb_1 = some L := h
      have ha := Nat.eq_of_beq_eq_true h2
      cases h; subst ha
      exact ⟨by decide, _, List.mem_of_getElem? (i := 1) rfl, rfl, rfl⟩
    | false =>
      rw [h2] at h
      cases h3 : Nat.beq a 4100 with
      | true =>
        rw [h3] at h
        have h : some sb_2 = some L := h
        have ha := Nat.eq_of_beq_eq_true h3
        cases h; subst ha
        exact ⟨by decide, _, List.mem_of_getElem? (i := 2) rfl, rfl, rfl⟩
      | false =>
        rw [h3] at h
        cases h4 : Nat.beq a 4102 with
        | true =>
          rw [h4] at h
          have h : some sb_1 = some L := h
          have ha := Nat.eq_of_beq_eq_true h4
          cases h; subst ha
          exact ⟨by decide, _, List.mem_of_getElem? (i := 3) rfl, rfl, rfl⟩
        | false =>
          rw [h4] at h
          cases h
theorem mx_s_ldcS {w : String × Nat × String × Nat × List Int32} (hw : w ∈ tSR) (hk : 4096 ≤ w.2.2.2.1) (ho : w.1 = M.2.2.1) (hd : decode M.1 pc = .ok (.ldc w.2.1, 2)) : mx_Sn B M pc (mx_const (.ref w.2.2.2.1) (pc + 2)) := by
  intro d k call hkk hc ls st h r e
  refine mx_G.step (hkk _ _ _ _ _ e) (fun p e s m args below meth c R H locs cells slots Q la A hl K => ?_)
  have hS := (A.2.2.2.2.2.2.2.2.2.2.2.2.2.1 _ hw).1
  have z : ((Value.ref w.2.2.2.1 :: st).map (mx_v B.2.1.1)) = .ref (B.2.1.1.2.2.2.2.1 w.2.2.2.1) :: st.map (mx_v B.2.1.1) := by
    show Value.ref (mx_rho B.2.1.1 w.2.2.2.1) :: _ = _
    rw [mx_rho_k hk]
  rw [z] at K
  exact va_ldcS A.1 A.2.1 (by rw [ho]; exact A.2.2.2.1) hS hd K
noncomputable def mx_sval (nx : Nat) : mx_O := fun k _ ls st h => match st with
  | .ref a :: r => match mx_sfd a with
    | some _ => k nx ls (.ref (a + 1) :: r) h
    | none => none
  | _ => none
theorem mx_s_sval {i : Nat} (hd : decode M.1 pc = .ok (.getfield i, 3)) (hlink : Cond.fieldLink M.2.2.1 i "java/lang/String" "value" "[B" ∈ B.2.1.2.1) : mx_Sn B M pc (mx_sval (pc + 3)) := by
  intro d k call hk hcl ls st h rr e
  unfold mx_sval at e
  split at e
  · rename_i a rest
    split at e
    · rename_i L hL
      obtain ⟨ha, w, hw, rfl, rfl⟩ := mx_sfd_ok hL
      have G := hk _ _ _ _ _ e
      refine ⟨G.1, fun p e s m args below meth c hc hs H locs la A h1 h2 hR hLc hl => ?_⟩
      obtain ⟨cf, kf, fi, f, cell, g1, g2, g3, g4, g5, g6⟩ := (A.2.2.2.2.2.2.2.2.2.2.2.2.2.1 _ hw).2.2.2.1
      have G2 := G.2 p e s m args below meth c hc hs H locs la A h1 h2 hR hLc hl
      have z : ((Value.ref (w.2.2.2.1 + 1) :: rest).map (mx_v B.2.1.1)) = .ref (B.2.1.1.2.2.2.2.1 (w.2.2.2.1 + 1)) :: rest.map (mx_v B.2.1.1) := by
        show Value.ref (mx_rho B.2.1.1 (w.2.2.2.1 + 1)) :: _ = _
        rw [mx_rho_k (by omega)]
      have z2 : ((Value.ref w.2.2.2.1 :: rest).map (mx_v B.2.1.1)) = .ref (B.2.1.1.2.2.2.2.1 w.2.2.2.1) :: rest.map (mx_v B.2.1.1) := by
        show Value.ref (mx_rho B.2.1.1 w.2.2.2.1) :: _ = _
        rw [mx_rho_k ha]
      rw [z] at G2
      rw [z2]
      exact W.getf A.1 A.2.1 A.2.2.2.1 (A.2.2.2.2.1 _ hlink) g1 g2 (by rw [hR.2.2.2.1 _ (Nat.not_le.mp g6)]; exact g3) g4 g5 rfl rfl hd G2
    · cases e
  · cases e
noncomputable def mx_scod (nx : Nat) : mx_O := fun k _ ls st h => match st with
  | .ref a :: r => match mx_sfd a with
    | some _ => k nx ls (.int 0 :: r) h
    | none => none
  | _ => none
theorem mx_s_scod {i : Nat} (hd : decode M.1 pc = .ok (.getfield i, 3)) (hlink : Cond.fieldLink M.2.2.1 i "java/lang/String" "coder" "B" ∈ B.2.1.2.1) : mx_Sn B M pc (mx_scod (pc + 3)) := by
  intro d k call hk hcl ls st h rr e
  unfold mx_scod at e
  split at e
  · rename_i a rest
    split at e
    · rename_i L hL
      obtain ⟨ha, w, hw, rfl, rfl⟩ := mx_sfd_ok hL
      have G := hk _ _ _ _ _ e
      refine ⟨G.1, fun p e s m args below meth c hc hs H locs la A h1 h2 hR hLc hl => ?_⟩
      obtain ⟨cf, kf, fi, f, cell, g1, g2, g3, g4, g5, g6⟩ := (A.2.2.2.2.2.2.2.2.2.2.2.2.2.1 _ hw).2.2.1
      have G2 := G.2 p e s m args below meth c hc hs H locs la A h1 h2 hR hLc hl
      have z2 : ((Value.ref w.2.2.2.1 :: rest).map (mx_v B.2.1.1)) = .ref (B.2.1.1.2.2.2.2.1 w.2.2.2.1) :: rest.map (mx_v B.2.1.1) := by
        show Value.ref (mx_rho B.2.1.1 w.2.2.2.1) :: _ = _
        rw [mx_rho_k ha]
      rw [z2]
      exact W.getf A.1 A.2.1 A.2.2.2.1 (A.2.2.2.2.1 _ hlink) g1 g2 (by rw [hR.2.2.2.1 _ (Nat.not_le.mp g6)]; exact g3) g4 g5 rfl rfl hd G2
    · cases e
  · cases e
/-- a constant's bytes -/
theorem mx_sarr {E : mx_E} {U : State} {h : mx_H} {H : Heap} {w : String × Nat × String × Nat × List Int32} (hS : mx_SK E U) (hw : w ∈ tSR) (hR : mx_Rp E U h H) : ∃ cell : Cell, H[E.2.2.2.2.1 (w.2.2.2.1 + 1)]? = some cell ∧ U.isArrayOf cell .byte ∧ cell.vm ≠ .unknown ∧ w.2.2.2.2.length ≤ cell.slots.size ∧ cell.slots.size.toInt32 = Int32.ofNat w.2.2.2.2.length ∧ ∀ j : Nat, j < w.2.2.2.2.length → cell.slots[j]? = some (.int (w.2.2.2.2.getD j 0)) := by
  obtain ⟨cell, q1, q2, q3, q4, q5, q6, q7⟩ := (hS.1 _ hw).2.2.2.2
  exact ⟨cell, by rw [hR.2.2.2.1 _ (Nat.not_le.mp q7)]; exact q1, q2, q3, q4, q5, q6⟩
noncomputable def mx_salen (nx : Nat) : mx_O := fun k _ ls st h => match st with
  | .ref a :: r => match mx_sfd (a - 1) with
    | some L => k nx ls (.int (Int32.ofNat L.length) :: r) h
    | none => none
  | _ => none
theorem mx_s_salen (hd : decode M.1 pc = .ok (.arraylength, 1)) : mx_Sn B M pc (mx_salen (pc + 1)) := by
  intro d k call hk hcl ls st h rr e
  unfold mx_salen at e
  split at e
  · rename_i a rest
    split at e
    · rename_i L hL
      obtain ⟨ha, w, hw, hwa, rfl⟩ := mx_sfd_ok hL
      have haa : a = w.2.2.2.1 + 1 := by have h9 : @Eq Nat w.2.2.2.1 (a - 1) := hwa; show @Eq Nat a (w.2.2.2.1 + 1); omega
      subst haa
      have G := hk _ _ _ _ _ e
      refine ⟨G.1, fun p e s m args below meth c hc hs H locs la A h1 h2 hR hLc hl => ?_⟩
      obtain ⟨cell, q1, q2, q3, q4, q5, q6⟩ := mx_sarr A.2.2.2.2.2.2.2.2.2.2.2.2.2 hw hR
      have G2 := G.2 p e s m args below meth c hc hs H locs la A h1 h2 hR hLc hl
      have z2 : ((Value.ref (w.2.2.2.1 + 1) :: rest).map (mx_v B.2.1.1)) = .ref (B.2.1.1.2.2.2.2.1 (w.2.2.2.1 + 1)) :: rest.map (mx_v B.2.1.1) := by
        show Value.ref (mx_rho B.2.1.1 (w.2.2.2.1 + 1)) :: _ = _
        rw [mx_rho_k (by omega)]
      rw [z2]
      exact W.alen A.1 A.2.1 q1 q2 q5 rfl rfl hd G2
    · cases e
  · cases e
noncomputable def mx_sbald (nx : Nat) : mx_O := fun k _ ls st h => match st with
  | .int j :: .ref a :: r => match mx_sfd (a - 1) with
    | some L => if j < 0 then none else bif Nat.blt j.toNatClampNeg L.length then k nx ls (.int (L.getD j.toNatClampNeg 0) :: r) h else none
    | none => none
  | _ => none
theorem mx_s_sbald (hd : decode M.1 pc = .ok (.baload, 1)) : mx_Sn B M pc (mx_sbald (pc + 1)) := by
  intro d k call hk hcl ls st h rr e
  unfold mx_sbald at e
  split at e
  · rename_i j a rest
    split at e
    · rename_i L hL
      split at e
      · cases e
      · rename_i hj0
        replace e := mx_bt e
        obtain ⟨hb, e⟩ := e
        obtain ⟨ha, w, hw, hwa, rfl⟩ := mx_sfd_ok hL
        have haa : a = w.2.2.2.1 + 1 := by have h9 : @Eq Nat w.2.2.2.1 (a - 1) := hwa; show @Eq Nat a (w.2.2.2.1 + 1); omega
        subst haa
        have G := hk _ _ _ _ _ e
        refine ⟨G.1, fun p e s m args below meth c hc hs H locs la A h1 h2 hR hLc hl => ?_⟩
        obtain ⟨cell, q1, q2, q3, q4, q5, q6⟩ := mx_sarr A.2.2.2.2.2.2.2.2.2.2.2.2.2 hw hR
        have G2 := G.2 p e s m args below meth c hc hs H locs la A h1 h2 hR hLc hl
        have z2 : ((Value.int j :: Value.ref (w.2.2.2.1 + 1) :: rest).map (mx_v B.2.1.1)) = .int j :: .ref (B.2.1.1.2.2.2.2.1 (w.2.2.2.1 + 1)) :: rest.map (mx_v B.2.1.1) := by
          show Value.int j :: Value.ref (mx_rho B.2.1.1 (w.2.2.2.1 + 1)) :: _ = _
          rw [mx_rho_k (by omega)]
        rw [z2]
        exact W.bald A.1 A.2.1 q1 q2 q3 (mx_toClampLe hj0 hb q4) (q6 _ (mx_blt hb)) rfl rfl hd G2
    · cases e
  · cases e
theorem mx_s_compact {i : Nat} (hd : decode M.1 pc = .ok (.getstatic i, 3)) (hlink : Cond.fieldLink M.2.2.1 i "java/lang/String" "COMPACT_STRINGS" "Z" ∈ B.2.1.2.1) : mx_Sn B M pc (mx_const (.int 1) (pc + 3)) := by
  intro d k call hk hcl ls st h rr e
  have G := hk _ _ _ _ _ e
  refine ⟨G.1, fun p e s m args below meth c hc hs H locs la A h1 h2 hR hL hl => ?_⟩
  obtain ⟨cf, kf, fi, f, a, cell, k1, k2, k3, k4, k5, k6, k7, k8⟩ := A.2.2.2.2.2.2.2.2.2.2.2.2.2.2.1
  exact W.gets A.1 A.2.1 A.2.2.2.1 (A.2.2.2.2.1 _ hlink) k1 k2 k3 k4 (by rw [hR.2.2.2.1 a (Nat.not_le.mp k8)]; exact k5) (fun e => by rw [e] at k6; cases k6) k7 rfl hd (G.2 p e s m args below meth c hc hs H locs la A h1 h2 hR hL hl)
end MXT
