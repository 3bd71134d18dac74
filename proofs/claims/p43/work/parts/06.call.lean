theorem mx_om {β : Type} {o : Option mx_R} {f : mx_R → Option β} {r : β} (e : (match o with
    | some a => f a
    | none => none) = some r) : ∃ a, o = some a ∧ f a = some r := by
  cases o with
  | none => cases e
  | some a => exact ⟨a, rfl, e⟩
/-! calls, answers, switches, static fields; a method by its table -/
section MXC
variable {B : mx_B} {M : mx_M} {pc : Nat}
theorem mx_s_tsw {df lo hi : Int} {offs : Array Int} {len dt : Nat} {ts : List Nat} (hd : decode M.1 pc = .ok (.tableswitch df lo hi offs, len)) (hdf : (pc : Int) + df = (dt : Int)) (hts : offs.toList.map (fun o => (pc : Int) + o) = ts.map (fun t : Nat => (t : Int))) : mx_Sn B M pc (mx_tsw lo hi ts dt) := by
  intro d k call hk hcl ls st h rr e
  unfold mx_tsw at e
  split at e
  · rename_i x rest
    split at e
    · rename_i hx
      exact mx_G.step (hk _ _ _ _ _ e) (fun p e s m args below meth c R H locs cells slots Q la A hl K => lv_tableOut A.1 A.2.1 hd hx hdf K)
    · rename_i hx
      split at e
      · rename_i t ht
        have h3 : (ts.map (fun t : Nat => (t : Int)))[(x.toInt - lo).toNat]? = some (t : Int) := by rw [List.getElem?_map, ht]; rfl
        rw [← hts, List.getElem?_map] at h3
        cases ho : offs.toList[(x.toInt - lo).toNat]? with
        | none => rw [ho] at h3; cases h3
        | some off =>
          rw [ho] at h3
          have h4 : (pc : Int) + off = (t : Int) := Option.some.inj h3
          exact mx_G.step (hk _ _ _ _ _ e) (fun p e s m args below meth c R H locs cells slots Q la A hl K => lv_tableIn A.1 A.2.1 hd (fun q => hx (Or.inl q)) (fun q => hx (Or.inr q)) (by rw [← Array.getElem?_toList]; exact ho) h4 K)
      · cases e
  · rename_i t rest
    split at e
    · rename_i iv hiv
      split at e
      · rename_i ho
        refine mx_G.step (hk _ _ _ _ _ e) (fun p e s m args below meth c R H locs cells slots Q la A hl K => ?_)
        obtain ⟨x, hx, hx1, hx2⟩ := mx_rng_ok A.2.2.2.2.2.2.2.2 hiv
        show W _ _ _ _ _ _ _ _ _ _ _ _ _ _ _ (F0 m pc la (mx_v B.2.1.1 (.float t) :: rest.map (mx_v B.2.1.1)))
        rw [hx]
        exact lv_tableOut A.1 A.2.1 hd (by omega) hdf K
      · cases e
    · cases e
  · cases e
theorem mx_find_eq {pc df : Int} {dt : Nat} (x : Int) (hdf : pc + df = (dt : Int)) : ∀ (l : List (Int × Int)) (ps : List (Int × Nat)), l.map (fun q => (q.1, pc + q.2)) = ps.map (fun q => (q.1, (q.2 : Int))) → pc + Op.lookupswitch.offset l df x = (mx_find ps dt x : Int)
  | [], [], _ => hdf
  | [], _ :: _, h => by cases h
  | _ :: _, [], h => by cases h
  | (a, o) :: l, (b, t) :: ps, h => by
    have h1 := List.cons.inj h
    have h2 : a = b := congrArg Prod.fst h1.1
    have h3 : pc + o = (t : Int) := congrArg Prod.snd h1.1
    subst h2
    rw [Op.lookupswitch.offset_cons]
    unfold mx_find
    by_cases hx : x = a
    · rw [if_pos hx, if_pos hx.symm]; exact h3
    · rw [if_neg hx, if_neg (fun q => hx q.symm)]; exact mx_find_eq x hdf l ps h1.2
theorem mx_s_lsw {df : Int} {pr : Array (Int × Int)} {len dt : Nat} {ps : List (Int × Nat)} (hd : decode M.1 pc = .ok (.lookupswitch df pr, len)) (hp : (pr.toList.zip (pr.toList.drop 1)).all (fun (a, next) => a.1 < next.1) = true) (hdf : (pc : Int) + df = (dt : Int)) (hps : pr.toList.map (fun q => (q.1, (pc : Int) + q.2)) = ps.map (fun q => (q.1, (q.2 : Int)))) : mx_Sn B M pc (mx_lsw ps dt) := by
  intro d k call hk hcl ls st h rr e
  unfold mx_lsw at e
  split at e
  · rename_i x rest
    exact mx_G.step (hk _ _ _ _ _ e) (fun p e s m args below meth c R H locs cells slots Q la A hl K => lv_lookup A.1 A.2.1 hd hp rfl (mx_find_eq x.toInt hdf _ _ hps) K)
  · cases e
/-- a static field that nobody writes -/
theorem mx_s_gets {i : Nat} {z : mx_Z} (hd : decode M.1 pc = .ok (.getstatic i, 3)) (hz : z ∈ B.2.1.2.2.2.2) (hlink : Cond.fieldLink M.2.2.1 i z.1 z.2.1 z.2.2.1 ∈ B.2.1.2.1) : mx_Sn B M pc (mx_const z.2.2.2 (pc + 3)) := by
  intro d k call hk hcl ls st h rr e
  have G := hk _ _ _ _ _ e
  refine ⟨G.1, fun p e s m args below meth c hc hs H locs la A h1 h2 hR hL hl => ?_⟩
  obtain ⟨cf, kf, fi, f, a, cell, k1, k2, k3, k4, k5, k6, k7, k8⟩ := A.2.2.2.2.2.2.2.2.2.2.2.2.1 _ hz
  exact W.gets A.1 A.2.1 A.2.2.2.1 (A.2.2.2.2.1 _ hlink) k1 k2 k3 k4 (by rw [hR.2.2.2.1 a (Nat.not_le.mp k8)]; exact k5) (fun e => by rw [e] at k6; cases k6) k7 rfl hd (G.2 p e s m args below meth c hc hs H locs la A h1 h2 hR hL hl)
/-- what a call needs of the method: its name, code, locals, answer, how many parameters -/
def mx_Me (B : mx_B) (mi : Nat) (y : MethodName) (bytes : ByteArray) (maxL : Nat) (ret : Option FieldType) (n : Nat) : Prop :=
  ¬ mi = 0 ∧ B.2.2.1 mi = y ∧ (∃ ws', B.2.2.2 mi = Cond.code y bytes maxL ret :: ws') ∧ GoodIn B.2.1.2.1 (B.2.2.2 mi) ∧ Cond.initialized y.cls ∈ B.2.1.2.1 ∧ (y.cls ≠ "java/lang/invoke/MethodHandle" ∧ y.cls ≠ "java/lang/invoke/VarHandle" ∧ (parseMethodDescriptor y.desc).map (fun d => d.parameters.length) = some n) ∧ maxL ≤ 45
theorem mx_cat_sum {E : mx_E} : ∀ (st : List Value), ((st.map (mx_v E)).map fun v => v.category).sum = mx_cat st
  | [] => rfl
  | v :: r => by
    show (mx_v E v).category + ((r.map (mx_v E)).map fun v => v.category).sum = _
    rw [mx_cat_sum r, mx_v_cat]
    cases v <;> rfl
theorem mx_blind {V : mx_Ev} {as : List Value} {h : mx_H} : FrameBlind (mx_Pc V as h) := by
  intro a U g mk q
  obtain ⟨q1, q2, q3⟩ := q
  have hal : U.vm.Alike (U.calling g mk a).vm := Vm.Alike.refl U.vm
  refine ⟨q1, mx_Rp.moved hal q2, ?_⟩
  obtain ⟨k1, k2, k3, k5, k4, k6⟩ := q3
  exact ⟨va_K.moved hal k1, fun C hC => va_AO.moved hal (k2 C hC), fun w hw => va_Nw.same rfl rfl (k3 w hw), k5, fun z hz => va_Z.moved hal (k4 z hz), mx_SK.moved hal (fun w hw => vk_R.same rfl (k6.1 w hw).1) k6⟩
theorem mx_pre {V : mx_Ev} {s : State} {as : List Value} {h : mx_H} {H : Heap} (hR : mx_Rp V.1 s h H) (hK : mx_KK V s) : ∀ U : State, U.heap = H → s.WarmedH U.vm → mx_Pc V as h (as.map (mx_v V.1)).toArray U := by
  intro U hU hW
  exact ⟨rfl, by rw [hU]; exact mx_Rp.moved hW.alike hR, mx_KK.warm hW hK⟩
/-- behind a call -/
theorem mx_after {d : Nat} {p : Program} {e : Env} {s : State} {m : MethodId} {args : Array Value} {below : List Frame} {meth : Method} {c : Code} {H : Heap} {locs : List Loc} {la : Array Slot} {hc hs nx : Nat} {ls : mx_L} {h : mx_H} {r1 rr : mx_R} {rest st0 : List Value} {aa : Array Value}
    (A : mx_At B M p s m args meth c) (hnx : nx = pc + 3) (h1 : hc ≤ h.1) (h2 : hs ≤ h.2.1) (hle : mx_le h r1.2) (hL : ∀ q ∈ locs, mx_up B.2.1 q.base) (hl : mx_ls B.2.1.1 la M.2.1 ls)
    (G : mx_G B M d nx ls (r1.1.toList ++ rest) r1.2 rr)
    (hr : va_Run p B.1 e (mx_rm d (rr.2.1 - hc) (rr.2.2.1 - hs)) s m args below meth c H locs (h.1 - hc) (h.2.1 - hs) (r1.2.1 - h.1) (r1.2.2.1 - h.2.1) (F0 m pc la (st0.map (mx_v B.2.1.1))) (rest.map (mx_v B.2.1.1)) (mx_Qc B.2.1 r1 aa) (mx_up B.2.1)) :
    W p B.1 e (mx_rm d (rr.2.1 - hc) (rr.2.2.1 - hs)) s m args below meth c H locs (h.1 - hc) (h.2.1 - hs) (MQ below (mx_Qc B.2.1 rr) args s (rr.2.1 - hc) (rr.2.2.1 - hs) (mx_up B.2.1)) (F0 m pc la (st0.map (mx_v B.2.1.1))) := by
  subst hnx
  intro T hT X
  obtain ⟨v, sv, t, T', L, k0, X', hLL, e1, e2, ⟨hv, hRt⟩, st⟩ := hr T hT X
  have hv2 : v = r1.1.map (mx_v B.2.1.1) := Outcome.returned.inj hv
  have z1 : h.1 - hc + (r1.2.1 - h.1) = r1.2.1 - hc := by have := hle.1; omega
  have z2 : h.2.1 - hs + (r1.2.2.1 - h.2.1) = r1.2.2.1 - hs := by have := hle.2; omega
  rw [z1, z2] at X'
  have hal : t.vm.Alike s.vm := by rw [← e2]; exact X'.warmed.alike.symm
  have K := G.2 p e s m args below meth c hc hs T'.heap (locs ++ L) la A (Nat.le_trans h1 hle.1) (Nat.le_trans h2 hle.2) (by rw [e1]; exact mx_Rp.moved hal hRt) (fun q hq => by
    rcases List.mem_append.mp hq with hq | hq
    · exact hL q hq
    · exact hLL q hq) hl
  obtain ⟨t2, a1, b1⟩ := K T' rfl X'
  refine ⟨t2, st t2 ?_, b1⟩
  have z3 : v.toList ++ rest.map (mx_v B.2.1.1) = (r1.1.toList ++ rest).map (mx_v B.2.1.1) := by
    rw [hv2]
    cases r1.1 <;> rfl
  rw [z3]
  exact a1
theorem mx_take {st : List Value} {nt : Nat} {l : List Value} (h : (st.take nt).reverse = l) : st = l.reverse ++ st.drop nt := by
  rw [← h, List.reverse_reverse, List.take_append_drop]
theorem mx_ret1_eq {k : mx_K} {nx : Nat} {ls : mx_L} {rest : List Value} (r1 : mx_R) : mx_ret1 k nx ls rest r1 = k nx ls (r1.1.toList ++ rest) r1.2 := by
  obtain ⟨v, h⟩ := r1
  cases v <;> rfl
theorem mx_s_callv {i mi nt ci maxL : Nat} {y : MethodName} {bytes : ByteArray} {ret : Option FieldType} {r : vw_C}  (hd : decode M.1 pc = .ok (.invokevirtual i, 3)) (hm : mx_Me B mi y bytes maxL ret (nt - 1)) (hcl : B.2.1.1.1[ci]? = some r) (hin : Cond.instanceMethod y ∈ B.2.1.2.1) (hsel : Cond.selects r.1 y y ∈ B.2.1.2.1) (hlink : Cond.methodLink M.2.2.1 i y ∈ B.2.1.2.1) : mx_Sn B M pc (mx_callv mi nt ci (pc + 3)) := by
  intro d k call hk hcall ls st h rr e
  unfold mx_callv at e
  split at e
  · rename_i b as hst
    split at e
    · rename_i cz fs hcell
      replace e := mx_bt e
      obtain ⟨hb, e⟩ := e
      obtain ⟨hb1, hb2⟩ := mx_and hb
      obtain ⟨hb2, hb3⟩ := mx_and hb2
      have hci : cz = ci := Nat.eq_of_beq_eq_true hb1
      subst hci
      have hlen : as.length = nt - 1 := Nat.eq_of_beq_eq_true hb2
      have hcat := Nat.ble_eq.mp hb3
      obtain ⟨r1, hr1, e⟩ := mx_om e
      rw [mx_ret1_eq] at e
      have G := hk _ _ _ _ _ e
      obtain ⟨hm0, hm1, ⟨ws', hm2⟩, hm3, hm4, hm5, hm6⟩ := hm
      obtain ⟨d', hdd, hle, hMet⟩ := hcall _ _ _ _ hr1
      have hMet := hMet hm0
      rw [hm1] at hMet
      have g1 := G.1.1
      have g2 := G.1.2
      refine ⟨hle.tr G.1, fun p e s m args below meth c hc hs H locs la A h1 h2 hR hL hl => ?_⟩
      subst hdd
      obtain ⟨hlenf, cell, q1, q2, q3, q4⟩ := mx_obj hR hcell hcl
      have hcls := (A.2.2.2.2.2.2.2.2.1.1 _ _ hcl).2
      refine mx_after (aa := ((Value.ref b :: as).map (mx_v B.2.1.1)).toArray) A rfl h1 h2 hle hL hl G ?_
      exact va_runV (C := r.1) (b := mx_rho B.2.1.1 b) (As := as.map (mx_v B.2.1.1)) (rest := (st.drop nt).map (mx_v B.2.1.1)) ⟨A.1, A.2.1, A.2.2.1, A.2.2.2.1, A.2.2.2.2.1⟩ hMet ⟨callB_of (nt - 1) A.2.2.2.2.1 hm3 hm2 rfl rfl (A.2.2.2.2.1 _ hm4) (A.2.2.2.2.1 _ hlink) hm5 ⟨Nat.le_refl _, by show 8 + (maxL + 11) + 64 * d' ≤ 64 * (d' + 1); omega⟩, A.2.2.2.2.1 _ hin, A.2.2.2.2.1 _ hsel⟩ ⟨mx_blind, ⟨cell, q1, by rw [q3]; rfl, by rw [q2]; exact hcls.1⟩, mx_pre (as := .ref b :: as) hR A.2.2.2.2.2.2.2.2⟩ rfl (by rw [List.length_map]; exact hlen) (hl.1) (by
          show st.map (mx_v B.2.1.1) = _
          conv => lhs; rw [mx_take hst]
          rw [List.reverse_cons, List.append_assoc, List.map_append, List.map_append, List.map_reverse]; rfl) (lv_room (by rw [mx_cat_sum]; exact hcat)) hd ⟨by show _ ≤ rr.2.1 - hc; have := hle.1; omega, by show _ ≤ rr.2.2.1 - hs; have := hle.2; omega⟩
    · cases e
  · cases e
theorem mx_s_callvN {i mi nt ci maxL : Nat} {y : MethodName} {bytes : ByteArray} {ret : Option FieldType} {r : vw_C} {host : String} (hd : decode M.1 pc = .ok (.invokevirtual i, 3)) (hm : mx_Me B mi y bytes maxL ret (nt - 1)) (hcl : B.2.1.1.1[ci]? = some r) (hin : Cond.instanceMethod y ∈ B.2.1.2.1) (hsel : Cond.selects r.1 y y ∈ B.2.1.2.1) (hlink : (M.2.2.1, i, y, host) ∈ B.2.1.2.2.2.1) : mx_Sn B M pc (mx_callv mi nt ci (pc + 3)) := by
  intro d k call hk hcall ls st h rr e
  unfold mx_callv at e
  split at e
  · rename_i b as hst
    split at e
    · rename_i cz fs hcell
      replace e := mx_bt e
      obtain ⟨hb, e⟩ := e
      obtain ⟨hb1, hb2⟩ := mx_and hb
      obtain ⟨hb2, hb3⟩ := mx_and hb2
      have hci : cz = ci := Nat.eq_of_beq_eq_true hb1
      subst hci
      have hlen : as.length = nt - 1 := Nat.eq_of_beq_eq_true hb2
      have hcat := Nat.ble_eq.mp hb3
      obtain ⟨r1, hr1, e⟩ := mx_om e
      rw [mx_ret1_eq] at e
      have G := hk _ _ _ _ _ e
      obtain ⟨hm0, hm1, ⟨ws', hm2⟩, hm3, hm4, hm5, hm6⟩ := hm
      obtain ⟨d', hdd, hle, hMet⟩ := hcall _ _ _ _ hr1
      have hMet := hMet hm0
      rw [hm1] at hMet
      have g1 := G.1.1
      have g2 := G.1.2
      refine ⟨hle.tr G.1, fun p e s m args below meth c hc hs H locs la A h1 h2 hR hL hl => ?_⟩
      subst hdd
      obtain ⟨hlenf, cell, q1, q2, q3, q4⟩ := mx_obj hR hcell hcl
      have hcls := (A.2.2.2.2.2.2.2.2.1.1 _ _ hcl).2
      refine mx_after (aa := ((Value.ref b :: as).map (mx_v B.2.1.1)).toArray) A rfl h1 h2 hle hL hl G ?_
      exact va_runVN (C := r.1) (b := mx_rho B.2.1.1 b) (As := as.map (mx_v B.2.1.1)) (rest := (st.drop nt).map (mx_v B.2.1.1)) ⟨A.1, A.2.1, A.2.2.1, A.2.2.2.1, A.2.2.2.2.1⟩ hMet ⟨va_cnB (nt - 1) A.2.2.2.2.1 hm3 hm2 rfl rfl (A.2.2.2.2.2.2.2.2.2.2.1 _ hlink) (A.2.2.2.2.1 _ hm4) hm5 ⟨Nat.le_refl _, by show 8 + (maxL + 11) + 64 * d' ≤ 64 * (d' + 1); omega⟩, A.2.2.2.2.1 _ hin, A.2.2.2.2.1 _ hsel⟩ ⟨mx_blind, ⟨cell, q1, by rw [q3]; rfl, by rw [q2]; exact hcls.1⟩, mx_pre (as := .ref b :: as) hR A.2.2.2.2.2.2.2.2⟩ rfl (by rw [List.length_map]; exact hlen) (hl.1) (by
          show st.map (mx_v B.2.1.1) = _
          conv => lhs; rw [mx_take hst]
          rw [List.reverse_cons, List.append_assoc, List.map_append, List.map_append, List.map_reverse]; rfl) (lv_room (by rw [mx_cat_sum]; exact hcat)) hd ⟨by show _ ≤ rr.2.1 - hc; have := hle.1; omega, by show _ ≤ rr.2.2.1 - hs; have := hle.2; omega⟩
    · cases e
  · cases e
theorem mx_s_calls {i mi nt maxL : Nat} {y : MethodName} {bytes : ByteArray} {ret : Option FieldType}  (hd : decode M.1 pc = .ok (.invokestatic i, 3)) (hm : mx_Me B mi y bytes maxL ret nt) (hstat : Cond.static y ∈ B.2.1.2.1) (hlink : Cond.methodLink M.2.2.1 i y ∈ B.2.1.2.1) : mx_Sn B M pc (mx_calls mi nt (pc + 3)) := by
  intro d k call hk hcall ls st h rr e
  unfold mx_calls at e
  replace e := mx_bt e
  obtain ⟨hb, e⟩ := e
  obtain ⟨hb2, hb3⟩ := mx_and hb
  have hlen : (st.take nt).length = nt := Nat.eq_of_beq_eq_true hb2
  have hcat := Nat.ble_eq.mp hb3
  obtain ⟨r1, hr1, e⟩ := mx_om e
  rw [mx_ret1_eq] at e
  have G := hk _ _ _ _ _ e
  obtain ⟨hm0, hm1, ⟨ws', hm2⟩, hm3, hm4, hm5, hm6⟩ := hm
  obtain ⟨d', hdd, hle, hMet⟩ := hcall _ _ _ _ hr1
  have hMet := hMet hm0
  rw [hm1] at hMet
  have g1 := G.1.1
  have g2 := G.1.2
  refine ⟨hle.tr G.1, fun p e s m args below meth c hc hs H locs la A h1 h2 hR hL hl => ?_⟩
  subst hdd
  refine mx_after (aa := ((st.take nt).reverse.map (mx_v B.2.1.1)).toArray) A rfl h1 h2 hle hL hl G ?_
  exact va_runS (As := (st.take nt).reverse.map (mx_v B.2.1.1)) (rest := (st.drop nt).map (mx_v B.2.1.1)) ⟨A.1, A.2.1, A.2.2.1, A.2.2.2.1, A.2.2.2.2.1⟩ hMet ⟨callB_of nt A.2.2.2.2.1 hm3 hm2 rfl rfl (A.2.2.2.2.1 _ hm4) (A.2.2.2.2.1 _ hlink) hm5 ⟨Nat.le_refl _, by show 8 + (maxL + 11) + 64 * d' ≤ 64 * (d' + 1); omega⟩, A.2.2.2.2.1 _ hstat⟩ ⟨mx_blind, mx_pre hR A.2.2.2.2.2.2.2.2⟩ rfl (by rw [List.length_map, List.length_reverse]; exact hlen) (hl.1) (by
          show st.map (mx_v B.2.1.1) = _
          rw [← List.map_reverse, List.reverse_reverse, ← List.map_append, List.take_append_drop]) (lv_room (by rw [mx_cat_sum]; exact hcat)) hd ⟨by show _ ≤ rr.2.1 - hc; have := hle.1; omega, by show _ ≤ rr.2.2.1 - hs; have := hle.2; omega⟩
theorem mx_s_callsN {i mi nt maxL : Nat} {y : MethodName} {bytes : ByteArray} {ret : Option FieldType} {host : String} (hd : decode M.1 pc = .ok (.invokestatic i, 3)) (hm : mx_Me B mi y bytes maxL ret nt) (hstat : Cond.static y ∈ B.2.1.2.1) (hlink : (M.2.2.1, i, y, host) ∈ B.2.1.2.2.2.1) : mx_Sn B M pc (mx_calls mi nt (pc + 3)) := by
  intro d k call hk hcall ls st h rr e
  unfold mx_calls at e
  replace e := mx_bt e
  obtain ⟨hb, e⟩ := e
  obtain ⟨hb2, hb3⟩ := mx_and hb
  have hlen : (st.take nt).length = nt := Nat.eq_of_beq_eq_true hb2
  have hcat := Nat.ble_eq.mp hb3
  obtain ⟨r1, hr1, e⟩ := mx_om e
  rw [mx_ret1_eq] at e
  have G := hk _ _ _ _ _ e
  obtain ⟨hm0, hm1, ⟨ws', hm2⟩, hm3, hm4, hm5, hm6⟩ := hm
  obtain ⟨d', hdd, hle, hMet⟩ := hcall _ _ _ _ hr1
  have hMet := hMet hm0
  rw [hm1] at hMet
  have g1 := G.1.1
  have g2 := G.1.2
  refine ⟨hle.tr G.1, fun p e s m args below meth c hc hs H locs la A h1 h2 hR hL hl => ?_⟩
  subst hdd
  refine mx_after (aa := ((st.take nt).reverse.map (mx_v B.2.1.1)).toArray) A rfl h1 h2 hle hL hl G ?_
  exact va_runSN (As := (st.take nt).reverse.map (mx_v B.2.1.1)) (rest := (st.drop nt).map (mx_v B.2.1.1)) ⟨A.1, A.2.1, A.2.2.1, A.2.2.2.1, A.2.2.2.2.1⟩ hMet ⟨va_cnB nt A.2.2.2.2.1 hm3 hm2 rfl rfl (A.2.2.2.2.2.2.2.2.2.2.1 _ hlink) (A.2.2.2.2.1 _ hm4) hm5 ⟨Nat.le_refl _, by show 8 + (maxL + 11) + 64 * d' ≤ 64 * (d' + 1); omega⟩, A.2.2.2.2.1 _ hstat, trivial⟩ ⟨mx_blind, mx_pre hR A.2.2.2.2.2.2.2.2⟩ rfl (by rw [List.length_map, List.length_reverse]; exact hlen) (hl.1) (by
          show st.map (mx_v B.2.1.1) = _
          rw [← List.map_reverse, List.reverse_reverse, ← List.map_append, List.take_append_drop]) (lv_room (by rw [mx_cat_sum]; exact hcat)) hd ⟨by show _ ≤ rr.2.1 - hc; have := hle.1; omega, by show _ ≤ rr.2.2.1 - hs; have := hle.2; omega⟩
theorem mx_s_calli {i mi nt maxL : Nat} {y : MethodName} {bytes : ByteArray}  (hd : decode M.1 pc = .ok (.invokespecial i, 3)) (hm : mx_Me B mi y bytes maxL none (nt - 1)) (hin : Cond.instanceMethod y ∈ B.2.1.2.1) (hy : y.name = "<init>") (hlink : Cond.methodLink M.2.2.1 i y ∈ B.2.1.2.1) : mx_Sn B M pc (mx_calli mi nt (pc + 3)) := by
  intro d k call hk hcall ls st h rr e
  unfold mx_calli at e
  split at e
  · rename_i b as hst
    replace e := mx_bt e
    obtain ⟨hb, e⟩ := e
    obtain ⟨hb2, hb3⟩ := mx_and hb
    have hlen : as.length = nt - 1 := Nat.eq_of_beq_eq_true hb2
    have hcat := Nat.ble_eq.mp hb3
    obtain ⟨r1, hr1, e⟩ := mx_om e
    replace e := mx_bt e
    obtain ⟨hnone, e⟩ := e
    have G : mx_G B M d (pc + 3) ls (r1.1.toList ++ st.drop nt) r1.2 rr := by
      rw [Option.isNone_iff_eq_none.mp hnone]; exact hk _ _ _ _ _ e
    obtain ⟨hm0, hm1, ⟨ws', hm2⟩, hm3, hm4, hm5, hm6⟩ := hm
    obtain ⟨d', hdd, hle, hMet⟩ := hcall _ _ _ _ hr1
    have hMet := hMet hm0
    rw [hm1] at hMet
    have g1 := G.1.1
    have g2 := G.1.2
    refine ⟨hle.tr G.1, fun p e s m args below meth c hc hs H locs la A h1 h2 hR hL hl => ?_⟩
    subst hdd
    refine mx_after (aa := ((Value.ref b :: as).map (mx_v B.2.1.1)).toArray) A rfl h1 h2 hle hL hl G ?_
    exact va_runI (b := mx_rho B.2.1.1 b) (As := as.map (mx_v B.2.1.1)) (rest := (st.drop nt).map (mx_v B.2.1.1)) ⟨A.1, A.2.1, A.2.2.1, A.2.2.2.1, A.2.2.2.2.1⟩ hMet ⟨callB_of (nt - 1) A.2.2.2.2.1 hm3 hm2 rfl rfl (A.2.2.2.2.1 _ hm4) (A.2.2.2.2.1 _ hlink) hm5 ⟨Nat.le_refl _, by show 8 + (maxL + 11) + 64 * d' ≤ 64 * (d' + 1); omega⟩, hy, A.2.2.2.2.1 _ hin⟩ ⟨mx_blind, mx_pre (as := .ref b :: as) hR A.2.2.2.2.2.2.2.2⟩ rfl (by rw [List.length_map]; exact hlen) (hl.1) (by
          show st.map (mx_v B.2.1.1) = _
          conv => lhs; rw [mx_take hst]
          rw [List.reverse_cons, List.append_assoc, List.map_append, List.map_append, List.map_reverse]; rfl) (lv_room (by rw [mx_cat_sum]; exact hcat)) hd ⟨by show _ ≤ rr.2.1 - hc; have := hle.1; omega, by show _ ≤ rr.2.2.1 - hs; have := hle.2; omega⟩
  · cases e
theorem mx_s_calliN {i mi nt maxL : Nat} {y : MethodName} {bytes : ByteArray} {host : String} (hd : decode M.1 pc = .ok (.invokespecial i, 3)) (hm : mx_Me B mi y bytes maxL none (nt - 1)) (hin : Cond.instanceMethod y ∈ B.2.1.2.1) (hy : y.name = "<init>") (hlink : (M.2.2.1, i, y, host) ∈ B.2.1.2.2.2.1) : mx_Sn B M pc (mx_calli mi nt (pc + 3)) := by
  intro d k call hk hcall ls st h rr e
  unfold mx_calli at e
  split at e
  · rename_i b as hst
    replace e := mx_bt e
    obtain ⟨hb, e⟩ := e
    obtain ⟨hb2, hb3⟩ := mx_and hb
    have hlen : as.length = nt - 1 := Nat.eq_of_beq_eq_true hb2
    have hcat := Nat.ble_eq.mp hb3
    obtain ⟨r1, hr1, e⟩ := mx_om e
    replace e := mx_bt e
    obtain ⟨hnone, e⟩ := e
    have G : mx_G B M d (pc + 3) ls (r1.1.toList ++ st.drop nt) r1.2 rr := by
      rw [Option.isNone_iff_eq_none.mp hnone]; exact hk _ _ _ _ _ e
    obtain ⟨hm0, hm1, ⟨ws', hm2⟩, hm3, hm4, hm5, hm6⟩ := hm
    obtain ⟨d', hdd, hle, hMet⟩ := hcall _ _ _ _ hr1
    have hMet := hMet hm0
    rw [hm1] at hMet
    have g1 := G.1.1
    have g2 := G.1.2
    refine ⟨hle.tr G.1, fun p e s m args below meth c hc hs H locs la A h1 h2 hR hL hl => ?_⟩
    subst hdd
    refine mx_after (aa := ((Value.ref b :: as).map (mx_v B.2.1.1)).toArray) A rfl h1 h2 hle hL hl G ?_
    exact va_runIN (b := mx_rho B.2.1.1 b) (As := as.map (mx_v B.2.1.1)) (rest := (st.drop nt).map (mx_v B.2.1.1)) ⟨A.1, A.2.1, A.2.2.1, A.2.2.2.1, A.2.2.2.2.1⟩ hMet ⟨va_cnB (nt - 1) A.2.2.2.2.1 hm3 hm2 rfl rfl (A.2.2.2.2.2.2.2.2.2.2.1 _ hlink) (A.2.2.2.2.1 _ hm4) hm5 ⟨Nat.le_refl _, by show 8 + (maxL + 11) + 64 * d' ≤ 64 * (d' + 1); omega⟩, hy, A.2.2.2.2.1 _ hin⟩ ⟨mx_blind, mx_pre (as := .ref b :: as) hR A.2.2.2.2.2.2.2.2⟩ rfl (by rw [List.length_map]; exact hlen) (hl.1) (by
          show st.map (mx_v B.2.1.1) = _
          conv => lhs; rw [mx_take hst]
          rw [List.reverse_cons, List.append_assoc, List.map_append, List.map_append, List.map_reverse]; rfl) (lv_room (by rw [mx_cat_sum]; exact hcat)) hd ⟨by show _ ≤ rr.2.1 - hc; have := hle.1; omega, by show _ ≤ rr.2.2.1 - hs; have := hle.2; omega⟩
  · cases e
theorem mx_s_objinit {i : Nat} (hd : decode M.1 pc = .ok (.invokespecial i, 3)) (hlink : Cond.methodLink M.2.2.1 i objectInit ∈ B.2.1.2.1) (hin : Cond.instanceMethod objectInit ∈ B.2.1.2.1) (hco : Cond.code objectInit ⟨#[0xb1]⟩ 1 none ∈ B.2.1.2.1) : mx_Sn B M pc (mx_objinit (pc + 3)) := by
  intro d k call hk hcall ls st h rr e
  unfold mx_objinit at e
  split at e
  · rename_i a rest
    replace e := mx_bt e
    obtain ⟨hb, e⟩ := e
    have hcat := Nat.ble_eq.mp hb
    obtain ⟨r1, hr1, e⟩ := mx_om e
    obtain ⟨d', hdd, hle, hMet⟩ := hcall _ _ _ _ hr1
    have G := hk _ _ _ _ _ e
    refine ⟨G.1, fun p e s m args below meth c hc hs H locs la A h1 h2 hR hL hl => ?_⟩
    subst hdd
    refine W.objInit A.1 A.2.1 A.2.2.2.1 (A.2.2.2.2.1 _ hlink) (A.2.2.2.2.1 _ hin) (A.2.2.2.2.1 _ hco) rfl (by rw [A.2.2.1]; exact hl.1) rfl hd (by show 1 ≤ d' + 1; omega) ?_ (G.2 p e s m args below meth c hc hs H locs la A h1 h2 hR hL hl)
    show 2 * 0 + _ + 12 ≤ 64 * (d' + 1)
    rw [mx_cat_sum]; omega
  · cases e
theorem mx_s_mmax {i : Nat} (hd : decode M.1 pc = .ok (.invokestatic i, 3)) (hlink : Cond.methodLink M.2.2.1 i Lib.Math.max.name ∈ B.2.1.2.1) (hstat : Cond.static Lib.Math.max.name ∈ B.2.1.2.1) (hini : Cond.initialized "java/lang/Math" ∈ B.2.1.2.1) (hco : Cond.code Lib.Math.max.name Lib.Math.max.code 2 (some .int) ∈ B.2.1.2.1) : mx_Sn B M pc (mx_mmax (pc + 3)) := by
  intro d k call hk hcall ls st h rr e
  unfold mx_mmax at e
  split at e
  · rename_i y x rest
    replace e := mx_bt e
    obtain ⟨hb, e⟩ := e
    have hcat := Nat.ble_eq.mp hb
    obtain ⟨r1, hr1, e⟩ := mx_om e
    obtain ⟨d', hdd, hle, hMet⟩ := hcall _ _ _ _ hr1
    have G := hk _ _ _ _ _ e
    have g1 := G.1.1
    have g2 := G.1.2
    refine ⟨G.1, fun p e s m args below meth c hc hs H locs la A h1 h2 hR hL hl => ?_⟩
    subst hdd
    refine va_mmax A.1 A.2.1 (by rw [A.2.2.1]; exact hl.1.symm) A.2.2.2.1 (A.2.2.2.2.1 _ hlink) (A.2.2.2.2.1 _ hstat) (A.2.2.2.2.1 _ hini) (A.2.2.2.2.1 _ hco) (by show 1 ≤ d' + 1; omega) ?_ (by show _ ≤ rr.2.1 - hc; omega) (by show _ ≤ rr.2.2.1 - hs; omega) hd (G.2 p e s m args below meth c hc hs H locs la A h1 h2 hR hL hl)
    show _ + 13 ≤ 64 * (d' + 1)
    rw [mx_cat_sum]; omega
  · cases e
theorem mx_s_mmin {i : Nat} (hd : decode M.1 pc = .ok (.invokestatic i, 3)) (hlink : Cond.methodLink M.2.2.1 i Lib.Math.min.name ∈ B.2.1.2.1) (hstat : Cond.static Lib.Math.min.name ∈ B.2.1.2.1) (hini : Cond.initialized "java/lang/Math" ∈ B.2.1.2.1) (hco : Cond.code Lib.Math.min.name Lib.Math.min.code 2 (some .int) ∈ B.2.1.2.1) : mx_Sn B M pc (mx_mmin (pc + 3)) := by
  intro d k call hk hcall ls st h rr e
  unfold mx_mmin at e
  split at e
  · rename_i y x rest
    replace e := mx_bt e
    obtain ⟨hb, e⟩ := e
    have hcat := Nat.ble_eq.mp hb
    obtain ⟨r1, hr1, e⟩ := mx_om e
    obtain ⟨d', hdd, hle, hMet⟩ := hcall _ _ _ _ hr1
    have G := hk _ _ _ _ _ e
    have g1 := G.1.1
    have g2 := G.1.2
    refine ⟨G.1, fun p e s m args below meth c hc hs H locs la A h1 h2 hR hL hl => ?_⟩
    subst hdd
    refine va_mmin A.1 A.2.1 (by rw [A.2.2.1]; exact hl.1.symm) A.2.2.2.1 (A.2.2.2.2.1 _ hlink) (A.2.2.2.2.1 _ hstat) (A.2.2.2.2.1 _ hini) (A.2.2.2.2.1 _ hco) (by show 1 ≤ d' + 1; omega) ?_ (by show _ ≤ rr.2.1 - hc; omega) (by show _ ≤ rr.2.2.1 - hs; omega) hd (G.2 p e s m args below meth c hc hs H locs la A h1 h2 hR hL hl)
    show _ + 13 ≤ 64 * (d' + 1)
    rw [mx_cat_sum]; omega
  · cases e
theorem mx_s_iret (hd : decode M.1 pc = .ok (.ireturn, 1)) (hr : M.2.2.2.2 = some .int) : mx_Sn B M pc mx_iret := by
  intro d k call hk hcall ls st h rr e
  unfold mx_iret at e
  split at e
  · cases e
    refine ⟨mx_le.rf h, fun p e s m args below meth c hc hs H locs la A h1 h2 hR hL hl => ?_⟩
    exact W.iret A.1 A.2.1 (A.2.2.2.2.2.1.trans hr) (fun t ht hW => ⟨rfl, by rw [ht]; exact mx_Rp.moved hW.alike hR⟩) hL hd A.2.2.2.2.2.2.1
  · cases e
theorem mx_s_zret (hd : decode M.1 pc = .ok (.ireturn, 1)) (hr : M.2.2.2.2 = some .boolean) : mx_Sn B M pc mx_zret := by
  intro d k call hk hcall ls st h rr e
  unfold mx_zret at e
  split at e
  · split at e
    · rename_i hv
      cases e
      refine ⟨mx_le.rf h, fun p e s m args below meth c hc hs H locs la A h1 h2 hR hL hl => ?_⟩
      refine W.zret A.1 A.2.1 (A.2.2.2.2.2.1.trans hr) ?_ (fun t ht hW => ⟨rfl, by rw [ht]; exact mx_Rp.moved hW.alike hR⟩) hL hd A.2.2.2.2.2.2.1
      rcases hv with hv | hv
      · subst hv; decide +kernel
      · subst hv; decide +kernel
    · cases e
  · cases e
theorem mx_s_lret (hd : decode M.1 pc = .ok (.lreturn, 1)) (hr : M.2.2.2.2 = some .long) : mx_Sn B M pc mx_lret := by
  intro d k call hk hcall ls st h rr e
  unfold mx_lret at e
  split at e
  · cases e
    refine ⟨mx_le.rf h, fun p e s m args below meth c hc hs H locs la A h1 h2 hR hL hl => ?_⟩
    exact W.lret A.1 A.2.1 (A.2.2.2.2.2.1.trans hr) (fun t ht hW => ⟨rfl, by rw [ht]; exact mx_Rp.moved hW.alike hR⟩) hL hd A.2.2.2.2.2.2.1
  · cases e
theorem mx_s_vret (hd : decode M.1 pc = .ok (.return_, 1)) (hr : M.2.2.2.2 = none) : mx_Sn B M pc mx_vret := by
  intro d k call hk hcall ls st h rr e
  unfold mx_vret at e
  split at e
  · cases e
    refine ⟨mx_le.rf h, fun p e s m args below meth c hc hs H locs la A h1 h2 hR hL hl => ?_⟩
    exact W.vret A.1 A.2.1 (A.2.2.2.2.2.1.trans hr) (fun t ht hW => ⟨rfl, by rw [ht]; exact mx_Rp.moved hW.alike hR⟩) hL hd A.2.2.2.2.2.2.1
  · cases e
theorem mx_s_aret {rt : FieldType} (hd : decode M.1 pc = .ok (.areturn, 1)) (hr : M.2.2.2.2 = some rt) (hrt : (∃ n, rt = .object n) ∨ ∃ t, rt = .array t) : mx_Sn B M pc mx_aret := by
  intro d k call hk hcall ls st h rr e
  unfold mx_aret at e
  split at e
  · rename_i a
    cases e
    refine ⟨mx_le.rf h, fun p e s m args below meth c hc hs H locs la A h1 h2 hR hL hl => ?_⟩
    exact W.aret (v := .ref (mx_rho B.2.1.1 a)) A.1 A.2.1 (A.2.2.2.2.2.1.trans hr) hrt (Or.inr ⟨_, rfl⟩) (fun t ht hW => ⟨rfl, by rw [ht]; exact mx_Rp.moved hW.alike hR⟩) hL hd A.2.2.2.2.2.2.1
  · cases e
    refine ⟨mx_le.rf h, fun p e s m args below meth c hc hs H locs la A h1 h2 hR hL hl => ?_⟩
    exact W.aret (v := .null) A.1 A.2.1 (A.2.2.2.2.2.1.trans hr) hrt (Or.inl rfl) (fun t ht hW => ⟨rfl, by rw [ht]; exact mx_Rp.moved hW.alike hR⟩) hL hd A.2.2.2.2.2.2.1
  · cases e
/-- the entry's locals -/
theorem mx_ent_len : ∀ (as : List Value) (n : Nat), (lg_sl as).length ≤ (mx_ent as n).length
  | [], n => Nat.zero_le _
  | v :: vs, n => by
    have h2 := mx_ent_len vs (n - 2)
    have h1 := mx_ent_len vs (n - 1)
    cases v <;> (simp [lg_sl, mx_ent, Value.category, List.flatMap_cons] at h1 h2 ⊢; omega)
theorem mx_ent_at {E : mx_E} : ∀ (as : List Value) (n b i : Nat) (v : Value), (mx_ent as n)[i]? = some (some v) → (b + i, mx_v E v) ∈ lv_args b (as.map (mx_v E))
  | [], n, b, i, v, h => by
    unfold mx_ent at h
    rw [List.getElem?_replicate] at h
    split at h <;> cases h
  | a :: vs, n, b, i, v, h => by
    show (b + i, mx_v E v) ∈ (b, mx_v E a) :: lv_args (if (mx_v E a).category = 2 then b + 2 else b + 1) (vs.map (mx_v E))
    rw [mx_v_cat]
    have one : ∀ l : mx_L, (some a :: l)[i]? = some (some v) → (i = 0 ∧ v = a) ∨ ∃ j, i = j + 1 ∧ l[j]? = some (some v) := by
      intro l hl
      cases i with
      | zero => left; cases hl; exact ⟨rfl, rfl⟩
      | succ j => right; exact ⟨j, rfl, by rw [List.getElem?_cons_succ] at hl; exact hl⟩
    have fin1 : a.category = 1 → ((i = 0 ∧ v = a) ∨ ∃ j, i = j + 1 ∧ (mx_ent vs (n - 1))[j]? = some (some v)) → (b + i, mx_v E v) ∈ (b, mx_v E a) :: lv_args (if a.category = 2 then b + 2 else b + 1) (vs.map (mx_v E)) := by
      intro hc hh
      rw [if_neg (by rw [hc]; decide)]
      rcases hh with ⟨rfl, rfl⟩ | ⟨j, rfl, hj⟩
      · exact List.mem_cons_self
      · have := mx_ent_at (E := E) vs (n - 1) (b + 1) j v hj
        rw [show b + (j + 1) = b + 1 + j by omega]
        exact List.mem_cons_of_mem _ this
    have fin2 : a.category = 2 → ((i = 0 ∧ v = a) ∨ ∃ j, i = j + 1 ∧ (none :: mx_ent vs (n - 2))[j]? = some (some v)) → (b + i, mx_v E v) ∈ (b, mx_v E a) :: lv_args (if a.category = 2 then b + 2 else b + 1) (vs.map (mx_v E)) := by
      intro hc hh
      rw [if_pos hc]
      rcases hh with ⟨rfl, rfl⟩ | ⟨j, rfl, hj⟩
      · exact List.mem_cons_self
      · cases j with
        | zero => cases hj
        | succ j =>
          rw [List.getElem?_cons_succ] at hj
          have := mx_ent_at (E := E) vs (n - 2) (b + 2) j v hj
          rw [show b + (j + 1 + 1) = b + 2 + j by omega]
          exact List.mem_cons_of_mem _ this
    cases a <;> first | exact fin1 rfl (one _ h) | exact fin2 rfl (one _ h)
theorem mx_entry {E : mx_E} {as : List Value} {n : Nat} (hn : (mx_ent as n).length = n) : mx_ls E ((lg_sl (as.map (mx_v E)) ++ List.replicate (n - (lg_sl (as.map (mx_v E))).length) Slot.unset).toArray) n (mx_ent as n) := by
  have hsl : (lg_sl (as.map (mx_v E))).length = (lg_sl as).length := by
    clear hn
    induction as with
    | nil => rfl
    | cons v vs ih =>
      simp only [lg_sl, List.map_cons, List.flatMap_cons, List.length_append, mx_v_cat] at ih ⊢
      rw [ih]
      split <;> rfl
  have h := lv_entry (as.map (mx_v E)) (n := n) (by rw [hsl]; have := mx_ent_len as n; omega)
  exact mx_ls_of h hn (fun i v hv => by have := mx_ent_at (E := E) as n 0 i v hv; rw [Nat.zero_add] at this; exact this)
/-- a method whose table is sound; all of them: what the small machine answers, the machine does -/
def mx_Ok (B : mx_B) (P : mx_P) (mi : Nat) : Prop := ∃ M : mx_M, (∀ pc, mx_Sn B M pc ((P mi).2 pc)) ∧ (P mi).1 = M.2.1 ∧ (B.2.2.1 mi).cls = M.2.2.1 ∧ (B.2.2.1 mi).name = M.2.2.2.1 ∧ plainName (B.2.2.1 mi).cls = true ∧ B.2.2.2 mi = Cond.code (B.2.2.1 mi) M.1 M.2.1 M.2.2.2.2 :: B.2.1.2.1
theorem mx_ev_ok {P : mx_P} {fuel : Nat} (hP : ∀ mi, ¬ mi = 0 → mx_Ok B P mi) : ∀ d, mx_Cl B d (mx_ev P fuel d)
  | 0 => fun _ _ _ _ e => by cases e
  | d + 1 => by
    intro mi as h r e
    have e2 : (bif Nat.beq mi 0 then some ((none, h) : mx_R) else bif Nat.beq (mx_ent as (P mi).1).length (P mi).1 then mx_run (P mi).2 (mx_ev P fuel d) fuel 0 (mx_ent as (P mi).1) [] h else none) = some r := e
    refine ⟨d, rfl, ?_⟩
    cases h0 : Nat.beq mi 0 with
    | true =>
      rw [h0] at e2
      cases e2
      exact ⟨mx_le.rf h, fun z => absurd (Nat.eq_of_beq_eq_true h0) z⟩
    | false =>
      rw [h0] at e2
      obtain ⟨hb, e3⟩ := mx_bt (show (bif Nat.beq (mx_ent as (P mi).1).length (P mi).1 then mx_run (P mi).2 (mx_ev P fuel d) fuel 0 (mx_ent as (P mi).1) [] h else none) = some r from e2)
      have hlen : (mx_ent as (P mi).1).length = (P mi).1 := Nat.eq_of_beq_eq_true hb
      have hmi : ¬ mi = 0 := fun z => by rw [z] at h0; cases h0
      obtain ⟨M, k1, k2, k3, k4, k5, k6⟩ := hP mi hmi
      have G := mx_run_ok k1 (mx_ev_ok hP d) fuel 0 (mx_ent as (P mi).1) [] h r e3
      refine ⟨G.1, fun _ => ?_⟩
      refine Met.ofW (cc := M.1) (maxL := M.2.1) (ret := M.2.2.2.2) k5 k6 ?_
      intro p e s m args below meth c s₁ Bd hml hv
      obtain ⟨rfl, hR, hK⟩ := hv
      have hts := atoms_spec (ws := B.2.2.2 mi) Bd.pre
      have A : mx_At B M p s m (as.map (mx_v B.2.1.1)).toArray meth c := ⟨Bd.exec, Bd.bytes, hml, by rw [← k3]; exact findClass_of_methodNamed Bd.named, fun w hw => hts w (by rw [k6]; exact List.mem_cons_of_mem _ hw), Bd.returns, Bd.notSynchronized, by rw [← k4]; exact (name_of_methodNamed Bd.named Bd.method).1, hK⟩
      have K := G.2 p e s m _ below meth c h.1 h.2.1 s.heap [] _ A (Nat.le_refl _) (Nat.le_refl _) hR (fun q hq => by cases hq) (by rw [← k2]; exact mx_entry hlen)
      rw [Nat.sub_self, Nat.sub_self] at K
      rw [lg_entry_eq, ← k2]
      exact K
end MXC
