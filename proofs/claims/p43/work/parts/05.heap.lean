/-! cells: fields, arrays, new ones -/
section MXH
variable {B : mx_B} {M : mx_M} {pc : Nat}
theorem mx_toClamp {j : Int32} {n : Nat} (h0 : ¬ j < 0) (h : Nat.blt j.toNatClampNeg n = true) : ¬ (j < 0 ∨ n ≤ j.toNatClampNeg) := by
  have := mx_blt h
  rintro (q | q)
  · exact h0 q
  · omega
theorem mx_toClampLe {j : Int32} {n m : Nat} (h0 : ¬ j < 0) (h : Nat.blt j.toNatClampNeg n = true) (hm : n ≤ m) : ¬ (j < 0 ∨ m ≤ j.toNatClampNeg) := by
  have := mx_blt h
  rintro (q | q)
  · exact h0 q
  · omega
theorem mx_nblt {a b : Nat} (h : Nat.blt a b = false) : ¬ a < b := fun q => by
  have : Nat.blt a b = true := Nat.ble_eq.mpr q
  rw [this] at h; cases h
def mx_pl : Value → Bool
  | .int _ | .long _ | .null => true
  | _ => false
theorem mx_pl_v {E : mx_E} {v : Value} (h : mx_pl v = true) : mx_v E v = v := by
  cases v <;> first | rfl | cases h
/-- what an object's cell is -/
theorem mx_obj {E : mx_E} {U : State} {h : mx_H} {H : Heap} {a ci : Nat} {fs : List Value} {r : vw_C} (hR : mx_Rp E U h H) (e : mx_cell h a = some (.inl (ci, fs))) (hcl : E.1[ci]? = some r) :
    fs.length = r.2.2 ∧ ∃ cell : Cell, H[mx_rho E a]? = some cell ∧ cell.cls = E.2.1.1 ci ∧ cell.vm = .none ∧ ∀ k, k < r.2.2 → cell.slots[E.2.1.2 ci k]? = some (vp_V (fs.map (mx_v E)) k) := by
  obtain ⟨r', hr', hlen, cell, q1, q2, q3, q4⟩ := hR.at e
  cases hr'.symm.trans hcl
  exact ⟨hlen, cell, q1, q2, q3, q4⟩
theorem mx_vpV {E : mx_E} {fs : List Value} {f : Nat} {v : Value} (h : fs[f]? = some v) : vp_V (fs.map (mx_v E)) f = mx_v E v := by
  simp [vp_V, h]
/-- a class of ours, and what its words say -/
def mx_Cs (B : mx_B) (ci : Nat) (r : vw_C) : Prop := B.2.1.1.1[ci]? = some r ∧ (∀ w ∈ u_ws r.1 r.2.1 r.2.2, w ∈ B.2.1.2.1) ∧ (∀ a, a < r.2.2 → ∀ b, b < r.2.2 → a ≠ b → (r.2.1 a).2.1 ≠ (r.2.1 b).2.1) ∧ ∃ ty : Nat → FieldType, ∀ k, k < r.2.2 → parseFieldDescriptor (r.2.1 k).2.2.1 = some (ty k)
theorem mx_apart {s : State} {args : Array Value} {ci : Nat} {r : vw_C} (hts : ∀ w ∈ B.2.1.2.1, w.before args s = true) (hK : va_K B.2.1.1.2.1 B.2.1.1.1 [] s) (hcs : mx_Cs B ci r) : ∀ x y, x < r.2.2 → y < r.2.2 → x ≠ y → B.2.1.1.2.1.2 ci x ≠ B.2.1.1.2.1.2 ci y := by
  obtain ⟨h1, h2, h3, ty, h4⟩ := hcs
  obtain ⟨C, T, N⟩ := r
  exact va_apart (own := C) hts h2 ty h4 h3 hK h1
theorem mx_locs {V : mx_Ev} {a i : Nat} {locs : List Loc} (ha : ¬ a < V.1.2.2.1) (hal : a < 4096) (hL : ∀ q ∈ locs, mx_up V q.base) : ∀ q ∈ locs ++ [(⟨mx_rho V.1 a, i⟩ : Loc)], mx_up V q.base := by
  intro q hq
  rcases List.mem_append.mp hq with hq | hq
  · exact hL q hq
  · cases List.mem_singleton.mp hq
    show _ ≤ mx_rho V.1 a
    rw [mx_rho_hi ha hal]; exact Nat.le_add_right _ _
theorem mx_s_getf {i ci f : Nat} {r : vw_C} (hd : decode M.1 pc = .ok (.getfield i, 3)) (hcs : mx_Cs B ci r) (hf : f < r.2.2) (hlink : Cond.fieldLink M.2.2.1 i (r.2.1 f).1 (r.2.1 f).2.1 (r.2.1 f).2.2.1 ∈ B.2.1.2.1) : mx_Sn B M pc (mx_getf ci f (pc + 3)) := by
  intro d k call hk hcl ls st h rr e
  unfold mx_getf at e
  split at e
  · rename_i a rest
    split at e
    · rename_i cz fs hcell
      replace e := mx_bt e
      obtain ⟨hb, e⟩ := e
      have hci : cz = ci := Nat.eq_of_beq_eq_true hb
      subst hci
      split at e
      · rename_i v hv
        have G := hk _ _ _ _ _ e
        refine ⟨G.1, fun p e s m args below meth c hc hs H locs la A h1 h2 hR hL hl => ?_⟩
        obtain ⟨hlen, cell, q1, q2, q3, q4⟩ := mx_obj hR hcell hcs.1
        obtain ⟨hS, hfc, kC, hkC, hkind⟩ := A.2.2.2.2.2.2.2.2.1.1 _ _ hcs.1
        obtain ⟨cf, kf, fi, fd, hi, hsl⟩ := hS f hf
        refine W.getf A.1 A.2.1 A.2.2.2.1 (A.2.2.2.2.1 _ hlink) hi (u_facts hfc hkC (u_lays A.2.2.2.2.1 hcs.2.1 hf) hi).1 q1 (by rw [q3]; exact fun h => by cases h) (v := mx_v B.2.1.1 v) ?_ rfl rfl hd (G.2 p e s m args below meth c hc hs H locs la A h1 h2 hR hL hl)
        rw [hsl, q4 f hf, mx_vpV (by rw [← mx_nth_eq]; exact hv)]
      · cases e
    · cases e
  · cases e
theorem mx_fit_v {E : mx_E} {ty : FieldType} {v : Value} (h : mx_fit ty v = true) : narrow ty (mx_v E v) = mx_v E v ∧ fits ty (mx_v E v) = true := by
  cases ty <;> cases v <;> simp [mx_fit, mx_v, narrow, fits] at h ⊢
  rename_i x
  rcases h with h | h
  · subst h; decide +kernel
  · subst h; decide +kernel
theorem mx_s_putf {i ci f : Nat} {ty : FieldType} {r : vw_C} (hd : decode M.1 pc = .ok (.putfield i, 3)) (hcs : mx_Cs B ci r) (hf : f < r.2.2) (hty : parseFieldDescriptor (r.2.1 f).2.2.1 = some ty) (hlink : Cond.fieldLink M.2.2.1 i (r.2.1 f).1 (r.2.1 f).2.1 (r.2.1 f).2.2.1 ∈ B.2.1.2.1) (hfin : (r.2.1 f).2.2.2 = false) : mx_Sn B M pc (mx_putf B.2.1.1.2.2.1 ci f ty (pc + 3)) := by
  intro d k call hk hcl ls st h rr e
  unfold mx_putf at e
  split at e
  · rename_i v a rest
    replace e := mx_bf e
    obtain ⟨ha, e⟩ := e
    have ha2 := mx_nblt ha
    split at e
    · rename_i cz fs hcell
      replace e := mx_bt e
      obtain ⟨hb, e⟩ := e
      obtain ⟨hb1, hb2⟩ := mx_and hb
      obtain ⟨hb2, hb3⟩ := mx_and hb2
      have hci : cz = ci := Nat.eq_of_beq_eq_true hb1
      subst hci
      have hfl := mx_blt hb2
      have G := hk _ _ _ _ _ e
      refine ⟨G.1, fun p e s m args below meth c hc hs H locs la A h1 h2 hR hL hl => ?_⟩
      have hfit := mx_fit_v (E := B.2.1.1) hb3
      obtain ⟨hlen, cell, q1, q2, q3, q4⟩ := mx_obj hR hcell hcs.1
      obtain ⟨hS, hfc, kC, hkC, hkind⟩ := A.2.2.2.2.2.2.2.2.1.1 _ _ hcs.1
      have hap := mx_apart A.2.2.2.2.1 A.2.2.2.2.2.2.2.2.1 hcs
      obtain ⟨cf, kf, fi, fd, hi, hsl⟩ := hS f hf
      have hlay := A.2.2.2.2.1 _ (hcs.2.1 _ (u_in_lay hf))
      unfold u_lay at hlay
      rw [if_neg (by rw [hfin]; decide)] at hlay
      have hst := (u_facts hfc hkC (u_lays A.2.2.2.2.1 hcs.2.1 hf) hi).1
      have h6 := u_store hfc hkC hkind hlay hi hty hfit.1 hfit.2
      refine W.putK A.1 A.2.1 (f := fd) ⟨A.2.2.2.1, A.2.2.2.2.1 _ hlink, ⟨_, _, _, hi⟩, hst⟩ (by rw [q2]; exact h6) q1 q3 (by rw [hsl]; exact k2_hasslot (q4 f hf)) rfl rfl hd fun H1 e1 e2 e3 => ?_
      rw [hsl] at e1
      refine G.2 p e s m args below meth c hc hs H1 _ la A h1 h2 (hR.put ha2 (mx_cell_some hcell).1 ⟨r, hcs.1, by rw [mx_upd_eq, List.length_set]; exact hlen, t_OB.to (V := updV (vp_V (fs.map (mx_v B.2.1.1))) f (mx_v B.2.1.1 v)) ⟨_, e1, q2, q3, t_set q4 hap hf _⟩ (fun j _ => ?_)⟩ e2 e3) (mx_locs ha2 (Nat.lt_of_lt_of_le (mx_cell_some hcell).1 hR.2.1) hL) hl
      rw [vp_updV_set (by rw [List.length_map]; exact hfl), mx_upd_eq, List.map_set]
    · cases e
  · cases e
theorem mx_s_putfF {i ci f : Nat} {ty : FieldType} {r : vw_C} (hd : decode M.1 pc = .ok (.putfield i, 3)) (hcs : mx_Cs B ci r) (hf : f < r.2.2) (hty : parseFieldDescriptor (r.2.1 f).2.2.1 = some ty) (hlink : Cond.fieldLink M.2.2.1 i (r.2.1 f).1 (r.2.1 f).2.1 (r.2.1 f).2.2.1 ∈ B.2.1.2.1) (hfin : (r.2.1 f).2.2.2 = true) (hini : M.2.2.2.1 = "<init>") (hdecl : (r.2.1 f).1 = M.2.2.1) : mx_Sn B M pc (mx_putf B.2.1.1.2.2.1 ci f ty (pc + 3)) := by
  intro d k call hk hcl ls st h rr e
  unfold mx_putf at e
  split at e
  · rename_i v a rest
    replace e := mx_bf e
    obtain ⟨ha, e⟩ := e
    have ha2 := mx_nblt ha
    split at e
    · rename_i cz fs hcell
      replace e := mx_bt e
      obtain ⟨hb, e⟩ := e
      obtain ⟨hb1, hb2⟩ := mx_and hb
      obtain ⟨hb2, hb3⟩ := mx_and hb2
      have hci : cz = ci := Nat.eq_of_beq_eq_true hb1
      subst hci
      have hfl := mx_blt hb2
      have G := hk _ _ _ _ _ e
      refine ⟨G.1, fun p e s m args below meth c hc hs H locs la A h1 h2 hR hL hl => ?_⟩
      have hfit := mx_fit_v (E := B.2.1.1) hb3
      obtain ⟨hlen, cell, q1, q2, q3, q4⟩ := mx_obj hR hcell hcs.1
      obtain ⟨hS, hfc, kC, hkC, hkind⟩ := A.2.2.2.2.2.2.2.2.1.1 _ _ hcs.1
      have hap := mx_apart A.2.2.2.2.1 A.2.2.2.2.2.2.2.2.1 hcs
      obtain ⟨cf, kf, fi, fd, hi, hsl⟩ := hS f hf
      have hlay := A.2.2.2.2.1 _ (hcs.2.1 _ (u_in_lay hf))
      unfold u_lay at hlay
      rw [if_pos hfin] at hlay
      have hst := (u_facts hfc hkC (u_lays A.2.2.2.2.1 hcs.2.1 hf) hi).1
      have hcf : m.cls = cf := by
        obtain ⟨_, _, c', _, _, _, -, -, hf', -, -, -, hown2, -⟩ := Cond.laysFinal_spec hlay
        have e1 : c' = cf := by have := hi.symm.trans hf'; simp at this; exact this.1.symm
        rw [hdecl] at hown2
        rw [← e1]; exact Option.some.inj (A.2.2.2.1.symm.trans hown2)
      have h6 := u_fits hfc hkC hkind (Or.inr hlay) hi hty hfit.1 hfit.2
      refine W.putFinK A.1 A.2.1 A.2.2.2.1 (A.2.2.2.2.1 _ hlink) hi hst hcf (by rw [A.2.2.2.2.2.2.2.1]; exact hini) (by rw [q2]; exact h6) q1 q3 (by rw [hsl]; exact k2_hasslot (q4 f hf)) rfl rfl hd fun H1 e1 e2 e3 => ?_
      rw [hsl] at e1
      refine G.2 p e s m args below meth c hc hs H1 _ la A h1 h2 (hR.put ha2 (mx_cell_some hcell).1 ⟨r, hcs.1, by rw [mx_upd_eq, List.length_set]; exact hlen, t_OB.to (V := updV (vp_V (fs.map (mx_v B.2.1.1))) f (mx_v B.2.1.1 v)) ⟨_, e1, q2, q3, t_set q4 hap hf _⟩ (fun j _ => ?_)⟩ e2 e3) (mx_locs ha2 (Nat.lt_of_lt_of_le (mx_cell_some hcell).1 hR.2.1) hL) hl
      rw [vp_updV_set (by rw [List.length_map]; exact hfl), mx_upd_eq, List.map_set]
    · cases e
  · cases e
theorem mx_s_new {i ci n : Nat} {fs : List Value} {r : vw_C} (hd : decode M.1 pc = .ok (.new i, 3)) (hcs : mx_Cs B ci r) (hn : r.2.2 = n) (hlink : Cond.classLink M.2.2.1 i r.1 ∈ B.2.1.2.1) (hinst : Cond.instantiable r.1 n ∈ B.2.1.2.1) (hini : Cond.initialized r.1 ∈ B.2.1.2.1)
    (hpl : fs.all mx_pl = true) (hfs : fs.length = n ∧ ∀ (k : Nat) (ty : FieldType), k < n → parseFieldDescriptor (r.2.1 k).2.2.1 = some ty → fs[k]? = some (defaultValue ty)) : mx_Sn B M pc (mx_new ci n fs (pc + 3)) := by
  intro d k call hk hcl ls st h rr e
  unfold mx_new at e
  replace e := mx_bt e
  obtain ⟨hb, e⟩ := e
  have hb := mx_blt hb
  have G := hk _ _ _ _ _ e
  have g1 : h.1 + 1 ≤ rr.2.1 := G.1.1
  have g2 : h.2.1 + n ≤ rr.2.2.1 := G.1.2
  subst hn
  refine ⟨⟨by omega, by omega⟩, fun p e s m args below meth c hc hs H locs la A h1 h2 hR hL hl => ?_⟩
  obtain ⟨hcs1, hcs2, hcs3, ty, hty⟩ := hcs
  have hKn := A.2.2.2.2.2.2.2.2.1.1 _ _ hcs1
  refine W.newcK A.1 A.2.1 A.2.2.2.1 (A.2.2.2.2.1 _ hlink) (A.2.2.2.2.1 _ hinst) (A.2.2.2.2.1 _ hini) rfl hd (by show _ ≤ rr.2.1 - hc; omega) (by show _ ≤ rr.2.2.1 - hs; omega) hKn.2.1 rfl fun H1 kC hkC e1 z1 o1 => ?_
  have hP := hR.push (n := r.2.2) (c := .inl (ci, fs)) hb ⟨r, hcs1, hfs.1, (u_born ty A.2.2.2.2.1 hcs2 hKn hkC e1 hty).to (fun j hj => ?_)⟩ z1 o1
  · have G2 := G.2 p e s m args below meth c hc hs H1 locs la A (by show hc ≤ h.1 + 1; omega) (by show hs ≤ h.2.1 + _; omega) hP hL hl
    have z2 : (mx_push h r.2.2 (.inl (ci, fs))).1 - hc = h.1 - hc + 1 := by show h.1 + 1 - hc = _; omega
    have z3 : (mx_push h r.2.2 (.inl (ci, fs))).2.1 - hs = h.2.1 - hs + r.2.2 := by show h.2.1 + r.2.2 - hs = _; omega
    rw [z2, z3] at G2
    have z4 : ((Value.ref h.1 :: st).map (mx_v B.2.1.1)) = .ref H.size :: st.map (mx_v B.2.1.1) := by
      show Value.ref (mx_rho B.2.1.1 h.1) :: _ = _
      rw [mx_rho_new hR hb]
    rw [z4] at G2
    exact G2
  · have h9 := hfs.2 j (ty j) hj (hty j hj)
    rw [mx_vpV h9, mx_pl_v (List.all_eq_true.mp hpl _ (List.mem_of_getElem? h9))]
theorem mx_s_newa {aty : ArrayType} {ty : FieldType} {dv : Value} (hd : decode M.1 pc = .ok (.newarray aty, 2)) (hty : newarray.typeOf aty = ty) (hdv : defaultValue ty = dv) (hfl : ¬ ty = .float) (hpl : mx_pl dv = true) (hw : Cond.arrayClass ty ∈ B.2.1.2.1) : mx_Sn B M pc (mx_newa ty dv (pc + 2)) := by
  intro d k call hk hcl ls st h rr e
  unfold mx_newa at e
  split at e
  · rename_i n rest
    split at e
    · cases e
    · rename_i hn0
      replace e := mx_bt e
      obtain ⟨hb, e⟩ := e
      obtain ⟨hb, hb2⟩ := mx_and hb
      have hb := mx_blt hb
      have hb2 := Nat.ble_eq.mp hb2
      have G := hk _ _ _ _ _ e
      generalize hN : n.toNatClampNeg = N at hb2 e G
      have g1 : h.1 + 1 ≤ rr.2.1 := G.1.1
      have g2 : h.2.1 + N ≤ rr.2.2.1 := G.1.2
      subst hty
      subst hdv
      refine ⟨⟨by omega, by omega⟩, fun p e s m args below meth c hc hs H locs la A h1 h2 hR hL hl => ?_⟩
      refine va_newaK A.1 A.2.1 (A.2.2.2.2.1 _ hw) rfl hd rfl hn0 hN (by cases aty <;> simp [newarray.typeOf, componentBytes] <;> omega) (by show _ ≤ rr.2.1 - hc; omega) (by show _ ≤ rr.2.2.1 - hs; omega) rfl fun H1 cA e1 z1 o1 hAr hNm => ?_
      have hP := hR.push (n := N) (c := .inr (newarray.typeOf aty, N, mx_rep (defaultValue (newarray.typeOf aty)) 13)) hb (Or.inr ⟨hfl, _, e1, hAr _ _, (fun h => by cases h), ⟨by rw [arrV_size]; exact Nat.le_refl _, by rw [arrV_size]⟩, hb2, (fun j hj => by rw [arrV_read _ _ hj, mx_get_rep, mx_pl_v hpl]), (fun C hC => by cases aty <;> cases hC)⟩) z1 o1
      have G2 := G.2 p e s m args below meth c hc hs H1 locs la A (by show hc ≤ h.1 + 1; omega) (by show hs ≤ h.2.1 + _; omega) hP hL hl
      have z2 : (mx_push h N (.inr (newarray.typeOf aty, N, mx_rep (defaultValue (newarray.typeOf aty)) 13))).1 - hc = h.1 - hc + 1 := by show h.1 + 1 - hc = _; omega
      have z3 : (mx_push h N (.inr (newarray.typeOf aty, N, mx_rep (defaultValue (newarray.typeOf aty)) 13))).2.1 - hs = h.2.1 - hs + N := by show h.2.1 + N - hs = _; omega
      rw [z2, z3] at G2
      have z4 : ((Value.ref h.1 :: rest).map (mx_v B.2.1.1)) = .ref H.size :: rest.map (mx_v B.2.1.1) := by
        show Value.ref (mx_rho B.2.1.1 h.1) :: _ = _
        rw [mx_rho_new hR hb]
      rw [z4] at G2
      exact G2
  · cases e
theorem mx_s_anew {i : Nat} {C : String} (hd : decode M.1 pc = .ok (.anewarray i, 3)) (hlink : Cond.classLink M.2.2.1 i C ∈ B.2.1.2.1) (hov : C ∈ B.2.1.2.2.1) : mx_Sn B M pc (mx_newa (.object C) .null (pc + 3)) := by
  intro d k call hk hcl ls st h rr e
  unfold mx_newa at e
  split at e
  · rename_i n rest
    split at e
    · cases e
    · rename_i hn0
      replace e := mx_bt e
      obtain ⟨hb, e⟩ := e
      obtain ⟨hb, hb2⟩ := mx_and hb
      have hb := mx_blt hb
      have hb2 := Nat.ble_eq.mp hb2
      have G := hk _ _ _ _ _ e
      have g1 : h.1 + 1 ≤ rr.2.1 := G.1.1
      have g2 : h.2.1 + n.toNatClampNeg ≤ rr.2.2.1 := G.1.2
      refine ⟨⟨by omega, by omega⟩, fun p e s m args below meth c hc hs H locs la A h1 h2 hR hL hl => ?_⟩
      refine W.anew A.1 A.2.1 A.2.2.2.1 (A.2.2.2.2.1 _ hlink) (va_AO.use (A.2.2.2.2.2.2.2.2.2.1 _ hov)) rfl hd rfl hn0 (by omega) (by show _ ≤ rr.2.1 - hc; omega) (by show _ ≤ rr.2.2.1 - hs; omega) fun cA kA comp k1 k2 k3 k4 => ?_
      have hP := hR.push (H1 := H.push { cls := cA, slots := Array.replicate n.toNatClampNeg .null, vm := .none }) (n := n.toNatClampNeg) (c := .inr (.object C, n.toNatClampNeg, mx_rep .null 13)) hb (Or.inr ⟨(by intro h; cases h), { cls := cA, slots := Array.replicate n.toNatClampNeg .null, vm := .none }, (by simp), ⟨fun k h => (by cases h), kA, k2, comp, k3⟩, (fun h => by cases h), ⟨by simp, by simp⟩, hb2, (fun j hj => by rw [mx_get_rep]; simp [hj, mx_v]), (fun C2 hC => by cases hC; exact ⟨kA, comp, k2, k3, k4, k1⟩)⟩) (by simp) (fun q hq => by rw [Array.getElem?_push, if_neg (Nat.ne_of_lt hq)])
      have G2 := G.2 p e s m args below meth c hc hs _ locs la A (by show hc ≤ h.1 + 1; omega) (by show hs ≤ h.2.1 + _; omega) hP hL hl
      have z2 : (mx_push h n.toNatClampNeg (.inr (.object C, n.toNatClampNeg, mx_rep .null 13))).1 - hc = h.1 - hc + 1 := by show h.1 + 1 - hc = _; omega
      have z3 : (mx_push h n.toNatClampNeg (.inr (.object C, n.toNatClampNeg, mx_rep .null 13))).2.1 - hs = h.2.1 - hs + n.toNatClampNeg := by show h.2.1 + n.toNatClampNeg - hs = _; omega
      rw [z2, z3] at G2
      have z4 : ((Value.ref h.1 :: rest).map (mx_v B.2.1.1)) = .ref H.size :: rest.map (mx_v B.2.1.1) := by
        show Value.ref (mx_rho B.2.1.1 h.1) :: _ = _
        rw [mx_rho_new hR hb]
      rw [z4] at G2
      exact G2
  · cases e
theorem mx_s_iald (hd : decode M.1 pc = .ok (.iaload, 1)) : mx_Sn B M pc (mx_iald (pc + 1)) := by
  intro d k call hk hcl ls st h rr e
  unfold mx_iald at e
  split at e
  · rename_i j a rest
    split at e
    · rename_i n cc hcell
      split at e
      · cases e
      · rename_i hj0
        replace e := mx_bt e
        obtain ⟨hb, e⟩ := e
        have G := hk _ _ _ _ _ e
        refine ⟨G.1, fun p e s m args below meth c hc hs H locs la A h1 h2 hR hL hl => ?_⟩
        obtain ⟨cell, q1, q2, q3, q4, q5, q6, q7⟩ := hR.arr hcell (by intro h; cases h)
        exact W.iald A.1 A.2.1 q1 q2 q3 (mx_toClampLe hj0 hb q4.1) (q6 _ (mx_blt hb)) rfl rfl hd (G.2 p e s m args below meth c hc hs H locs la A h1 h2 hR hL hl)
    · cases e
  · cases e
theorem mx_s_lald (hd : decode M.1 pc = .ok (.laload, 1)) : mx_Sn B M pc (mx_lald (pc + 1)) := by
  intro d k call hk hcl ls st h rr e
  unfold mx_lald at e
  split at e
  · rename_i j a rest
    split at e
    · rename_i n cc hcell
      split at e
      · cases e
      · rename_i hj0
        replace e := mx_bt e
        obtain ⟨hb, e⟩ := e
        have G := hk _ _ _ _ _ e
        refine ⟨G.1, fun p e s m args below meth c hc hs H locs la A h1 h2 hR hL hl => ?_⟩
        obtain ⟨cell, q1, q2, q3, q4, q5, q6, q7⟩ := hR.arr hcell (by intro h; cases h)
        exact W.lald A.1 A.2.1 q1 q2 q3 (mx_toClampLe hj0 hb q4.1) (q6 _ (mx_blt hb)) rfl rfl hd (G.2 p e s m args below meth c hc hs H locs la A h1 h2 hR hL hl)
    · cases e
  · cases e
theorem mx_s_bald (hd : decode M.1 pc = .ok (.baload, 1)) : mx_Sn B M pc (mx_bald (pc + 1)) := by
  intro d k call hk hcl ls st h rr e
  unfold mx_bald at e
  split at e
  · rename_i j a rest
    split at e
    · rename_i n cc hcell
      split at e
      · cases e
      · rename_i hj0
        replace e := mx_bt e
        obtain ⟨hb, e⟩ := e
        have G := hk _ _ _ _ _ e
        refine ⟨G.1, fun p e s m args below meth c hc hs H locs la A h1 h2 hR hL hl => ?_⟩
        obtain ⟨cell, q1, q2, q3, q4, q5, q6, q7⟩ := hR.arr hcell (by intro h; cases h)
        exact W.bald A.1 A.2.1 q1 q2 q3 (mx_toClampLe hj0 hb q4.1) (q6 _ (mx_blt hb)) rfl rfl hd (G.2 p e s m args below meth c hc hs H locs la A h1 h2 hR hL hl)
    · cases e
  · cases e
theorem mx_s_zald (hd : decode M.1 pc = .ok (.baload, 1)) : mx_Sn B M pc (mx_zald (pc + 1)) := by
  intro d k call hk hcl ls st h rr e
  unfold mx_zald at e
  split at e
  · rename_i j a rest
    split at e
    · rename_i n cc hcell
      split at e
      · cases e
      · rename_i hj0
        replace e := mx_bt e
        obtain ⟨hb, e⟩ := e
        have G := hk _ _ _ _ _ e
        refine ⟨G.1, fun p e s m args below meth c hc hs H locs la A h1 h2 hR hL hl => ?_⟩
        obtain ⟨cell, q1, q2, q3, q4, q5, q6, q7⟩ := hR.arr hcell (by intro h; cases h)
        exact W.zald A.1 A.2.1 q1 q2 q3 (mx_toClampLe hj0 hb q4.1) (q6 _ (mx_blt hb)) rfl rfl hd (G.2 p e s m args below meth c hc hs H locs la A h1 h2 hR hL hl)
    · cases e
  · cases e
theorem mx_s_cald (hd : decode M.1 pc = .ok (.caload, 1)) : mx_Sn B M pc (mx_cald (pc + 1)) := by
  intro d k call hk hcl ls st h rr e
  unfold mx_cald at e
  split at e
  · rename_i j a rest
    split at e
    · rename_i n cc hcell
      split at e
      · cases e
      · rename_i hj0
        replace e := mx_bt e
        obtain ⟨hb, e⟩ := e
        have G := hk _ _ _ _ _ e
        refine ⟨G.1, fun p e s m args below meth c hc hs H locs la A h1 h2 hR hL hl => ?_⟩
        obtain ⟨cell, q1, q2, q3, q4, q5, q6, q7⟩ := hR.arr hcell (by intro h; cases h)
        exact W.cald A.1 A.2.1 q1 q2 q3 (mx_toClampLe hj0 hb q4.1) (q6 _ (mx_blt hb)) rfl rfl hd (G.2 p e s m args below meth c hc hs H locs la A h1 h2 hR hL hl)
    · cases e
  · cases e
theorem mx_s_sald (hd : decode M.1 pc = .ok (.saload, 1)) : mx_Sn B M pc (mx_sald (pc + 1)) := by
  intro d k call hk hcl ls st h rr e
  unfold mx_sald at e
  split at e
  · rename_i j a rest
    split at e
    · rename_i n cc hcell
      split at e
      · cases e
      · rename_i hj0
        replace e := mx_bt e
        obtain ⟨hb, e⟩ := e
        have G := hk _ _ _ _ _ e
        refine ⟨G.1, fun p e s m args below meth c hc hs H locs la A h1 h2 hR hL hl => ?_⟩
        obtain ⟨cell, q1, q2, q3, q4, q5, q6, q7⟩ := hR.arr hcell (by intro h; cases h)
        exact W.sald A.1 A.2.1 q1 q2 q3 (mx_toClampLe hj0 hb q4.1) (q6 _ (mx_blt hb)) rfl rfl hd (G.2 p e s m args below meth c hc hs H locs la A h1 h2 hR hL hl)
    · cases e
  · cases e
theorem mx_s_aald (hd : decode M.1 pc = .ok (.aaload, 1)) : mx_Sn B M pc (mx_aald (pc + 1)) := by
  intro d k call hk hcl ls st h rr e
  unfold mx_aald at e
  split at e
  · rename_i j a rest
    split at e
    · rename_i CC n cc hcell
      split at e
      · cases e
      · rename_i hj0
        replace e := mx_bt e
        obtain ⟨hb, e⟩ := e
        have G := hk _ _ _ _ _ e
        refine ⟨G.1, fun p e s m args below meth c hc hs H locs la A h1 h2 hR hL hl => ?_⟩
        obtain ⟨cell, q1, q2, q3, q4, q5, q6, q7⟩ := hR.arr hcell (by intro h; cases h)
        exact W.aald A.1 A.2.1 q1 q2 rfl q3 (mx_toClampLe hj0 hb q4.1) (q6 _ (mx_blt hb)) rfl rfl hd (G.2 p e s m args below meth c hc hs H locs la A h1 h2 hR hL hl)
    · cases e
  · cases e
/-- an array with one place changed -/
theorem mx_arr_put {E : mx_E} {U : State} {H1 : Heap} {a n k : Nat} {ty : FieldType} {t : mx_A} {cell : Cell} {v : Value} (q2 : U.isArrayOf cell ty) (q3 : cell.vm ≠ .unknown) (q4 : n ≤ cell.slots.size ∧ cell.slots.size.toInt32 = Int32.ofNat n) (q5 : n ≤ 8192) (q6 : ∀ j, j < n → cell.slots[j]? = some (mx_v E (mx_get 13 t j))) (q7 : ∀ C, ty = .object C → va_RA U cell.cls ty) (hk : k < n)
    (e1 : H1[a]? = some (cell.setSlot k (mx_v E v))) (hf : ¬ ty = .float) : mx_ok E U H1 a (.inr (ty, n, mx_set 13 t k v)) := by
  refine Or.inr ⟨hf, _, e1, q2, q3, by rw [k2_slotsz]; exact q4, q5, fun j hj => ?_, q7⟩
  rw [mx_get_set v 13 t k j (by show k < 8192; omega) (by show j < 8192; omega)]
  by_cases hjk : j = k
  · rw [if_pos hjk, hjk]
    exact Cell.slots_setSlot_self _ (Nat.lt_of_lt_of_le hk q4.1)
  · rw [if_neg hjk, slot_ne _ _ (Ne.symm hjk)]
    exact q6 j hj
theorem mx_s_iast (hd : decode M.1 pc = .ok (.iastore, 1)) : mx_Sn B M pc (mx_iast B.2.1.1.2.2.1 (pc + 1)) := by
  intro d k call hk hcl ls st h rr e
  unfold mx_iast at e
  split at e
  · rename_i x j a rest
    replace e := mx_bf e
    obtain ⟨ha, e⟩ := e
    have ha2 := mx_nblt ha
    split at e
    · rename_i n cc hcell
      split at e
      · cases e
      · rename_i hj0
        replace e := mx_bt e
        obtain ⟨hb, e⟩ := e
        have G := hk _ _ _ _ _ e
        refine ⟨G.1, fun p e s m args below meth c hc hs H locs la A h1 h2 hR hL hl => ?_⟩
        obtain ⟨cell, q1, q2, q3, q4, q5, q6, q7⟩ := hR.arr hcell (by intro h; cases h)
        refine W.iast A.1 A.2.1 q1 q2 q3 (mx_toClampLe hj0 hb q4.1) rfl rfl hd fun H1 e1 e2 e3 => ?_
        exact G.2 p e s m args below meth c hc hs H1 _ la A h1 h2 (hR.put ha2 (mx_cell_some hcell).1 (mx_arr_put q2 q3 q4 q5 q6 q7 (mx_blt hb) e1 (by intro h; cases h)) e2 e3) (mx_locs ha2 (Nat.lt_of_lt_of_le (mx_cell_some hcell).1 hR.2.1) hL) hl
    · cases e
  · rename_i x j a rest
    replace e := mx_bf e
    obtain ⟨ha, e⟩ := e
    have ha2 := mx_nblt ha
    split at e
    · rename_i n cc hcell
      split at e
      · cases e
      · rename_i hj0
        replace e := mx_bt e
        obtain ⟨hb, e⟩ := e
        have G := hk _ _ _ _ _ e
        refine ⟨G.1, fun p e s m args below meth c hc hs H locs la A h1 h2 hR hL hl => ?_⟩
        obtain ⟨cell, q1, q2, q3, q4, q5, q6, q7⟩ := hR.arr hcell (by intro h; cases h)
        refine W.iast A.1 A.2.1 q1 q2 q3 (mx_toClampLe hj0 hb q4.1) rfl rfl hd fun H1 e1 e2 e3 => ?_
        exact G.2 p e s m args below meth c hc hs H1 _ la A h1 h2 (hR.put ha2 (mx_cell_some hcell).1 (mx_arr_put (v := .float x) q2 q3 q4 q5 q6 q7 (mx_blt hb) e1 (by intro h; cases h)) e2 e3) (mx_locs ha2 (Nat.lt_of_lt_of_le (mx_cell_some hcell).1 hR.2.1) hL) hl
    · cases e
  · cases e
theorem mx_s_last (hd : decode M.1 pc = .ok (.lastore, 1)) : mx_Sn B M pc (mx_last B.2.1.1.2.2.1 (pc + 1)) := by
  intro d k call hk hcl ls st h rr e
  unfold mx_last at e
  split at e
  · rename_i x j a rest
    replace e := mx_bf e
    obtain ⟨ha, e⟩ := e
    have ha2 := mx_nblt ha
    split at e
    · rename_i n cc hcell
      split at e
      · cases e
      · rename_i hj0
        replace e := mx_bt e
        obtain ⟨hb, e⟩ := e
        have G := hk _ _ _ _ _ e
        refine ⟨G.1, fun p e s m args below meth c hc hs H locs la A h1 h2 hR hL hl => ?_⟩
        obtain ⟨cell, q1, q2, q3, q4, q5, q6, q7⟩ := hR.arr hcell (by intro h; cases h)
        refine W.last A.1 A.2.1 q1 q2 q3 (mx_toClampLe hj0 hb q4.1) rfl rfl hd fun H1 e1 e2 e3 => ?_
        exact G.2 p e s m args below meth c hc hs H1 _ la A h1 h2 (hR.put ha2 (mx_cell_some hcell).1 (mx_arr_put q2 q3 q4 q5 q6 q7 (mx_blt hb) e1 (by intro h; cases h)) e2 e3) (mx_locs ha2 (Nat.lt_of_lt_of_le (mx_cell_some hcell).1 hR.2.1) hL) hl
    · cases e
  · rename_i x j a rest
    replace e := mx_bf e
    obtain ⟨ha, e⟩ := e
    have ha2 := mx_nblt ha
    split at e
    · rename_i n cc hcell
      split at e
      · cases e
      · rename_i hj0
        replace e := mx_bt e
        obtain ⟨hb, e⟩ := e
        have G := hk _ _ _ _ _ e
        refine ⟨G.1, fun p e s m args below meth c hc hs H locs la A h1 h2 hR hL hl => ?_⟩
        obtain ⟨cell, q1, q2, q3, q4, q5, q6, q7⟩ := hR.arr hcell (by intro h; cases h)
        refine W.last A.1 A.2.1 q1 q2 q3 (mx_toClampLe hj0 hb q4.1) rfl rfl hd fun H1 e1 e2 e3 => ?_
        exact G.2 p e s m args below meth c hc hs H1 _ la A h1 h2 (hR.put ha2 (mx_cell_some hcell).1 (mx_arr_put (v := .double x) q2 q3 q4 q5 q6 q7 (mx_blt hb) e1 (by intro h; cases h)) e2 e3) (mx_locs ha2 (Nat.lt_of_lt_of_le (mx_cell_some hcell).1 hR.2.1) hL) hl
    · cases e
  · cases e
theorem mx_s_bast (hd : decode M.1 pc = .ok (.bastore, 1)) : mx_Sn B M pc (mx_bast B.2.1.1.2.2.1 (pc + 1)) := by
  intro d k call hk hcl ls st h rr e
  unfold mx_bast at e
  split at e
  · rename_i x j a rest
    replace e := mx_bf e
    obtain ⟨ha, e⟩ := e
    have ha2 := mx_nblt ha
    split at e
    · rename_i n cc hcell
      split at e
      · cases e
      · rename_i hj0
        replace e := mx_bt e
        obtain ⟨hb, e⟩ := e
        have G := hk _ _ _ _ _ e
        refine ⟨G.1, fun p e s m args below meth c hc hs H locs la A h1 h2 hR hL hl => ?_⟩
        obtain ⟨cell, q1, q2, q3, q4, q5, q6, q7⟩ := hR.arr hcell (by intro h; cases h)
        refine W.bast A.1 A.2.1 q1 q2 q3 (mx_toClampLe hj0 hb q4.1) rfl rfl hd fun H1 e1 e2 e3 => ?_
        exact G.2 p e s m args below meth c hc hs H1 _ la A h1 h2 (hR.put ha2 (mx_cell_some hcell).1 (mx_arr_put q2 q3 q4 q5 q6 q7 (mx_blt hb) e1 (by intro h; cases h)) e2 e3) (mx_locs ha2 (Nat.lt_of_lt_of_le (mx_cell_some hcell).1 hR.2.1) hL) hl
    · cases e
  · rename_i x j a rest
    replace e := mx_bf e
    obtain ⟨ha, e⟩ := e
    have ha2 := mx_nblt ha
    split at e
    · rename_i n cc hcell
      split at e
      · cases e
      · rename_i hj0
        replace e := mx_bt e
        obtain ⟨hx, e⟩ := e
        obtain ⟨hx1, hx2⟩ := mx_an hx
        have hX : (mx_fl B.2.1.1.2.2.2.2.2.2 x.toNat).toInt8.toInt32 = mx_fl B.2.1.1.2.2.2.2.2.2 x.toNat := mx_fl_b (Nat.ble_eq.mp hx1) (mx_blt hx2)
        replace e := mx_bt e
        obtain ⟨hb, e⟩ := e
        have G := hk _ _ _ _ _ e
        refine ⟨G.1, fun p e s m args below meth c hc hs H locs la A h1 h2 hR hL hl => ?_⟩
        obtain ⟨cell, q1, q2, q3, q4, q5, q6, q7⟩ := hR.arr hcell (by intro h; cases h)
        refine W.bast A.1 A.2.1 q1 q2 q3 (mx_toClampLe hj0 hb q4.1) rfl rfl hd fun H1 e1 e2 e3 => ?_
        rw [show narrow FieldType.byte (Value.int (mx_fl B.2.1.1.2.2.2.2.2.2 x.toNat)) = Value.int (mx_fl B.2.1.1.2.2.2.2.2.2 x.toNat) from (show Value.int (mx_fl B.2.1.1.2.2.2.2.2.2 x.toNat).toInt8.toInt32 = _ by rw [hX])] at e1
        exact G.2 p e s m args below meth c hc hs H1 _ la A h1 h2 (hR.put ha2 (mx_cell_some hcell).1 (mx_arr_put (v := .float x) q2 q3 q4 q5 q6 q7 (mx_blt hb) e1 (by intro h; cases h)) e2 e3) (mx_locs ha2 (Nat.lt_of_lt_of_le (mx_cell_some hcell).1 hR.2.1) hL) hl
    · cases e
  · cases e
theorem mx_s_zast (hd : decode M.1 pc = .ok (.bastore, 1)) : mx_Sn B M pc (mx_zast B.2.1.1.2.2.1 (pc + 1)) := by
  intro d k call hk hcl ls st h rr e
  unfold mx_zast at e
  split at e
  · rename_i x j a rest
    replace e := mx_bf e
    obtain ⟨ha, e⟩ := e
    have ha2 := mx_nblt ha
    split at e
    · rename_i n cc hcell
      split at e
      · cases e
      · rename_i hj0
        replace e := mx_bt e
        obtain ⟨hb, e⟩ := e
        have G := hk _ _ _ _ _ e
        refine ⟨G.1, fun p e s m args below meth c hc hs H locs la A h1 h2 hR hL hl => ?_⟩
        obtain ⟨cell, q1, q2, q3, q4, q5, q6, q7⟩ := hR.arr hcell (by intro h; cases h)
        refine W.zast A.1 A.2.1 q1 q2 q3 (mx_toClampLe hj0 hb q4.1) rfl rfl hd fun H1 e1 e2 e3 => ?_
        exact G.2 p e s m args below meth c hc hs H1 _ la A h1 h2 (hR.put ha2 (mx_cell_some hcell).1 (mx_arr_put q2 q3 q4 q5 q6 q7 (mx_blt hb) e1 (by intro h; cases h)) e2 e3) (mx_locs ha2 (Nat.lt_of_lt_of_le (mx_cell_some hcell).1 hR.2.1) hL) hl
    · cases e
  · cases e
theorem mx_s_cast (hd : decode M.1 pc = .ok (.castore, 1)) : mx_Sn B M pc (mx_cast B.2.1.1.2.2.1 (pc + 1)) := by
  intro d k call hk hcl ls st h rr e
  unfold mx_cast at e
  split at e
  · rename_i x j a rest
    replace e := mx_bf e
    obtain ⟨ha, e⟩ := e
    have ha2 := mx_nblt ha
    split at e
    · rename_i n cc hcell
      split at e
      · cases e
      · rename_i hj0
        replace e := mx_bt e
        obtain ⟨hb, e⟩ := e
        have G := hk _ _ _ _ _ e
        refine ⟨G.1, fun p e s m args below meth c hc hs H locs la A h1 h2 hR hL hl => ?_⟩
        obtain ⟨cell, q1, q2, q3, q4, q5, q6, q7⟩ := hR.arr hcell (by intro h; cases h)
        refine W.cast A.1 A.2.1 q1 q2 q3 (mx_toClampLe hj0 hb q4.1) rfl rfl hd fun H1 e1 e2 e3 => ?_
        exact G.2 p e s m args below meth c hc hs H1 _ la A h1 h2 (hR.put ha2 (mx_cell_some hcell).1 (mx_arr_put q2 q3 q4 q5 q6 q7 (mx_blt hb) e1 (by intro h; cases h)) e2 e3) (mx_locs ha2 (Nat.lt_of_lt_of_le (mx_cell_some hcell).1 hR.2.1) hL) hl
    · cases e
  · cases e
theorem mx_s_sast (hd : decode M.1 pc = .ok (.sastore, 1)) : mx_Sn B M pc (mx_sast B.2.1.1.2.2.1 (pc + 1)) := by
  intro d k call hk hcl ls st h rr e
  unfold mx_sast at e
  split at e
  · rename_i x j a rest
    replace e := mx_bf e
    obtain ⟨ha, e⟩ := e
    have ha2 := mx_nblt ha
    split at e
    · rename_i n cc hcell
      split at e
      · cases e
      · rename_i hj0
        replace e := mx_bt e
        obtain ⟨hb, e⟩ := e
        have G := hk _ _ _ _ _ e
        refine ⟨G.1, fun p e s m args below meth c hc hs H locs la A h1 h2 hR hL hl => ?_⟩
        obtain ⟨cell, q1, q2, q3, q4, q5, q6, q7⟩ := hR.arr hcell (by intro h; cases h)
        refine W.sast A.1 A.2.1 q1 q2 q3 (mx_toClampLe hj0 hb q4.1) rfl rfl hd fun H1 e1 e2 e3 => ?_
        exact G.2 p e s m args below meth c hc hs H1 _ la A h1 h2 (hR.put ha2 (mx_cell_some hcell).1 (mx_arr_put q2 q3 q4 q5 q6 q7 (mx_blt hb) e1 (by intro h; cases h)) e2 e3) (mx_locs ha2 (Nat.lt_of_lt_of_le (mx_cell_some hcell).1 hR.2.1) hL) hl
    · cases e
  · cases e
theorem mx_s_aast {ci : Nat} {r : vw_C} (hd : decode M.1 pc = .ok (.aastore, 1)) (hcs : mx_Cs B ci r) : mx_Sn B M pc (mx_aast B.2.1.1.2.2.1 ci (pc + 1) r.1) := by
  intro d k call hk hcl ls st h rr e
  unfold mx_aast at e
  split at e
  · rename_i b j a rest
    replace e := mx_bf e
    obtain ⟨ha, e⟩ := e
    have ha2 := mx_nblt ha
    split at e
    · rename_i cz fs hcellb
      replace e := mx_bt e
      obtain ⟨hb, e⟩ := e
      have hci : cz = ci := Nat.eq_of_beq_eq_true hb
      subst hci
      split at e
      · rename_i D n cc hcell
        split at e
        · rename_i hDC
          subst hDC
          split at e
          · cases e
          · rename_i hj0
            replace e := mx_bt e
            obtain ⟨hb2, e⟩ := e
            have G := hk _ _ _ _ _ e
            refine ⟨G.1, fun p e s m args below meth c hc hs H locs la A h1 h2 hR hL hl => ?_⟩
            obtain ⟨cell, q1, q2, q3, q4, q5, q6, q7⟩ := hR.arr hcell (by intro h; cases h)
            obtain ⟨hlen, cellV, g1, g2, g3, -⟩ := mx_obj hR hcellb hcs.1
            have hcls := (A.2.2.2.2.2.2.2.2.1.1 _ _ hcs.1).2
            obtain ⟨kA, comp, k1, k2, k3, -⟩ := q7 _ rfl
            have hcomp : comp = B.2.1.1.2.1.1 cz := Option.some.inj (k3.symm.trans hcls.1)
            subst hcomp
            obtain ⟨kC, hkC, -⟩ := hcls.2
            refine W.aast A.1 A.2.1 q1 (fun q => q2.1 q) q3 k1 k2 rfl hkC ⟨hj0, Nat.lt_of_lt_of_le (mx_blt hb2) q4.1⟩ g1 (fun q h => by rw [g3] at h; cases h) (by rw [g2]; exact hkC) (by rw [g2]; exact va_assign hcls) rfl rfl hd fun H1 e1 e2 e3 => ?_
            exact G.2 p e s m args below meth c hc hs H1 _ la A h1 h2 (hR.put ha2 (mx_cell_some hcell).1 (mx_arr_put (v := .ref b) q2 q3 q4 q5 q6 q7 (mx_blt hb2) e1 (by intro h; cases h)) e2 e3) (mx_locs ha2 (Nat.lt_of_lt_of_le (mx_cell_some hcell).1 hR.2.1) hL) hl
        · cases e
      · cases e
    · cases e
  · cases e
theorem mx_s_alen (hd : decode M.1 pc = .ok (.arraylength, 1)) : mx_Sn B M pc (mx_alen (pc + 1)) := by
  intro d k call hk hcl ls st h rr e
  unfold mx_alen at e
  split at e
  · rename_i a rest
    split at e
    · cases e
    · rename_i ty n cc hno hcell
      have G := hk _ _ _ _ _ e
      refine ⟨G.1, fun p e s m args below meth c hc hs H locs la A h1 h2 hR hL hl => ?_⟩
      obtain ⟨cell, q1, q2, q3, q4, q5, q6, q7⟩ := hR.arr hcell (fun hf => by subst hf; exact hno rfl)
      exact W.alen A.1 A.2.1 q1 q2 q4.2 rfl rfl hd (G.2 p e s m args below meth c hc hs H locs la A h1 h2 hR hL hl)
    · cases e
  · cases e
end MXH
