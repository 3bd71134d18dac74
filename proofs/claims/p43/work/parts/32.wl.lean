/-! the law's own walk: a new object, a call, over the small machine's cells -/
section MXW
variable {B : mx_B} {p : Program} {e : Env} {R : Room} {s : State} {m : MethodId} {args : Array Value} {below : List Frame} {meth : Method} {c : Code} {H : Heap} {locs : List Loc} {cells slots : Nat} {Q : State → Prop} {cc : ByteArray} {nL pc : Nat} {la : Array Slot} {own : String} {h : mx_H}
def mx_Wx (B : mx_B) (p : Program) (s : State) (m : MethodId) (args : Array Value) (c : Code) (cc : ByteArray) (nL : Nat) (own : String) : Prop :=
  p.tables.exec = Jvm.exec ∧ c.code = cc ∧ c.maxLocals = nL ∧ s.vm.findClass own = some m.cls ∧ (∀ w ∈ B.2.1.2.1, w.before args s = true) ∧ mx_KK B.2.1 s
theorem mx_Wnew {i ci n : Nat} {fs : List Value} {r : vw_C} {rest : List Value} (A : mx_Wx B p s m args c cc nL own) (hd : decode cc pc = .ok (.new i, 3)) (hcs : mx_Cs B ci r) (hn : r.2.2 = n) (hlink : Cond.classLink own i r.1 ∈ B.2.1.2.1) (hinst : Cond.instantiable r.1 n ∈ B.2.1.2.1) (hini : Cond.initialized r.1 ∈ B.2.1.2.1)
    (hpl : fs.all mx_pl = true) (hfs : fs.length = n ∧ ∀ (k : Nat) (ty : FieldType), k < n → parseFieldDescriptor (r.2.1 k).2.2.1 = some ty → fs[k]? = some (defaultValue ty)) (hR : mx_Rp B.2.1.1 s h H) (hlt : h.1 < 4096) (hcells : cells + 1 ≤ R.cells) (hslots : slots + n ≤ R.slots)
    (kk : ∀ H1 : Heap, mx_Rp B.2.1.1 s (mx_push h n (.inl (ci, fs))) H1 → W p B.1 e R s m args below meth c H1 locs (cells + 1) (slots + n) Q (F0 m (pc + 3) la (.ref (mx_rho B.2.1.1 h.1) :: rest))) : W p B.1 e R s m args below meth c H locs cells slots Q (F0 m pc la rest) := by
  subst hn
  obtain ⟨hcs1, hcs2, hcs3, ty, hty⟩ := hcs
  have hKn := A.2.2.2.2.2.1.1 _ _ hcs1
  refine W.newcK A.1 A.2.1 A.2.2.2.1 (A.2.2.2.2.1 _ hlink) (A.2.2.2.2.1 _ hinst) (A.2.2.2.2.1 _ hini) rfl hd hcells hslots hKn.2.1 rfl fun H1 kC hkC e1 z1 o1 => ?_
  have hP := hR.push (n := r.2.2) (c := .inl (ci, fs)) hlt ⟨r, hcs1, hfs.1, (u_born ty A.2.2.2.2.1 hcs2 hKn hkC e1 hty).to (fun j hj => ?_)⟩ z1 o1
  · have K := kk H1 hP
    rw [mx_rho_new hR hlt] at K
    exact K
  · have h9 := hfs.2 j (ty j) hj (hty j hj)
    rw [mx_vpV h9, mx_pl_v (List.all_eq_true.mp hpl _ (List.mem_of_getElem? h9))]
theorem mx_Wafter {r1 : mx_R} {rest st0 : List Value} {aa : Array Value} (hL : ∀ q ∈ locs, mx_up B.2.1 q.base)
    (hr : va_Run p B.1 e R s m args below meth c H locs cells slots (r1.2.1 - h.1) (r1.2.2.1 - h.2.1) (F0 m pc la st0) rest (mx_Qc B.2.1 r1 aa) (mx_up B.2.1))
    (kk : ∀ (H1 : Heap) (locs1 : List Loc), mx_Rp B.2.1.1 s r1.2 H1 → (∀ q ∈ locs1, mx_up B.2.1 q.base) → W p B.1 e R s m args below meth c H1 locs1 (cells + (r1.2.1 - h.1)) (slots + (r1.2.2.1 - h.2.1)) Q (F0 m (pc + 3) la ((r1.1.map (mx_v B.2.1.1)).toList ++ rest))) :
    W p B.1 e R s m args below meth c H locs cells slots Q (F0 m pc la st0) := by
  intro T hT X
  obtain ⟨v, sv, t, T', L, k0, X', hLL, e1, e2, ⟨hv, hRt⟩, st⟩ := hr T hT X
  have hv2 : v = r1.1.map (mx_v B.2.1.1) := Outcome.returned.inj hv
  have hal : t.vm.Alike s.vm := by rw [← e2]; exact X'.warmed.alike.symm
  obtain ⟨t2, a1, b1⟩ := kk T'.heap (locs ++ L) (by rw [e1]; exact mx_Rp.moved hal hRt) (fun q hq => by
    rcases List.mem_append.mp hq with hq | hq
    · exact hL q hq
    · exact hLL q hq) T' rfl X'
  refine ⟨t2, st t2 ?_, b1⟩
  rw [hv2]
  exact a1
theorem mx_Wcalli {d i mi maxL : Nat} {y : MethodName} {bytes : ByteArray} {n b : Nat} {as rest : List Value} {r1 : mx_R} (A : mx_Wx B p s m args c cc nL own) (hd : decode cc pc = .ok (.invokespecial i, 3)) (hm : mx_Me B mi y bytes maxL none n) (hin : Cond.instanceMethod y ∈ B.2.1.2.1) (hy : y.name = "<init>") (hlink : Cond.methodLink own i y ∈ B.2.1.2.1)
    (hca : mx_Ca B d mi (.ref b :: as) h r1) (hlen : as.length = n) (hsz : la.size = nL) (hcat : (rest.map fun v => v.category).sum ≤ 8) (hR : mx_Rp B.2.1.1 s h H) (hL : ∀ q ∈ locs, mx_up B.2.1 q.base) (hRf : d ≤ R.frames) (hRl : 64 * d ≤ R.locals) (hf : cells + (r1.2.1 - h.1) ≤ R.cells ∧ slots + (r1.2.2.1 - h.2.1) ≤ R.slots)
    (kk : ∀ (H1 : Heap) (locs1 : List Loc), mx_Rp B.2.1.1 s r1.2 H1 → (∀ q ∈ locs1, mx_up B.2.1 q.base) → W p B.1 e R s m args below meth c H1 locs1 (cells + (r1.2.1 - h.1)) (slots + (r1.2.2.1 - h.2.1)) Q (F0 m (pc + 3) la ((r1.1.map (mx_v B.2.1.1)).toList ++ rest))) :
    W p B.1 e R s m args below meth c H locs cells slots Q (F0 m pc la ((as.map (mx_v B.2.1.1)).reverse ++ .ref (mx_rho B.2.1.1 b) :: rest)) := by
  obtain ⟨hm0, hm1, ⟨ws', hm2⟩, hm3, hm4, hm5, hm6⟩ := hm
  obtain ⟨d', hdd, hle, hMet⟩ := hca
  have hMet := hMet hm0
  rw [hm1] at hMet
  subst hdd
  refine mx_Wafter (aa := ((Value.ref b :: as).map (mx_v B.2.1.1)).toArray) hL ?_ kk
  exact va_runI (b := mx_rho B.2.1.1 b) (As := as.map (mx_v B.2.1.1)) (rest := rest) ⟨A.1, A.2.1, A.2.2.1, A.2.2.2.1, A.2.2.2.2.1⟩ hMet ⟨callB_of n A.2.2.2.2.1 hm3 hm2 rfl rfl (A.2.2.2.2.1 _ hm4) (A.2.2.2.2.1 _ hlink) hm5 ⟨by show d' + 1 ≤ _; exact hRf, by show 8 + (maxL + 11) + 64 * d' ≤ _; omega⟩, hy, A.2.2.2.2.1 _ hin⟩ ⟨mx_blind, mx_pre (as := .ref b :: as) hR A.2.2.2.2.2⟩ rfl (by rw [List.length_map]; exact hlen) hsz rfl (lv_room hcat) hd hf
theorem mx_Wcallv {d i mi ci maxL : Nat} {y : MethodName} {bytes : ByteArray} {ret : Option FieldType} {r : vw_C} {n b : Nat} {as rest fs : List Value} {r1 : mx_R} (A : mx_Wx B p s m args c cc nL own) (hd : decode cc pc = .ok (.invokevirtual i, 3)) (hm : mx_Me B mi y bytes maxL ret n) (hcl : B.2.1.1.1[ci]? = some r) (hcell : mx_cell h b = some (.inl (ci, fs))) (hin : Cond.instanceMethod y ∈ B.2.1.2.1) (hsel : Cond.selects r.1 y y ∈ B.2.1.2.1) (hlink : Cond.methodLink own i y ∈ B.2.1.2.1)
    (hca : mx_Ca B d mi (.ref b :: as) h r1) (hlen : as.length = n) (hsz : la.size = nL) (hcat : (rest.map fun v => v.category).sum ≤ 8) (hR : mx_Rp B.2.1.1 s h H) (hL : ∀ q ∈ locs, mx_up B.2.1 q.base) (hRf : d ≤ R.frames) (hRl : 64 * d ≤ R.locals) (hf : cells + (r1.2.1 - h.1) ≤ R.cells ∧ slots + (r1.2.2.1 - h.2.1) ≤ R.slots)
    (kk : ∀ (H1 : Heap) (locs1 : List Loc), mx_Rp B.2.1.1 s r1.2 H1 → (∀ q ∈ locs1, mx_up B.2.1 q.base) → W p B.1 e R s m args below meth c H1 locs1 (cells + (r1.2.1 - h.1)) (slots + (r1.2.2.1 - h.2.1)) Q (F0 m (pc + 3) la ((r1.1.map (mx_v B.2.1.1)).toList ++ rest))) :
    W p B.1 e R s m args below meth c H locs cells slots Q (F0 m pc la ((as.map (mx_v B.2.1.1)).reverse ++ .ref (mx_rho B.2.1.1 b) :: rest)) := by
  obtain ⟨hm0, hm1, ⟨ws', hm2⟩, hm3, hm4, hm5, hm6⟩ := hm
  obtain ⟨d', hdd, hle, hMet⟩ := hca
  have hMet := hMet hm0
  rw [hm1] at hMet
  subst hdd
  obtain ⟨hlenf, cell, q1, q2, q3, q4⟩ := mx_obj hR hcell hcl
  have hcls := (A.2.2.2.2.2.1.1 _ _ hcl).2
  refine mx_Wafter (aa := ((Value.ref b :: as).map (mx_v B.2.1.1)).toArray) hL ?_ kk
  exact va_runV (C := r.1) (b := mx_rho B.2.1.1 b) (As := as.map (mx_v B.2.1.1)) (rest := rest) ⟨A.1, A.2.1, A.2.2.1, A.2.2.2.1, A.2.2.2.2.1⟩ hMet ⟨callB_of n A.2.2.2.2.1 hm3 hm2 rfl rfl (A.2.2.2.2.1 _ hm4) (A.2.2.2.2.1 _ hlink) hm5 ⟨by show d' + 1 ≤ _; exact hRf, by show 8 + (maxL + 11) + 64 * d' ≤ _; omega⟩, A.2.2.2.2.1 _ hin, A.2.2.2.2.1 _ hsel⟩ ⟨mx_blind, ⟨cell, q1, by rw [q3]; rfl, by rw [q2]; exact hcls.1⟩, mx_pre (as := .ref b :: as) hR A.2.2.2.2.2⟩ rfl (by rw [List.length_map]; exact hlen) hsz rfl (lv_room hcat) hd hf
end MXW
