/-! runs that are walked by hand: a state from which the method comes to an end with an answer that is so -/
section MXJ
variable {B : mx_B} {M : mx_M} {d pc nx : Nat} {ls ls2 : mx_L} {st st2 : List Value} {h h2 : mx_H} {Post : mx_R → Prop} {o : mx_O}
def mx_J (B : mx_B) (M : mx_M) (d pc : Nat) (ls : mx_L) (st : List Value) (h : mx_H) (Post : mx_R → Prop) : Prop := ∃ r, mx_G B M d pc ls st h r ∧ Post r
/-- a call of a method: what it answers -/
def mx_Ca (B : mx_B) (d mi : Nat) (as : List Value) (h : mx_H) (r : mx_R) : Prop := ∃ d', d = d' + 1 ∧ mx_le h r.2 ∧
  (¬ mi = 0 → Met B.1 (B.2.2.1 mi) (B.2.2.2 mi) (mx_rm d' (r.2.1 - h.1) (r.2.2.1 - h.2.1)) (mx_Pc B.2.1 as h) (mx_Qc B.2.1 r) (r.2.1 - h.1) (r.2.2.1 - h.2.1) (mx_up B.2.1))
theorem mx_J.step (hs : mx_Sn B M pc o) (ho : ∀ (k : mx_K) (call : mx_F), o k call ls st h = k nx ls2 st2 h2) (hj : mx_J B M d nx ls2 st2 h2 Post) : mx_J B M d pc ls st h Post := by
  obtain ⟨r, G, hP⟩ := hj
  classical
  refine ⟨r, hs d (fun pc' ls' st' h' => if pc' = nx ∧ ls' = ls2 ∧ st' = st2 ∧ h' = h2 then some r else none) (fun _ _ _ => none) ?_ ?_ ls st h r ?_, hP⟩
  · intro pc' ls' st' h' r' e
    split at e
    · rename_i hq
      obtain ⟨q1, q2, q3, q4⟩ := hq
      have hr := Option.some.inj e
      rw [q1, q2, q3, q4, ← hr]
      exact G
    · cases e
  · intro mi as h' r' e
    cases e
  · rw [ho]
    exact if_pos ⟨rfl, rfl, rfl, rfl⟩
theorem mx_J.ret {r : mx_R} (hs : mx_Sn B M pc o) (ho : ∀ (k : mx_K) (call : mx_F), o k call ls st h = some r) (hP : Post r) : mx_J B M d pc ls st h Post := by
  refine ⟨r, hs d (fun _ _ _ _ => none) (fun _ _ _ => none) ?_ ?_ ls st h r (ho _ _), hP⟩
  · intro pc' ls' st' h' r' e
    cases e
  · intro mi as h' r' e
    cases e
theorem mx_J.call {mi : Nat} {as : List Value} {r1 : mx_R} (hs : mx_Sn B M pc o) (ho : ∀ (k : mx_K) (call : mx_F), call mi as h = some r1 → o k call ls st h = k nx ls2 st2 r1.2) (hc : mx_Ca B d mi as h r1) (hj : mx_J B M d nx ls2 st2 r1.2 Post) : mx_J B M d pc ls st h Post := by
  obtain ⟨r, G, hP⟩ := hj
  classical
  refine ⟨r, hs d (fun pc' ls' st' h' => if pc' = nx ∧ ls' = ls2 ∧ st' = st2 ∧ h' = r1.2 then some r else none) (fun mi' as' h' => if mi' = mi ∧ as' = as ∧ h' = h then some r1 else none) ?_ ?_ ls st h r ?_, hP⟩
  · intro pc' ls' st' h' r' e
    split at e
    · rename_i hq
      obtain ⟨q1, q2, q3, q4⟩ := hq
      have hr := Option.some.inj e
      rw [q1, q2, q3, q4, ← hr]
      exact G
    · cases e
  · intro mi' as' h' r' e
    replace e : (if mi' = mi ∧ as' = as ∧ h' = h then some r1 else none) = some r' := e
    split at e
    · rename_i hq
      obtain ⟨q1, q2, q3⟩ := hq
      have hr := Option.some.inj e
      rw [q1, q2, q3, ← hr]
      exact hc
    · cases e
  · rw [ho _ _ (if_pos ⟨rfl, rfl, rfl⟩)]
    exact if_pos ⟨rfl, rfl, rfl, rfl⟩
/-- a method from its entry on -/
theorem mx_J.met {mi : Nat} {as : List Value} (k1 : (B.2.2.1 mi).cls = M.2.2.1) (k2 : (B.2.2.1 mi).name = M.2.2.2.1) (k3 : plainName (B.2.2.1 mi).cls = true) (k4 : B.2.2.2 mi = Cond.code (B.2.2.1 mi) M.1 M.2.1 M.2.2.2.2 :: B.2.1.2.1) (hlen : (mx_ent as M.2.1).length = M.2.1)
    (hj : mx_J B M d 0 (mx_ent as M.2.1) [] h Post) : ∃ r, mx_Ca B (d + 1) mi as h r ∧ Post r := by
  obtain ⟨r, G, hP⟩ := hj
  refine ⟨r, ⟨d, rfl, G.1, fun _ => ?_⟩, hP⟩
  refine Met.ofW (cc := M.1) (maxL := M.2.1) (ret := M.2.2.2.2) k3 k4 ?_
  intro p e s m args below meth c s₁ Bd hml hv
  obtain ⟨rfl, hR, hK⟩ := hv
  have hts := atoms_spec (ws := B.2.2.2 mi) Bd.pre
  have A : mx_At B M p s m (as.map (mx_v B.2.1.1)).toArray meth c := ⟨Bd.exec, Bd.bytes, hml, by rw [← k1]; exact findClass_of_methodNamed Bd.named, fun w hw => hts w (by rw [k4]; exact List.mem_cons_of_mem _ hw), Bd.returns, Bd.notSynchronized, by rw [← k2]; exact (name_of_methodNamed Bd.named Bd.method).1, hK⟩
  have K := G.2 p e s m _ below meth c h.1 h.2.1 s.heap [] _ A (Nat.le_refl _) (Nat.le_refl _) hR (fun q hq => by cases hq) (mx_entry hlen)
  rw [Nat.sub_self, Nat.sub_self] at K
  rw [lg_entry_eq]
  exact K
theorem mx_Ca.of {call : mx_F} {mi : Nat} {as : List Value} {r : mx_R} (hc : mx_Cl B d call) (e : call mi as h = some r) : mx_Ca B d mi as h r := hc mi as h r e
/-- a field's value -/
noncomputable def mx_fld (h : mx_H) (a ci f : Nat) : Option Value := match mx_cell h a with
  | some (.inl (c, fs)) => bif Nat.beq c ci then mx_nth fs f else none
  | _ => none
theorem mx_fld_op {a ci f : Nat} {v : Value} {k : mx_K} {call : mx_F} {rest : List Value} (e : mx_fld h a ci f = some v) : mx_getf ci f nx k call ls (.ref a :: rest) h = k nx ls (v :: rest) h := by
  unfold mx_fld at e
  show (match mx_cell h a with
    | some (.inl (c, fs)) => bif Nat.beq c ci then match mx_nth fs f with
        | some v => k nx ls (v :: rest) h
        | none => none
      else none
    | _ => none) = _
  split at e
  · rename_i c fs hc
    obtain ⟨hb, e2⟩ := mx_bt e
    simp only [hb, cond_true, e2]
  · cases e
theorem mx_J.getf {a ci f : Nat} {v : Value} {rest : List Value} (hs : mx_Sn B M pc (mx_getf ci f nx)) (e : mx_fld h a ci f = some v) (hj : mx_J B M d nx ls (v :: rest) h Post) : mx_J B M d pc ls (.ref a :: rest) h Post :=
  mx_J.step hs (fun _ _ => mx_fld_op e) hj
end MXJ
