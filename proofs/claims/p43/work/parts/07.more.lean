section MXM
variable {B : mx_B} {M : mx_M} {pc : Nat}
noncomputable def mx_dup2 (nx : Nat) : mx_O := fun k call ls st h => match st with
  | a :: _ => bif mx_c1 a then mx_dup2a nx k call ls st h else mx_dup2b nx k call ls st h
  | _ => none
theorem mx_s_dup2 (hd : decode M.1 pc = .ok (.dup2, 1)) : mx_Sn B M pc (mx_dup2 (pc + 1)) := by
  intro d k call hk hc ls st h r e
  unfold mx_dup2 at e
  split at e
  · rename_i a rest
    cases hb : mx_c1 a with
    | true => rw [hb] at e; exact mx_s_dup2a hd d k call hk hc _ _ _ _ e
    | false => rw [hb] at e; exact mx_s_dup2b hd d k call hk hc _ _ _ _ e
  · cases e
theorem mx_s_ldcw {i : Nat} {v : Int32} (hw : Jvm.Cond.constant M.2.2.1 i v ∈ B.2.1.2.1) (hd : decode M.1 pc = .ok (.ldc_w i, 3)) : mx_Sn B M pc (mx_const (.int v) (pc + 3)) := by
  intro d k call hk hc ls st h r e
  exact mx_G.step (hk _ _ _ _ _ e) (fun p e s m args below meth c R H locs cells slots Q la A hl K => lv_ldcw A.1 A.2.1 A.2.2.2.1 (A.2.2.2.2.1 _ hw) hd K)
/-- a method: name, code, locals, answer, table; all of them by number -/
abbrev mx_I : Type := MethodName × ByteArray × Nat × Option FieldType × (Nat → mx_O)
noncomputable def mx_mk (big : List Cond) (info : Nat → mx_I) (cl : List vw_C) (AO : List String) (NM : List mx_NM) (Zs : List mx_Z) (l : Launch) (D : va_G) (b0 : Nat) (ad : Nat → Nat) (Hb : Heap) (tau : Nat → Int64) : mx_B :=
  (l, ((cl, D, Zs.length, b0, ad, Hb, tau), big, AO, NM, Zs), fun mi => (info mi).1, fun mi => Cond.code (info mi).1 (info mi).2.1 (info mi).2.2.1 (info mi).2.2.2.1 :: big)
noncomputable def mx_pg (info : Nat → mx_I) : mx_P := fun mi => ((info mi).2.2.1, (info mi).2.2.2.2)
def mx_Gd (B : mx_B) (I : mx_I) : Prop := (∀ pc, mx_Sn B (I.2.1, I.2.2.1, I.1.cls, I.1.name, I.2.2.2.1) pc (I.2.2.2.2 pc)) ∧ plainName I.1.cls = true
noncomputable def mx_pn (k : Nat) (l r : Nat → mx_I) : Nat → mx_I := fun mi => bif Nat.blt mi k then l mi else r mi
noncomputable def mx_pf (k : Nat) (a b : mx_I) : Nat → mx_I := fun mi => bif Nat.beq mi k then a else b
theorem mx_Gd_n {k : Nat} {l r : Nat → mx_I} (hl : ∀ mi, mx_Gd B (l mi)) (hr : ∀ mi, mx_Gd B (r mi)) : ∀ mi, mx_Gd B (mx_pn k l r mi) := by
  intro mi
  unfold mx_pn
  cases Nat.blt mi k
  · exact hr mi
  · exact hl mi
theorem mx_Gd_f {k : Nat} {a b : mx_I} (ha : mx_Gd B a) (hb : mx_Gd B b) : ∀ mi, mx_Gd B (mx_pf k a b mi) := by
  intro mi
  unfold mx_pf
  cases Nat.beq mi k
  · exact hb
  · exact ha
theorem mx_all {big : List Cond} {info : Nat → mx_I} {cl : List vw_C} {AO : List String} {NM : List mx_NM} {Zs : List mx_Z} {l : Launch} {D : va_G} {b0 : Nat} {ad : Nat → Nat} {Hb : Heap} {tau : Nat → Int64} (h : ∀ mi, mx_Gd (mx_mk big info cl AO NM Zs l D b0 ad Hb tau) (info mi)) (fuel d : Nat) :
    mx_Cl (mx_mk big info cl AO NM Zs l D b0 ad Hb tau) d (mx_ev (mx_pg info) fuel d) :=
  mx_ev_ok (fun mi _ => ⟨_, (h mi).1, rfl, rfl, rfl, (h mi).2, rfl⟩) d
theorem mx_MeOf {big : List Cond} {info : Nat → mx_I} {cl : List vw_C} {AO : List String} {NM : List mx_NM} {Zs : List mx_Z} {l : Launch} {D : va_G} {b0 : Nat} {ad : Nat → Nat} {Hb : Heap} {tau : Nat → Int64} (hbig : ∀ w ∈ big, goodWord w = true) {mi : Nat} {y : MethodName} {bytes : ByteArray} {maxL : Nat} {ret : Option FieldType} {tab : Nat → mx_O} {n : Nat} (h0 : ¬ mi = 0) (hi : info mi = (y, bytes, maxL, ret, tab)) (hc : Cond.code y bytes maxL ret ∈ big) (hini : Cond.initialized y.cls ∈ big)
    (hd : y.cls ≠ "java/lang/invoke/MethodHandle" ∧ y.cls ≠ "java/lang/invoke/VarHandle" ∧ (parseMethodDescriptor y.desc).map (fun d => d.parameters.length) = some n) (hL : maxL ≤ 45) : mx_Me (mx_mk big info cl AO NM Zs l D b0 ad Hb tau) mi y bytes maxL ret n := by
  have e1 : (mx_mk big info cl AO NM Zs l D b0 ad Hb tau).2.2.2 mi = Cond.code y bytes maxL ret :: big := by
    show Cond.code (info mi).1 (info mi).2.1 (info mi).2.2.1 (info mi).2.2.2.1 :: big = _
    rw [hi]
  refine ⟨h0, by show (info mi).1 = y; rw [hi], ⟨big, e1⟩, ?_, hini, hd, hL⟩
  rw [e1]
  intro w hw
  rcases List.mem_cons.mp hw with rfl | hw
  · exact ⟨hc, Or.inl rfl⟩
  · exact ⟨hw, good_of_word (hbig w hw)⟩
end MXM
