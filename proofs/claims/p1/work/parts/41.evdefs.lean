noncomputable def tev : mx_F := mx_ev (mx_pg tinfo) 1000000 30
noncomputable def h_0 : mx_H := (1, 0, mx_set 9 (mx_rep (.inl (0, [])) 9) 0 (.inr (.int, 0, mx_rep (.int 0) 13)))
noncomputable def f_11 : List Value := [.null, .int 0, .int 0, .int 0, .null, .null, .null, .null, .null, .null, .null, .null, .null, .null, .null, .null, .null]
noncomputable def f_12 : List Value := [.int 0, .null, .null, .null, .null, .int 0, .int 0, .int 0, .int 0, .int 0, .int 0, .int 0, .int 0, .int 0, .int 0, .null, .null, .null, .int 0, .null, .null, .null, .int 0, .int 0, .null, .null, .null, .null, .null, .null, .int 0, .int 0, .null, .null, .null, .null, .null, .null, .null, .null, .null, .null]
noncomputable def rsh (o : Option mx_R) : mx_H := match o with
  | some r => r.2
  | none => h_0
noncomputable def isv (o : Option mx_R) : Bool := match o with
  | some r => r.1.isNone
  | none => false
theorem isv_ok {o : Option mx_R} (h : isv o = true) : o = some (none, rsh o) := by
  cases o with
  | none => cases h
  | some r =>
    obtain ⟨v, q⟩ := r
    cases v with
    | none => rfl
    | some w => cases h
noncomputable def h_1 : mx_H := mx_push h_0 17 (.inl (11, f_11))
noncomputable def h_2 : mx_H := rsh (tev 88 [.ref 1] h_1)
noncomputable def h_3 : mx_H := mx_push h_2 42 (.inl (12, f_12))
noncomputable def h_4 : mx_H := rsh (tev 155 [.ref 56] h_3)
noncomputable def isc (h : mx_H) (a ci : Nat) : Bool := match mx_cell h a with
  | some (.inl q) => Nat.beq q.1 ci
  | _ => false
theorem isc_ok {h : mx_H} {a ci : Nat} (e : isc h a ci = true) : ∃ fs, mx_cell h a = some (.inl (ci, fs)) := by
  unfold isc at e
  split at e
  · rename_i q hq
    obtain ⟨c, fs⟩ := q
    have hc : c = ci := Nat.eq_of_beq_eq_true e
    exact ⟨fs, by rw [hq, hc]⟩
  · cases e
noncomputable def mx_same (lng : Bool) (v w : Value) : Bool := match v, w with
  | .int a, .int b => !lng && decide (a = b)
  | .long a, .long b => lng && decide (a = b)
  | _, _ => false
/-- both answer alike on a new object -/
noncomputable def ck2 (lng : Bool) (mi1 mi2 : Nat) (as : List Value) : Bool := match tev mi1 (.ref 1 :: as) h_4 with
  | some r1 => match r1.1 with
    | some v => match tev mi2 (.ref 56 :: as) r1.2 with
      | some r2 => match r2.1 with
        | some w => mx_same lng v w && (Nat.ble r2.2.1 512 && (Nat.ble r2.2.2.1 1000000 && isc r1.2 56 12))
        | none => false
      | none => false
    | none => false
  | none => false
noncomputable def pts (a n : Nat) : List Value := (List.range n).map (fun k => .int (Int32.ofNat (a + k)))
