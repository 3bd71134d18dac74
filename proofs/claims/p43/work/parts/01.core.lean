/-! A small machine of our own, over the library's values: what a method's code does to locals, stack and cells, as a function; later rows show that the library's machine does the same. Tries by Nat.rec, so that the kernel evaluates. -/
noncomputable def mx_T (α : Type) (n : Nat) : Type := Nat.rec (motive := fun _ => Type) α (fun _ T => T × T) n
noncomputable def mx_get {α : Type} (n : Nat) : mx_T α n → Nat → α :=
  Nat.rec (motive := fun n => mx_T α n → Nat → α) (fun t _ => t)
    (fun n ih (t : mx_T α n × mx_T α n) i => bif Nat.beq (Nat.mod i 2) 0 then ih t.1 (Nat.div i 2) else ih t.2 (Nat.div i 2)) n
noncomputable def mx_set {α : Type} (n : Nat) : mx_T α n → Nat → α → mx_T α n :=
  Nat.rec (motive := fun n => mx_T α n → Nat → α → mx_T α n) (fun _ _ v => v)
    (fun n ih (t : mx_T α n × mx_T α n) i v => bif Nat.beq (Nat.mod i 2) 0 then (ih t.1 (Nat.div i 2) v, t.2) else (t.1, ih t.2 (Nat.div i 2) v)) n
noncomputable def mx_rep {α : Type} (v : α) (n : Nat) : mx_T α n :=
  Nat.rec (motive := fun n => mx_T α n) v (fun n ih => ((ih, ih) : mx_T α n × mx_T α n)) n
theorem mx_get_s {α : Type} (n : Nat) (t : mx_T α n × mx_T α n) (i : Nat) : mx_get (n + 1) t i = bif Nat.beq (Nat.mod i 2) 0 then mx_get n t.1 (Nat.div i 2) else mx_get n t.2 (Nat.div i 2) := rfl
theorem mx_set_s {α : Type} (n : Nat) (t : mx_T α n × mx_T α n) (i : Nat) (v : α) : mx_set (n + 1) t i v = (bif Nat.beq (Nat.mod i 2) 0 then (mx_set n t.1 (Nat.div i 2) v, t.2) else (t.1, mx_set n t.2 (Nat.div i 2) v) : mx_T α n × mx_T α n) := rfl
theorem mx_get_rep {α : Type} (v : α) : ∀ (n i : Nat), mx_get n (mx_rep v n) i = v
  | 0, _ => rfl
  | n + 1, i => by
    show mx_get (n + 1) ((mx_rep v n, mx_rep v n) : mx_T α n × mx_T α n) i = v
    rw [mx_get_s]
    cases Nat.beq (Nat.mod i 2) 0
    · exact mx_get_rep v n _
    · exact mx_get_rep v n _
theorem mx_get_set {α : Type} (v : α) : ∀ (n : Nat) (t : mx_T α n) (i j : Nat), i < 2 ^ n → j < 2 ^ n → mx_get n (mx_set n t i v) j = if j = i then v else mx_get n t j
  | 0, t, i, j, hi, hj => by
    have h1 : j = i := by simp at hi hj; omega
    rw [if_pos h1]; rfl
  | n + 1, t, i, j, hi, hj => by
    have hp : 2 ^ (n + 1) = 2 * 2 ^ n := by rw [Nat.pow_succ]; omega
    have hi2 : Nat.div i 2 < 2 ^ n := by show i / 2 < _; omega
    have hj2 : Nat.div j 2 < 2 ^ n := by show j / 2 < _; omega
    show mx_get (n + 1) (mx_set (n + 1) t i v) j = _
    rw [show mx_set (n + 1) t i v = (bif Nat.beq (Nat.mod i 2) 0 then (mx_set n (Prod.fst (α := mx_T α n) (β := mx_T α n) t) (Nat.div i 2) v, Prod.snd (α := mx_T α n) (β := mx_T α n) t) else (Prod.fst (α := mx_T α n) (β := mx_T α n) t, mx_set n (Prod.snd (α := mx_T α n) (β := mx_T α n) t) (Nat.div i 2) v) : mx_T α n × mx_T α n) from rfl]
    rw [show mx_get (n + 1) t j = (bif Nat.beq (Nat.mod j 2) 0 then mx_get n (Prod.fst (α := mx_T α n) (β := mx_T α n) t) (Nat.div j 2) else mx_get n (Prod.snd (α := mx_T α n) (β := mx_T α n) t) (Nat.div j 2)) from rfl]
    rw [mx_get_s]
    have ei : (i : Nat) % 2 = 0 ∨ i % 2 = 1 := by omega
    have ej : (j : Nat) % 2 = 0 ∨ j % 2 = 1 := by omega
    have bi0 : ∀ x : Nat, x % 2 = 0 → Nat.beq (Nat.mod x 2) 0 = true := fun x h => by show Nat.beq (x % 2) 0 = true; rw [h]; rfl
    have bi1 : ∀ x : Nat, x % 2 = 1 → Nat.beq (Nat.mod x 2) 0 = false := fun x h => by show Nat.beq (x % 2) 0 = false; rw [h]; rfl
    rcases ei with ei | ei <;> rcases ej with ej | ej
    · rw [bi0 i ei, bi0 j ej]
      simp only [cond_true]
      rw [mx_get_set v n _ _ _ hi2 hj2]
      by_cases h : j = i
      · rw [if_pos h, if_pos (by rw [h])]
      · rw [if_neg h, if_neg (by intro h2; have h3 : j / 2 = i / 2 := h2; omega)]
    · rw [bi0 i ei, bi1 j ej]
      simp only [cond_true, cond_false]
      rw [if_neg (by omega)]
    · rw [bi1 i ei, bi0 j ej]
      simp only [cond_true, cond_false]
      rw [if_neg (by omega)]
    · rw [bi1 i ei, bi1 j ej]
      simp only [cond_false]
      rw [mx_get_set v n _ _ _ hi2 hj2]
      by_cases h : j = i
      · rw [if_pos h, if_pos (by rw [h])]
      · rw [if_neg h, if_neg (by intro h2; have h3 : j / 2 = i / 2 := h2; omega)]
/-- an array's contents (8192 places), a cell (an object by class and fields, an array by type, length, contents), all cells (how many, how many slots, which) -/
abbrev mx_A : Type := mx_T Value 13
abbrev mx_C : Type := (Nat × List Value) ⊕ (FieldType × Nat × mx_A)
abbrev mx_H : Type := Nat × Nat × mx_T mx_C 12
abbrev mx_R : Type := Option Value × mx_H
abbrev mx_L : Type := List (Option Value)
abbrev mx_K : Type := Nat → mx_L → List Value → mx_H → Option mx_R
abbrev mx_F : Type := Nat → List Value → mx_H → Option mx_R
abbrev mx_O : Type := mx_K → mx_F → mx_L → List Value → mx_H → Option mx_R
noncomputable def mx_run (tab : Nat → mx_O) (call : mx_F) (n : Nat) : mx_K :=
  Nat.rec (motive := fun _ => mx_K) (fun _ _ _ _ => none) (fun _ ih pc ls st h => tab pc ih call ls st h) n
/-- the locals at a method's entry -/
noncomputable def mx_ent : List Value → Nat → mx_L
  | [], n => List.replicate n none
  | v :: vs, n => match v with
    | .long _ | .double _ => some v :: none :: mx_ent vs (n - 2)
    | _ => some v :: mx_ent vs (n - 1)
/-- the methods: number, then locals and code -/
abbrev mx_P : Type := Nat → Nat × (Nat → mx_O)
noncomputable def mx_ev (P : mx_P) (fuel : Nat) (d : Nat) : mx_F :=
  Nat.rec (motive := fun _ => mx_F) (fun _ _ _ => none) (fun _ ih mi as h => bif Nat.beq mi 0 then some (none, h) else bif Nat.beq (mx_ent as (P mi).1).length (P mi).1 then mx_run (P mi).2 ih fuel 0 (mx_ent as (P mi).1) [] h else none) d
noncomputable def mx_stuck : mx_O := fun _ _ _ _ _ => none
noncomputable def mx_node (k : Nat) (l r : Nat → mx_O) : Nat → mx_O := fun pc => bif Nat.blt pc k then l pc else r pc
noncomputable def mx_leaf (k : Nat) (o : mx_O) : Nat → mx_O := fun pc => bif Nat.beq pc k then o else mx_stuck
