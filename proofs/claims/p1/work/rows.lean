section
/-! A small machine of our own, over the library's values: what a method's code does to locals, stack and cells, as a function; later rows show that the library's machine does the same. Tries by Nat.rec, so that the kernel evaluates. -/
noncomputable def mx_T (α : Type) (n : Nat) : Type := Nat.rec (motive := fun _ => Type) α (fun _ T => T × T) n
noncomputable def mx_get {α : Type} (n : Nat) : mx_T α n → Nat → α :=
  Nat.rec (motive := fun n => mx_T α n → Nat → α) (fun t _ => t)
    (fun n ih (t : mx_T α n × mx_T α n) i => bif Nat.beq (Nat.mod i 2) 0 then ih t.1 (Nat.div i 2) else ih t.2 (Nat.div i 2)) n
noncomputable def mx_set {α : Type} (n : Nat) : mx_T α n → Nat → α → mx_T α n :=
  Nat.rec (motive := fun n => mx_T α n → Nat → α → mx_T α n) (fun _ _ v => v)
    (fun n ih (t : mx_T α n × mx_T α n) i v => bif Nat.beq (Nat.mod i 2) 0 then (ih t.1 (Nat.div i 2) v, t.2) else (t.1, ih t.2 (Nat.div i 2) v)) n
noncomputable def mx_rep {α : Type} (v : α) (n : Nat) : mx_T α n :=
  Nat.rec (motive := fun n => mx_T α n) v (fun n ih => ((ih, ih) : mx_T α n × mx_T α n)) n
theorem mx_get_s {α : Type} (n : Nat) (t : mx_T α n × mx_T α n) (i : Nat) : mx_get (n + 1) t i = bif Nat.beq (Nat.mod i 2) 0 then mx_get n t.1 (Nat.div i 2) else mx_get n t.2 (Nat.div i 2) := rfl
theorem mx_set_s {α : Type} (n : Nat) (t : mx_T α n × mx_T α n) (i : Nat) (v : α) : mx_set (n + 1) t i v = (bif Nat.beq (Nat.mod i 2) 0 then (mx_set n t.1 (Nat.div i 2) v, t.2) else (t.1, mx_set n t.2 (Nat.div i 2) v) : mx_T α n × mx_T α n) := rfl
theorem mx_get_rep {α : Type} (v : α) : ∀ (n i : Nat), mx_get n (mx_rep v n) i = v
  | 0, _ => rfl
  | n + 1, i => by
    show mx_get (n + 1) ((mx_rep v n, mx_rep v n) : mx_T α n × mx_T α n) i = v
    rw [mx_get_s]
    cases Nat.beq (Nat.mod i 2) 0
    · exact mx_get_rep v n _
    · exact mx_get_rep v n _
theorem mx_get_set {α : Type} (v : α) : ∀ (n : Nat) (t : mx_T α n) (i j : Nat), i < 2 ^ n → j < 2 ^ n → mx_get n (mx_set n t i v) j = if j = i then v else mx_get n t j
  | 0, t, i, j, hi, hj => by
    have h1 : j = i := by simp at hi hj; omega
    rw [if_pos h1]; rfl
  | n + 1, t, i, j, hi, hj => by
    have hp : 2 ^ (n + 1) = 2 * 2 ^ n := by rw [Nat.pow_succ]; omega
    have hi2 : Nat.div i 2 < 2 ^ n := by show i / 2 < _; omega
    have hj2 : Nat.div j 2 < 2 ^ n := by show j / 2 < _; omega
    show mx_get (n + 1) (mx_set (n + 1) t i v) j = _
    rw [show mx_set (n + 1) t i v = (bif Nat.beq (Nat.mod i 2) 0 then (mx_set n (Prod.fst (α := mx_T α n) (β := mx_T α n) t) (Nat.div i 2) v, Prod.snd (α := mx_T α n) (β := mx_T α n) t) else (Prod.fst (α := mx_T α n) (β := mx_T α n) t, mx_set n (Prod.snd (α := mx_T α n) (β := mx_T α n) t) (Nat.div i 2) v) : mx_T α n × mx_T α n) from rfl]
    rw [show mx_get (n + 1) t j = (bif Nat.beq (Nat.mod j 2) 0 then mx_get n (Prod.fst (α := mx_T α n) (β := mx_T α n) t) (Nat.div j 2) else mx_get n (Prod.snd (α := mx_T α n) (β := mx_T α n) t) (Nat.div j 2)) from rfl]
    rw [mx_get_s]
    have ei : (i : Nat) % 2 = 0 ∨ i % 2 = 1 := by omega
    have ej : (j : Nat) % 2 = 0 ∨ j % 2 = 1 := by omega
    have bi0 : ∀ x : Nat, x % 2 = 0 → Nat.beq (Nat.mod x 2) 0 = true := fun x h => by show Nat.beq (x % 2) 0 = true; rw [h]; rfl
    have bi1 : ∀ x : Nat, x % 2 = 1 → Nat.beq (Nat.mod x 2) 0 = false := fun x h => by show Nat.beq (x % 2) 0 = false; rw [h]; rfl
    rcases ei with ei | ei <;> rcases ej with ej | ej
    · rw [bi0 i ei, bi0 j ej]
      simp only [cond_true]
      rw [mx_get_set v n _ _ _ hi2 hj2]
      by_cases h : j = i
      · rw [if_pos h, if_pos (by rw [h])]
      · rw [if_neg h, if_neg (by intro h2; have h3 : j / 2 = i / 2 := h2; omega)]
    · rw [bi0 i ei, bi1 j ej]
      simp only [cond_true, cond_false]
      rw [if_neg (by omega)]
    · rw [bi1 i ei, bi0 j ej]
      simp only [cond_true, cond_false]
      rw [if_neg (by omega)]
    · rw [bi1 i ei, bi1 j ej]
      simp only [cond_false]
      rw [mx_get_set v n _ _ _ hi2 hj2]
      by_cases h : j = i
      · rw [if_pos h, if_pos (by rw [h])]
      · rw [if_neg h, if_neg (by intro h2; have h3 : j / 2 = i / 2 := h2; omega)]
/-- an array's contents (8192 places), a cell (an object by class and fields, an array by type, length, contents), all cells (how many, how many slots, which) -/
abbrev mx_A : Type := mx_T Value 13
abbrev mx_C : Type := (Nat × List Value) ⊕ (FieldType × Nat × mx_A)
abbrev mx_H : Type := Nat × Nat × mx_T mx_C 9
abbrev mx_R : Type := Option Value × mx_H
abbrev mx_L : Type := List (Option Value)
abbrev mx_K : Type := Nat → mx_L → List Value → mx_H → Option mx_R
abbrev mx_F : Type := Nat → List Value → mx_H → Option mx_R
abbrev mx_O : Type := mx_K → mx_F → mx_L → List Value → mx_H → Option mx_R
noncomputable def mx_run (tab : Nat → mx_O) (call : mx_F) (n : Nat) : mx_K :=
  Nat.rec (motive := fun _ => mx_K) (fun _ _ _ _ => none) (fun _ ih pc ls st h => tab pc ih call ls st h) n
/-- the locals at a method's entry -/
noncomputable def mx_ent : List Value → Nat → mx_L
  | [], n => List.replicate n none
  | v :: vs, n => match v with
    | .long _ | .double _ => some v :: none :: mx_ent vs (n - 2)
    | _ => some v :: mx_ent vs (n - 1)
/-- the methods: number, then locals and code -/
abbrev mx_P : Type := Nat → Nat × (Nat → mx_O)
noncomputable def mx_ev (P : mx_P) (fuel : Nat) (d : Nat) : mx_F :=
  Nat.rec (motive := fun _ => mx_F) (fun _ _ _ => none) (fun _ ih mi as h => bif Nat.beq mi 0 then some (none, h) else bif Nat.beq (mx_ent as (P mi).1).length (P mi).1 then mx_run (P mi).2 ih fuel 0 (mx_ent as (P mi).1) [] h else none) d
noncomputable def mx_stuck : mx_O := fun _ _ _ _ _ => none
noncomputable def mx_node (k : Nat) (l r : Nat → mx_O) : Nat → mx_O := fun pc => bif Nat.blt pc k then l pc else r pc
noncomputable def mx_leaf (k : Nat) (o : mx_O) : Nat → mx_O := fun pc => bif Nat.beq pc k then o else mx_stuck
end
section
/-! the small machine's instructions; 'nx' is the next pc, 'tg' a target -/
noncomputable def mx_nth {α : Type} (l : List α) : Nat → Option α := List.rec (motive := fun _ => Nat → Option α) (fun _ => none) (fun a _ ih i => Nat.rec (motive := fun _ => Option α) (some a) (fun j _ => ih j) i) l
noncomputable def mx_upd {α : Type} (l : List α) : Nat → α → List α := List.rec (motive := fun _ => Nat → α → List α) (fun _ _ => []) (fun a t ih i v => Nat.rec (motive := fun _ => List α) (v :: t) (fun j _ => a :: ih j v) i) l
theorem mx_nth_eq {α : Type} : ∀ (l : List α) (i : Nat), mx_nth l i = l[i]?
  | [], i => by simp [mx_nth]
  | a :: t, 0 => rfl
  | a :: t, i + 1 => by
    rw [List.getElem?_cons_succ, ← mx_nth_eq t i]; rfl
theorem mx_upd_eq {α : Type} (v : α) : ∀ (l : List α) (i : Nat), mx_upd l i v = l.set i v
  | [], i => by simp [mx_upd]
  | a :: t, 0 => rfl
  | a :: t, i + 1 => by
    rw [List.set_cons_succ, ← mx_upd_eq v t i]; rfl
noncomputable def mx_lg (ls : mx_L) (i : Nat) : Option Value := match mx_nth ls i with
  | some (some v) => some v
  | _ => none
/-- a long whose second half is overwritten is forgotten -/
noncomputable def mx_cl (ls : mx_L) (i : Nat) : mx_L := match i with
  | 0 => ls
  | j + 1 => match mx_lg ls j with
    | some (.long _) | some (.double _) => mx_upd ls j none
    | _ => ls
noncomputable def mx_st1 (ls : mx_L) (i : Nat) (v : Value) : mx_L := mx_upd (mx_cl ls i) i (some v)
noncomputable def mx_st2 (ls : mx_L) (i : Nat) (v : Value) : mx_L := mx_upd (mx_upd (mx_cl ls i) (i + 1) none) i (some v)
noncomputable def mx_cell (h : mx_H) (a : Nat) : Option mx_C := bif Nat.blt a h.1 then some (mx_get 9 h.2.2 a) else none
noncomputable def mx_put (h : mx_H) (a : Nat) (c : mx_C) : mx_H := (h.1, h.2.1, mx_set 9 h.2.2 a c)
noncomputable def mx_push (h : mx_H) (n : Nat) (c : mx_C) : mx_H := (h.1 + 1, h.2.1 + n, mx_set 9 h.2.2 h.1 c)
noncomputable def mx_c1 : Value → Bool
  | .long _ | .double _ => false
  | _ => true
noncomputable def mx_fit : FieldType → Value → Bool
  | .int, .int _ => true
  | .long, .long _ => true
  | .boolean, .int v => v == 0 || v == 1
  | .object _, .null | .object _, .ref _ | .array _, .null | .array _, .ref _ => true
  | _, _ => false
/-- how much room the operands below a call take -/
noncomputable def mx_cat : List Value → Nat
  | [] => 0
  | v :: r => (bif mx_c1 v then 1 else 2) + mx_cat r
noncomputable def mx_const (v : Value) (nx : Nat) : mx_O := fun k _ ls st h => k nx ls (v :: st) h
noncomputable def mx_iload (i nx : Nat) : mx_O := fun k _ ls st h => match mx_lg ls i with
  | some (.int x) => k nx ls (.int x :: st) h
  | some (.float t) => k nx ls (.float t :: st) h
  | _ => none
noncomputable def mx_lload (i nx : Nat) : mx_O := fun k _ ls st h => match mx_lg ls i with
  | some (.long x) => k nx ls (.long x :: st) h
  | some (.double t) => k nx ls (.double t :: st) h
  | _ => none
noncomputable def mx_aload (i nx : Nat) : mx_O := fun k _ ls st h => match mx_lg ls i with
  | some (.ref x) => k nx ls (.ref x :: st) h
  | some .null => k nx ls (.null :: st) h
  | _ => none
noncomputable def mx_istore (i nx : Nat) : mx_O := fun k _ ls st h => match st with
  | .int x :: r => bif Nat.blt i ls.length then k nx (mx_st1 ls i (.int x)) r h else none
  | .float t :: r => bif Nat.blt i ls.length then k nx (mx_st1 ls i (.float t)) r h else none
  | _ => none
noncomputable def mx_lstore (i nx : Nat) : mx_O := fun k _ ls st h => match st with
  | .long x :: r => bif Nat.blt (i + 1) ls.length then k nx (mx_st2 ls i (.long x)) r h else none
  | .double t :: r => bif Nat.blt (i + 1) ls.length then k nx (mx_st2 ls i (.double t)) r h else none
  | _ => none
noncomputable def mx_astore (i nx : Nat) : mx_O := fun k _ ls st h => match st with
  | .ref x :: r => bif Nat.blt i ls.length then k nx (mx_st1 ls i (.ref x)) r h else none
  | _ => none
noncomputable def mx_iinc (i : Nat) (c : Int32) (nx : Nat) : mx_O := fun k _ ls st h => match mx_lg ls i with
  | some (.int x) => bif Nat.blt i ls.length then k nx (mx_st1 ls i (.int (x + c))) st h else none
  | _ => none
noncomputable def mx_iadd (nx : Nat) : mx_O := fun k _ ls st h => match st with
  | .int y :: .int x :: r => k nx ls (.int (x + y) :: r) h
  | _ => none
noncomputable def mx_isub (nx : Nat) : mx_O := fun k _ ls st h => match st with
  | .int y :: .int x :: r => k nx ls (.int (x - y) :: r) h
  | _ => none
noncomputable def mx_imul (nx : Nat) : mx_O := fun k _ ls st h => match st with
  | .int y :: .int x :: r => k nx ls (.int (x * y) :: r) h
  | _ => none
noncomputable def mx_iand (nx : Nat) : mx_O := fun k _ ls st h => match st with
  | .int y :: .int x :: r => k nx ls (.int (x &&& y) :: r) h
  | _ => none
noncomputable def mx_ior (nx : Nat) : mx_O := fun k _ ls st h => match st with
  | .int y :: .int x :: r => k nx ls (.int (x ||| y) :: r) h
  | _ => none
noncomputable def mx_ixor (nx : Nat) : mx_O := fun k _ ls st h => match st with
  | .int y :: .int x :: r => k nx ls (.int (x ^^^ y) :: r) h
  | _ => none
noncomputable def mx_ishl (nx : Nat) : mx_O := fun k _ ls st h => match st with
  | .int y :: .int x :: r => k nx ls (.int (x <<< (y &&& 31)) :: r) h
  | _ => none
noncomputable def mx_ishr (nx : Nat) : mx_O := fun k _ ls st h => match st with
  | .int y :: .int x :: r => k nx ls (.int (x >>> (y &&& 31)) :: r) h
  | _ => none
noncomputable def mx_iushr (nx : Nat) : mx_O := fun k _ ls st h => match st with
  | .int y :: .int x :: r => k nx ls (.int ((x.toUInt32 >>> (y.toUInt32 &&& Int32.toUInt32 31)).toInt32) :: r) h
  | _ => none
noncomputable def mx_idiv (nx : Nat) : mx_O := fun k _ ls st h => match st with
  | .int y :: .int x :: r => if y = 0 then none else k nx ls (.int (x / y) :: r) h
  | _ => none
noncomputable def mx_irem (nx : Nat) : mx_O := fun k _ ls st h => match st with
  | .int y :: .int x :: r => if y = 0 then none else k nx ls (.int (x - x / y * y) :: r) h
  | _ => none
noncomputable def mx_lsub (nx : Nat) : mx_O := fun k _ ls st h => match st with
  | .long y :: .long x :: r => k nx ls (.long (x - y) :: r) h
  | .long y :: .double t :: r => if y = 0 then k nx ls (.double t :: r) h else none
  | _ => none
noncomputable def mx_lrem (nx : Nat) : mx_O := fun k _ ls st h => match st with
  | .long y :: .long x :: r => if y = 0 then none else k nx ls (.long (x - x / y * y) :: r) h
  | .long y :: .double t :: r => if y = 1 then k nx ls (.long 0 :: r) h else none
  | _ => none
noncomputable def mx_ladd (nx : Nat) : mx_O := fun k _ ls st h => match st with
  | .long y :: .long x :: r => k nx ls (.long (x + y) :: r) h
  | _ => none
noncomputable def mx_lmul (nx : Nat) : mx_O := fun k _ ls st h => match st with
  | .long y :: .long x :: r => k nx ls (.long (x * y) :: r) h
  | _ => none
noncomputable def mx_land (nx : Nat) : mx_O := fun k _ ls st h => match st with
  | .long y :: .long x :: r => k nx ls (.long (x &&& y) :: r) h
  | _ => none
noncomputable def mx_lor (nx : Nat) : mx_O := fun k _ ls st h => match st with
  | .long y :: .long x :: r => k nx ls (.long (x ||| y) :: r) h
  | _ => none
noncomputable def mx_lxor (nx : Nat) : mx_O := fun k _ ls st h => match st with
  | .long y :: .long x :: r => k nx ls (.long (x ^^^ y) :: r) h
  | _ => none
noncomputable def mx_ldiv (nx : Nat) : mx_O := fun k _ ls st h => match st with
  | .long y :: .long x :: r => if y = 0 then none else k nx ls (.long (x / y) :: r) h
  | _ => none
noncomputable def mx_lshl (nx : Nat) : mx_O := fun k _ ls st h => match st with
  | .int y :: .long x :: r => k nx ls (.long (x <<< (y.toInt64 &&& 63)) :: r) h
  | _ => none
noncomputable def mx_lshr (nx : Nat) : mx_O := fun k _ ls st h => match st with
  | .int y :: .long x :: r => k nx ls (.long (x >>> (y.toInt64 &&& 63)) :: r) h
  | _ => none
noncomputable def mx_lushr (nx : Nat) : mx_O := fun k _ ls st h => match st with
  | .int y :: .long x :: r => k nx ls (.long ((x.toUInt64 >>> (y.toInt64.toUInt64 &&& Int64.toUInt64 63)).toInt64) :: r) h
  | _ => none
noncomputable def mx_lcmp (nx : Nat) : mx_O := fun k _ ls st h => match st with
  | .long y :: .long x :: r => k nx ls (.int (lg_cmp x y) :: r) h
  | _ => none
noncomputable def mx_ineg (nx : Nat) : mx_O := fun k _ ls st h => match st with
  | .int x :: r => k nx ls (.int (-x) :: r) h
  | _ => none
noncomputable def mx_lneg (nx : Nat) : mx_O := fun k _ ls st h => match st with
  | .long x :: r => k nx ls (.long (-x) :: r) h
  | _ => none
noncomputable def mx_l2i (nx : Nat) : mx_O := fun k _ ls st h => match st with
  | .long x :: r => k nx ls (.int (x.toInt32) :: r) h
  | _ => none
noncomputable def mx_i2b (nx : Nat) : mx_O := fun k _ ls st h => match st with
  | .int x :: r => k nx ls (.int (x.toInt8.toInt32) :: r) h
  | _ => none
noncomputable def mx_i2s (nx : Nat) : mx_O := fun k _ ls st h => match st with
  | .int x :: r => k nx ls (.int (x.toInt16.toInt32) :: r) h
  | _ => none
noncomputable def mx_i2c (nx : Nat) : mx_O := fun k _ ls st h => match st with
  | .int x :: r => k nx ls (.int ((x.toUInt32 % 65536).toInt32) :: r) h
  | _ => none
/-- bounds of numbers that aren't known: a number t stands for one between two bounds -/
noncomputable def mx_bd (k : Nat) : Int := [-9223372036854775808, -2147483648, -1, 0, 1, 2, 3, 4, 5, 6, 7, 8, 9, 10, 11, 17, 18, 19, 20, 39, 40, 41, 99, 100, 2147483647, 1000000000000000, 1000000000000001, 9223372036854775807].getD k 0
noncomputable def mx_iv (t : Nat) : Int × Int := (mx_bd (t / 8 % 64), mx_bd (t / 512))
noncomputable def mx_rng : Value → Option (Int × Int)
  | .int x => some (x.toInt, x.toInt)
  | .float t => if (mx_iv t.toNat).1 ≤ (mx_iv t.toNat).2 ∧ -2147483648 ≤ (mx_iv t.toNat).1 ∧ (mx_iv t.toNat).2 ≤ 2147483647 then some (mx_iv t.toNat) else none
  | _ => none
noncomputable def mx_rngL : Value → Option (Int × Int)
  | .long x => some (x.toInt, x.toInt)
  | .double t => if (mx_iv t.toNat).1 ≤ (mx_iv t.toNat).2 then some (mx_iv t.toNat) else none
  | _ => none
noncomputable def mx_nlt (a b : Option (Int × Int)) : Option Bool := match a, b with
  | some p, some q => if p.2 < q.1 then some true else if q.2 ≤ p.1 then some false else none
  | _, _ => none
noncomputable def mx_neq (a b : Option (Int × Int)) : Option Bool := match a, b with
  | some p, some q => if p.2 < q.1 ∨ q.2 < p.1 then some false else if p.1 = p.2 ∧ q.1 = q.2 ∧ p.1 = q.1 then some true else none
  | _, _ => none
noncomputable def mx_n_lt (a b : Option (Int × Int)) : Option Bool := mx_nlt a b
noncomputable def mx_n_ge (a b : Option (Int × Int)) : Option Bool := (mx_nlt a b).map (fun c => !c)
noncomputable def mx_n_gt (a b : Option (Int × Int)) : Option Bool := mx_nlt b a
noncomputable def mx_n_le (a b : Option (Int × Int)) : Option Bool := (mx_nlt b a).map (fun c => !c)
noncomputable def mx_n_eq (a b : Option (Int × Int)) : Option Bool := mx_neq a b
noncomputable def mx_n_ne (a b : Option (Int × Int)) : Option Bool := (mx_neq a b).map (fun c => !c)
noncomputable def mx_bra (k : mx_K) (tg nx : Nat) (ls : mx_L) (r : List Value) (h : mx_H) : Option Bool → Option mx_R
  | some true => k tg ls r h
  | some false => k nx ls r h
  | none => none
noncomputable def mx_i2l (nx : Nat) : mx_O := fun k _ ls st h => match st with
  | .int x :: r => k nx ls (.long x.toInt64 :: r) h
  | .float t :: r => match mx_rng (.float t) with
    | some _ => k nx ls (.double (UInt64.ofNat t.toNat) :: r) h
    | none => none
  | _ => none
noncomputable def mx_if_eq (tg nx : Nat) : mx_O := fun k _ ls st h => match st with
  | .int x :: r => if x = 0 then k tg ls r h else k nx ls r h
  | .float t :: r => mx_bra k tg nx ls r h (mx_n_eq (mx_rng (.float t)) (some (0, 0)))
  | _ => none
noncomputable def mx_icmp_eq (tg nx : Nat) : mx_O := fun k _ ls st h => match st with
  | .int y :: .int x :: r => if x = y then k tg ls r h else k nx ls r h
  | b :: a :: r => mx_bra k tg nx ls r h (mx_n_eq (mx_rng a) (mx_rng b))
  | _ => none
noncomputable def mx_lif_eq (tg nx : Nat) : mx_O := fun k _ ls st h => match st with
  | .long y :: .long x :: r => if lg_cmp x y = 0 then k tg ls r h else k nx ls r h
  | b :: a :: r => mx_bra k tg nx ls r h (mx_n_eq (mx_rngL a) (mx_rngL b))
  | _ => none
noncomputable def mx_if_ne (tg nx : Nat) : mx_O := fun k _ ls st h => match st with
  | .int x :: r => if ¬ x = 0 then k tg ls r h else k nx ls r h
  | .float t :: r => mx_bra k tg nx ls r h (mx_n_ne (mx_rng (.float t)) (some (0, 0)))
  | _ => none
noncomputable def mx_icmp_ne (tg nx : Nat) : mx_O := fun k _ ls st h => match st with
  | .int y :: .int x :: r => if ¬ x = y then k tg ls r h else k nx ls r h
  | b :: a :: r => mx_bra k tg nx ls r h (mx_n_ne (mx_rng a) (mx_rng b))
  | _ => none
noncomputable def mx_lif_ne (tg nx : Nat) : mx_O := fun k _ ls st h => match st with
  | .long y :: .long x :: r => if ¬ lg_cmp x y = 0 then k tg ls r h else k nx ls r h
  | b :: a :: r => mx_bra k tg nx ls r h (mx_n_ne (mx_rngL a) (mx_rngL b))
  | _ => none
noncomputable def mx_if_lt (tg nx : Nat) : mx_O := fun k _ ls st h => match st with
  | .int x :: r => if x < 0 then k tg ls r h else k nx ls r h
  | .float t :: r => mx_bra k tg nx ls r h (mx_n_lt (mx_rng (.float t)) (some (0, 0)))
  | _ => none
noncomputable def mx_icmp_lt (tg nx : Nat) : mx_O := fun k _ ls st h => match st with
  | .int y :: .int x :: r => if x < y then k tg ls r h else k nx ls r h
  | b :: a :: r => mx_bra k tg nx ls r h (mx_n_lt (mx_rng a) (mx_rng b))
  | _ => none
noncomputable def mx_lif_lt (tg nx : Nat) : mx_O := fun k _ ls st h => match st with
  | .long y :: .long x :: r => if lg_cmp x y < 0 then k tg ls r h else k nx ls r h
  | b :: a :: r => mx_bra k tg nx ls r h (mx_n_lt (mx_rngL a) (mx_rngL b))
  | _ => none
noncomputable def mx_if_ge (tg nx : Nat) : mx_O := fun k _ ls st h => match st with
  | .int x :: r => if 0 ≤ x then k tg ls r h else k nx ls r h
  | .float t :: r => mx_bra k tg nx ls r h (mx_n_ge (mx_rng (.float t)) (some (0, 0)))
  | _ => none
noncomputable def mx_icmp_ge (tg nx : Nat) : mx_O := fun k _ ls st h => match st with
  | .int y :: .int x :: r => if y ≤ x then k tg ls r h else k nx ls r h
  | b :: a :: r => mx_bra k tg nx ls r h (mx_n_ge (mx_rng a) (mx_rng b))
  | _ => none
noncomputable def mx_lif_ge (tg nx : Nat) : mx_O := fun k _ ls st h => match st with
  | .long y :: .long x :: r => if 0 ≤ lg_cmp x y then k tg ls r h else k nx ls r h
  | b :: a :: r => mx_bra k tg nx ls r h (mx_n_ge (mx_rngL a) (mx_rngL b))
  | _ => none
noncomputable def mx_if_gt (tg nx : Nat) : mx_O := fun k _ ls st h => match st with
  | .int x :: r => if 0 < x then k tg ls r h else k nx ls r h
  | .float t :: r => mx_bra k tg nx ls r h (mx_n_gt (mx_rng (.float t)) (some (0, 0)))
  | _ => none
noncomputable def mx_icmp_gt (tg nx : Nat) : mx_O := fun k _ ls st h => match st with
  | .int y :: .int x :: r => if y < x then k tg ls r h else k nx ls r h
  | b :: a :: r => mx_bra k tg nx ls r h (mx_n_gt (mx_rng a) (mx_rng b))
  | _ => none
noncomputable def mx_lif_gt (tg nx : Nat) : mx_O := fun k _ ls st h => match st with
  | .long y :: .long x :: r => if 0 < lg_cmp x y then k tg ls r h else k nx ls r h
  | b :: a :: r => mx_bra k tg nx ls r h (mx_n_gt (mx_rngL a) (mx_rngL b))
  | _ => none
noncomputable def mx_if_le (tg nx : Nat) : mx_O := fun k _ ls st h => match st with
  | .int x :: r => if x ≤ 0 then k tg ls r h else k nx ls r h
  | .float t :: r => mx_bra k tg nx ls r h (mx_n_le (mx_rng (.float t)) (some (0, 0)))
  | _ => none
noncomputable def mx_icmp_le (tg nx : Nat) : mx_O := fun k _ ls st h => match st with
  | .int y :: .int x :: r => if x ≤ y then k tg ls r h else k nx ls r h
  | b :: a :: r => mx_bra k tg nx ls r h (mx_n_le (mx_rng a) (mx_rng b))
  | _ => none
noncomputable def mx_lif_le (tg nx : Nat) : mx_O := fun k _ ls st h => match st with
  | .long y :: .long x :: r => if lg_cmp x y ≤ 0 then k tg ls r h else k nx ls r h
  | b :: a :: r => mx_bra k tg nx ls r h (mx_n_le (mx_rngL a) (mx_rngL b))
  | _ => none
noncomputable def mx_goto (tg : Nat) : mx_O := fun k _ ls st h => k tg ls st h
noncomputable def mx_ifnull (tg nx : Nat) : mx_O := fun k _ ls st h => match st with
  | .null :: r => k tg ls r h
  | .ref _ :: r => k nx ls r h
  | _ => none
noncomputable def mx_ifnonnull (tg nx : Nat) : mx_O := fun k _ ls st h => match st with
  | .null :: r => k nx ls r h
  | .ref _ :: r => k tg ls r h
  | _ => none
noncomputable def mx_dup (nx : Nat) : mx_O := fun k _ ls st h => match st with
  | a :: r => bif mx_c1 a then k nx ls (a :: a :: r) h else none
  | _ => none
noncomputable def mx_pop (nx : Nat) : mx_O := fun k _ ls st h => match st with
  | a :: r => bif mx_c1 a then k nx ls r h else none
  | _ => none
noncomputable def mx_dup_x1 (nx : Nat) : mx_O := fun k _ ls st h => match st with
  | a :: b :: r => bif mx_c1 a && mx_c1 b then k nx ls (a :: b :: a :: r) h else none
  | _ => none
noncomputable def mx_dup_x2 (nx : Nat) : mx_O := fun k _ ls st h => match st with
  | a :: b :: d :: r => bif mx_c1 a && (mx_c1 b && mx_c1 d) then k nx ls (a :: b :: d :: a :: r) h else none
  | _ => none
noncomputable def mx_dup2a (nx : Nat) : mx_O := fun k _ ls st h => match st with
  | a :: b :: r => bif mx_c1 a && mx_c1 b then k nx ls (a :: b :: a :: b :: r) h else none
  | _ => none
noncomputable def mx_dup2b (nx : Nat) : mx_O := fun k _ ls st h => match st with
  | a :: r => bif mx_c1 a then none else k nx ls (a :: a :: r) h
  | _ => none
noncomputable def mx_pop2a (nx : Nat) : mx_O := fun k _ ls st h => match st with
  | a :: b :: r => bif mx_c1 a && mx_c1 b then k nx ls r h else none
  | _ => none
noncomputable def mx_pop2b (nx : Nat) : mx_O := fun k _ ls st h => match st with
  | a :: r => bif mx_c1 a then none else k nx ls r h
  | _ => none
noncomputable def mx_dup2x1 (nx : Nat) : mx_O := fun k _ ls st h => match st with
  | a :: b :: r => bif mx_c1 a then none else bif mx_c1 b then k nx ls (a :: b :: a :: r) h else none
  | _ => none
noncomputable def mx_dup2x2 (nx : Nat) : mx_O := fun k _ ls st h => match st with
  | a :: b :: d :: r => bif mx_c1 a then none else bif mx_c1 b && mx_c1 d then k nx ls (a :: b :: d :: a :: r) h else none
  | _ => none
noncomputable def mx_tsw (lo hi : Int) (ts : List Nat) (df : Nat) : mx_O := fun k _ ls st h => match st with
  | .int x :: r => if x.toInt < lo ∨ hi < x.toInt then k df ls r h else match ts[(x.toInt - lo).toNat]? with
    | some t => k t ls r h
    | none => none
  | _ => none
noncomputable def mx_find : List (Int × Nat) → Nat → Int → Nat
  | [], df, _ => df
  | (a, t) :: r, df, x => if x = a then t else mx_find r df x
noncomputable def mx_lsw (ps : List (Int × Nat)) (df : Nat) : mx_O := fun k _ ls st h => match st with
  | .int x :: r => k (mx_find ps df x.toInt) ls r h
  | _ => none
noncomputable def mx_getf (ci f nx : Nat) : mx_O := fun k _ ls st h => match st with
  | .ref a :: r => match mx_cell h a with
    | some (.inl (c, fs)) => bif Nat.beq c ci then match mx_nth fs f with
        | some v => k nx ls (v :: r) h
        | none => none
      else none
    | _ => none
  | _ => none
noncomputable def mx_putf (KC ci f : Nat) (ty : FieldType) (nx : Nat) : mx_O := fun k _ ls st h => match st with
  | v :: .ref a :: r => bif Nat.blt a KC then none else match mx_cell h a with
    | some (.inl (c, fs)) => bif Nat.beq c ci && (Nat.blt f fs.length && mx_fit ty v) then k nx ls r (mx_put h a (.inl (c, mx_upd fs f v))) else none
    | _ => none
  | _ => none
noncomputable def mx_new (ci n : Nat) (fs : List Value) (nx : Nat) : mx_O := fun k _ ls st h => bif Nat.blt h.1 512 then k nx ls (.ref h.1 :: st) (mx_push h n (.inl (ci, fs))) else none
noncomputable def mx_newa (ty : FieldType) (d : Value) (nx : Nat) : mx_O := fun k _ ls st h => match st with
  | .int n :: r => if n < 0 then none else bif Nat.blt h.1 512 && Nat.ble n.toNatClampNeg 8192 then k nx ls (.ref h.1 :: r) (mx_push h n.toNatClampNeg (.inr (ty, n.toNatClampNeg, mx_rep d 13))) else none
  | _ => none
noncomputable def mx_iald (nx : Nat) : mx_O := fun k _ ls st h => match st with
  | .int j :: .ref a :: r => match mx_cell h a with
    | some (.inr (.int, n, c)) => if j < 0 then none else bif Nat.blt j.toNatClampNeg n then k nx ls (mx_get 13 c j.toNatClampNeg :: r) h else none
    | _ => none
  | _ => none
noncomputable def mx_lald (nx : Nat) : mx_O := fun k _ ls st h => match st with
  | .int j :: .ref a :: r => match mx_cell h a with
    | some (.inr (.long, n, c)) => if j < 0 then none else bif Nat.blt j.toNatClampNeg n then k nx ls (mx_get 13 c j.toNatClampNeg :: r) h else none
    | _ => none
  | _ => none
noncomputable def mx_bald (nx : Nat) : mx_O := fun k _ ls st h => match st with
  | .int j :: .ref a :: r => match mx_cell h a with
    | some (.inr (.byte, n, c)) => if j < 0 then none else bif Nat.blt j.toNatClampNeg n then k nx ls (mx_get 13 c j.toNatClampNeg :: r) h else none
    | _ => none
  | _ => none
noncomputable def mx_zald (nx : Nat) : mx_O := fun k _ ls st h => match st with
  | .int j :: .ref a :: r => match mx_cell h a with
    | some (.inr (.boolean, n, c)) => if j < 0 then none else bif Nat.blt j.toNatClampNeg n then k nx ls (mx_get 13 c j.toNatClampNeg :: r) h else none
    | _ => none
  | _ => none
noncomputable def mx_cald (nx : Nat) : mx_O := fun k _ ls st h => match st with
  | .int j :: .ref a :: r => match mx_cell h a with
    | some (.inr (.char, n, c)) => if j < 0 then none else bif Nat.blt j.toNatClampNeg n then k nx ls (mx_get 13 c j.toNatClampNeg :: r) h else none
    | _ => none
  | _ => none
noncomputable def mx_sald (nx : Nat) : mx_O := fun k _ ls st h => match st with
  | .int j :: .ref a :: r => match mx_cell h a with
    | some (.inr (.short, n, c)) => if j < 0 then none else bif Nat.blt j.toNatClampNeg n then k nx ls (mx_get 13 c j.toNatClampNeg :: r) h else none
    | _ => none
  | _ => none
noncomputable def mx_aald (nx : Nat) : mx_O := fun k _ ls st h => match st with
  | .int j :: .ref a :: r => match mx_cell h a with
    | some (.inr (.object _, n, c)) => if j < 0 then none else bif Nat.blt j.toNatClampNeg n then k nx ls (mx_get 13 c j.toNatClampNeg :: r) h else none
    | _ => none
  | _ => none
noncomputable def mx_iast (KC nx : Nat) : mx_O := fun k _ ls st h => match st with
  | .int x :: .int j :: .ref a :: r => bif Nat.blt a KC then none else match mx_cell h a with
    | some (.inr (.int, n, c)) => if j < 0 then none else bif Nat.blt j.toNatClampNeg n then k nx ls r (mx_put h a (.inr (.int, n, mx_set 13 c j.toNatClampNeg (.int x)))) else none
    | _ => none
  | _ => none
noncomputable def mx_last (KC nx : Nat) : mx_O := fun k _ ls st h => match st with
  | .long x :: .int j :: .ref a :: r => bif Nat.blt a KC then none else match mx_cell h a with
    | some (.inr (.long, n, c)) => if j < 0 then none else bif Nat.blt j.toNatClampNeg n then k nx ls r (mx_put h a (.inr (.long, n, mx_set 13 c j.toNatClampNeg (.long x)))) else none
    | _ => none
  | _ => none
noncomputable def mx_bast (KC nx : Nat) : mx_O := fun k _ ls st h => match st with
  | .int x :: .int j :: .ref a :: r => bif Nat.blt a KC then none else match mx_cell h a with
    | some (.inr (.byte, n, c)) => if j < 0 then none else bif Nat.blt j.toNatClampNeg n then k nx ls r (mx_put h a (.inr (.byte, n, mx_set 13 c j.toNatClampNeg (.int x.toInt8.toInt32)))) else none
    | _ => none
  | _ => none
noncomputable def mx_zast (KC nx : Nat) : mx_O := fun k _ ls st h => match st with
  | .int x :: .int j :: .ref a :: r => bif Nat.blt a KC then none else match mx_cell h a with
    | some (.inr (.boolean, n, c)) => if j < 0 then none else bif Nat.blt j.toNatClampNeg n then k nx ls r (mx_put h a (.inr (.boolean, n, mx_set 13 c j.toNatClampNeg (.int (x &&& 1))))) else none
    | _ => none
  | _ => none
noncomputable def mx_cast (KC nx : Nat) : mx_O := fun k _ ls st h => match st with
  | .int x :: .int j :: .ref a :: r => bif Nat.blt a KC then none else match mx_cell h a with
    | some (.inr (.char, n, c)) => if j < 0 then none else bif Nat.blt j.toNatClampNeg n then k nx ls r (mx_put h a (.inr (.char, n, mx_set 13 c j.toNatClampNeg (.int x.toUInt32.toUInt16.toUInt32.toInt32)))) else none
    | _ => none
  | _ => none
noncomputable def mx_sast (KC nx : Nat) : mx_O := fun k _ ls st h => match st with
  | .int x :: .int j :: .ref a :: r => bif Nat.blt a KC then none else match mx_cell h a with
    | some (.inr (.short, n, c)) => if j < 0 then none else bif Nat.blt j.toNatClampNeg n then k nx ls r (mx_put h a (.inr (.short, n, mx_set 13 c j.toNatClampNeg (.int x.toInt16.toInt32)))) else none
    | _ => none
  | _ => none
/-- a reference comes into an array of class C: an object of class ci, whose name is C -/
noncomputable def mx_aast (KC ci nx : Nat) (C : String) : mx_O := fun k _ ls st h => match st with
  | .ref b :: .int j :: .ref a :: r => bif Nat.blt a KC then none else match mx_cell h b with
    | some (.inl (c2, _)) => bif Nat.beq c2 ci then match mx_cell h a with
      | some (.inr (.object D, n, c)) => if D = C then if j < 0 then none else bif Nat.blt j.toNatClampNeg n then k nx ls r (mx_put h a (.inr (.object D, n, mx_set 13 c j.toNatClampNeg (.ref b)))) else none else none
      | _ => none
      else none
    | _ => none
  | _ => none
noncomputable def mx_alen (nx : Nat) : mx_O := fun k _ ls st h => match st with
  | .ref a :: r => match mx_cell h a with
    | some (.inr (_, n, _)) => k nx ls (.int (Int32.ofNat n) :: r) h
    | _ => none
  | _ => none
noncomputable def mx_ret1 (k : mx_K) (nx : Nat) (ls : mx_L) (rest : List Value) : mx_R → Option mx_R
  | (some v, h) => k nx ls (v :: rest) h
  | (none, h) => k nx ls rest h
/-- calls: mi the method, nt how many operands (the receiver too), ci the receiver's class -/
noncomputable def mx_callv (mi nt ci nx : Nat) : mx_O := fun k call ls st h => match (st.take nt).reverse with
  | .ref b :: as => match mx_cell h b with
    | some (.inl (c, _)) => bif Nat.beq c ci && (Nat.beq as.length (nt - 1) && Nat.ble (mx_cat (st.drop nt)) 8) then match call mi (.ref b :: as) h with
        | some r => mx_ret1 k nx ls (st.drop nt) r
        | none => none
      else none
    | _ => none
  | _ => none
noncomputable def mx_calls (mi nt nx : Nat) : mx_O := fun k call ls st h => bif Nat.beq (st.take nt).length nt && Nat.ble (mx_cat (st.drop nt)) 8 then match call mi (st.take nt).reverse h with
    | some r => mx_ret1 k nx ls (st.drop nt) r
    | none => none
  else none
noncomputable def mx_calli (mi nt nx : Nat) : mx_O := fun k call ls st h => match (st.take nt).reverse with
  | .ref b :: as => bif Nat.beq as.length (nt - 1) && Nat.ble (mx_cat (st.drop nt)) 8 then match call mi (.ref b :: as) h with
        | some r => bif r.1.isNone then k nx ls (st.drop nt) r.2 else none
        | none => none
      else none
  | _ => none
/-- Object(): nothing; the call of method 0 only shows that there is a frame left -/
noncomputable def mx_objinit (nx : Nat) : mx_O := fun k call ls st h => match st with
  | .ref _ :: r => bif Nat.ble (mx_cat r) 8 then match call 0 [] h with
      | some _ => k nx ls r h
      | none => none
    else none
  | _ => none
noncomputable def mx_mmax (nx : Nat) : mx_O := fun k call ls st h => match st with
  | .int y :: .int x :: r => bif Nat.ble (mx_cat r) 8 then match call 0 [] h with
      | some _ => k nx ls (.int (if x < y then y else x) :: r) h
      | none => none
    else none
  | _ => none
noncomputable def mx_mmin (nx : Nat) : mx_O := fun k call ls st h => match st with
  | .int y :: .int x :: r => bif Nat.ble (mx_cat r) 8 then match call 0 [] h with
      | some _ => k nx ls (.int (if y < x then y else x) :: r) h
      | none => none
    else none
  | _ => none
noncomputable def mx_iret : mx_O := fun _ _ _ st h => match st with
  | [.int v] => some (some (.int v), h)
  | _ => none
noncomputable def mx_zret : mx_O := fun _ _ _ st h => match st with
  | [.int v] => if v = 0 ∨ v = 1 then some (some (.int v), h) else none
  | _ => none
noncomputable def mx_lret : mx_O := fun _ _ _ st h => match st with
  | [.long v] => some (some (.long v), h)
  | _ => none
noncomputable def mx_aret : mx_O := fun _ _ _ st h => match st with
  | [.ref v] => some (some (.ref v), h)
  | [.null] => some (some .null, h)
  | _ => none
noncomputable def mx_vret : mx_O := fun _ _ _ st h => match st with
  | [] => some (none, h)
  | _ => none
end
section
/-! what the small machine's cells are on the library's heap; the judgement that its instructions keep -/
/-- classes, their numbers and slots; how many constants, where new cells begin, where the constants lie, the heap at the start -/
abbrev mx_E : Type := List vw_C × va_G × Nat × Nat × (Nat → Nat) × Heap × (Nat → Int64)
def mx_rho (E : mx_E) (k : Nat) : Nat := if k < E.2.2.1 then E.2.2.2.2.1 k else E.2.2.2.1 + (k - E.2.2.1)
def mx_v (E : mx_E) : Value → Value
  | .ref k => .ref (mx_rho E k)
  | .float t => .int (E.2.2.2.2.2.2 t.toNat).toInt32
  | .double t => .long (E.2.2.2.2.2.2 t.toNat)
  | v => v
def mx_ok (E : mx_E) (U : State) (H : Heap) (a : Nat) (c : mx_C) : Prop := match c with
  | .inl (ci, fs) => ∃ r : vw_C, E.1[ci]? = some r ∧ fs.length = r.2.2 ∧ t_OB a (E.2.1.1 ci) r.2.2 (E.2.1.2 ci) H (vp_V (fs.map (mx_v E)))
  | .inr (ty, n, t) => ∃ c : Cell, H[a]? = some c ∧ U.isArrayOf c ty ∧ c.vm = .none ∧ c.slots.size = n ∧ n ≤ 8192 ∧ (∀ j, j < n → c.slots[j]? = some (mx_v E (mx_get 13 t j))) ∧ (∀ C, ty = .object C → va_RA U c.cls ty)
def mx_Rp (E : mx_E) (U : State) (h : mx_H) (H : Heap) : Prop :=
  E.2.2.1 ≤ h.1 ∧ h.1 ≤ 512 ∧ H.size = E.2.2.2.1 + (h.1 - E.2.2.1) ∧ (∀ q, q < E.2.2.2.1 → H[q]? = E.2.2.2.2.2.1[q]?) ∧ (∀ k, k < E.2.2.1 → E.2.2.2.2.1 k < E.2.2.2.1) ∧ ∀ k, k < h.1 → mx_ok E U H (mx_rho E k) (mx_get 9 h.2.2 k)
theorem mx_ok.kept {E : mx_E} {U : State} {H H1 : Heap} {a : Nat} {c : mx_C} (h : mx_ok E U H a c) (hq : H1[a]? = H[a]?) : mx_ok E U H1 a c := by
  cases c with
  | inl o =>
    obtain ⟨r, h1, h2, h3⟩ := h
    exact ⟨r, h1, h2, h3.kept hq⟩
  | inr o =>
    obtain ⟨c, h1, h2⟩ := h
    exact ⟨c, hq.trans h1, h2⟩
theorem mx_ok.moved {E : mx_E} {u U : State} {H : Heap} {a : Nat} {c : mx_C} (hvm : u.vm.Alike U.vm) (h : mx_ok E u H a c) : mx_ok E U H a c := by
  cases c with
  | inl o => exact h
  | inr o =>
    obtain ⟨c, h1, h2, h3, h4, h5, h6, h7⟩ := h
    exact ⟨c, h1, State.isArrayOf_alike hvm h2, h3, h4, h5, h6, fun C hC => (h7 C hC).moved hvm⟩
theorem mx_Rp.moved {E : mx_E} {u U : State} {h : mx_H} {H : Heap} (hvm : u.vm.Alike U.vm) (hr : mx_Rp E u h H) : mx_Rp E U h H := by
  obtain ⟨h1, h2, h3, h4, h5, h6⟩ := hr
  exact ⟨h1, h2, h3, h4, h5, fun k hk => (h6 k hk).moved hvm⟩
theorem mx_rho_hi {E : mx_E} {k : Nat} (h : ¬ k < E.2.2.1) : mx_rho E k = E.2.2.2.1 + (k - E.2.2.1) := by
  unfold mx_rho; rw [if_neg h]
/-- cells apart: a place that isn't a constant's is no other's -/
theorem mx_rho_ne {E : mx_E} {U : State} {h : mx_H} {H : Heap} (hr : mx_Rp E U h H) {a k : Nat} (ha : ¬ a < E.2.2.1) (hk : k ≠ a) : mx_rho E k ≠ mx_rho E a := by
  rw [mx_rho_hi ha]
  by_cases hkc : k < E.2.2.1
  · have := hr.2.2.2.2.1 k hkc
    unfold mx_rho; rw [if_pos hkc]; omega
  · rw [mx_rho_hi hkc]; omega
theorem mx_cell_some {h : mx_H} {a : Nat} {c : mx_C} (e : mx_cell h a = some c) : a < h.1 ∧ mx_get 9 h.2.2 a = c := by
  unfold mx_cell at e
  cases hb : Nat.blt a h.1 with
  | false => rw [hb] at e; cases e
  | true =>
    rw [hb] at e
    exact ⟨by have := Nat.ble_eq.mp (show Nat.ble (a + 1) h.1 = true from hb); omega, Option.some.inj e⟩
theorem mx_Rp.at {E : mx_E} {U : State} {h : mx_H} {H : Heap} {a : Nat} {c : mx_C} (hr : mx_Rp E U h H) (e : mx_cell h a = some c) : mx_ok E U H (mx_rho E a) c := by
  obtain ⟨h1, h2⟩ := mx_cell_some e
  rw [← h2]
  exact hr.2.2.2.2.2 a h1
/-- one cell is another -/
theorem mx_Rp.put {E : mx_E} {U : State} {h : mx_H} {H H1 : Heap} {a : Nat} {c : mx_C} (hr : mx_Rp E U h H) (ha : ¬ a < E.2.2.1) (hl : a < h.1) (he : mx_ok E U H1 (mx_rho E a) c) (hz : H1.size = H.size) (hq : ∀ q : Nat, q ≠ mx_rho E a → H1[q]? = H[q]?) : mx_Rp E U (mx_put h a c) H1 := by
  have hne : ∀ k, k ≠ a → mx_rho E k ≠ mx_rho E a := fun k hk => mx_rho_ne hr ha hk
  obtain ⟨h1, h2, h3, h4, h5, h6⟩ := hr
  refine ⟨h1, h2, hz.trans h3, fun q hq2 => ?_, h5, fun k hk => ?_⟩
  · rw [hq q (by rw [mx_rho_hi ha]; omega)]; exact h4 q hq2
  · have hk2 : k < h.1 := hk
    show mx_ok E U H1 (mx_rho E k) (mx_get 9 (mx_set 9 h.2.2 a c) k)
    rw [mx_get_set c 9 h.2.2 a k (by show a < 512; omega) (by show k < 512; omega)]
    by_cases hka : k = a
    · rw [if_pos hka, hka]; exact he
    · rw [if_neg hka]; exact (h6 k hk2).kept (hq _ (hne k hka))
/-- one cell more -/
theorem mx_Rp.push {E : mx_E} {U : State} {h : mx_H} {H H1 : Heap} {n : Nat} {c : mx_C} (hr : mx_Rp E U h H) (hl : h.1 < 512) (he : mx_ok E U H1 H.size c) (hz : H1.size = H.size + 1) (hq : ∀ q : Nat, q < H.size → H1[q]? = H[q]?) : mx_Rp E U (mx_push h n c) H1 := by
  obtain ⟨h1, h2, h3, h4, h5, h6⟩ := hr
  have hlt : ∀ k, k < h.1 → mx_rho E k < H.size := by
    intro k hk
    by_cases hkc : k < E.2.2.1
    · have := h5 k hkc
      unfold mx_rho; rw [if_pos hkc]; omega
    · rw [mx_rho_hi hkc]; omega
  refine ⟨by show _ ≤ h.1 + 1; omega, by show h.1 + 1 ≤ _; omega, by show H1.size = _ + (h.1 + 1 - _); omega, fun q hq2 => ?_, h5, fun k hk => ?_⟩
  · rw [hq q (by omega)]; exact h4 q hq2
  · have hk2 : k < h.1 + 1 := hk
    show mx_ok E U H1 (mx_rho E k) (mx_get 9 (mx_set 9 h.2.2 h.1 c) k)
    rw [mx_get_set c 9 h.2.2 h.1 k (by show h.1 < 512; omega) (by show k < 512; omega)]
    by_cases hka : k = h.1
    · rw [if_pos hka, hka, mx_rho_hi (by omega), ← h3]; exact he
    · rw [if_neg hka]; exact (h6 k (by omega)).kept (hq _ (hlt k (by omega)))
theorem mx_rho_new {E : mx_E} {U : State} {h : mx_H} {H : Heap} (hr : mx_Rp E U h H) : mx_rho E h.1 = H.size := by
  rw [mx_rho_hi (by have := hr.1; omega), hr.2.2.1]
/-- locals -/
def mx_ls (E : mx_E) (la : Array Slot) (nL : Nat) (ls : mx_L) : Prop := la.size = nL ∧ lv_wf la ∧ ls.length = nL ∧ ∀ (i : Nat) (v : Value), ls[i]? = some (some v) → la[i]? = some (.val (mx_v E v))
theorem mx_lg_some {ls : mx_L} {i : Nat} {v : Value} (h : mx_lg ls i = some v) : ls[i]? = some (some v) := by
  unfold mx_lg at h
  rw [mx_nth_eq] at h
  split at h
  · rename_i w hw; rw [hw, Option.some.inj h]
  · cases h
theorem mx_v_cat (E : mx_E) (v : Value) : (mx_v E v).category = v.category := by cases v <;> rfl
theorem mx_cl_length (ls : mx_L) (i : Nat) : (mx_cl ls i).length = ls.length := by
  unfold mx_cl
  split
  · rfl
  · split <;> simp [mx_upd_eq]
theorem mx_cl_at {ls : mx_L} {i j : Nat} {v : Value} (h : (mx_cl ls i)[j]? = some (some v)) : ls[j]? = some (some v) ∧ ¬ (j + 1 = i ∧ v.category = 2) := by
  unfold mx_cl at h
  split at h
  · exact ⟨h, by omega⟩
  · rename_i k
    have hcat : ∀ w : Value, ls[k]? = some (some w) → mx_lg ls k = some w := by
      intro w hw; unfold mx_lg; rw [mx_nth_eq, hw]
    split at h
    · rw [mx_upd_eq, List.getElem?_set] at h
      by_cases hkj : k = j
      · rw [if_pos hkj] at h
        split at h <;> cases h
      · rw [if_neg hkj] at h
        exact ⟨h, by omega⟩
    · rw [mx_upd_eq, List.getElem?_set] at h
      by_cases hkj : k = j
      · rw [if_pos hkj] at h
        split at h <;> cases h
      · rw [if_neg hkj] at h
        exact ⟨h, by omega⟩
    · rename_i n1 n2
      refine ⟨h, ?_⟩
      rintro ⟨q1, q2⟩
      have hkj : k = j := by omega
      subst hkj
      have e := hcat v h
      cases v <;> first | exact absurd e (n1 _) | exact absurd e (n2 _) | (simp [Value.category] at q2)
/-- the list of what is held, as the kit has it -/
theorem mx_ls_of {E : mx_E} {la : Array Slot} {nL : Nat} {ls : mx_L} {lv : List (Nat × Value)} (h : lv_has la nL lv) (hlen : ls.length = nL) (hin : ∀ (i : Nat) (v : Value), ls[i]? = some (some v) → (i, mx_v E v) ∈ lv) : mx_ls E la nL ls :=
  ⟨h.1, h.2.1, hlen, fun i v hv => h.2.2 (i, mx_v E v) (hin i v hv)⟩
def mx_asc (E : mx_E) (ls : mx_L) : List (Nat × Value) := (List.range ls.length).filterMap fun i => match ls[i]? with
  | some (some v) => some (i, mx_v E v)
  | _ => none
theorem mx_asc_mem {E : mx_E} {ls : mx_L} {i : Nat} {w : Value} : (i, w) ∈ mx_asc E ls ↔ ∃ v, ls[i]? = some (some v) ∧ w = mx_v E v := by
  unfold mx_asc
  rw [List.mem_filterMap]
  constructor
  · rintro ⟨j, hj, e⟩
    split at e
    · rename_i v hv
      have e2 := Option.some.inj e
      have e3 : j = i := congrArg Prod.fst e2
      have e4 : mx_v E v = w := congrArg Prod.snd e2
      exact ⟨v, by rw [← e3]; exact hv, e4.symm⟩
    · cases e
  · rintro ⟨v, hv, rfl⟩
    refine ⟨i, List.mem_range.mpr (List.getElem?_eq_some_iff.mp hv).1, ?_⟩
    rw [hv]
theorem mx_ls.has {E : mx_E} {la : Array Slot} {nL : Nat} {ls : mx_L} (h : mx_ls E la nL ls) : lv_has la nL (mx_asc E ls) := by
  refine ⟨h.1, h.2.1, fun q hq => ?_⟩
  obtain ⟨i, w⟩ := q
  obtain ⟨v, hv, rfl⟩ := mx_asc_mem.mp hq
  exact h.2.2.2 i v hv
theorem mx_st1_ls {E : mx_E} {la : Array Slot} {nL : Nat} {ls : mx_L} {i : Nat} {v : Value} (hl : ls.length = nL)
    (h : lv_has la nL ((i, mx_v E v) :: (mx_asc E ls).filter (fun q => !(q.1 == i) && !(q.1 + 1 == i && q.2.category == 2)))) : mx_ls E la nL (mx_st1 ls i v) := by
  refine mx_ls_of h (by unfold mx_st1; rw [mx_upd_eq, List.length_set, mx_cl_length]; exact hl) fun j w hw => ?_
  unfold mx_st1 at hw
  rw [mx_upd_eq, List.getElem?_set] at hw
  by_cases hij : i = j
  · rw [if_pos hij] at hw
    split at hw
    · cases hw; rw [hij]; exact List.mem_cons_self
    · cases hw
  · rw [if_neg hij] at hw
    obtain ⟨h1, h2⟩ := mx_cl_at hw
    refine List.mem_cons_of_mem _ (List.mem_filter.mpr ⟨mx_asc_mem.mpr ⟨w, h1, rfl⟩, ?_⟩)
    have hji : ¬ j = i := fun z => hij z.symm
    simp only [Bool.and_eq_true, Bool.not_eq_true', beq_eq_false_iff_ne, ne_eq, Bool.and_eq_false_iff, mx_v_cat]
    refine ⟨hji, ?_⟩
    by_cases hc : j + 1 = i
    · exact Or.inr (fun hcat => h2 ⟨hc, hcat⟩)
    · exact Or.inl hc
theorem mx_st2_ls {E : mx_E} {la : Array Slot} {nL : Nat} {ls : mx_L} {i : Nat} {v : Value} (hl : ls.length = nL)
    (h : lv_has la nL ((i, mx_v E v) :: (mx_asc E ls).filter (fun q => !(q.1 == i) && (!(q.1 == i + 1) && !(q.1 + 1 == i && q.2.category == 2))))) : mx_ls E la nL (mx_st2 ls i v) := by
  refine mx_ls_of h (by unfold mx_st2; rw [mx_upd_eq, List.length_set, mx_upd_eq, List.length_set, mx_cl_length]; exact hl) fun j w hw => ?_
  unfold mx_st2 at hw
  rw [mx_upd_eq, List.getElem?_set] at hw
  by_cases hij : i = j
  · rw [if_pos hij] at hw
    split at hw
    · cases hw; rw [hij]; exact List.mem_cons_self
    · cases hw
  · rw [if_neg hij, mx_upd_eq, List.getElem?_set] at hw
    by_cases hij2 : i + 1 = j
    · rw [if_pos hij2] at hw
      split at hw <;> cases hw
    · rw [if_neg hij2] at hw
      obtain ⟨h1, h2⟩ := mx_cl_at hw
      refine List.mem_cons_of_mem _ (List.mem_filter.mpr ⟨mx_asc_mem.mpr ⟨w, h1, rfl⟩, ?_⟩)
      have hji : ¬ j = i := fun z => hij z.symm
      have hji2 : ¬ j = i + 1 := fun z => hij2 z.symm
      simp only [Bool.and_eq_true, Bool.not_eq_true', beq_eq_false_iff_ne, ne_eq, Bool.and_eq_false_iff, mx_v_cat]
      refine ⟨hji, hji2, ?_⟩
      by_cases hc : j + 1 = i
      · exact Or.inr (fun hcat => h2 ⟨hc, hcat⟩)
      · exact Or.inl hc
/-- what a run knows of the tables: the classes; nest mates' links; static fields that nobody writes -/
abbrev mx_NF : Type := String × Nat × String × String × String × String
abbrev mx_NM : Type := String × Nat × MethodName × String
abbrev mx_Z : Type := String × String × String × Value
abbrev mx_Ev : Type := mx_E × List Cond × List mx_NF × List mx_NM × List mx_Z
def mx_KK (V : mx_Ev) (U : State) : Prop :=
  va_K V.1.2.1 V.1.1 [] U ∧ (∀ w ∈ V.2.2.1, va_Nw (.fieldLinkNest w.1 w.2.1 w.2.2.1 w.2.2.2.1 w.2.2.2.2.1 w.2.2.2.2.2) U) ∧ (∀ w ∈ V.2.2.2.1, va_Nw (.methodLinkNest w.1 w.2.1 w.2.2.1 w.2.2.2) U) ∧
  (∀ t, (mx_iv t).1 ≤ (mx_iv t).2 → (mx_iv t).1 ≤ (V.1.2.2.2.2.2.2 t).toInt ∧ (V.1.2.2.2.2.2.2 t).toInt ≤ (mx_iv t).2) ∧ ∀ z ∈ V.2.2.2.2, va_Z z.1 z.2.1 z.2.2.1 (mx_v V.1 z.2.2.2) (fun q => V.1.2.2.2.1 ≤ q) U V.1.2.2.2.2.2.1
theorem mx_KK.warm {V : mx_Ev} {s U : State} (hW : s.WarmedH U.vm) (h : mx_KK V s) : mx_KK V U := by
  obtain ⟨h1, h2, h3, h5, h4⟩ := h
  exact ⟨va_K.moved hW.alike h1, fun w hw => va_Nw.warmF hW (h2 w hw), fun w hw => va_Nw.warmM hW (h3 w hw), h5, fun z hz => va_Z.moved hW.alike (h4 z hz)⟩
def mx_rm (d c s : Nat) : Room := { frames := d, cells := c, slots := s, locals := 64 * d }
def mx_Pc (V : mx_Ev) (as : List Value) (h : mx_H) : Array Value → State → Prop := fun vs U => vs = (as.map (mx_v V.1)).toArray ∧ mx_Rp V.1 U h U.heap ∧ mx_KK V U
def mx_Qc (V : mx_Ev) (r : mx_R) : Array Value → State → Outcome → State → Prop := fun _ _ oc t => oc = .returned (r.1.map (mx_v V.1)) ∧ mx_Rp V.1 t r.2 t.heap
def mx_up (V : mx_Ev) : Addr → Prop := fun q => V.1.2.2.2.1 ≤ q
def mx_le (h h2 : mx_H) : Prop := h.1 ≤ h2.1 ∧ h.2.1 ≤ h2.2.1
theorem mx_le.rf (h : mx_H) : mx_le h h := ⟨Nat.le_refl _, Nat.le_refl _⟩
theorem mx_le.tr {a b c : mx_H} (h : mx_le a b) (h2 : mx_le b c) : mx_le a c := ⟨Nat.le_trans h.1 h2.1, Nat.le_trans h.2 h2.2⟩
end
section
/-! the judgement; an instruction is sound if it keeps it -/
/-- a method: code, locals, class, name, answer; all: launch, what is known, methods' names and words -/
abbrev mx_M : Type := ByteArray × Nat × String × String × Option FieldType
abbrev mx_B : Type := Launch × mx_Ev × (Nat → MethodName) × (Nat → List Cond)
def mx_At (B : mx_B) (M : mx_M) (p : Program) (s : State) (m : MethodId) (args : Array Value) (meth : Method) (c : Code) : Prop :=
  p.tables.exec = Jvm.exec ∧ c.code = M.1 ∧ c.maxLocals = M.2.1 ∧ s.vm.findClass M.2.2.1 = some m.cls ∧ (∀ w ∈ B.2.1.2.1, w.before args s = true) ∧ meth.sig.returnType = M.2.2.2.2 ∧ meth.locks = false ∧ meth.name = M.2.2.2.1 ∧ mx_KK B.2.1 s
def mx_G (B : mx_B) (M : mx_M) (d pc : Nat) (ls : mx_L) (st : List Value) (h : mx_H) (r : mx_R) : Prop :=
  mx_le h r.2 ∧ ∀ (p : Program) (e : Env) (s : State) (m : MethodId) (args : Array Value) (below : List Frame) (meth : Method) (c : Code) (hc hs : Nat) (H : Heap) (locs : List Loc) (la : Array Slot),
    mx_At B M p s m args meth c → hc ≤ h.1 → hs ≤ h.2.1 → mx_Rp B.2.1.1 s h H → (∀ q ∈ locs, mx_up B.2.1 q.base) → mx_ls B.2.1.1 la M.2.1 ls →
    W p B.1 e (mx_rm d (r.2.1 - hc) (r.2.2.1 - hs)) s m args below meth c H locs (h.1 - hc) (h.2.1 - hs) (MQ below (mx_Qc B.2.1 r) args s (r.2.1 - hc) (r.2.2.1 - hs) (mx_up B.2.1)) (F0 m pc la (st.map (mx_v B.2.1.1)))
def mx_Cl (B : mx_B) (d : Nat) (call : mx_F) : Prop := ∀ (mi : Nat) (as : List Value) (h : mx_H) (r : mx_R), call mi as h = some r → ∃ d', d = d' + 1 ∧ mx_le h r.2 ∧
  (¬ mi = 0 → Met B.1 (B.2.2.1 mi) (B.2.2.2 mi) (mx_rm d' (r.2.1 - h.1) (r.2.2.1 - h.2.1)) (mx_Pc B.2.1 as h) (mx_Qc B.2.1 r) (r.2.1 - h.1) (r.2.2.1 - h.2.1) (mx_up B.2.1))
def mx_Sn (B : mx_B) (M : mx_M) (pc : Nat) (o : mx_O) : Prop := ∀ (d : Nat) (k : mx_K) (call : mx_F), (∀ (pc : Nat) (ls : mx_L) (st : List Value) (h : mx_H) (r : mx_R), k pc ls st h = some r → mx_G B M d pc ls st h r) → mx_Cl B d call →
  ∀ (ls : mx_L) (st : List Value) (h : mx_H) (r : mx_R), o k call ls st h = some r → mx_G B M d pc ls st h r
section MXS
variable {B : mx_B} {M : mx_M} {d pc pc2 : Nat} {ls ls2 : mx_L} {st st2 : List Value} {h : mx_H} {r : mx_R}
theorem mx_G.step (hk : mx_G B M d pc2 ls st2 h r) (hw : ∀ (p : Program) (e : Env) (s : State) (m : MethodId) (args : Array Value) (below : List Frame) (meth : Method) (c : Code) (R : Room) (H : Heap) (locs : List Loc) (cells slots : Nat) (Q : State → Prop) (la : Array Slot),
    mx_At B M p s m args meth c → mx_ls B.2.1.1 la M.2.1 ls → W p B.1 e R s m args below meth c H locs cells slots Q (F0 m pc2 la (st2.map (mx_v B.2.1.1))) → W p B.1 e R s m args below meth c H locs cells slots Q (F0 m pc la (st.map (mx_v B.2.1.1)))) : mx_G B M d pc ls st h r :=
  ⟨hk.1, fun p e s m args below meth c hc hs H locs la A h1 h2 hR hL hl => hw p e s m args below meth c _ H locs _ _ _ la A hl (hk.2 p e s m args below meth c hc hs H locs la A h1 h2 hR hL hl)⟩
theorem mx_G.stepL (hk : mx_G B M d pc2 ls2 st2 h r) (hw : ∀ (p : Program) (e : Env) (s : State) (m : MethodId) (args : Array Value) (below : List Frame) (meth : Method) (c : Code) (R : Room) (H : Heap) (locs : List Loc) (cells slots : Nat) (Q : State → Prop) (la : Array Slot),
    mx_At B M p s m args meth c → mx_ls B.2.1.1 la M.2.1 ls → (∀ la2, mx_ls B.2.1.1 la2 M.2.1 ls2 → W p B.1 e R s m args below meth c H locs cells slots Q (F0 m pc2 la2 (st2.map (mx_v B.2.1.1)))) → W p B.1 e R s m args below meth c H locs cells slots Q (F0 m pc la (st.map (mx_v B.2.1.1)))) : mx_G B M d pc ls st h r :=
  ⟨hk.1, fun p e s m args below meth c hc hs H locs la A h1 h2 hR hL hl => hw p e s m args below meth c _ H locs _ _ _ la A hl (fun la2 hl2 => hk.2 p e s m args below meth c hc hs H locs la2 A h1 h2 hR hL hl2)⟩
theorem mx_s_stuck : mx_Sn B M pc mx_stuck := fun _ _ _ _ _ _ _ _ _ e => by cases e
theorem mx_s_node {k : Nat} {l r : Nat → mx_O} (hl : ∀ pc, mx_Sn B M pc (l pc)) (hr : ∀ pc, mx_Sn B M pc (r pc)) : ∀ pc, mx_Sn B M pc (mx_node k l r pc) := by
  intro pc
  unfold mx_node
  cases Nat.blt pc k
  · exact hr pc
  · exact hl pc
theorem mx_s_leaf {k : Nat} {o : mx_O} (h : mx_Sn B M k o) : ∀ pc, mx_Sn B M pc (mx_leaf k o pc) := by
  intro pc
  unfold mx_leaf
  cases hb : Nat.beq pc k with
  | false => exact mx_s_stuck
  | true => rw [Nat.eq_of_beq_eq_true hb]; exact h
theorem mx_run_ok {tab : Nat → mx_O} {call : mx_F} (ht : ∀ pc, mx_Sn B M pc (tab pc)) (hc : mx_Cl B d call) : ∀ (n pc : Nat) (ls : mx_L) (st : List Value) (h : mx_H) (r : mx_R), mx_run tab call n pc ls st h = some r → mx_G B M d pc ls st h r
  | 0, _, _, _, _, _, e => by cases e
  | n + 1, pc, ls, st, h, r, e => ht pc d (mx_run tab call n) call (fun pc ls st h r e => mx_run_ok ht hc n pc ls st h r e) hc ls st h r e
theorem mx_s_iconst {n : Int} {v : Int32} (hv : Int32.ofInt n = v) (hd : decode M.1 pc = .ok (.iconst n, 1)) : mx_Sn B M pc (mx_const (.int v) (pc + 1)) := by
  intro d k call hk hc ls st h r e
  exact mx_G.step (hk _ _ _ _ _ e) (fun p e s m args below meth c R H locs cells slots Q la A hl K => lv_iconst A.1 A.2.1 hd hv K)
theorem mx_s_bipush {n : Int} {v : Int32} (hv : (Int8.ofInt n).toInt32 = v) (hd : decode M.1 pc = .ok (.bipush n, 2)) : mx_Sn B M pc (mx_const (.int v) (pc + 2)) := by
  intro d k call hk hc ls st h r e
  exact mx_G.step (hk _ _ _ _ _ e) (fun p e s m args below meth c R H locs cells slots Q la A hl K => lv_bipush A.1 A.2.1 hd hv K)
theorem mx_s_sipush {n : Int} {v : Int32} (hv : (Int16.ofInt n).toInt32 = v) (hd : decode M.1 pc = .ok (.sipush n, 3)) : mx_Sn B M pc (mx_const (.int v) (pc + 3)) := by
  intro d k call hk hc ls st h r e
  exact mx_G.step (hk _ _ _ _ _ e) (fun p e s m args below meth c R H locs cells slots Q la A hl K => lv_sipush A.1 A.2.1 hd hv K)
theorem mx_s_lconst {n : Fin 2} {v : Int64} (hv : Int64.ofNat (n : Nat) = v) (hd : decode M.1 pc = .ok (.lconst n, 1)) : mx_Sn B M pc (mx_const (.long v) (pc + 1)) := by
  intro d k call hk hc ls st h r e
  exact mx_G.step (hk _ _ _ _ _ e) (fun p e s m args below meth c R H locs cells slots Q la A hl K => lv_lconst A.1 A.2.1 hd hv K)
theorem mx_s_ldc {i : Nat} {v : Int32} (hw : Jvm.Cond.constant M.2.2.1 i v ∈ B.2.1.2.1) (hd : decode M.1 pc = .ok (.ldc i, 2)) : mx_Sn B M pc (mx_const (.int v) (pc + 2)) := by
  intro d k call hk hc ls st h r e
  exact mx_G.step (hk _ _ _ _ _ e) (fun p e s m args below meth c R H locs cells slots Q la A hl K => W.ldc A.1 A.2.1 A.2.2.2.1 (A.2.2.2.2.1 _ hw) rfl hd K)
theorem mx_s_ldc2 {i : Nat} {v : Int64} (hw : Jvm.Cond.constantLong M.2.2.1 i v ∈ B.2.1.2.1) (hd : decode M.1 pc = .ok (.ldc2_w i, 3)) : mx_Sn B M pc (mx_const (.long v) (pc + 3)) := by
  intro d k call hk hc ls st h r e
  exact mx_G.step (hk _ _ _ _ _ e) (fun p e s m args below meth c R H locs cells slots Q la A hl K => W.ldc2 A.1 A.2.1 A.2.2.2.1 (A.2.2.2.2.1 _ hw) rfl hd K)
theorem mx_s_null (hd : decode M.1 pc = .ok (.aconst_null, 1)) : mx_Sn B M pc (mx_const .null (pc + 1)) := by
  intro d k call hk hc ls st h r e
  exact mx_G.step (hk _ _ _ _ _ e) (fun p e s m args below meth c R H locs cells slots Q la A hl K => lv_null A.1 A.2.1 hd K)
theorem mx_s_iload {i : Nat} (hd : decode M.1 pc = .ok (.iload i, 2)) : mx_Sn B M pc (mx_iload i (pc + 2)) := by
  intro d k call hk hc ls st h r e
  unfold mx_iload at e
  split at e
  · rename_i x hx
    exact mx_G.step (hk _ _ _ _ _ e) (fun p e s m args below meth c R H locs cells slots Q la A hl K => lv_iload A.1 A.2.1 hd (hl.2.2.2 _ _ (mx_lg_some hx)) K)
  · rename_i x hx
    exact mx_G.step (hk _ _ _ _ _ e) (fun p e s m args below meth c R H locs cells slots Q la A hl K => lv_iload A.1 A.2.1 hd (hl.2.2.2 _ _ (mx_lg_some hx)) K)
  · cases e
theorem mx_s_iload_n {j : Fin 4} {i : Nat} (hd : decode M.1 pc = .ok (.iload_n j, 1)) (hj : (j : Nat) = i) : mx_Sn B M pc (mx_iload i (pc + 1)) := by
  intro d k call hk hc ls st h r e
  unfold mx_iload at e
  split at e
  · rename_i x hx
    exact mx_G.step (hk _ _ _ _ _ e) (fun p e s m args below meth c R H locs cells slots Q la A hl K => lv_iload_n A.1 A.2.1 hd hj (hl.2.2.2 _ _ (mx_lg_some hx)) K)
  · rename_i x hx
    exact mx_G.step (hk _ _ _ _ _ e) (fun p e s m args below meth c R H locs cells slots Q la A hl K => lv_iload_n A.1 A.2.1 hd hj (hl.2.2.2 _ _ (mx_lg_some hx)) K)
  · cases e
theorem mx_s_lload {i : Nat} (hd : decode M.1 pc = .ok (.lload i, 2)) : mx_Sn B M pc (mx_lload i (pc + 2)) := by
  intro d k call hk hc ls st h r e
  unfold mx_lload at e
  split at e
  · rename_i x hx
    exact mx_G.step (hk _ _ _ _ _ e) (fun p e s m args below meth c R H locs cells slots Q la A hl K => lv_lload A.1 A.2.1 hd (hl.2.2.2 _ _ (mx_lg_some hx)) K)
  · rename_i x hx
    exact mx_G.step (hk _ _ _ _ _ e) (fun p e s m args below meth c R H locs cells slots Q la A hl K => lv_lload A.1 A.2.1 hd (hl.2.2.2 _ _ (mx_lg_some hx)) K)
  · cases e
theorem mx_s_lload_n {j : Fin 4} {i : Nat} (hd : decode M.1 pc = .ok (.lload_n j, 1)) (hj : (j : Nat) = i) : mx_Sn B M pc (mx_lload i (pc + 1)) := by
  intro d k call hk hc ls st h r e
  unfold mx_lload at e
  split at e
  · rename_i x hx
    exact mx_G.step (hk _ _ _ _ _ e) (fun p e s m args below meth c R H locs cells slots Q la A hl K => lv_lload_n A.1 A.2.1 hd hj (hl.2.2.2 _ _ (mx_lg_some hx)) K)
  · rename_i x hx
    exact mx_G.step (hk _ _ _ _ _ e) (fun p e s m args below meth c R H locs cells slots Q la A hl K => lv_lload_n A.1 A.2.1 hd hj (hl.2.2.2 _ _ (mx_lg_some hx)) K)
  · cases e
theorem mx_s_aload {i : Nat} (hd : decode M.1 pc = .ok (.aload i, 2)) : mx_Sn B M pc (mx_aload i (pc + 2)) := by
  intro d k call hk hc ls st h r e
  unfold mx_aload at e
  split at e
  · rename_i x hx
    exact mx_G.step (hk _ _ _ _ _ e) (fun p e s m args below meth c R H locs cells slots Q la A hl K => lv_aload A.1 A.2.1 hd (hl.2.2.2 _ _ (mx_lg_some hx)) K)
  · rename_i hx
    exact mx_G.step (hk _ _ _ _ _ e) (fun p e s m args below meth c R H locs cells slots Q la A hl K => lv_aloadN A.1 A.2.1 hd (hl.2.2.2 _ _ (mx_lg_some hx)) K)
  · cases e
theorem mx_s_aload_n {j : Fin 4} {i : Nat} (hd : decode M.1 pc = .ok (.aload_n j, 1)) (hj : (j : Nat) = i) : mx_Sn B M pc (mx_aload i (pc + 1)) := by
  intro d k call hk hc ls st h r e
  unfold mx_aload at e
  split at e
  · rename_i x hx
    exact mx_G.step (hk _ _ _ _ _ e) (fun p e s m args below meth c R H locs cells slots Q la A hl K => lv_aload_n A.1 A.2.1 hd hj (hl.2.2.2 _ _ (mx_lg_some hx)) K)
  · rename_i hx
    exact mx_G.step (hk _ _ _ _ _ e) (fun p e s m args below meth c R H locs cells slots Q la A hl K => lv_aload_nN A.1 A.2.1 hd hj (hl.2.2.2 _ _ (mx_lg_some hx)) K)
  · cases e
theorem mx_blt {a b : Nat} (h : Nat.blt a b = true) : a < b := by
  have := Nat.ble_eq.mp (show Nat.ble (a + 1) b = true from h); omega
theorem mx_bt {α : Type} {b : Bool} {x : Option α} {y : α} (e : (bif b then x else none) = some y) : b = true ∧ x = some y := by
  cases b
  · cases e
  · exact ⟨rfl, e⟩
theorem mx_bf {α : Type} {b : Bool} {x : Option α} {y : α} (e : (bif b then none else x) = some y) : b = false ∧ x = some y := by
  cases b
  · exact ⟨rfl, e⟩
  · cases e
theorem mx_s_istore {i : Nat} (hd : decode M.1 pc = .ok (.istore i, 2)) : mx_Sn B M pc (mx_istore i (pc + 2)) := by
  intro d k call hk hc ls st h r e
  unfold mx_istore at e
  split at e
  · rename_i x rr
    obtain ⟨hb, e⟩ := mx_bt e
    have hb2 := mx_blt hb
    exact mx_G.stepL (hk _ _ _ _ _ e) (fun p e s m args below meth c R H locs cells slots Q la A hl K => lv_istore A.1 A.2.1 hd hl.has (by rw [← hl.2.2.1]; exact hb2) rfl (fun la2 h2 => K la2 (mx_st1_ls (v := .int x) hl.2.2.1 h2)))
  · rename_i x rr
    obtain ⟨hb, e⟩ := mx_bt e
    have hb2 := mx_blt hb
    exact mx_G.stepL (hk _ _ _ _ _ e) (fun p e s m args below meth c R H locs cells slots Q la A hl K => lv_istore A.1 A.2.1 hd hl.has (by rw [← hl.2.2.1]; exact hb2) rfl (fun la2 h2 => K la2 (mx_st1_ls (v := .float x) hl.2.2.1 h2)))
  · cases e
theorem mx_s_istore_n {j : Fin 4} {i : Nat} (hd : decode M.1 pc = .ok (.istore_n j, 1)) (hj : (j : Nat) = i) : mx_Sn B M pc (mx_istore i (pc + 1)) := by
  intro d k call hk hc ls st h r e
  unfold mx_istore at e
  split at e
  · rename_i x rr
    obtain ⟨hb, e⟩ := mx_bt e
    have hb2 := mx_blt hb
    exact mx_G.stepL (hk _ _ _ _ _ e) (fun p e s m args below meth c R H locs cells slots Q la A hl K => lv_istore_n A.1 A.2.1 hd hj hl.has (by rw [← hl.2.2.1]; exact hb2) rfl (fun la2 h2 => K la2 (mx_st1_ls (v := .int x) hl.2.2.1 h2)))
  · rename_i x rr
    obtain ⟨hb, e⟩ := mx_bt e
    have hb2 := mx_blt hb
    exact mx_G.stepL (hk _ _ _ _ _ e) (fun p e s m args below meth c R H locs cells slots Q la A hl K => lv_istore_n A.1 A.2.1 hd hj hl.has (by rw [← hl.2.2.1]; exact hb2) rfl (fun la2 h2 => K la2 (mx_st1_ls (v := .float x) hl.2.2.1 h2)))
  · cases e
theorem mx_s_astore {i : Nat} (hd : decode M.1 pc = .ok (.astore i, 2)) : mx_Sn B M pc (mx_astore i (pc + 2)) := by
  intro d k call hk hc ls st h r e
  unfold mx_astore at e
  split at e
  · rename_i x rr
    obtain ⟨hb, e⟩ := mx_bt e
    have hb2 := mx_blt hb
    exact mx_G.stepL (hk _ _ _ _ _ e) (fun p e s m args below meth c R H locs cells slots Q la A hl K => lv_astore A.1 A.2.1 hd hl.has (by rw [← hl.2.2.1]; exact hb2) rfl (fun la2 h2 => K la2 (mx_st1_ls (v := .ref x) hl.2.2.1 h2)))
  · cases e
theorem mx_s_astore_n {j : Fin 4} {i : Nat} (hd : decode M.1 pc = .ok (.astore_n j, 1)) (hj : (j : Nat) = i) : mx_Sn B M pc (mx_astore i (pc + 1)) := by
  intro d k call hk hc ls st h r e
  unfold mx_astore at e
  split at e
  · rename_i x rr
    obtain ⟨hb, e⟩ := mx_bt e
    have hb2 := mx_blt hb
    exact mx_G.stepL (hk _ _ _ _ _ e) (fun p e s m args below meth c R H locs cells slots Q la A hl K => lv_astore_n A.1 A.2.1 hd hj hl.has (by rw [← hl.2.2.1]; exact hb2) rfl (fun la2 h2 => K la2 (mx_st1_ls (v := .ref x) hl.2.2.1 h2)))
  · cases e
theorem mx_s_lstore {i : Nat} (hd : decode M.1 pc = .ok (.lstore i, 2)) : mx_Sn B M pc (mx_lstore i (pc + 2)) := by
  intro d k call hk hc ls st h r e
  unfold mx_lstore at e
  split at e
  · rename_i x rr
    obtain ⟨hb, e⟩ := mx_bt e
    have hb2 := mx_blt hb
    exact mx_G.stepL (hk _ _ _ _ _ e) (fun p e s m args below meth c R H locs cells slots Q la A hl K => lv_lstore A.1 A.2.1 hd hl.has (by rw [← hl.2.2.1]; exact hb2) rfl (fun la2 h2 => K la2 (mx_st2_ls (v := .long x) hl.2.2.1 h2)))
  · rename_i x rr
    obtain ⟨hb, e⟩ := mx_bt e
    have hb2 := mx_blt hb
    exact mx_G.stepL (hk _ _ _ _ _ e) (fun p e s m args below meth c R H locs cells slots Q la A hl K => lv_lstore A.1 A.2.1 hd hl.has (by rw [← hl.2.2.1]; exact hb2) rfl (fun la2 h2 => K la2 (mx_st2_ls (v := .double x) hl.2.2.1 h2)))
  · cases e
theorem mx_s_lstore_n {j : Fin 4} {i : Nat} (hd : decode M.1 pc = .ok (.lstore_n j, 1)) (hj : (j : Nat) = i) : mx_Sn B M pc (mx_lstore i (pc + 1)) := by
  intro d k call hk hc ls st h r e
  unfold mx_lstore at e
  split at e
  · rename_i x rr
    obtain ⟨hb, e⟩ := mx_bt e
    have hb2 := mx_blt hb
    exact mx_G.stepL (hk _ _ _ _ _ e) (fun p e s m args below meth c R H locs cells slots Q la A hl K => lv_lstore_n A.1 A.2.1 hd hj hl.has (by rw [← hl.2.2.1]; exact hb2) rfl (fun la2 h2 => K la2 (mx_st2_ls (v := .long x) hl.2.2.1 h2)))
  · rename_i x rr
    obtain ⟨hb, e⟩ := mx_bt e
    have hb2 := mx_blt hb
    exact mx_G.stepL (hk _ _ _ _ _ e) (fun p e s m args below meth c R H locs cells slots Q la A hl K => lv_lstore_n A.1 A.2.1 hd hj hl.has (by rw [← hl.2.2.1]; exact hb2) rfl (fun la2 h2 => K la2 (mx_st2_ls (v := .double x) hl.2.2.1 h2)))
  · cases e
theorem mx_s_iinc {i : Nat} {n : Int} {v : Int32} (hd : decode M.1 pc = .ok (.iinc i n, 3)) (hv : Int32.ofInt n = v) : mx_Sn B M pc (mx_iinc i v (pc + 3)) := by
  intro d k call hk hc ls st h r e
  unfold mx_iinc at e
  split at e
  · rename_i x hx
    obtain ⟨hb, e⟩ := mx_bt e
    have hb2 := mx_blt hb
    refine mx_G.stepL (hk _ _ _ _ _ e) (fun p e s m args below meth c R H locs cells slots Q la A hl K => ?_)
    obtain ⟨q, hq⟩ := List.getElem?_of_mem (mx_asc_mem (E := B.2.1.1).mpr ⟨_, mx_lg_some hx, rfl⟩)
    exact lv_iinc A.1 A.2.1 hd hl.has hq (by rw [hv]) (by rw [← hl.2.2.1]; exact hb2) rfl (fun la2 h2 => K la2 (mx_st1_ls (v := .int (x + v)) hl.2.2.1 h2))
  · cases e
theorem mx_s_iadd (hd : decode M.1 pc = .ok (.iadd, 1)) : mx_Sn B M pc (mx_iadd (pc + 1)) := by
  intro d k call hk hc ls st h r e
  unfold mx_iadd at e
  split at e
  · exact mx_G.step (hk _ _ _ _ _ e) (fun p e s m args below meth c R H locs cells slots Q la A hl K => lv_iadd A.1 A.2.1 hd K)
  · cases e
theorem mx_s_isub (hd : decode M.1 pc = .ok (.isub, 1)) : mx_Sn B M pc (mx_isub (pc + 1)) := by
  intro d k call hk hc ls st h r e
  unfold mx_isub at e
  split at e
  · exact mx_G.step (hk _ _ _ _ _ e) (fun p e s m args below meth c R H locs cells slots Q la A hl K => lv_isub A.1 A.2.1 hd K)
  · cases e
theorem mx_s_imul (hd : decode M.1 pc = .ok (.imul, 1)) : mx_Sn B M pc (mx_imul (pc + 1)) := by
  intro d k call hk hc ls st h r e
  unfold mx_imul at e
  split at e
  · exact mx_G.step (hk _ _ _ _ _ e) (fun p e s m args below meth c R H locs cells slots Q la A hl K => lv_imul A.1 A.2.1 hd K)
  · cases e
theorem mx_s_iand (hd : decode M.1 pc = .ok (.iand, 1)) : mx_Sn B M pc (mx_iand (pc + 1)) := by
  intro d k call hk hc ls st h r e
  unfold mx_iand at e
  split at e
  · exact mx_G.step (hk _ _ _ _ _ e) (fun p e s m args below meth c R H locs cells slots Q la A hl K => lv_iand A.1 A.2.1 hd K)
  · cases e
theorem mx_s_ior (hd : decode M.1 pc = .ok (.ior, 1)) : mx_Sn B M pc (mx_ior (pc + 1)) := by
  intro d k call hk hc ls st h r e
  unfold mx_ior at e
  split at e
  · exact mx_G.step (hk _ _ _ _ _ e) (fun p e s m args below meth c R H locs cells slots Q la A hl K => lv_ior A.1 A.2.1 hd K)
  · cases e
theorem mx_s_ixor (hd : decode M.1 pc = .ok (.ixor, 1)) : mx_Sn B M pc (mx_ixor (pc + 1)) := by
  intro d k call hk hc ls st h r e
  unfold mx_ixor at e
  split at e
  · exact mx_G.step (hk _ _ _ _ _ e) (fun p e s m args below meth c R H locs cells slots Q la A hl K => lv_ixor A.1 A.2.1 hd K)
  · cases e
theorem mx_s_ishl (hd : decode M.1 pc = .ok (.ishl, 1)) : mx_Sn B M pc (mx_ishl (pc + 1)) := by
  intro d k call hk hc ls st h r e
  unfold mx_ishl at e
  split at e
  · exact mx_G.step (hk _ _ _ _ _ e) (fun p e s m args below meth c R H locs cells slots Q la A hl K => lv_ishl A.1 A.2.1 hd K)
  · cases e
theorem mx_s_ishr (hd : decode M.1 pc = .ok (.ishr, 1)) : mx_Sn B M pc (mx_ishr (pc + 1)) := by
  intro d k call hk hc ls st h r e
  unfold mx_ishr at e
  split at e
  · exact mx_G.step (hk _ _ _ _ _ e) (fun p e s m args below meth c R H locs cells slots Q la A hl K => lv_ishr A.1 A.2.1 hd K)
  · cases e
theorem mx_s_ladd (hd : decode M.1 pc = .ok (.ladd, 1)) : mx_Sn B M pc (mx_ladd (pc + 1)) := by
  intro d k call hk hc ls st h r e
  unfold mx_ladd at e
  split at e
  · exact mx_G.step (hk _ _ _ _ _ e) (fun p e s m args below meth c R H locs cells slots Q la A hl K => lv_ladd A.1 A.2.1 hd K)
  · cases e
theorem mx_s_lmul (hd : decode M.1 pc = .ok (.lmul, 1)) : mx_Sn B M pc (mx_lmul (pc + 1)) := by
  intro d k call hk hc ls st h r e
  unfold mx_lmul at e
  split at e
  · exact mx_G.step (hk _ _ _ _ _ e) (fun p e s m args below meth c R H locs cells slots Q la A hl K => lv_lmul A.1 A.2.1 hd K)
  · cases e
theorem mx_s_land (hd : decode M.1 pc = .ok (.land, 1)) : mx_Sn B M pc (mx_land (pc + 1)) := by
  intro d k call hk hc ls st h r e
  unfold mx_land at e
  split at e
  · exact mx_G.step (hk _ _ _ _ _ e) (fun p e s m args below meth c R H locs cells slots Q la A hl K => lv_land A.1 A.2.1 hd K)
  · cases e
theorem mx_s_lor (hd : decode M.1 pc = .ok (.lor, 1)) : mx_Sn B M pc (mx_lor (pc + 1)) := by
  intro d k call hk hc ls st h r e
  unfold mx_lor at e
  split at e
  · exact mx_G.step (hk _ _ _ _ _ e) (fun p e s m args below meth c R H locs cells slots Q la A hl K => lv_lor A.1 A.2.1 hd K)
  · cases e
theorem mx_s_lxor (hd : decode M.1 pc = .ok (.lxor, 1)) : mx_Sn B M pc (mx_lxor (pc + 1)) := by
  intro d k call hk hc ls st h r e
  unfold mx_lxor at e
  split at e
  · exact mx_G.step (hk _ _ _ _ _ e) (fun p e s m args below meth c R H locs cells slots Q la A hl K => lv_lxor A.1 A.2.1 hd K)
  · cases e
theorem mx_s_ineg (hd : decode M.1 pc = .ok (.ineg, 1)) : mx_Sn B M pc (mx_ineg (pc + 1)) := by
  intro d k call hk hc ls st h r e
  unfold mx_ineg at e
  split at e
  · exact mx_G.step (hk _ _ _ _ _ e) (fun p e s m args below meth c R H locs cells slots Q la A hl K => lv_ineg A.1 A.2.1 hd K)
  · cases e
theorem mx_s_lneg (hd : decode M.1 pc = .ok (.lneg, 1)) : mx_Sn B M pc (mx_lneg (pc + 1)) := by
  intro d k call hk hc ls st h r e
  unfold mx_lneg at e
  split at e
  · exact mx_G.step (hk _ _ _ _ _ e) (fun p e s m args below meth c R H locs cells slots Q la A hl K => lv_lneg A.1 A.2.1 hd K)
  · cases e
theorem mx_s_iushr (hd : decode M.1 pc = .ok (.iushr, 1)) : mx_Sn B M pc (mx_iushr (pc + 1)) := by
  intro d k call hk hc ls st h r e
  unfold mx_iushr at e
  split at e
  · exact mx_G.step (hk _ _ _ _ _ e) (fun p e s m args below meth c R H locs cells slots Q la A hl K => lv_iushr A.1 A.2.1 hd rfl K)
  · cases e
theorem mx_s_lshl (hd : decode M.1 pc = .ok (.lshl, 1)) : mx_Sn B M pc (mx_lshl (pc + 1)) := by
  intro d k call hk hc ls st h r e
  unfold mx_lshl at e
  split at e
  · exact mx_G.step (hk _ _ _ _ _ e) (fun p e s m args below meth c R H locs cells slots Q la A hl K => lv_lshl A.1 A.2.1 hd rfl K)
  · cases e
theorem mx_s_lshr (hd : decode M.1 pc = .ok (.lshr, 1)) : mx_Sn B M pc (mx_lshr (pc + 1)) := by
  intro d k call hk hc ls st h r e
  unfold mx_lshr at e
  split at e
  · exact mx_G.step (hk _ _ _ _ _ e) (fun p e s m args below meth c R H locs cells slots Q la A hl K => lv_lshr A.1 A.2.1 hd rfl K)
  · cases e
theorem mx_s_lushr (hd : decode M.1 pc = .ok (.lushr, 1)) : mx_Sn B M pc (mx_lushr (pc + 1)) := by
  intro d k call hk hc ls st h r e
  unfold mx_lushr at e
  split at e
  · exact mx_G.step (hk _ _ _ _ _ e) (fun p e s m args below meth c R H locs cells slots Q la A hl K => lv_lushr A.1 A.2.1 hd rfl K)
  · cases e
theorem mx_s_l2i (hd : decode M.1 pc = .ok (.l2i, 1)) : mx_Sn B M pc (mx_l2i (pc + 1)) := by
  intro d k call hk hc ls st h r e
  unfold mx_l2i at e
  split at e
  · exact mx_G.step (hk _ _ _ _ _ e) (fun p e s m args below meth c R H locs cells slots Q la A hl K => lv_l2i A.1 A.2.1 hd rfl K)
  · cases e
theorem mx_s_i2b (hd : decode M.1 pc = .ok (.i2b, 1)) : mx_Sn B M pc (mx_i2b (pc + 1)) := by
  intro d k call hk hc ls st h r e
  unfold mx_i2b at e
  split at e
  · exact mx_G.step (hk _ _ _ _ _ e) (fun p e s m args below meth c R H locs cells slots Q la A hl K => lv_i2b A.1 A.2.1 hd rfl K)
  · cases e
theorem mx_s_i2s (hd : decode M.1 pc = .ok (.i2s, 1)) : mx_Sn B M pc (mx_i2s (pc + 1)) := by
  intro d k call hk hc ls st h r e
  unfold mx_i2s at e
  split at e
  · exact mx_G.step (hk _ _ _ _ _ e) (fun p e s m args below meth c R H locs cells slots Q la A hl K => lv_i2s A.1 A.2.1 hd rfl K)
  · cases e
theorem mx_s_i2c (hd : decode M.1 pc = .ok (.i2c, 1)) : mx_Sn B M pc (mx_i2c (pc + 1)) := by
  intro d k call hk hc ls st h r e
  unfold mx_i2c at e
  split at e
  · exact mx_G.step (hk _ _ _ _ _ e) (fun p e s m args below meth c R H locs cells slots Q la A hl K => lv_i2c A.1 A.2.1 hd rfl K)
  · cases e
theorem mx_s_lcmp (hd : decode M.1 pc = .ok (.lcmp, 1)) : mx_Sn B M pc (mx_lcmp (pc + 1)) := by
  intro d k call hk hc ls st h r e
  unfold mx_lcmp at e
  split at e
  · exact mx_G.step (hk _ _ _ _ _ e) (fun p e s m args below meth c R H locs cells slots Q la A hl K => W.lcmp A.1 A.2.1 hd K)
  · cases e
theorem mx_s_idiv (hd : decode M.1 pc = .ok (.idiv, 1)) : mx_Sn B M pc (mx_idiv (pc + 1)) := by
  intro d k call hk hc ls st h r e
  unfold mx_idiv at e
  split at e
  · split at e
    · cases e
    · rename_i hne
      exact mx_G.step (hk _ _ _ _ _ e) (fun p e s m args below meth c R H locs cells slots Q la A hl K => lv_idiv A.1 A.2.1 hd hne K)
  · cases e
theorem mx_s_irem (hd : decode M.1 pc = .ok (.irem, 1)) : mx_Sn B M pc (mx_irem (pc + 1)) := by
  intro d k call hk hc ls st h r e
  unfold mx_irem at e
  split at e
  · split at e
    · cases e
    · rename_i hne
      exact mx_G.step (hk _ _ _ _ _ e) (fun p e s m args below meth c R H locs cells slots Q la A hl K => lv_irem A.1 A.2.1 hd hne K)
  · cases e
theorem mx_s_ldiv (hd : decode M.1 pc = .ok (.ldiv, 1)) : mx_Sn B M pc (mx_ldiv (pc + 1)) := by
  intro d k call hk hc ls st h r e
  unfold mx_ldiv at e
  split at e
  · split at e
    · cases e
    · rename_i hne
      exact mx_G.step (hk _ _ _ _ _ e) (fun p e s m args below meth c R H locs cells slots Q la A hl K => lv_ldiv A.1 A.2.1 hd hne K)
  · cases e
/-- numbers that aren't known -/
theorem mx_i32 {x : Int64} (h1 : -2147483648 ≤ x.toInt) (h2 : x.toInt ≤ 2147483647) : x.toInt32.toInt = x.toInt := by
  rw [Int64.toInt_toInt32]
  exact Int.bmod_eq_of_le (by omega) (by omega)
theorem mx_rng_ok {V : mx_Ev} {s : State} (hK : mx_KK V s) {v : Value} {iv : Int × Int} (h : mx_rng v = some iv) : ∃ x : Int32, mx_v V.1 v = .int x ∧ iv.1 ≤ x.toInt ∧ x.toInt ≤ iv.2 := by
  cases v <;> simp only [mx_rng] at h <;> try (cases h)
  · exact ⟨_, rfl, Int.le_refl _, Int.le_refl _⟩
  · split at h
    · rename_i t hc
      cases h
      have h2 := hK.2.2.2.1 _ hc.1
      refine ⟨_, rfl, ?_, ?_⟩
      · rw [mx_i32 (by omega) (by omega)]; exact h2.1
      · rw [mx_i32 (by omega) (by omega)]; exact h2.2
    · cases h
theorem mx_rngL_ok {V : mx_Ev} {s : State} (hK : mx_KK V s) {v : Value} {iv : Int × Int} (h : mx_rngL v = some iv) : ∃ x : Int64, mx_v V.1 v = .long x ∧ iv.1 ≤ x.toInt ∧ x.toInt ≤ iv.2 := by
  cases v <;> simp only [mx_rngL] at h <;> try (cases h)
  · exact ⟨_, rfl, Int.le_refl _, Int.le_refl _⟩
  · split at h
    · rename_i t hc
      cases h
      have h2 := hK.2.2.2.1 _ hc
      exact ⟨_, rfl, h2.1, h2.2⟩
    · cases h
theorem mx_nlt_ok {p q : Option (Int × Int)} {t : Bool} (h : mx_nlt p q = some t) : ∃ a b : Int × Int, p = some a ∧ q = some b ∧ ∀ x y : Int, a.1 ≤ x → x ≤ a.2 → b.1 ≤ y → y ≤ b.2 → (t = true ↔ x < y) := by
  unfold mx_nlt at h
  split at h
  · rename_i a b
    refine ⟨a, b, rfl, rfl, ?_⟩
    split at h
    · cases h; intro x y h1 h2 h3 h4; exact ⟨fun _ => (by omega), fun _ => rfl⟩
    · split at h
      · cases h; intro x y h1 h2 h3 h4; exact ⟨fun z => (by cases z), fun z => (by omega)⟩
      · cases h
  · cases h
theorem mx_neq_ok {p q : Option (Int × Int)} {t : Bool} (h : mx_neq p q = some t) : ∃ a b : Int × Int, p = some a ∧ q = some b ∧ ∀ x y : Int, a.1 ≤ x → x ≤ a.2 → b.1 ≤ y → y ≤ b.2 → (t = true ↔ x = y) := by
  unfold mx_neq at h
  split at h
  · rename_i a b
    refine ⟨a, b, rfl, rfl, ?_⟩
    split at h
    · cases h; intro x y h1 h2 h3 h4; exact ⟨fun z => (by cases z), fun z => (by omega)⟩
    · split at h
      · cases h; intro x y h1 h2 h3 h4; exact ⟨fun _ => (by omega), fun _ => rfl⟩
      · cases h
  · cases h
theorem mx_nmap {p : Option Bool} {t : Bool} (h : p.map (fun c => !c) = some t) : p = some (!t) := by
  cases p with
  | none => cases h
  | some c => cases h; simp
theorem mx_n_lt_ok {p q : Option (Int × Int)} {t : Bool} (h : mx_n_lt p q = some t) : ∃ a b : Int × Int, p = some a ∧ q = some b ∧ ∀ x y : Int, a.1 ≤ x → x ≤ a.2 → b.1 ≤ y → y ≤ b.2 → (t = true ↔ x < y) := mx_nlt_ok h
theorem mx_n_ge_ok {p q : Option (Int × Int)} {t : Bool} (h : mx_n_ge p q = some t) : ∃ a b : Int × Int, p = some a ∧ q = some b ∧ ∀ x y : Int, a.1 ≤ x → x ≤ a.2 → b.1 ≤ y → y ≤ b.2 → (t = true ↔ y ≤ x) := by
  obtain ⟨a, b, h1, h2, h3⟩ := mx_nlt_ok (mx_nmap h)
  refine ⟨a, b, h1, h2, fun x y k1 k2 k3 k4 => ?_⟩
  have := h3 x y k1 k2 k3 k4
  cases t <;> simp at this ⊢ <;> omega
theorem mx_n_gt_ok {p q : Option (Int × Int)} {t : Bool} (h : mx_n_gt p q = some t) : ∃ a b : Int × Int, p = some a ∧ q = some b ∧ ∀ x y : Int, a.1 ≤ x → x ≤ a.2 → b.1 ≤ y → y ≤ b.2 → (t = true ↔ y < x) := by
  obtain ⟨b, a, h1, h2, h3⟩ := mx_nlt_ok h
  exact ⟨a, b, h2, h1, fun x y k1 k2 k3 k4 => h3 y x k3 k4 k1 k2⟩
theorem mx_n_le_ok {p q : Option (Int × Int)} {t : Bool} (h : mx_n_le p q = some t) : ∃ a b : Int × Int, p = some a ∧ q = some b ∧ ∀ x y : Int, a.1 ≤ x → x ≤ a.2 → b.1 ≤ y → y ≤ b.2 → (t = true ↔ x ≤ y) := by
  obtain ⟨b, a, h1, h2, h3⟩ := mx_nlt_ok (mx_nmap h)
  refine ⟨a, b, h2, h1, fun x y k1 k2 k3 k4 => ?_⟩
  have := h3 y x k3 k4 k1 k2
  cases t <;> simp at this ⊢ <;> omega
theorem mx_n_eq_ok {p q : Option (Int × Int)} {t : Bool} (h : mx_n_eq p q = some t) : ∃ a b : Int × Int, p = some a ∧ q = some b ∧ ∀ x y : Int, a.1 ≤ x → x ≤ a.2 → b.1 ≤ y → y ≤ b.2 → (t = true ↔ x = y) := mx_neq_ok h
theorem mx_n_ne_ok {p q : Option (Int × Int)} {t : Bool} (h : mx_n_ne p q = some t) : ∃ a b : Int × Int, p = some a ∧ q = some b ∧ ∀ x y : Int, a.1 ≤ x → x ≤ a.2 → b.1 ≤ y → y ≤ b.2 → (t = true ↔ ¬ x = y) := by
  obtain ⟨a, b, h1, h2, h3⟩ := mx_neq_ok (mx_nmap h)
  refine ⟨a, b, h1, h2, fun x y k1 k2 k3 k4 => ?_⟩
  have := h3 x y k1 k2 k3 k4
  cases t <;> simp at this ⊢ <;> omega
theorem mx_bra_some {k : mx_K} {tg nx : Nat} {ls : mx_L} {r : List Value} {h : mx_H} {o : Option Bool} {y : mx_R} (e : mx_bra k tg nx ls r h o = some y) : (o = some true ∧ k tg ls r h = some y) ∨ (o = some false ∧ k nx ls r h = some y) := by
  cases o with
  | none => cases e
  | some b => cases b
              · exact Or.inr ⟨rfl, e⟩
              · exact Or.inl ⟨rfl, e⟩
theorem mx_I32eq {x y : Int32} : x = y ↔ x.toInt = y.toInt := ⟨fun h => by rw [h], fun h => Int32.toInt_inj.mp h⟩
theorem mx_I64eq {x y : Int64} : x = y ↔ x.toInt = y.toInt := ⟨fun h => by rw [h], fun h => Int64.toInt_inj.mp h⟩
theorem mx_z_eq {x : Int32} : x = 0 ↔ x.toInt = 0 := by rw [mx_I32eq, Int32.toInt_zero]
theorem mx_z_ne {x : Int32} : ¬ x = 0 ↔ ¬ x.toInt = 0 := not_congr mx_z_eq
theorem mx_z_lt {x : Int32} : x < 0 ↔ x.toInt < 0 := by rw [Int32.lt_iff_toInt_lt, Int32.toInt_zero]
theorem mx_z_gt {x : Int32} : 0 < x ↔ 0 < x.toInt := by rw [Int32.lt_iff_toInt_lt, Int32.toInt_zero]
theorem mx_z_ge {x : Int32} : 0 ≤ x ↔ 0 ≤ x.toInt := by rw [Int32.le_iff_toInt_le, Int32.toInt_zero]
theorem mx_z_le {x : Int32} : x ≤ 0 ↔ x.toInt ≤ 0 := by rw [Int32.le_iff_toInt_le, Int32.toInt_zero]
theorem mx_lg_lt {x y : Int64} : lg_cmp x y < 0 ↔ x.toInt < y.toInt := by
  unfold lg_cmp
  by_cases h1 : y < x
  · rw [if_pos h1]; rw [Int64.lt_iff_toInt_lt] at h1; exact ⟨fun h => absurd h (by decide), fun h => by omega⟩
  · rw [if_neg h1]
    by_cases h2 : x = y
    · rw [if_pos h2]; rw [mx_I64eq] at h2; exact ⟨fun h => absurd h (by decide), fun h => by omega⟩
    · rw [if_neg h2]; rw [mx_I64eq] at h2; rw [Int64.lt_iff_toInt_lt] at h1; exact ⟨fun _ => by omega, fun _ => by decide⟩
theorem mx_lg_gt {x y : Int64} : 0 < lg_cmp x y ↔ y.toInt < x.toInt := by
  unfold lg_cmp
  by_cases h1 : y < x
  · rw [if_pos h1]; rw [Int64.lt_iff_toInt_lt] at h1; exact ⟨fun _ => by omega, fun _ => by decide⟩
  · rw [if_neg h1]
    by_cases h2 : x = y
    · rw [if_pos h2]; rw [mx_I64eq] at h2; exact ⟨fun h => absurd h (by decide), fun h => by omega⟩
    · rw [if_neg h2]; rw [mx_I64eq] at h2; rw [Int64.lt_iff_toInt_lt] at h1; exact ⟨fun h => absurd h (by decide), fun h => by omega⟩
theorem mx_lg_eq {x y : Int64} : lg_cmp x y = 0 ↔ x.toInt = y.toInt := by
  unfold lg_cmp
  by_cases h1 : y < x
  · rw [if_pos h1]; rw [Int64.lt_iff_toInt_lt] at h1; exact ⟨fun h => absurd h (by decide), fun h => by omega⟩
  · rw [if_neg h1]
    by_cases h2 : x = y
    · rw [if_pos h2]; rw [mx_I64eq] at h2; exact ⟨fun _ => (by omega), fun _ => rfl⟩
    · rw [if_neg h2]; rw [mx_I64eq] at h2; rw [Int64.lt_iff_toInt_lt] at h1; exact ⟨fun h => absurd h (by decide), fun h => by omega⟩
theorem mx_nltI {x : Int32} : 0 ≤ x ↔ ¬ x < 0 := by rw [Int32.le_iff_toInt_le, Int32.lt_iff_toInt_lt]; omega
theorem mx_nleI {x : Int32} : x ≤ 0 ↔ ¬ 0 < x := by rw [Int32.le_iff_toInt_le, Int32.lt_iff_toInt_lt]; omega
theorem mx_s_i2l (hd : decode M.1 pc = .ok (.i2l, 1)) : mx_Sn B M pc (mx_i2l (pc + 1)) := by
  intro d k call hk hc ls st h r e
  unfold mx_i2l at e
  split at e
  · exact mx_G.step (hk _ _ _ _ _ e) (fun p e s m args below meth c R H locs cells slots Q la A hl K => lv_i2l A.1 A.2.1 hd rfl K)
  · rename_i t rest
    split at e
    · rename_i iv hiv
      refine mx_G.step (hk _ _ _ _ _ e) (fun p e s m args below meth c R H locs cells slots Q la A hl K => lv_i2l A.1 A.2.1 hd ?_ K)
      obtain ⟨x, hx, -⟩ := mx_rng_ok A.2.2.2.2.2.2.2.2 hiv
      simp only [mx_rng] at hiv
      split at hiv
      · rename_i hcc
        have h2 := A.2.2.2.2.2.2.2.2.2.2.2.1 _ hcc.1
        have h3 : (UInt64.ofNat t.toNat).toNat = t.toNat := by
          have := t.toNat_lt; exact UInt64.toNat_ofNat_of_lt (by have h9 : UInt64.size = 18446744073709551616 := rfl; omega)
        rw [h3]
        apply mx_I64eq.mpr
        rw [Int32.toInt_toInt64, mx_i32 (by omega) (by omega)]
      · cases hiv
    · cases e
  · cases e
theorem mx_s_lsub (hd : decode M.1 pc = .ok (.lsub, 1)) : mx_Sn B M pc (mx_lsub (pc + 1)) := by
  intro d k call hk hc ls st h r e
  unfold mx_lsub at e
  split at e
  · exact mx_G.step (hk _ _ _ _ _ e) (fun p e s m args below meth c R H locs cells slots Q la A hl K => lv_lsub A.1 A.2.1 hd K)
  · split at e
    · rename_i hy
      subst hy
      refine mx_G.step (hk _ _ _ _ _ e) (fun p e s m args below meth c R H locs cells slots Q la A hl K => lv_lsub A.1 A.2.1 hd ?_)
      rw [Int64.sub_zero]
      exact K
    · cases e
  · cases e
theorem mx_s_lrem (hd : decode M.1 pc = .ok (.lrem, 1)) : mx_Sn B M pc (mx_lrem (pc + 1)) := by
  intro d k call hk hc ls st h r e
  unfold mx_lrem at e
  split at e
  · split at e
    · cases e
    · rename_i hne
      exact mx_G.step (hk _ _ _ _ _ e) (fun p e s m args below meth c R H locs cells slots Q la A hl K => lv_lrem A.1 A.2.1 hd hne K)
  · split at e
    · rename_i hy
      subst hy
      refine mx_G.step (hk _ _ _ _ _ e) (fun p e s m args below meth c R H locs cells slots Q la A hl K => lv_lrem A.1 A.2.1 hd (by decide) ?_)
      rw [Int64.div_one, Int64.mul_one, Int64.sub_self]
      exact K
    · cases e
  · cases e
theorem mx_s_if_eq {off : Int} {tg : Nat} (hd : decode M.1 pc = .ok (.ifCond .eq off, 3)) (ht : (pc : Int) + off = (tg : Int)) : mx_Sn B M pc (mx_if_eq tg (pc + 3)) := by
  intro d k call hk hc ls st h r e
  unfold mx_if_eq at e
  split at e
  · split at e
    · rename_i hP
      exact mx_G.step (hk _ _ _ _ _ e) (fun p e s m args below meth c R H locs cells slots Q la A hl K => lv_if_eq A.1 A.2.1 hd ht (fun _ => K) (fun z => absurd hP z))
    · rename_i hP
      exact mx_G.step (hk _ _ _ _ _ e) (fun p e s m args below meth c R H locs cells slots Q la A hl K => lv_if_eq A.1 A.2.1 hd ht (fun z => absurd z hP) (fun _ => K))
  · rename_i t rest
    have key : ∀ (b : Bool) (s : State), mx_KK B.2.1 s → mx_n_eq (mx_rng (.float t)) (some (0, 0)) = some b → ∃ x : Int32, mx_v B.2.1.1 (.float t) = .int x ∧ (b = true ↔ x = 0) := by
      intro b s hK hb
      obtain ⟨ia, ib, h1, h2, h3⟩ := mx_n_eq_ok hb
      obtain ⟨x, hx, h4, h5⟩ := mx_rng_ok hK h1
      cases h2
      exact ⟨x, hx, (h3 x.toInt 0 h4 h5 (Int.le_refl _) (Int.le_refl _)).trans mx_z_eq.symm⟩
    rcases mx_bra_some e with ⟨ho, e⟩ | ⟨ho, e⟩
    · refine mx_G.step (hk _ _ _ _ _ e) (fun p e s m args below meth c R H locs cells slots Q la A hl K => ?_)
      obtain ⟨x, hx, hp⟩ := key _ s A.2.2.2.2.2.2.2.2 ho
      show W _ _ _ _ _ _ _ _ _ _ _ _ _ _ _ (F0 m pc la (mx_v B.2.1.1 (.float t) :: rest.map (mx_v B.2.1.1)))
      rw [hx]
      exact lv_if_eq A.1 A.2.1 hd ht (fun _ => K) (fun z => absurd (hp.mp rfl) z)
    · refine mx_G.step (hk _ _ _ _ _ e) (fun p e s m args below meth c R H locs cells slots Q la A hl K => ?_)
      obtain ⟨x, hx, hp⟩ := key _ s A.2.2.2.2.2.2.2.2 ho
      show W _ _ _ _ _ _ _ _ _ _ _ _ _ _ _ (F0 m pc la (mx_v B.2.1.1 (.float t) :: rest.map (mx_v B.2.1.1)))
      rw [hx]
      exact lv_if_eq A.1 A.2.1 hd ht (fun z => absurd (hp.mpr z) (by decide)) (fun _ => K)
  · cases e
theorem mx_s_icmp_eq {off : Int} {tg : Nat} (hd : decode M.1 pc = .ok (.if_icmp .eq off, 3)) (ht : (pc : Int) + off = (tg : Int)) : mx_Sn B M pc (mx_icmp_eq tg (pc + 3)) := by
  intro d k call hk hc ls st h r e
  unfold mx_icmp_eq at e
  split at e
  · split at e
    · rename_i hP
      exact mx_G.step (hk _ _ _ _ _ e) (fun p e s m args below meth c R H locs cells slots Q la A hl K => lv_icmp_eq A.1 A.2.1 hd ht (fun _ => K) (fun z => absurd hP z))
    · rename_i hP
      exact mx_G.step (hk _ _ _ _ _ e) (fun p e s m args below meth c R H locs cells slots Q la A hl K => lv_icmp_eq A.1 A.2.1 hd ht (fun z => absurd z hP) (fun _ => K))
  · rename_i bb aa rest hno
    have key : ∀ (b : Bool) (s : State), mx_KK B.2.1 s → mx_n_eq (mx_rng aa) (mx_rng bb) = some b → ∃ x y : Int32, mx_v B.2.1.1 aa = .int x ∧ mx_v B.2.1.1 bb = .int y ∧ (b = true ↔ x = y) := by
      intro b s hK hb
      obtain ⟨ia, ib, h1, h2, h3⟩ := mx_n_eq_ok hb
      obtain ⟨x, hx, h4, h5⟩ := mx_rng_ok hK h1
      obtain ⟨y, hy, h6, h7⟩ := mx_rng_ok hK h2
      exact ⟨x, y, hx, hy, (h3 x.toInt y.toInt h4 h5 h6 h7).trans mx_I32eq.symm⟩
    rcases mx_bra_some e with ⟨ho, e⟩ | ⟨ho, e⟩
    · refine mx_G.step (hk _ _ _ _ _ e) (fun p e s m args below meth c R H locs cells slots Q la A hl K => ?_)
      obtain ⟨x, y, hx, hy, hp⟩ := key _ s A.2.2.2.2.2.2.2.2 ho
      show W _ _ _ _ _ _ _ _ _ _ _ _ _ _ _ (F0 m pc la (mx_v B.2.1.1 bb :: mx_v B.2.1.1 aa :: rest.map (mx_v B.2.1.1)))
      rw [hx, hy]
      exact lv_icmp_eq A.1 A.2.1 hd ht (fun _ => K) (fun z => absurd (hp.mp rfl) z)
    · refine mx_G.step (hk _ _ _ _ _ e) (fun p e s m args below meth c R H locs cells slots Q la A hl K => ?_)
      obtain ⟨x, y, hx, hy, hp⟩ := key _ s A.2.2.2.2.2.2.2.2 ho
      show W _ _ _ _ _ _ _ _ _ _ _ _ _ _ _ (F0 m pc la (mx_v B.2.1.1 bb :: mx_v B.2.1.1 aa :: rest.map (mx_v B.2.1.1)))
      rw [hx, hy]
      exact lv_icmp_eq A.1 A.2.1 hd ht (fun z => absurd (hp.mpr z) (by decide)) (fun _ => K)
  · cases e
theorem mx_s_lif_eq {off : Int} {tg nx : Nat} (hd1 : decode M.1 pc = .ok (.lcmp, 1)) (hd : decode M.1 (pc + 1) = .ok (.ifCond .eq off, 3)) (ht : ((pc + 1 : Nat) : Int) + off = (tg : Int)) (hn : pc + 1 + 3 = nx) : mx_Sn B M pc (mx_lif_eq tg nx) := by
  subst hn
  intro d k call hk hc ls st h r e
  unfold mx_lif_eq at e
  split at e
  · split at e
    · rename_i hP
      exact mx_G.step (hk _ _ _ _ _ e) (fun p e s m args below meth c R H locs cells slots Q la A hl K => W.lcmp A.1 A.2.1 hd1 (lv_if_eq A.1 A.2.1 hd ht (fun _ => K) (fun z => absurd hP z)))
    · rename_i hP
      exact mx_G.step (hk _ _ _ _ _ e) (fun p e s m args below meth c R H locs cells slots Q la A hl K => W.lcmp A.1 A.2.1 hd1 (lv_if_eq A.1 A.2.1 hd ht (fun z => absurd z hP) (fun _ => K)))
  · rename_i bb aa rest hno
    have key : ∀ (b : Bool) (s : State), mx_KK B.2.1 s → mx_n_eq (mx_rngL aa) (mx_rngL bb) = some b → ∃ x y : Int64, mx_v B.2.1.1 aa = .long x ∧ mx_v B.2.1.1 bb = .long y ∧ (b = true ↔ lg_cmp x y = 0) := by
      intro b s hK hb
      obtain ⟨ia, ib, h1, h2, h3⟩ := mx_n_eq_ok hb
      obtain ⟨x, hx, h4, h5⟩ := mx_rngL_ok hK h1
      obtain ⟨y, hy, h6, h7⟩ := mx_rngL_ok hK h2
      exact ⟨x, y, hx, hy, (h3 x.toInt y.toInt h4 h5 h6 h7).trans mx_lg_eq.symm⟩
    rcases mx_bra_some e with ⟨ho, e⟩ | ⟨ho, e⟩
    · refine mx_G.step (hk _ _ _ _ _ e) (fun p e s m args below meth c R H locs cells slots Q la A hl K => ?_)
      obtain ⟨x, y, hx, hy, hp⟩ := key _ s A.2.2.2.2.2.2.2.2 ho
      show W _ _ _ _ _ _ _ _ _ _ _ _ _ _ _ (F0 m pc la (mx_v B.2.1.1 bb :: mx_v B.2.1.1 aa :: rest.map (mx_v B.2.1.1)))
      rw [hx, hy]
      exact W.lcmp A.1 A.2.1 hd1 (lv_if_eq A.1 A.2.1 hd ht (fun _ => K) (fun z => absurd (hp.mp rfl) z))
    · refine mx_G.step (hk _ _ _ _ _ e) (fun p e s m args below meth c R H locs cells slots Q la A hl K => ?_)
      obtain ⟨x, y, hx, hy, hp⟩ := key _ s A.2.2.2.2.2.2.2.2 ho
      show W _ _ _ _ _ _ _ _ _ _ _ _ _ _ _ (F0 m pc la (mx_v B.2.1.1 bb :: mx_v B.2.1.1 aa :: rest.map (mx_v B.2.1.1)))
      rw [hx, hy]
      exact W.lcmp A.1 A.2.1 hd1 (lv_if_eq A.1 A.2.1 hd ht (fun z => absurd (hp.mpr z) (by decide)) (fun _ => K))
  · cases e
theorem mx_s_if_ne {off : Int} {tg : Nat} (hd : decode M.1 pc = .ok (.ifCond .ne off, 3)) (ht : (pc : Int) + off = (tg : Int)) : mx_Sn B M pc (mx_if_ne tg (pc + 3)) := by
  intro d k call hk hc ls st h r e
  unfold mx_if_ne at e
  split at e
  · split at e
    · rename_i hP
      exact mx_G.step (hk _ _ _ _ _ e) (fun p e s m args below meth c R H locs cells slots Q la A hl K => lv_if_ne A.1 A.2.1 hd ht (fun _ => K) (fun z => absurd z hP))
    · rename_i hP
      exact mx_G.step (hk _ _ _ _ _ e) (fun p e s m args below meth c R H locs cells slots Q la A hl K => lv_if_ne A.1 A.2.1 hd ht (fun z => absurd z hP) (fun _ => K))
  · rename_i t rest
    have key : ∀ (b : Bool) (s : State), mx_KK B.2.1 s → mx_n_ne (mx_rng (.float t)) (some (0, 0)) = some b → ∃ x : Int32, mx_v B.2.1.1 (.float t) = .int x ∧ (b = true ↔ ¬ x = 0) := by
      intro b s hK hb
      obtain ⟨ia, ib, h1, h2, h3⟩ := mx_n_ne_ok hb
      obtain ⟨x, hx, h4, h5⟩ := mx_rng_ok hK h1
      cases h2
      exact ⟨x, hx, (h3 x.toInt 0 h4 h5 (Int.le_refl _) (Int.le_refl _)).trans mx_z_ne.symm⟩
    rcases mx_bra_some e with ⟨ho, e⟩ | ⟨ho, e⟩
    · refine mx_G.step (hk _ _ _ _ _ e) (fun p e s m args below meth c R H locs cells slots Q la A hl K => ?_)
      obtain ⟨x, hx, hp⟩ := key _ s A.2.2.2.2.2.2.2.2 ho
      show W _ _ _ _ _ _ _ _ _ _ _ _ _ _ _ (F0 m pc la (mx_v B.2.1.1 (.float t) :: rest.map (mx_v B.2.1.1)))
      rw [hx]
      exact lv_if_ne A.1 A.2.1 hd ht (fun _ => K) (fun z => absurd z (hp.mp rfl))
    · refine mx_G.step (hk _ _ _ _ _ e) (fun p e s m args below meth c R H locs cells slots Q la A hl K => ?_)
      obtain ⟨x, hx, hp⟩ := key _ s A.2.2.2.2.2.2.2.2 ho
      show W _ _ _ _ _ _ _ _ _ _ _ _ _ _ _ (F0 m pc la (mx_v B.2.1.1 (.float t) :: rest.map (mx_v B.2.1.1)))
      rw [hx]
      exact lv_if_ne A.1 A.2.1 hd ht (fun z => absurd (hp.mpr z) (by decide)) (fun _ => K)
  · cases e
theorem mx_s_icmp_ne {off : Int} {tg : Nat} (hd : decode M.1 pc = .ok (.if_icmp .ne off, 3)) (ht : (pc : Int) + off = (tg : Int)) : mx_Sn B M pc (mx_icmp_ne tg (pc + 3)) := by
  intro d k call hk hc ls st h r e
  unfold mx_icmp_ne at e
  split at e
  · split at e
    · rename_i hP
      exact mx_G.step (hk _ _ _ _ _ e) (fun p e s m args below meth c R H locs cells slots Q la A hl K => lv_icmp_ne A.1 A.2.1 hd ht (fun _ => K) (fun z => absurd z hP))
    · rename_i hP
      exact mx_G.step (hk _ _ _ _ _ e) (fun p e s m args below meth c R H locs cells slots Q la A hl K => lv_icmp_ne A.1 A.2.1 hd ht (fun z => absurd z hP) (fun _ => K))
  · rename_i bb aa rest hno
    have key : ∀ (b : Bool) (s : State), mx_KK B.2.1 s → mx_n_ne (mx_rng aa) (mx_rng bb) = some b → ∃ x y : Int32, mx_v B.2.1.1 aa = .int x ∧ mx_v B.2.1.1 bb = .int y ∧ (b = true ↔ ¬ x = y) := by
      intro b s hK hb
      obtain ⟨ia, ib, h1, h2, h3⟩ := mx_n_ne_ok hb
      obtain ⟨x, hx, h4, h5⟩ := mx_rng_ok hK h1
      obtain ⟨y, hy, h6, h7⟩ := mx_rng_ok hK h2
      exact ⟨x, y, hx, hy, (h3 x.toInt y.toInt h4 h5 h6 h7).trans (not_congr mx_I32eq).symm⟩
    rcases mx_bra_some e with ⟨ho, e⟩ | ⟨ho, e⟩
    · refine mx_G.step (hk _ _ _ _ _ e) (fun p e s m args below meth c R H locs cells slots Q la A hl K => ?_)
      obtain ⟨x, y, hx, hy, hp⟩ := key _ s A.2.2.2.2.2.2.2.2 ho
      show W _ _ _ _ _ _ _ _ _ _ _ _ _ _ _ (F0 m pc la (mx_v B.2.1.1 bb :: mx_v B.2.1.1 aa :: rest.map (mx_v B.2.1.1)))
      rw [hx, hy]
      exact lv_icmp_ne A.1 A.2.1 hd ht (fun _ => K) (fun z => absurd z (hp.mp rfl))
    · refine mx_G.step (hk _ _ _ _ _ e) (fun p e s m args below meth c R H locs cells slots Q la A hl K => ?_)
      obtain ⟨x, y, hx, hy, hp⟩ := key _ s A.2.2.2.2.2.2.2.2 ho
      show W _ _ _ _ _ _ _ _ _ _ _ _ _ _ _ (F0 m pc la (mx_v B.2.1.1 bb :: mx_v B.2.1.1 aa :: rest.map (mx_v B.2.1.1)))
      rw [hx, hy]
      exact lv_icmp_ne A.1 A.2.1 hd ht (fun z => absurd (hp.mpr z) (by decide)) (fun _ => K)
  · cases e
theorem mx_s_lif_ne {off : Int} {tg nx : Nat} (hd1 : decode M.1 pc = .ok (.lcmp, 1)) (hd : decode M.1 (pc + 1) = .ok (.ifCond .ne off, 3)) (ht : ((pc + 1 : Nat) : Int) + off = (tg : Int)) (hn : pc + 1 + 3 = nx) : mx_Sn B M pc (mx_lif_ne tg nx) := by
  subst hn
  intro d k call hk hc ls st h r e
  unfold mx_lif_ne at e
  split at e
  · split at e
    · rename_i hP
      exact mx_G.step (hk _ _ _ _ _ e) (fun p e s m args below meth c R H locs cells slots Q la A hl K => W.lcmp A.1 A.2.1 hd1 (lv_if_ne A.1 A.2.1 hd ht (fun _ => K) (fun z => absurd z hP)))
    · rename_i hP
      exact mx_G.step (hk _ _ _ _ _ e) (fun p e s m args below meth c R H locs cells slots Q la A hl K => W.lcmp A.1 A.2.1 hd1 (lv_if_ne A.1 A.2.1 hd ht (fun z => absurd z hP) (fun _ => K)))
  · rename_i bb aa rest hno
    have key : ∀ (b : Bool) (s : State), mx_KK B.2.1 s → mx_n_ne (mx_rngL aa) (mx_rngL bb) = some b → ∃ x y : Int64, mx_v B.2.1.1 aa = .long x ∧ mx_v B.2.1.1 bb = .long y ∧ (b = true ↔ ¬ lg_cmp x y = 0) := by
      intro b s hK hb
      obtain ⟨ia, ib, h1, h2, h3⟩ := mx_n_ne_ok hb
      obtain ⟨x, hx, h4, h5⟩ := mx_rngL_ok hK h1
      obtain ⟨y, hy, h6, h7⟩ := mx_rngL_ok hK h2
      exact ⟨x, y, hx, hy, (h3 x.toInt y.toInt h4 h5 h6 h7).trans (not_congr mx_lg_eq).symm⟩
    rcases mx_bra_some e with ⟨ho, e⟩ | ⟨ho, e⟩
    · refine mx_G.step (hk _ _ _ _ _ e) (fun p e s m args below meth c R H locs cells slots Q la A hl K => ?_)
      obtain ⟨x, y, hx, hy, hp⟩ := key _ s A.2.2.2.2.2.2.2.2 ho
      show W _ _ _ _ _ _ _ _ _ _ _ _ _ _ _ (F0 m pc la (mx_v B.2.1.1 bb :: mx_v B.2.1.1 aa :: rest.map (mx_v B.2.1.1)))
      rw [hx, hy]
      exact W.lcmp A.1 A.2.1 hd1 (lv_if_ne A.1 A.2.1 hd ht (fun _ => K) (fun z => absurd z (hp.mp rfl)))
    · refine mx_G.step (hk _ _ _ _ _ e) (fun p e s m args below meth c R H locs cells slots Q la A hl K => ?_)
      obtain ⟨x, y, hx, hy, hp⟩ := key _ s A.2.2.2.2.2.2.2.2 ho
      show W _ _ _ _ _ _ _ _ _ _ _ _ _ _ _ (F0 m pc la (mx_v B.2.1.1 bb :: mx_v B.2.1.1 aa :: rest.map (mx_v B.2.1.1)))
      rw [hx, hy]
      exact W.lcmp A.1 A.2.1 hd1 (lv_if_ne A.1 A.2.1 hd ht (fun z => absurd (hp.mpr z) (by decide)) (fun _ => K))
  · cases e
theorem mx_s_if_lt {off : Int} {tg : Nat} (hd : decode M.1 pc = .ok (.ifCond .lt off, 3)) (ht : (pc : Int) + off = (tg : Int)) : mx_Sn B M pc (mx_if_lt tg (pc + 3)) := by
  intro d k call hk hc ls st h r e
  unfold mx_if_lt at e
  split at e
  · split at e
    · rename_i hP
      exact mx_G.step (hk _ _ _ _ _ e) (fun p e s m args below meth c R H locs cells slots Q la A hl K => lv_if_lt A.1 A.2.1 hd ht (fun _ => K) (fun z => absurd hP z))
    · rename_i hP
      exact mx_G.step (hk _ _ _ _ _ e) (fun p e s m args below meth c R H locs cells slots Q la A hl K => lv_if_lt A.1 A.2.1 hd ht (fun z => absurd z hP) (fun _ => K))
  · rename_i t rest
    have key : ∀ (b : Bool) (s : State), mx_KK B.2.1 s → mx_n_lt (mx_rng (.float t)) (some (0, 0)) = some b → ∃ x : Int32, mx_v B.2.1.1 (.float t) = .int x ∧ (b = true ↔ x < 0) := by
      intro b s hK hb
      obtain ⟨ia, ib, h1, h2, h3⟩ := mx_n_lt_ok hb
      obtain ⟨x, hx, h4, h5⟩ := mx_rng_ok hK h1
      cases h2
      exact ⟨x, hx, (h3 x.toInt 0 h4 h5 (Int.le_refl _) (Int.le_refl _)).trans mx_z_lt.symm⟩
    rcases mx_bra_some e with ⟨ho, e⟩ | ⟨ho, e⟩
    · refine mx_G.step (hk _ _ _ _ _ e) (fun p e s m args below meth c R H locs cells slots Q la A hl K => ?_)
      obtain ⟨x, hx, hp⟩ := key _ s A.2.2.2.2.2.2.2.2 ho
      show W _ _ _ _ _ _ _ _ _ _ _ _ _ _ _ (F0 m pc la (mx_v B.2.1.1 (.float t) :: rest.map (mx_v B.2.1.1)))
      rw [hx]
      exact lv_if_lt A.1 A.2.1 hd ht (fun _ => K) (fun z => absurd (hp.mp rfl) z)
    · refine mx_G.step (hk _ _ _ _ _ e) (fun p e s m args below meth c R H locs cells slots Q la A hl K => ?_)
      obtain ⟨x, hx, hp⟩ := key _ s A.2.2.2.2.2.2.2.2 ho
      show W _ _ _ _ _ _ _ _ _ _ _ _ _ _ _ (F0 m pc la (mx_v B.2.1.1 (.float t) :: rest.map (mx_v B.2.1.1)))
      rw [hx]
      exact lv_if_lt A.1 A.2.1 hd ht (fun z => absurd (hp.mpr z) (by decide)) (fun _ => K)
  · cases e
theorem mx_s_icmp_lt {off : Int} {tg : Nat} (hd : decode M.1 pc = .ok (.if_icmp .lt off, 3)) (ht : (pc : Int) + off = (tg : Int)) : mx_Sn B M pc (mx_icmp_lt tg (pc + 3)) := by
  intro d k call hk hc ls st h r e
  unfold mx_icmp_lt at e
  split at e
  · split at e
    · rename_i hP
      exact mx_G.step (hk _ _ _ _ _ e) (fun p e s m args below meth c R H locs cells slots Q la A hl K => lv_icmp_lt A.1 A.2.1 hd ht (fun _ => K) (fun z => absurd hP z))
    · rename_i hP
      exact mx_G.step (hk _ _ _ _ _ e) (fun p e s m args below meth c R H locs cells slots Q la A hl K => lv_icmp_lt A.1 A.2.1 hd ht (fun z => absurd z hP) (fun _ => K))
  · rename_i bb aa rest hno
    have key : ∀ (b : Bool) (s : State), mx_KK B.2.1 s → mx_n_lt (mx_rng aa) (mx_rng bb) = some b → ∃ x y : Int32, mx_v B.2.1.1 aa = .int x ∧ mx_v B.2.1.1 bb = .int y ∧ (b = true ↔ x < y) := by
      intro b s hK hb
      obtain ⟨ia, ib, h1, h2, h3⟩ := mx_n_lt_ok hb
      obtain ⟨x, hx, h4, h5⟩ := mx_rng_ok hK h1
      obtain ⟨y, hy, h6, h7⟩ := mx_rng_ok hK h2
      exact ⟨x, y, hx, hy, (h3 x.toInt y.toInt h4 h5 h6 h7).trans Int32.lt_iff_toInt_lt.symm⟩
    rcases mx_bra_some e with ⟨ho, e⟩ | ⟨ho, e⟩
    · refine mx_G.step (hk _ _ _ _ _ e) (fun p e s m args below meth c R H locs cells slots Q la A hl K => ?_)
      obtain ⟨x, y, hx, hy, hp⟩ := key _ s A.2.2.2.2.2.2.2.2 ho
      show W _ _ _ _ _ _ _ _ _ _ _ _ _ _ _ (F0 m pc la (mx_v B.2.1.1 bb :: mx_v B.2.1.1 aa :: rest.map (mx_v B.2.1.1)))
      rw [hx, hy]
      exact lv_icmp_lt A.1 A.2.1 hd ht (fun _ => K) (fun z => absurd (hp.mp rfl) z)
    · refine mx_G.step (hk _ _ _ _ _ e) (fun p e s m args below meth c R H locs cells slots Q la A hl K => ?_)
      obtain ⟨x, y, hx, hy, hp⟩ := key _ s A.2.2.2.2.2.2.2.2 ho
      show W _ _ _ _ _ _ _ _ _ _ _ _ _ _ _ (F0 m pc la (mx_v B.2.1.1 bb :: mx_v B.2.1.1 aa :: rest.map (mx_v B.2.1.1)))
      rw [hx, hy]
      exact lv_icmp_lt A.1 A.2.1 hd ht (fun z => absurd (hp.mpr z) (by decide)) (fun _ => K)
  · cases e
theorem mx_s_lif_lt {off : Int} {tg nx : Nat} (hd1 : decode M.1 pc = .ok (.lcmp, 1)) (hd : decode M.1 (pc + 1) = .ok (.ifCond .lt off, 3)) (ht : ((pc + 1 : Nat) : Int) + off = (tg : Int)) (hn : pc + 1 + 3 = nx) : mx_Sn B M pc (mx_lif_lt tg nx) := by
  subst hn
  intro d k call hk hc ls st h r e
  unfold mx_lif_lt at e
  split at e
  · split at e
    · rename_i hP
      exact mx_G.step (hk _ _ _ _ _ e) (fun p e s m args below meth c R H locs cells slots Q la A hl K => W.lcmp A.1 A.2.1 hd1 (lv_if_lt A.1 A.2.1 hd ht (fun _ => K) (fun z => absurd hP z)))
    · rename_i hP
      exact mx_G.step (hk _ _ _ _ _ e) (fun p e s m args below meth c R H locs cells slots Q la A hl K => W.lcmp A.1 A.2.1 hd1 (lv_if_lt A.1 A.2.1 hd ht (fun z => absurd z hP) (fun _ => K)))
  · rename_i bb aa rest hno
    have key : ∀ (b : Bool) (s : State), mx_KK B.2.1 s → mx_n_lt (mx_rngL aa) (mx_rngL bb) = some b → ∃ x y : Int64, mx_v B.2.1.1 aa = .long x ∧ mx_v B.2.1.1 bb = .long y ∧ (b = true ↔ lg_cmp x y < 0) := by
      intro b s hK hb
      obtain ⟨ia, ib, h1, h2, h3⟩ := mx_n_lt_ok hb
      obtain ⟨x, hx, h4, h5⟩ := mx_rngL_ok hK h1
      obtain ⟨y, hy, h6, h7⟩ := mx_rngL_ok hK h2
      exact ⟨x, y, hx, hy, (h3 x.toInt y.toInt h4 h5 h6 h7).trans mx_lg_lt.symm⟩
    rcases mx_bra_some e with ⟨ho, e⟩ | ⟨ho, e⟩
    · refine mx_G.step (hk _ _ _ _ _ e) (fun p e s m args below meth c R H locs cells slots Q la A hl K => ?_)
      obtain ⟨x, y, hx, hy, hp⟩ := key _ s A.2.2.2.2.2.2.2.2 ho
      show W _ _ _ _ _ _ _ _ _ _ _ _ _ _ _ (F0 m pc la (mx_v B.2.1.1 bb :: mx_v B.2.1.1 aa :: rest.map (mx_v B.2.1.1)))
      rw [hx, hy]
      exact W.lcmp A.1 A.2.1 hd1 (lv_if_lt A.1 A.2.1 hd ht (fun _ => K) (fun z => absurd (hp.mp rfl) z))
    · refine mx_G.step (hk _ _ _ _ _ e) (fun p e s m args below meth c R H locs cells slots Q la A hl K => ?_)
      obtain ⟨x, y, hx, hy, hp⟩ := key _ s A.2.2.2.2.2.2.2.2 ho
      show W _ _ _ _ _ _ _ _ _ _ _ _ _ _ _ (F0 m pc la (mx_v B.2.1.1 bb :: mx_v B.2.1.1 aa :: rest.map (mx_v B.2.1.1)))
      rw [hx, hy]
      exact W.lcmp A.1 A.2.1 hd1 (lv_if_lt A.1 A.2.1 hd ht (fun z => absurd (hp.mpr z) (by decide)) (fun _ => K))
  · cases e
theorem mx_s_if_ge {off : Int} {tg : Nat} (hd : decode M.1 pc = .ok (.ifCond .ge off, 3)) (ht : (pc : Int) + off = (tg : Int)) : mx_Sn B M pc (mx_if_ge tg (pc + 3)) := by
  intro d k call hk hc ls st h r e
  unfold mx_if_ge at e
  split at e
  · split at e
    · rename_i hP
      exact mx_G.step (hk _ _ _ _ _ e) (fun p e s m args below meth c R H locs cells slots Q la A hl K => lv_if_ge A.1 A.2.1 hd ht (fun _ => K) (fun z => absurd hP z))
    · rename_i hP
      exact mx_G.step (hk _ _ _ _ _ e) (fun p e s m args below meth c R H locs cells slots Q la A hl K => lv_if_ge A.1 A.2.1 hd ht (fun z => absurd z hP) (fun _ => K))
  · rename_i t rest
    have key : ∀ (b : Bool) (s : State), mx_KK B.2.1 s → mx_n_ge (mx_rng (.float t)) (some (0, 0)) = some b → ∃ x : Int32, mx_v B.2.1.1 (.float t) = .int x ∧ (b = true ↔ 0 ≤ x) := by
      intro b s hK hb
      obtain ⟨ia, ib, h1, h2, h3⟩ := mx_n_ge_ok hb
      obtain ⟨x, hx, h4, h5⟩ := mx_rng_ok hK h1
      cases h2
      exact ⟨x, hx, (h3 x.toInt 0 h4 h5 (Int.le_refl _) (Int.le_refl _)).trans mx_z_ge.symm⟩
    rcases mx_bra_some e with ⟨ho, e⟩ | ⟨ho, e⟩
    · refine mx_G.step (hk _ _ _ _ _ e) (fun p e s m args below meth c R H locs cells slots Q la A hl K => ?_)
      obtain ⟨x, hx, hp⟩ := key _ s A.2.2.2.2.2.2.2.2 ho
      show W _ _ _ _ _ _ _ _ _ _ _ _ _ _ _ (F0 m pc la (mx_v B.2.1.1 (.float t) :: rest.map (mx_v B.2.1.1)))
      rw [hx]
      exact lv_if_ge A.1 A.2.1 hd ht (fun _ => K) (fun z => absurd (hp.mp rfl) z)
    · refine mx_G.step (hk _ _ _ _ _ e) (fun p e s m args below meth c R H locs cells slots Q la A hl K => ?_)
      obtain ⟨x, hx, hp⟩ := key _ s A.2.2.2.2.2.2.2.2 ho
      show W _ _ _ _ _ _ _ _ _ _ _ _ _ _ _ (F0 m pc la (mx_v B.2.1.1 (.float t) :: rest.map (mx_v B.2.1.1)))
      rw [hx]
      exact lv_if_ge A.1 A.2.1 hd ht (fun z => absurd (hp.mpr z) (by decide)) (fun _ => K)
  · cases e
theorem mx_s_icmp_ge {off : Int} {tg : Nat} (hd : decode M.1 pc = .ok (.if_icmp .ge off, 3)) (ht : (pc : Int) + off = (tg : Int)) : mx_Sn B M pc (mx_icmp_ge tg (pc + 3)) := by
  intro d k call hk hc ls st h r e
  unfold mx_icmp_ge at e
  split at e
  · split at e
    · rename_i hP
      exact mx_G.step (hk _ _ _ _ _ e) (fun p e s m args below meth c R H locs cells slots Q la A hl K => lv_icmp_ge A.1 A.2.1 hd ht (fun _ => K) (fun z => absurd hP z))
    · rename_i hP
      exact mx_G.step (hk _ _ _ _ _ e) (fun p e s m args below meth c R H locs cells slots Q la A hl K => lv_icmp_ge A.1 A.2.1 hd ht (fun z => absurd z hP) (fun _ => K))
  · rename_i bb aa rest hno
    have key : ∀ (b : Bool) (s : State), mx_KK B.2.1 s → mx_n_ge (mx_rng aa) (mx_rng bb) = some b → ∃ x y : Int32, mx_v B.2.1.1 aa = .int x ∧ mx_v B.2.1.1 bb = .int y ∧ (b = true ↔ y ≤ x) := by
      intro b s hK hb
      obtain ⟨ia, ib, h1, h2, h3⟩ := mx_n_ge_ok hb
      obtain ⟨x, hx, h4, h5⟩ := mx_rng_ok hK h1
      obtain ⟨y, hy, h6, h7⟩ := mx_rng_ok hK h2
      exact ⟨x, y, hx, hy, (h3 x.toInt y.toInt h4 h5 h6 h7).trans Int32.le_iff_toInt_le.symm⟩
    rcases mx_bra_some e with ⟨ho, e⟩ | ⟨ho, e⟩
    · refine mx_G.step (hk _ _ _ _ _ e) (fun p e s m args below meth c R H locs cells slots Q la A hl K => ?_)
      obtain ⟨x, y, hx, hy, hp⟩ := key _ s A.2.2.2.2.2.2.2.2 ho
      show W _ _ _ _ _ _ _ _ _ _ _ _ _ _ _ (F0 m pc la (mx_v B.2.1.1 bb :: mx_v B.2.1.1 aa :: rest.map (mx_v B.2.1.1)))
      rw [hx, hy]
      exact lv_icmp_ge A.1 A.2.1 hd ht (fun _ => K) (fun z => absurd (hp.mp rfl) z)
    · refine mx_G.step (hk _ _ _ _ _ e) (fun p e s m args below meth c R H locs cells slots Q la A hl K => ?_)
      obtain ⟨x, y, hx, hy, hp⟩ := key _ s A.2.2.2.2.2.2.2.2 ho
      show W _ _ _ _ _ _ _ _ _ _ _ _ _ _ _ (F0 m pc la (mx_v B.2.1.1 bb :: mx_v B.2.1.1 aa :: rest.map (mx_v B.2.1.1)))
      rw [hx, hy]
      exact lv_icmp_ge A.1 A.2.1 hd ht (fun z => absurd (hp.mpr z) (by decide)) (fun _ => K)
  · cases e
theorem mx_s_lif_ge {off : Int} {tg nx : Nat} (hd1 : decode M.1 pc = .ok (.lcmp, 1)) (hd : decode M.1 (pc + 1) = .ok (.ifCond .ge off, 3)) (ht : ((pc + 1 : Nat) : Int) + off = (tg : Int)) (hn : pc + 1 + 3 = nx) : mx_Sn B M pc (mx_lif_ge tg nx) := by
  subst hn
  intro d k call hk hc ls st h r e
  unfold mx_lif_ge at e
  split at e
  · split at e
    · rename_i hP
      exact mx_G.step (hk _ _ _ _ _ e) (fun p e s m args below meth c R H locs cells slots Q la A hl K => W.lcmp A.1 A.2.1 hd1 (lv_if_ge A.1 A.2.1 hd ht (fun _ => K) (fun z => absurd hP z)))
    · rename_i hP
      exact mx_G.step (hk _ _ _ _ _ e) (fun p e s m args below meth c R H locs cells slots Q la A hl K => W.lcmp A.1 A.2.1 hd1 (lv_if_ge A.1 A.2.1 hd ht (fun z => absurd z hP) (fun _ => K)))
  · rename_i bb aa rest hno
    have key : ∀ (b : Bool) (s : State), mx_KK B.2.1 s → mx_n_ge (mx_rngL aa) (mx_rngL bb) = some b → ∃ x y : Int64, mx_v B.2.1.1 aa = .long x ∧ mx_v B.2.1.1 bb = .long y ∧ (b = true ↔ 0 ≤ lg_cmp x y) := by
      intro b s hK hb
      obtain ⟨ia, ib, h1, h2, h3⟩ := mx_n_ge_ok hb
      obtain ⟨x, hx, h4, h5⟩ := mx_rngL_ok hK h1
      obtain ⟨y, hy, h6, h7⟩ := mx_rngL_ok hK h2
      exact ⟨x, y, hx, hy, (h3 x.toInt y.toInt h4 h5 h6 h7).trans (mx_nltI.trans ((not_congr mx_lg_lt).trans Int.not_lt)).symm⟩
    rcases mx_bra_some e with ⟨ho, e⟩ | ⟨ho, e⟩
    · refine mx_G.step (hk _ _ _ _ _ e) (fun p e s m args below meth c R H locs cells slots Q la A hl K => ?_)
      obtain ⟨x, y, hx, hy, hp⟩ := key _ s A.2.2.2.2.2.2.2.2 ho
      show W _ _ _ _ _ _ _ _ _ _ _ _ _ _ _ (F0 m pc la (mx_v B.2.1.1 bb :: mx_v B.2.1.1 aa :: rest.map (mx_v B.2.1.1)))
      rw [hx, hy]
      exact W.lcmp A.1 A.2.1 hd1 (lv_if_ge A.1 A.2.1 hd ht (fun _ => K) (fun z => absurd (hp.mp rfl) z))
    · refine mx_G.step (hk _ _ _ _ _ e) (fun p e s m args below meth c R H locs cells slots Q la A hl K => ?_)
      obtain ⟨x, y, hx, hy, hp⟩ := key _ s A.2.2.2.2.2.2.2.2 ho
      show W _ _ _ _ _ _ _ _ _ _ _ _ _ _ _ (F0 m pc la (mx_v B.2.1.1 bb :: mx_v B.2.1.1 aa :: rest.map (mx_v B.2.1.1)))
      rw [hx, hy]
      exact W.lcmp A.1 A.2.1 hd1 (lv_if_ge A.1 A.2.1 hd ht (fun z => absurd (hp.mpr z) (by decide)) (fun _ => K))
  · cases e
theorem mx_s_if_gt {off : Int} {tg : Nat} (hd : decode M.1 pc = .ok (.ifCond .gt off, 3)) (ht : (pc : Int) + off = (tg : Int)) : mx_Sn B M pc (mx_if_gt tg (pc + 3)) := by
  intro d k call hk hc ls st h r e
  unfold mx_if_gt at e
  split at e
  · split at e
    · rename_i hP
      exact mx_G.step (hk _ _ _ _ _ e) (fun p e s m args below meth c R H locs cells slots Q la A hl K => lv_if_gt A.1 A.2.1 hd ht (fun _ => K) (fun z => absurd hP z))
    · rename_i hP
      exact mx_G.step (hk _ _ _ _ _ e) (fun p e s m args below meth c R H locs cells slots Q la A hl K => lv_if_gt A.1 A.2.1 hd ht (fun z => absurd z hP) (fun _ => K))
  · rename_i t rest
    have key : ∀ (b : Bool) (s : State), mx_KK B.2.1 s → mx_n_gt (mx_rng (.float t)) (some (0, 0)) = some b → ∃ x : Int32, mx_v B.2.1.1 (.float t) = .int x ∧ (b = true ↔ 0 < x) := by
      intro b s hK hb
      obtain ⟨ia, ib, h1, h2, h3⟩ := mx_n_gt_ok hb
      obtain ⟨x, hx, h4, h5⟩ := mx_rng_ok hK h1
      cases h2
      exact ⟨x, hx, (h3 x.toInt 0 h4 h5 (Int.le_refl _) (Int.le_refl _)).trans mx_z_gt.symm⟩
    rcases mx_bra_some e with ⟨ho, e⟩ | ⟨ho, e⟩
    · refine mx_G.step (hk _ _ _ _ _ e) (fun p e s m args below meth c R H locs cells slots Q la A hl K => ?_)
      obtain ⟨x, hx, hp⟩ := key _ s A.2.2.2.2.2.2.2.2 ho
      show W _ _ _ _ _ _ _ _ _ _ _ _ _ _ _ (F0 m pc la (mx_v B.2.1.1 (.float t) :: rest.map (mx_v B.2.1.1)))
      rw [hx]
      exact lv_if_gt A.1 A.2.1 hd ht (fun _ => K) (fun z => absurd (hp.mp rfl) z)
    · refine mx_G.step (hk _ _ _ _ _ e) (fun p e s m args below meth c R H locs cells slots Q la A hl K => ?_)
      obtain ⟨x, hx, hp⟩ := key _ s A.2.2.2.2.2.2.2.2 ho
      show W _ _ _ _ _ _ _ _ _ _ _ _ _ _ _ (F0 m pc la (mx_v B.2.1.1 (.float t) :: rest.map (mx_v B.2.1.1)))
      rw [hx]
      exact lv_if_gt A.1 A.2.1 hd ht (fun z => absurd (hp.mpr z) (by decide)) (fun _ => K)
  · cases e
theorem mx_s_icmp_gt {off : Int} {tg : Nat} (hd : decode M.1 pc = .ok (.if_icmp .gt off, 3)) (ht : (pc : Int) + off = (tg : Int)) : mx_Sn B M pc (mx_icmp_gt tg (pc + 3)) := by
  intro d k call hk hc ls st h r e
  unfold mx_icmp_gt at e
  split at e
  · split at e
    · rename_i hP
      exact mx_G.step (hk _ _ _ _ _ e) (fun p e s m args below meth c R H locs cells slots Q la A hl K => lv_icmp_gt A.1 A.2.1 hd ht (fun _ => K) (fun z => absurd hP z))
    · rename_i hP
      exact mx_G.step (hk _ _ _ _ _ e) (fun p e s m args below meth c R H locs cells slots Q la A hl K => lv_icmp_gt A.1 A.2.1 hd ht (fun z => absurd z hP) (fun _ => K))
  · rename_i bb aa rest hno
    have key : ∀ (b : Bool) (s : State), mx_KK B.2.1 s → mx_n_gt (mx_rng aa) (mx_rng bb) = some b → ∃ x y : Int32, mx_v B.2.1.1 aa = .int x ∧ mx_v B.2.1.1 bb = .int y ∧ (b = true ↔ y < x) := by
      intro b s hK hb
      obtain ⟨ia, ib, h1, h2, h3⟩ := mx_n_gt_ok hb
      obtain ⟨x, hx, h4, h5⟩ := mx_rng_ok hK h1
      obtain ⟨y, hy, h6, h7⟩ := mx_rng_ok hK h2
      exact ⟨x, y, hx, hy, (h3 x.toInt y.toInt h4 h5 h6 h7).trans Int32.lt_iff_toInt_lt.symm⟩
    rcases mx_bra_some e with ⟨ho, e⟩ | ⟨ho, e⟩
    · refine mx_G.step (hk _ _ _ _ _ e) (fun p e s m args below meth c R H locs cells slots Q la A hl K => ?_)
      obtain ⟨x, y, hx, hy, hp⟩ := key _ s A.2.2.2.2.2.2.2.2 ho
      show W _ _ _ _ _ _ _ _ _ _ _ _ _ _ _ (F0 m pc la (mx_v B.2.1.1 bb :: mx_v B.2.1.1 aa :: rest.map (mx_v B.2.1.1)))
      rw [hx, hy]
      exact lv_icmp_gt A.1 A.2.1 hd ht (fun _ => K) (fun z => absurd (hp.mp rfl) z)
    · refine mx_G.step (hk _ _ _ _ _ e) (fun p e s m args below meth c R H locs cells slots Q la A hl K => ?_)
      obtain ⟨x, y, hx, hy, hp⟩ := key _ s A.2.2.2.2.2.2.2.2 ho
      show W _ _ _ _ _ _ _ _ _ _ _ _ _ _ _ (F0 m pc la (mx_v B.2.1.1 bb :: mx_v B.2.1.1 aa :: rest.map (mx_v B.2.1.1)))
      rw [hx, hy]
      exact lv_icmp_gt A.1 A.2.1 hd ht (fun z => absurd (hp.mpr z) (by decide)) (fun _ => K)
  · cases e
theorem mx_s_lif_gt {off : Int} {tg nx : Nat} (hd1 : decode M.1 pc = .ok (.lcmp, 1)) (hd : decode M.1 (pc + 1) = .ok (.ifCond .gt off, 3)) (ht : ((pc + 1 : Nat) : Int) + off = (tg : Int)) (hn : pc + 1 + 3 = nx) : mx_Sn B M pc (mx_lif_gt tg nx) := by
  subst hn
  intro d k call hk hc ls st h r e
  unfold mx_lif_gt at e
  split at e
  · split at e
    · rename_i hP
      exact mx_G.step (hk _ _ _ _ _ e) (fun p e s m args below meth c R H locs cells slots Q la A hl K => W.lcmp A.1 A.2.1 hd1 (lv_if_gt A.1 A.2.1 hd ht (fun _ => K) (fun z => absurd hP z)))
    · rename_i hP
      exact mx_G.step (hk _ _ _ _ _ e) (fun p e s m args below meth c R H locs cells slots Q la A hl K => W.lcmp A.1 A.2.1 hd1 (lv_if_gt A.1 A.2.1 hd ht (fun z => absurd z hP) (fun _ => K)))
  · rename_i bb aa rest hno
    have key : ∀ (b : Bool) (s : State), mx_KK B.2.1 s → mx_n_gt (mx_rngL aa) (mx_rngL bb) = some b → ∃ x y : Int64, mx_v B.2.1.1 aa = .long x ∧ mx_v B.2.1.1 bb = .long y ∧ (b = true ↔ 0 < lg_cmp x y) := by
      intro b s hK hb
      obtain ⟨ia, ib, h1, h2, h3⟩ := mx_n_gt_ok hb
      obtain ⟨x, hx, h4, h5⟩ := mx_rngL_ok hK h1
      obtain ⟨y, hy, h6, h7⟩ := mx_rngL_ok hK h2
      exact ⟨x, y, hx, hy, (h3 x.toInt y.toInt h4 h5 h6 h7).trans mx_lg_gt.symm⟩
    rcases mx_bra_some e with ⟨ho, e⟩ | ⟨ho, e⟩
    · refine mx_G.step (hk _ _ _ _ _ e) (fun p e s m args below meth c R H locs cells slots Q la A hl K => ?_)
      obtain ⟨x, y, hx, hy, hp⟩ := key _ s A.2.2.2.2.2.2.2.2 ho
      show W _ _ _ _ _ _ _ _ _ _ _ _ _ _ _ (F0 m pc la (mx_v B.2.1.1 bb :: mx_v B.2.1.1 aa :: rest.map (mx_v B.2.1.1)))
      rw [hx, hy]
      exact W.lcmp A.1 A.2.1 hd1 (lv_if_gt A.1 A.2.1 hd ht (fun _ => K) (fun z => absurd (hp.mp rfl) z))
    · refine mx_G.step (hk _ _ _ _ _ e) (fun p e s m args below meth c R H locs cells slots Q la A hl K => ?_)
      obtain ⟨x, y, hx, hy, hp⟩ := key _ s A.2.2.2.2.2.2.2.2 ho
      show W _ _ _ _ _ _ _ _ _ _ _ _ _ _ _ (F0 m pc la (mx_v B.2.1.1 bb :: mx_v B.2.1.1 aa :: rest.map (mx_v B.2.1.1)))
      rw [hx, hy]
      exact W.lcmp A.1 A.2.1 hd1 (lv_if_gt A.1 A.2.1 hd ht (fun z => absurd (hp.mpr z) (by decide)) (fun _ => K))
  · cases e
theorem mx_s_if_le {off : Int} {tg : Nat} (hd : decode M.1 pc = .ok (.ifCond .le off, 3)) (ht : (pc : Int) + off = (tg : Int)) : mx_Sn B M pc (mx_if_le tg (pc + 3)) := by
  intro d k call hk hc ls st h r e
  unfold mx_if_le at e
  split at e
  · split at e
    · rename_i hP
      exact mx_G.step (hk _ _ _ _ _ e) (fun p e s m args below meth c R H locs cells slots Q la A hl K => lv_if_le A.1 A.2.1 hd ht (fun _ => K) (fun z => absurd hP z))
    · rename_i hP
      exact mx_G.step (hk _ _ _ _ _ e) (fun p e s m args below meth c R H locs cells slots Q la A hl K => lv_if_le A.1 A.2.1 hd ht (fun z => absurd z hP) (fun _ => K))
  · rename_i t rest
    have key : ∀ (b : Bool) (s : State), mx_KK B.2.1 s → mx_n_le (mx_rng (.float t)) (some (0, 0)) = some b → ∃ x : Int32, mx_v B.2.1.1 (.float t) = .int x ∧ (b = true ↔ x ≤ 0) := by
      intro b s hK hb
      obtain ⟨ia, ib, h1, h2, h3⟩ := mx_n_le_ok hb
      obtain ⟨x, hx, h4, h5⟩ := mx_rng_ok hK h1
      cases h2
      exact ⟨x, hx, (h3 x.toInt 0 h4 h5 (Int.le_refl _) (Int.le_refl _)).trans mx_z_le.symm⟩
    rcases mx_bra_some e with ⟨ho, e⟩ | ⟨ho, e⟩
    · refine mx_G.step (hk _ _ _ _ _ e) (fun p e s m args below meth c R H locs cells slots Q la A hl K => ?_)
      obtain ⟨x, hx, hp⟩ := key _ s A.2.2.2.2.2.2.2.2 ho
      show W _ _ _ _ _ _ _ _ _ _ _ _ _ _ _ (F0 m pc la (mx_v B.2.1.1 (.float t) :: rest.map (mx_v B.2.1.1)))
      rw [hx]
      exact lv_if_le A.1 A.2.1 hd ht (fun _ => K) (fun z => absurd (hp.mp rfl) z)
    · refine mx_G.step (hk _ _ _ _ _ e) (fun p e s m args below meth c R H locs cells slots Q la A hl K => ?_)
      obtain ⟨x, hx, hp⟩ := key _ s A.2.2.2.2.2.2.2.2 ho
      show W _ _ _ _ _ _ _ _ _ _ _ _ _ _ _ (F0 m pc la (mx_v B.2.1.1 (.float t) :: rest.map (mx_v B.2.1.1)))
      rw [hx]
      exact lv_if_le A.1 A.2.1 hd ht (fun z => absurd (hp.mpr z) (by decide)) (fun _ => K)
  · cases e
theorem mx_s_icmp_le {off : Int} {tg : Nat} (hd : decode M.1 pc = .ok (.if_icmp .le off, 3)) (ht : (pc : Int) + off = (tg : Int)) : mx_Sn B M pc (mx_icmp_le tg (pc + 3)) := by
  intro d k call hk hc ls st h r e
  unfold mx_icmp_le at e
  split at e
  · split at e
    · rename_i hP
      exact mx_G.step (hk _ _ _ _ _ e) (fun p e s m args below meth c R H locs cells slots Q la A hl K => lv_icmp_le A.1 A.2.1 hd ht (fun _ => K) (fun z => absurd hP z))
    · rename_i hP
      exact mx_G.step (hk _ _ _ _ _ e) (fun p e s m args below meth c R H locs cells slots Q la A hl K => lv_icmp_le A.1 A.2.1 hd ht (fun z => absurd z hP) (fun _ => K))
  · rename_i bb aa rest hno
    have key : ∀ (b : Bool) (s : State), mx_KK B.2.1 s → mx_n_le (mx_rng aa) (mx_rng bb) = some b → ∃ x y : Int32, mx_v B.2.1.1 aa = .int x ∧ mx_v B.2.1.1 bb = .int y ∧ (b = true ↔ x ≤ y) := by
      intro b s hK hb
      obtain ⟨ia, ib, h1, h2, h3⟩ := mx_n_le_ok hb
      obtain ⟨x, hx, h4, h5⟩ := mx_rng_ok hK h1
      obtain ⟨y, hy, h6, h7⟩ := mx_rng_ok hK h2
      exact ⟨x, y, hx, hy, (h3 x.toInt y.toInt h4 h5 h6 h7).trans Int32.le_iff_toInt_le.symm⟩
    rcases mx_bra_some e with ⟨ho, e⟩ | ⟨ho, e⟩
    · refine mx_G.step (hk _ _ _ _ _ e) (fun p e s m args below meth c R H locs cells slots Q la A hl K => ?_)
      obtain ⟨x, y, hx, hy, hp⟩ := key _ s A.2.2.2.2.2.2.2.2 ho
      show W _ _ _ _ _ _ _ _ _ _ _ _ _ _ _ (F0 m pc la (mx_v B.2.1.1 bb :: mx_v B.2.1.1 aa :: rest.map (mx_v B.2.1.1)))
      rw [hx, hy]
      exact lv_icmp_le A.1 A.2.1 hd ht (fun _ => K) (fun z => absurd (hp.mp rfl) z)
    · refine mx_G.step (hk _ _ _ _ _ e) (fun p e s m args below meth c R H locs cells slots Q la A hl K => ?_)
      obtain ⟨x, y, hx, hy, hp⟩ := key _ s A.2.2.2.2.2.2.2.2 ho
      show W _ _ _ _ _ _ _ _ _ _ _ _ _ _ _ (F0 m pc la (mx_v B.2.1.1 bb :: mx_v B.2.1.1 aa :: rest.map (mx_v B.2.1.1)))
      rw [hx, hy]
      exact lv_icmp_le A.1 A.2.1 hd ht (fun z => absurd (hp.mpr z) (by decide)) (fun _ => K)
  · cases e
theorem mx_s_lif_le {off : Int} {tg nx : Nat} (hd1 : decode M.1 pc = .ok (.lcmp, 1)) (hd : decode M.1 (pc + 1) = .ok (.ifCond .le off, 3)) (ht : ((pc + 1 : Nat) : Int) + off = (tg : Int)) (hn : pc + 1 + 3 = nx) : mx_Sn B M pc (mx_lif_le tg nx) := by
  subst hn
  intro d k call hk hc ls st h r e
  unfold mx_lif_le at e
  split at e
  · split at e
    · rename_i hP
      exact mx_G.step (hk _ _ _ _ _ e) (fun p e s m args below meth c R H locs cells slots Q la A hl K => W.lcmp A.1 A.2.1 hd1 (lv_if_le A.1 A.2.1 hd ht (fun _ => K) (fun z => absurd hP z)))
    · rename_i hP
      exact mx_G.step (hk _ _ _ _ _ e) (fun p e s m args below meth c R H locs cells slots Q la A hl K => W.lcmp A.1 A.2.1 hd1 (lv_if_le A.1 A.2.1 hd ht (fun z => absurd z hP) (fun _ => K)))
  · rename_i bb aa rest hno
    have key : ∀ (b : Bool) (s : State), mx_KK B.2.1 s → mx_n_le (mx_rngL aa) (mx_rngL bb) = some b → ∃ x y : Int64, mx_v B.2.1.1 aa = .long x ∧ mx_v B.2.1.1 bb = .long y ∧ (b = true ↔ lg_cmp x y ≤ 0) := by
      intro b s hK hb
      obtain ⟨ia, ib, h1, h2, h3⟩ := mx_n_le_ok hb
      obtain ⟨x, hx, h4, h5⟩ := mx_rngL_ok hK h1
      obtain ⟨y, hy, h6, h7⟩ := mx_rngL_ok hK h2
      exact ⟨x, y, hx, hy, (h3 x.toInt y.toInt h4 h5 h6 h7).trans (mx_nleI.trans ((not_congr mx_lg_gt).trans Int.not_lt)).symm⟩
    rcases mx_bra_some e with ⟨ho, e⟩ | ⟨ho, e⟩
    · refine mx_G.step (hk _ _ _ _ _ e) (fun p e s m args below meth c R H locs cells slots Q la A hl K => ?_)
      obtain ⟨x, y, hx, hy, hp⟩ := key _ s A.2.2.2.2.2.2.2.2 ho
      show W _ _ _ _ _ _ _ _ _ _ _ _ _ _ _ (F0 m pc la (mx_v B.2.1.1 bb :: mx_v B.2.1.1 aa :: rest.map (mx_v B.2.1.1)))
      rw [hx, hy]
      exact W.lcmp A.1 A.2.1 hd1 (lv_if_le A.1 A.2.1 hd ht (fun _ => K) (fun z => absurd (hp.mp rfl) z))
    · refine mx_G.step (hk _ _ _ _ _ e) (fun p e s m args below meth c R H locs cells slots Q la A hl K => ?_)
      obtain ⟨x, y, hx, hy, hp⟩ := key _ s A.2.2.2.2.2.2.2.2 ho
      show W _ _ _ _ _ _ _ _ _ _ _ _ _ _ _ (F0 m pc la (mx_v B.2.1.1 bb :: mx_v B.2.1.1 aa :: rest.map (mx_v B.2.1.1)))
      rw [hx, hy]
      exact W.lcmp A.1 A.2.1 hd1 (lv_if_le A.1 A.2.1 hd ht (fun z => absurd (hp.mpr z) (by decide)) (fun _ => K))
  · cases e
theorem mx_s_goto {off : Int} {tg : Nat} (hd : decode M.1 pc = .ok (.goto off, 3)) (ht : (pc : Int) + off = (tg : Int)) : mx_Sn B M pc (mx_goto tg) := by
  intro d k call hk hc ls st h r e
  exact mx_G.step (hk _ _ _ _ _ e) (fun p e s m args below meth c R H locs cells slots Q la A hl K => lv_goto A.1 A.2.1 hd ht K)
theorem mx_s_ifnull {off : Int} {tg : Nat} (hd : decode M.1 pc = .ok (.ifnull off, 3)) (ht : (pc : Int) + off = (tg : Int)) : mx_Sn B M pc (mx_ifnull tg (pc + 3)) := by
  intro d k call hk hc ls st h r e
  unfold mx_ifnull at e
  split at e
  · exact mx_G.step (hk _ _ _ _ _ e) (fun p e s m args below meth c R H locs cells slots Q la A hl K => lv_ifnullN A.1 A.2.1 hd ht K)
  · exact mx_G.step (hk _ _ _ _ _ e) (fun p e s m args below meth c R H locs cells slots Q la A hl K => lv_ifnull A.1 A.2.1 hd K)
  · cases e
theorem mx_s_ifnonnull {off : Int} {tg : Nat} (hd : decode M.1 pc = .ok (.ifnonnull off, 3)) (ht : (pc : Int) + off = (tg : Int)) : mx_Sn B M pc (mx_ifnonnull tg (pc + 3)) := by
  intro d k call hk hc ls st h r e
  unfold mx_ifnonnull at e
  split at e
  · exact mx_G.step (hk _ _ _ _ _ e) (fun p e s m args below meth c R H locs cells slots Q la A hl K => lv_ifnonnullN A.1 A.2.1 hd K)
  · exact mx_G.step (hk _ _ _ _ _ e) (fun p e s m args below meth c R H locs cells slots Q la A hl K => lv_ifnonnull A.1 A.2.1 hd ht K)
  · cases e
theorem mx_c1_v {E : mx_E} {v : Value} (h : mx_c1 v = true) : (mx_v E v).category = 1 := by
  cases v <;> first | rfl | (simp [mx_c1] at h)
theorem mx_c2_v {E : mx_E} {v : Value} (h : mx_c1 v = false) : (mx_v E v).category = 2 := by
  cases v <;> first | rfl | (simp [mx_c1] at h)
theorem mx_and {a b : Bool} (h : (a && b) = true) : a = true ∧ b = true := by
  cases a <;> cases b <;> simp at h ⊢
theorem mx_s_dup (hd : decode M.1 pc = .ok (.dup, 1)) : mx_Sn B M pc (mx_dup (pc + 1)) := by
  intro d k call hk hc ls st h r e
  unfold mx_dup at e
  split at e
  · obtain ⟨b1, e⟩ := mx_bt e
    exact mx_G.step (hk _ _ _ _ _ e) (fun p e s m args below meth c R H locs cells slots Q la A hl K => lv_dup A.1 A.2.1 hd (mx_c1_v b1) K)
  · cases e
theorem mx_s_pop (hd : decode M.1 pc = .ok (.pop, 1)) : mx_Sn B M pc (mx_pop (pc + 1)) := by
  intro d k call hk hc ls st h r e
  unfold mx_pop at e
  split at e
  · obtain ⟨b1, e⟩ := mx_bt e
    exact mx_G.step (hk _ _ _ _ _ e) (fun p e s m args below meth c R H locs cells slots Q la A hl K => lv_pop A.1 A.2.1 hd (mx_c1_v b1) K)
  · cases e
theorem mx_s_dup_x1 (hd : decode M.1 pc = .ok (.dup_x1, 1)) : mx_Sn B M pc (mx_dup_x1 (pc + 1)) := by
  intro d k call hk hc ls st h r e
  unfold mx_dup_x1 at e
  split at e
  · obtain ⟨b1, e⟩ := mx_bt e
    obtain ⟨b1, b2⟩ := mx_and b1
    exact mx_G.step (hk _ _ _ _ _ e) (fun p e s m args below meth c R H locs cells slots Q la A hl K => lv_dup_x1 A.1 A.2.1 hd (mx_c1_v b1) (mx_c1_v b2) K)
  · cases e
theorem mx_s_dup_x2 (hd : decode M.1 pc = .ok (.dup_x2, 1)) : mx_Sn B M pc (mx_dup_x2 (pc + 1)) := by
  intro d k call hk hc ls st h r e
  unfold mx_dup_x2 at e
  split at e
  · obtain ⟨b1, e⟩ := mx_bt e
    obtain ⟨b1, b2⟩ := mx_and b1
    obtain ⟨b2, b3⟩ := mx_and b2
    exact mx_G.step (hk _ _ _ _ _ e) (fun p e s m args below meth c R H locs cells slots Q la A hl K => lv_dup_x2 A.1 A.2.1 hd (mx_c1_v b1) (mx_c1_v b2) (mx_c1_v b3) K)
  · cases e
theorem mx_s_dup2a (hd : decode M.1 pc = .ok (.dup2, 1)) : mx_Sn B M pc (mx_dup2a (pc + 1)) := by
  intro d k call hk hc ls st h r e
  unfold mx_dup2a at e
  split at e
  · obtain ⟨b1, e⟩ := mx_bt e
    obtain ⟨b1, b2⟩ := mx_and b1
    exact mx_G.step (hk _ _ _ _ _ e) (fun p e s m args below meth c R H locs cells slots Q la A hl K => lv_dup2_11 A.1 A.2.1 hd (mx_c1_v b1) (mx_c1_v b2) K)
  · cases e
theorem mx_s_dup2b (hd : decode M.1 pc = .ok (.dup2, 1)) : mx_Sn B M pc (mx_dup2b (pc + 1)) := by
  intro d k call hk hc ls st h r e
  unfold mx_dup2b at e
  split at e
  · obtain ⟨b1, e⟩ := mx_bf e
    exact mx_G.step (hk _ _ _ _ _ e) (fun p e s m args below meth c R H locs cells slots Q la A hl K => lv_dup2_2 A.1 A.2.1 hd (mx_c2_v b1) K)
  · cases e
theorem mx_s_pop2a (hd : decode M.1 pc = .ok (.pop2, 1)) : mx_Sn B M pc (mx_pop2a (pc + 1)) := by
  intro d k call hk hc ls st h r e
  unfold mx_pop2a at e
  split at e
  · obtain ⟨b1, e⟩ := mx_bt e
    obtain ⟨b1, b2⟩ := mx_and b1
    exact mx_G.step (hk _ _ _ _ _ e) (fun p e s m args below meth c R H locs cells slots Q la A hl K => lv_pop2_11 A.1 A.2.1 hd (mx_c1_v b1) (mx_c1_v b2) K)
  · cases e
theorem mx_s_pop2b (hd : decode M.1 pc = .ok (.pop2, 1)) : mx_Sn B M pc (mx_pop2b (pc + 1)) := by
  intro d k call hk hc ls st h r e
  unfold mx_pop2b at e
  split at e
  · obtain ⟨b1, e⟩ := mx_bf e
    exact mx_G.step (hk _ _ _ _ _ e) (fun p e s m args below meth c R H locs cells slots Q la A hl K => lv_pop2_2 A.1 A.2.1 hd (mx_c2_v b1) K)
  · cases e
theorem mx_s_dup2x1 (hd : decode M.1 pc = .ok (.dup2_x1, 1)) : mx_Sn B M pc (mx_dup2x1 (pc + 1)) := by
  intro d k call hk hc ls st h r e
  unfold mx_dup2x1 at e
  split at e
  · obtain ⟨b1, e⟩ := mx_bf e
    obtain ⟨b2, e⟩ := mx_bt e
    exact mx_G.step (hk _ _ _ _ _ e) (fun p e s m args below meth c R H locs cells slots Q la A hl K => lv_dup2_x1_2 A.1 A.2.1 hd (mx_c2_v b1) (mx_c1_v b2) K)
  · cases e
theorem mx_s_dup2x2 (hd : decode M.1 pc = .ok (.dup2_x2, 1)) : mx_Sn B M pc (mx_dup2x2 (pc + 1)) := by
  intro d k call hk hc ls st h r e
  unfold mx_dup2x2 at e
  split at e
  · obtain ⟨b1, e⟩ := mx_bf e
    obtain ⟨b2, e⟩ := mx_bt e
    obtain ⟨b2, b3⟩ := mx_and b2
    exact mx_G.step (hk _ _ _ _ _ e) (fun p e s m args below meth c R H locs cells slots Q la A hl K => lv_dup2_x2_2 A.1 A.2.1 hd (mx_c2_v b1) (mx_c1_v b2) (mx_c1_v b3) K)
  · cases e
end MXS
end
section
/-! cells: fields, arrays, new ones -/
section MXH
variable {B : mx_B} {M : mx_M} {pc : Nat}
theorem mx_toClamp {j : Int32} {n : Nat} (h0 : ¬ j < 0) (h : Nat.blt j.toNatClampNeg n = true) : ¬ (j < 0 ∨ n ≤ j.toNatClampNeg) := by
  have := mx_blt h
  rintro (q | q)
  · exact h0 q
  · omega
theorem mx_nblt {a b : Nat} (h : Nat.blt a b = false) : ¬ a < b := fun q => by
  have : Nat.blt a b = true := Nat.ble_eq.mpr q
  rw [this] at h; cases h
def mx_pl : Value → Bool
  | .int _ | .long _ | .null => true
  | _ => false
theorem mx_pl_v {E : mx_E} {v : Value} (h : mx_pl v = true) : mx_v E v = v := by
  cases v <;> first | rfl | cases h
/-- what an object's cell is -/
theorem mx_obj {E : mx_E} {U : State} {h : mx_H} {H : Heap} {a ci : Nat} {fs : List Value} {r : vw_C} (hR : mx_Rp E U h H) (e : mx_cell h a = some (.inl (ci, fs))) (hcl : E.1[ci]? = some r) :
    fs.length = r.2.2 ∧ ∃ cell : Cell, H[mx_rho E a]? = some cell ∧ cell.cls = E.2.1.1 ci ∧ cell.vm = .none ∧ ∀ k, k < r.2.2 → cell.slots[E.2.1.2 ci k]? = some (vp_V (fs.map (mx_v E)) k) := by
  obtain ⟨r', hr', hlen, cell, q1, q2, q3, q4⟩ := hR.at e
  cases hr'.symm.trans hcl
  exact ⟨hlen, cell, q1, q2, q3, q4⟩
theorem mx_vpV {E : mx_E} {fs : List Value} {f : Nat} {v : Value} (h : fs[f]? = some v) : vp_V (fs.map (mx_v E)) f = mx_v E v := by
  simp [vp_V, h]
/-- a class of ours, and what its words say -/
def mx_Cs (B : mx_B) (ci : Nat) (r : vw_C) : Prop := B.2.1.1.1[ci]? = some r ∧ (∀ w ∈ u_ws r.1 r.2.1 r.2.2, w ∈ B.2.1.2.1) ∧ (∀ a, a < r.2.2 → ∀ b, b < r.2.2 → a ≠ b → (r.2.1 a).2.1 ≠ (r.2.1 b).2.1) ∧ ∃ ty : Nat → FieldType, ∀ k, k < r.2.2 → parseFieldDescriptor (r.2.1 k).2.2.1 = some (ty k)
theorem mx_apart {s : State} {args : Array Value} {ci : Nat} {r : vw_C} (hts : ∀ w ∈ B.2.1.2.1, w.before args s = true) (hK : va_K B.2.1.1.2.1 B.2.1.1.1 [] s) (hcs : mx_Cs B ci r) : ∀ x y, x < r.2.2 → y < r.2.2 → x ≠ y → B.2.1.1.2.1.2 ci x ≠ B.2.1.1.2.1.2 ci y := by
  obtain ⟨h1, h2, h3, ty, h4⟩ := hcs
  obtain ⟨C, T, N⟩ := r
  exact va_apart (own := C) hts h2 ty h4 h3 hK h1
theorem mx_locs {V : mx_Ev} {a i : Nat} {locs : List Loc} (ha : ¬ a < V.1.2.2.1) (hL : ∀ q ∈ locs, mx_up V q.base) : ∀ q ∈ locs ++ [(⟨mx_rho V.1 a, i⟩ : Loc)], mx_up V q.base := by
  intro q hq
  rcases List.mem_append.mp hq with hq | hq
  · exact hL q hq
  · cases List.mem_singleton.mp hq
    show _ ≤ mx_rho V.1 a
    rw [mx_rho_hi ha]; exact Nat.le_add_right _ _
theorem mx_s_getf {i ci f : Nat} {r : vw_C} (hd : decode M.1 pc = .ok (.getfield i, 3)) (hcs : mx_Cs B ci r) (hf : f < r.2.2) (hlink : Cond.fieldLink M.2.2.1 i (r.2.1 f).1 (r.2.1 f).2.1 (r.2.1 f).2.2.1 ∈ B.2.1.2.1) : mx_Sn B M pc (mx_getf ci f (pc + 3)) := by
  intro d k call hk hcl ls st h rr e
  unfold mx_getf at e
  split at e
  · rename_i a rest
    split at e
    · rename_i cz fs hcell
      replace e := mx_bt e
      obtain ⟨hb, e⟩ := e
      have hci : cz = ci := Nat.eq_of_beq_eq_true hb
      subst hci
      split at e
      · rename_i v hv
        have G := hk _ _ _ _ _ e
        refine ⟨G.1, fun p e s m args below meth c hc hs H locs la A h1 h2 hR hL hl => ?_⟩
        obtain ⟨hlen, cell, q1, q2, q3, q4⟩ := mx_obj hR hcell hcs.1
        obtain ⟨hS, hfc, kC, hkC, hkind⟩ := A.2.2.2.2.2.2.2.2.1.1 _ _ hcs.1
        obtain ⟨cf, kf, fi, fd, hi, hsl⟩ := hS f hf
        refine W.getf A.1 A.2.1 A.2.2.2.1 (A.2.2.2.2.1 _ hlink) hi (u_facts hfc hkC (u_lays A.2.2.2.2.1 hcs.2.1 hf) hi).1 q1 (by rw [q3]; exact fun h => by cases h) (v := mx_v B.2.1.1 v) ?_ rfl rfl hd (G.2 p e s m args below meth c hc hs H locs la A h1 h2 hR hL hl)
        rw [hsl, q4 f hf, mx_vpV (by rw [← mx_nth_eq]; exact hv)]
      · cases e
    · cases e
  · cases e
theorem mx_s_getfN {i ci f : Nat} {r : vw_C} (hd : decode M.1 pc = .ok (.getfield i, 3)) (hcs : mx_Cs B ci r) (hf : f < r.2.2) {host : String} (hlink : (M.2.2.1, i, (r.2.1 f).1, (r.2.1 f).2.1, (r.2.1 f).2.2.1, host) ∈ B.2.1.2.2.1) : mx_Sn B M pc (mx_getf ci f (pc + 3)) := by
  intro d k call hk hcl ls st h rr e
  unfold mx_getf at e
  split at e
  · rename_i a rest
    split at e
    · rename_i cz fs hcell
      replace e := mx_bt e
      obtain ⟨hb, e⟩ := e
      have hci : cz = ci := Nat.eq_of_beq_eq_true hb
      subst hci
      split at e
      · rename_i v hv
        have G := hk _ _ _ _ _ e
        refine ⟨G.1, fun p e s m args below meth c hc hs H locs la A h1 h2 hR hL hl => ?_⟩
        obtain ⟨hlen, cell, q1, q2, q3, q4⟩ := mx_obj hR hcell hcs.1
        obtain ⟨hS, hfc, kC, hkC, hkind⟩ := A.2.2.2.2.2.2.2.2.1.1 _ _ hcs.1
        obtain ⟨cf, kf, fi, fd, hi, hsl⟩ := hS f hf
        refine va_Wgetf A.1 A.2.1 A.2.2.2.1 (va_Nw.use rfl (A.2.2.2.2.2.2.2.2.2.1 _ hlink)) hi (u_facts hfc hkC (u_lays A.2.2.2.2.1 hcs.2.1 hf) hi).1 q1 (by rw [q3]; exact fun h => by cases h) (v := mx_v B.2.1.1 v) ?_ rfl rfl hd (G.2 p e s m args below meth c hc hs H locs la A h1 h2 hR hL hl)
        rw [hsl, q4 f hf, mx_vpV (by rw [← mx_nth_eq]; exact hv)]
      · cases e
    · cases e
  · cases e
theorem mx_fit_v {E : mx_E} {ty : FieldType} {v : Value} (h : mx_fit ty v = true) : narrow ty (mx_v E v) = mx_v E v ∧ fits ty (mx_v E v) = true := by
  cases ty <;> cases v <;> simp [mx_fit, mx_v, narrow, fits] at h ⊢
  rename_i x
  rcases h with h | h
  · subst h; decide +kernel
  · subst h; decide +kernel
theorem mx_s_putf {i ci f : Nat} {ty : FieldType} {r : vw_C} (hd : decode M.1 pc = .ok (.putfield i, 3)) (hcs : mx_Cs B ci r) (hf : f < r.2.2) (hty : parseFieldDescriptor (r.2.1 f).2.2.1 = some ty) (hlink : Cond.fieldLink M.2.2.1 i (r.2.1 f).1 (r.2.1 f).2.1 (r.2.1 f).2.2.1 ∈ B.2.1.2.1) (hfin : (r.2.1 f).2.2.2 = false) : mx_Sn B M pc (mx_putf B.2.1.1.2.2.1 ci f ty (pc + 3)) := by
  intro d k call hk hcl ls st h rr e
  unfold mx_putf at e
  split at e
  · rename_i v a rest
    replace e := mx_bf e
    obtain ⟨ha, e⟩ := e
    have ha2 := mx_nblt ha
    split at e
    · rename_i cz fs hcell
      replace e := mx_bt e
      obtain ⟨hb, e⟩ := e
      obtain ⟨hb1, hb2⟩ := mx_and hb
      obtain ⟨hb2, hb3⟩ := mx_and hb2
      have hci : cz = ci := Nat.eq_of_beq_eq_true hb1
      subst hci
      have hfl := mx_blt hb2
      have G := hk _ _ _ _ _ e
      refine ⟨G.1, fun p e s m args below meth c hc hs H locs la A h1 h2 hR hL hl => ?_⟩
      have hfit := mx_fit_v (E := B.2.1.1) hb3
      obtain ⟨hlen, cell, q1, q2, q3, q4⟩ := mx_obj hR hcell hcs.1
      obtain ⟨hS, hfc, kC, hkC, hkind⟩ := A.2.2.2.2.2.2.2.2.1.1 _ _ hcs.1
      have hap := mx_apart A.2.2.2.2.1 A.2.2.2.2.2.2.2.2.1 hcs
      obtain ⟨cf, kf, fi, fd, hi, hsl⟩ := hS f hf
      have hlay := A.2.2.2.2.1 _ (hcs.2.1 _ (u_in_lay hf))
      unfold u_lay at hlay
      rw [if_neg (by rw [hfin]; decide)] at hlay
      have hst := (u_facts hfc hkC (u_lays A.2.2.2.2.1 hcs.2.1 hf) hi).1
      have h6 := u_store hfc hkC hkind hlay hi hty hfit.1 hfit.2
      refine W.putK A.1 A.2.1 (f := fd) ⟨A.2.2.2.1, A.2.2.2.2.1 _ hlink, ⟨_, _, _, hi⟩, hst⟩ (by rw [q2]; exact h6) q1 q3 (by rw [hsl]; exact k2_hasslot (q4 f hf)) rfl rfl hd fun H1 e1 e2 e3 => ?_
      rw [hsl] at e1
      refine G.2 p e s m args below meth c hc hs H1 _ la A h1 h2 (hR.put ha2 (mx_cell_some hcell).1 ⟨r, hcs.1, by rw [mx_upd_eq, List.length_set]; exact hlen, t_OB.to (V := updV (vp_V (fs.map (mx_v B.2.1.1))) f (mx_v B.2.1.1 v)) ⟨_, e1, q2, q3, t_set q4 hap hf _⟩ (fun j _ => ?_)⟩ e2 e3) (mx_locs ha2 hL) hl
      rw [vp_updV_set (by rw [List.length_map]; exact hfl), mx_upd_eq, List.map_set]
    · cases e
  · cases e
theorem mx_s_putfN {i ci f : Nat} {ty : FieldType} {r : vw_C} (hd : decode M.1 pc = .ok (.putfield i, 3)) (hcs : mx_Cs B ci r) (hf : f < r.2.2) (hty : parseFieldDescriptor (r.2.1 f).2.2.1 = some ty) {host : String} (hlink : (M.2.2.1, i, (r.2.1 f).1, (r.2.1 f).2.1, (r.2.1 f).2.2.1, host) ∈ B.2.1.2.2.1) (hfin : (r.2.1 f).2.2.2 = false) : mx_Sn B M pc (mx_putf B.2.1.1.2.2.1 ci f ty (pc + 3)) := by
  intro d k call hk hcl ls st h rr e
  unfold mx_putf at e
  split at e
  · rename_i v a rest
    replace e := mx_bf e
    obtain ⟨ha, e⟩ := e
    have ha2 := mx_nblt ha
    split at e
    · rename_i cz fs hcell
      replace e := mx_bt e
      obtain ⟨hb, e⟩ := e
      obtain ⟨hb1, hb2⟩ := mx_and hb
      obtain ⟨hb2, hb3⟩ := mx_and hb2
      have hci : cz = ci := Nat.eq_of_beq_eq_true hb1
      subst hci
      have hfl := mx_blt hb2
      have G := hk _ _ _ _ _ e
      refine ⟨G.1, fun p e s m args below meth c hc hs H locs la A h1 h2 hR hL hl => ?_⟩
      have hfit := mx_fit_v (E := B.2.1.1) hb3
      obtain ⟨hlen, cell, q1, q2, q3, q4⟩ := mx_obj hR hcell hcs.1
      obtain ⟨hS, hfc, kC, hkC, hkind⟩ := A.2.2.2.2.2.2.2.2.1.1 _ _ hcs.1
      have hap := mx_apart A.2.2.2.2.1 A.2.2.2.2.2.2.2.2.1 hcs
      obtain ⟨cf, kf, fi, fd, hi, hsl⟩ := hS f hf
      have hlay := A.2.2.2.2.1 _ (hcs.2.1 _ (u_in_lay hf))
      unfold u_lay at hlay
      rw [if_neg (by rw [hfin]; decide)] at hlay
      have hst := (u_facts hfc hkC (u_lays A.2.2.2.2.1 hcs.2.1 hf) hi).1
      have h6 := u_store hfc hkC hkind hlay hi hty hfit.1 hfit.2
      refine va_WputK A.1 A.2.1 (f := fd) A.2.2.2.1 (va_Nw.use rfl (A.2.2.2.2.2.2.2.2.2.1 _ hlink)) hi hst (by rw [q2]; exact h6) q1 q3 (by rw [hsl]; exact k2_hasslot (q4 f hf)) rfl rfl hd fun H1 e1 e2 e3 => ?_
      rw [hsl] at e1
      refine G.2 p e s m args below meth c hc hs H1 _ la A h1 h2 (hR.put ha2 (mx_cell_some hcell).1 ⟨r, hcs.1, by rw [mx_upd_eq, List.length_set]; exact hlen, t_OB.to (V := updV (vp_V (fs.map (mx_v B.2.1.1))) f (mx_v B.2.1.1 v)) ⟨_, e1, q2, q3, t_set q4 hap hf _⟩ (fun j _ => ?_)⟩ e2 e3) (mx_locs ha2 hL) hl
      rw [vp_updV_set (by rw [List.length_map]; exact hfl), mx_upd_eq, List.map_set]
    · cases e
  · cases e
theorem mx_s_putfF {i ci f : Nat} {ty : FieldType} {r : vw_C} (hd : decode M.1 pc = .ok (.putfield i, 3)) (hcs : mx_Cs B ci r) (hf : f < r.2.2) (hty : parseFieldDescriptor (r.2.1 f).2.2.1 = some ty) (hlink : Cond.fieldLink M.2.2.1 i (r.2.1 f).1 (r.2.1 f).2.1 (r.2.1 f).2.2.1 ∈ B.2.1.2.1) (hfin : (r.2.1 f).2.2.2 = true) (hini : M.2.2.2.1 = "<init>") (hdecl : (r.2.1 f).1 = M.2.2.1) : mx_Sn B M pc (mx_putf B.2.1.1.2.2.1 ci f ty (pc + 3)) := by
  intro d k call hk hcl ls st h rr e
  unfold mx_putf at e
  split at e
  · rename_i v a rest
    replace e := mx_bf e
    obtain ⟨ha, e⟩ := e
    have ha2 := mx_nblt ha
    split at e
    · rename_i cz fs hcell
      replace e := mx_bt e
      obtain ⟨hb, e⟩ := e
      obtain ⟨hb1, hb2⟩ := mx_and hb
      obtain ⟨hb2, hb3⟩ := mx_and hb2
      have hci : cz = ci := Nat.eq_of_beq_eq_true hb1
      subst hci
      have hfl := mx_blt hb2
      have G := hk _ _ _ _ _ e
      refine ⟨G.1, fun p e s m args below meth c hc hs H locs la A h1 h2 hR hL hl => ?_⟩
      have hfit := mx_fit_v (E := B.2.1.1) hb3
      obtain ⟨hlen, cell, q1, q2, q3, q4⟩ := mx_obj hR hcell hcs.1
      obtain ⟨hS, hfc, kC, hkC, hkind⟩ := A.2.2.2.2.2.2.2.2.1.1 _ _ hcs.1
      have hap := mx_apart A.2.2.2.2.1 A.2.2.2.2.2.2.2.2.1 hcs
      obtain ⟨cf, kf, fi, fd, hi, hsl⟩ := hS f hf
      have hlay := A.2.2.2.2.1 _ (hcs.2.1 _ (u_in_lay hf))
      unfold u_lay at hlay
      rw [if_pos hfin] at hlay
      have hst := (u_facts hfc hkC (u_lays A.2.2.2.2.1 hcs.2.1 hf) hi).1
      have hcf : m.cls = cf := by
        obtain ⟨_, _, c', _, _, _, -, -, hf', -, -, -, hown2, -⟩ := Cond.laysFinal_spec hlay
        have e1 : c' = cf := by have := hi.symm.trans hf'; simp at this; exact this.1.symm
        rw [hdecl] at hown2
        rw [← e1]; exact Option.some.inj (A.2.2.2.1.symm.trans hown2)
      have h6 := u_fits hfc hkC hkind (Or.inr hlay) hi hty hfit.1 hfit.2
      refine W.putFinK A.1 A.2.1 A.2.2.2.1 (A.2.2.2.2.1 _ hlink) hi hst hcf (by rw [A.2.2.2.2.2.2.2.1]; exact hini) (by rw [q2]; exact h6) q1 q3 (by rw [hsl]; exact k2_hasslot (q4 f hf)) rfl rfl hd fun H1 e1 e2 e3 => ?_
      rw [hsl] at e1
      refine G.2 p e s m args below meth c hc hs H1 _ la A h1 h2 (hR.put ha2 (mx_cell_some hcell).1 ⟨r, hcs.1, by rw [mx_upd_eq, List.length_set]; exact hlen, t_OB.to (V := updV (vp_V (fs.map (mx_v B.2.1.1))) f (mx_v B.2.1.1 v)) ⟨_, e1, q2, q3, t_set q4 hap hf _⟩ (fun j _ => ?_)⟩ e2 e3) (mx_locs ha2 hL) hl
      rw [vp_updV_set (by rw [List.length_map]; exact hfl), mx_upd_eq, List.map_set]
    · cases e
  · cases e
theorem mx_s_new {i ci n : Nat} {fs : List Value} {r : vw_C} (hd : decode M.1 pc = .ok (.new i, 3)) (hcs : mx_Cs B ci r) (hn : r.2.2 = n) (hlink : Cond.classLink M.2.2.1 i r.1 ∈ B.2.1.2.1) (hinst : Cond.instantiable r.1 n ∈ B.2.1.2.1) (hini : Cond.initialized r.1 ∈ B.2.1.2.1)
    (hpl : fs.all mx_pl = true) (hfs : fs.length = n ∧ ∀ (k : Nat) (ty : FieldType), k < n → parseFieldDescriptor (r.2.1 k).2.2.1 = some ty → fs[k]? = some (defaultValue ty)) : mx_Sn B M pc (mx_new ci n fs (pc + 3)) := by
  intro d k call hk hcl ls st h rr e
  unfold mx_new at e
  replace e := mx_bt e
  obtain ⟨hb, e⟩ := e
  have hb := mx_blt hb
  have G := hk _ _ _ _ _ e
  have g1 : h.1 + 1 ≤ rr.2.1 := G.1.1
  have g2 : h.2.1 + n ≤ rr.2.2.1 := G.1.2
  subst hn
  refine ⟨⟨by omega, by omega⟩, fun p e s m args below meth c hc hs H locs la A h1 h2 hR hL hl => ?_⟩
  obtain ⟨hcs1, hcs2, hcs3, ty, hty⟩ := hcs
  have hKn := A.2.2.2.2.2.2.2.2.1.1 _ _ hcs1
  refine W.newcK A.1 A.2.1 A.2.2.2.1 (A.2.2.2.2.1 _ hlink) (A.2.2.2.2.1 _ hinst) (A.2.2.2.2.1 _ hini) rfl hd (by show _ ≤ rr.2.1 - hc; omega) (by show _ ≤ rr.2.2.1 - hs; omega) hKn.2.1 rfl fun H1 kC hkC e1 z1 o1 => ?_
  have hP := hR.push (n := r.2.2) (c := .inl (ci, fs)) hb ⟨r, hcs1, hfs.1, (u_born ty A.2.2.2.2.1 hcs2 hKn hkC e1 hty).to (fun j hj => ?_)⟩ z1 o1
  · have G2 := G.2 p e s m args below meth c hc hs H1 locs la A (by show hc ≤ h.1 + 1; omega) (by show hs ≤ h.2.1 + _; omega) hP hL hl
    have z2 : (mx_push h r.2.2 (.inl (ci, fs))).1 - hc = h.1 - hc + 1 := by show h.1 + 1 - hc = _; omega
    have z3 : (mx_push h r.2.2 (.inl (ci, fs))).2.1 - hs = h.2.1 - hs + r.2.2 := by show h.2.1 + r.2.2 - hs = _; omega
    rw [z2, z3] at G2
    have z4 : ((Value.ref h.1 :: st).map (mx_v B.2.1.1)) = .ref H.size :: st.map (mx_v B.2.1.1) := by
      show Value.ref (mx_rho B.2.1.1 h.1) :: _ = _
      rw [mx_rho_new hR]
    rw [z4] at G2
    exact G2
  · have h9 := hfs.2 j (ty j) hj (hty j hj)
    rw [mx_vpV h9, mx_pl_v (List.all_eq_true.mp hpl _ (List.mem_of_getElem? h9))]
theorem mx_s_newa {aty : ArrayType} {ty : FieldType} {dv : Value} (hd : decode M.1 pc = .ok (.newarray aty, 2)) (hty : newarray.typeOf aty = ty) (hdv : defaultValue ty = dv) (hpl : mx_pl dv = true) (hw : Cond.arrayClass ty ∈ B.2.1.2.1) : mx_Sn B M pc (mx_newa ty dv (pc + 2)) := by
  intro d k call hk hcl ls st h rr e
  unfold mx_newa at e
  split at e
  · rename_i n rest
    split at e
    · cases e
    · rename_i hn0
      replace e := mx_bt e
      obtain ⟨hb, e⟩ := e
      obtain ⟨hb, hb2⟩ := mx_and hb
      have hb := mx_blt hb
      have hb2 := Nat.ble_eq.mp hb2
      have G := hk _ _ _ _ _ e
      generalize hN : n.toNatClampNeg = N at hb2 e G
      have g1 : h.1 + 1 ≤ rr.2.1 := G.1.1
      have g2 : h.2.1 + N ≤ rr.2.2.1 := G.1.2
      subst hty
      subst hdv
      refine ⟨⟨by omega, by omega⟩, fun p e s m args below meth c hc hs H locs la A h1 h2 hR hL hl => ?_⟩
      refine va_newaK A.1 A.2.1 (A.2.2.2.2.1 _ hw) rfl hd rfl hn0 hN (by cases aty <;> simp [newarray.typeOf, componentBytes] <;> omega) (by show _ ≤ rr.2.1 - hc; omega) (by show _ ≤ rr.2.2.1 - hs; omega) rfl fun H1 cA e1 z1 o1 hAr hNm => ?_
      have hP := hR.push (n := N) (c := .inr (newarray.typeOf aty, N, mx_rep (defaultValue (newarray.typeOf aty)) 13)) hb ⟨_, e1, hAr _ _, rfl, arrV_size _ _ _, hb2, (fun j hj => by rw [arrV_read _ _ hj, mx_get_rep, mx_pl_v hpl]), (fun C hC => by cases aty <;> cases hC)⟩ z1 o1
      have G2 := G.2 p e s m args below meth c hc hs H1 locs la A (by show hc ≤ h.1 + 1; omega) (by show hs ≤ h.2.1 + _; omega) hP hL hl
      have z2 : (mx_push h N (.inr (newarray.typeOf aty, N, mx_rep (defaultValue (newarray.typeOf aty)) 13))).1 - hc = h.1 - hc + 1 := by show h.1 + 1 - hc = _; omega
      have z3 : (mx_push h N (.inr (newarray.typeOf aty, N, mx_rep (defaultValue (newarray.typeOf aty)) 13))).2.1 - hs = h.2.1 - hs + N := by show h.2.1 + N - hs = _; omega
      rw [z2, z3] at G2
      have z4 : ((Value.ref h.1 :: rest).map (mx_v B.2.1.1)) = .ref H.size :: rest.map (mx_v B.2.1.1) := by
        show Value.ref (mx_rho B.2.1.1 h.1) :: _ = _
        rw [mx_rho_new hR]
      rw [z4] at G2
      exact G2
  · cases e
theorem mx_s_anew {i : Nat} {C : String} (hd : decode M.1 pc = .ok (.anewarray i, 3)) (hlink : Cond.classLink M.2.2.1 i C ∈ B.2.1.2.1) (hov : Cond.arrayOver (.object C) ∈ B.2.1.2.1) : mx_Sn B M pc (mx_newa (.object C) .null (pc + 3)) := by
  intro d k call hk hcl ls st h rr e
  unfold mx_newa at e
  split at e
  · rename_i n rest
    split at e
    · cases e
    · rename_i hn0
      replace e := mx_bt e
      obtain ⟨hb, e⟩ := e
      obtain ⟨hb, hb2⟩ := mx_and hb
      have hb := mx_blt hb
      have hb2 := Nat.ble_eq.mp hb2
      have G := hk _ _ _ _ _ e
      have g1 : h.1 + 1 ≤ rr.2.1 := G.1.1
      have g2 : h.2.1 + n.toNatClampNeg ≤ rr.2.2.1 := G.1.2
      refine ⟨⟨by omega, by omega⟩, fun p e s m args below meth c hc hs H locs la A h1 h2 hR hL hl => ?_⟩
      refine W.anew A.1 A.2.1 A.2.2.2.1 (A.2.2.2.2.1 _ hlink) (A.2.2.2.2.1 _ hov) rfl hd rfl hn0 (by omega) (by show _ ≤ rr.2.1 - hc; omega) (by show _ ≤ rr.2.2.1 - hs; omega) fun cA kA comp k1 k2 k3 k4 => ?_
      have hP := hR.push (H1 := H.push { cls := cA, slots := Array.replicate n.toNatClampNeg .null, vm := .none }) (n := n.toNatClampNeg) (c := .inr (.object C, n.toNatClampNeg, mx_rep .null 13)) hb ⟨{ cls := cA, slots := Array.replicate n.toNatClampNeg .null, vm := .none }, (by simp), ⟨fun k h => (by cases h), kA, k2, comp, k3⟩, rfl, (by simp), hb2, (fun j hj => by rw [mx_get_rep]; simp [hj, mx_v]), (fun C2 hC => by cases hC; exact ⟨kA, comp, k2, k3, k4, k1⟩)⟩ (by simp) (fun q hq => by rw [Array.getElem?_push, if_neg (Nat.ne_of_lt hq)])
      have G2 := G.2 p e s m args below meth c hc hs _ locs la A (by show hc ≤ h.1 + 1; omega) (by show hs ≤ h.2.1 + _; omega) hP hL hl
      have z2 : (mx_push h n.toNatClampNeg (.inr (.object C, n.toNatClampNeg, mx_rep .null 13))).1 - hc = h.1 - hc + 1 := by show h.1 + 1 - hc = _; omega
      have z3 : (mx_push h n.toNatClampNeg (.inr (.object C, n.toNatClampNeg, mx_rep .null 13))).2.1 - hs = h.2.1 - hs + n.toNatClampNeg := by show h.2.1 + n.toNatClampNeg - hs = _; omega
      rw [z2, z3] at G2
      have z4 : ((Value.ref h.1 :: rest).map (mx_v B.2.1.1)) = .ref H.size :: rest.map (mx_v B.2.1.1) := by
        show Value.ref (mx_rho B.2.1.1 h.1) :: _ = _
        rw [mx_rho_new hR]
      rw [z4] at G2
      exact G2
  · cases e
theorem mx_s_iald (hd : decode M.1 pc = .ok (.iaload, 1)) : mx_Sn B M pc (mx_iald (pc + 1)) := by
  intro d k call hk hcl ls st h rr e
  unfold mx_iald at e
  split at e
  · rename_i j a rest
    split at e
    · rename_i n cc hcell
      split at e
      · cases e
      · rename_i hj0
        replace e := mx_bt e
        obtain ⟨hb, e⟩ := e
        have G := hk _ _ _ _ _ e
        refine ⟨G.1, fun p e s m args below meth c hc hs H locs la A h1 h2 hR hL hl => ?_⟩
        obtain ⟨cell, q1, q2, q3, q4, q5, q6, q7⟩ := hR.at hcell
        exact W.iald A.1 A.2.1 q1 q2 (by rw [q3]; exact fun h => by cases h) (by rw [q4]; exact mx_toClamp hj0 hb) (q6 _ (mx_blt hb)) rfl rfl hd (G.2 p e s m args below meth c hc hs H locs la A h1 h2 hR hL hl)
    · cases e
  · cases e
theorem mx_s_lald (hd : decode M.1 pc = .ok (.laload, 1)) : mx_Sn B M pc (mx_lald (pc + 1)) := by
  intro d k call hk hcl ls st h rr e
  unfold mx_lald at e
  split at e
  · rename_i j a rest
    split at e
    · rename_i n cc hcell
      split at e
      · cases e
      · rename_i hj0
        replace e := mx_bt e
        obtain ⟨hb, e⟩ := e
        have G := hk _ _ _ _ _ e
        refine ⟨G.1, fun p e s m args below meth c hc hs H locs la A h1 h2 hR hL hl => ?_⟩
        obtain ⟨cell, q1, q2, q3, q4, q5, q6, q7⟩ := hR.at hcell
        exact W.lald A.1 A.2.1 q1 q2 (by rw [q3]; exact fun h => by cases h) (by rw [q4]; exact mx_toClamp hj0 hb) (q6 _ (mx_blt hb)) rfl rfl hd (G.2 p e s m args below meth c hc hs H locs la A h1 h2 hR hL hl)
    · cases e
  · cases e
theorem mx_s_bald (hd : decode M.1 pc = .ok (.baload, 1)) : mx_Sn B M pc (mx_bald (pc + 1)) := by
  intro d k call hk hcl ls st h rr e
  unfold mx_bald at e
  split at e
  · rename_i j a rest
    split at e
    · rename_i n cc hcell
      split at e
      · cases e
      · rename_i hj0
        replace e := mx_bt e
        obtain ⟨hb, e⟩ := e
        have G := hk _ _ _ _ _ e
        refine ⟨G.1, fun p e s m args below meth c hc hs H locs la A h1 h2 hR hL hl => ?_⟩
        obtain ⟨cell, q1, q2, q3, q4, q5, q6, q7⟩ := hR.at hcell
        exact W.bald A.1 A.2.1 q1 q2 (by rw [q3]; exact fun h => by cases h) (by rw [q4]; exact mx_toClamp hj0 hb) (q6 _ (mx_blt hb)) rfl rfl hd (G.2 p e s m args below meth c hc hs H locs la A h1 h2 hR hL hl)
    · cases e
  · cases e
theorem mx_s_zald (hd : decode M.1 pc = .ok (.baload, 1)) : mx_Sn B M pc (mx_zald (pc + 1)) := by
  intro d k call hk hcl ls st h rr e
  unfold mx_zald at e
  split at e
  · rename_i j a rest
    split at e
    · rename_i n cc hcell
      split at e
      · cases e
      · rename_i hj0
        replace e := mx_bt e
        obtain ⟨hb, e⟩ := e
        have G := hk _ _ _ _ _ e
        refine ⟨G.1, fun p e s m args below meth c hc hs H locs la A h1 h2 hR hL hl => ?_⟩
        obtain ⟨cell, q1, q2, q3, q4, q5, q6, q7⟩ := hR.at hcell
        exact W.zald A.1 A.2.1 q1 q2 (by rw [q3]; exact fun h => by cases h) (by rw [q4]; exact mx_toClamp hj0 hb) (q6 _ (mx_blt hb)) rfl rfl hd (G.2 p e s m args below meth c hc hs H locs la A h1 h2 hR hL hl)
    · cases e
  · cases e
theorem mx_s_cald (hd : decode M.1 pc = .ok (.caload, 1)) : mx_Sn B M pc (mx_cald (pc + 1)) := by
  intro d k call hk hcl ls st h rr e
  unfold mx_cald at e
  split at e
  · rename_i j a rest
    split at e
    · rename_i n cc hcell
      split at e
      · cases e
      · rename_i hj0
        replace e := mx_bt e
        obtain ⟨hb, e⟩ := e
        have G := hk _ _ _ _ _ e
        refine ⟨G.1, fun p e s m args below meth c hc hs H locs la A h1 h2 hR hL hl => ?_⟩
        obtain ⟨cell, q1, q2, q3, q4, q5, q6, q7⟩ := hR.at hcell
        exact W.cald A.1 A.2.1 q1 q2 (by rw [q3]; exact fun h => by cases h) (by rw [q4]; exact mx_toClamp hj0 hb) (q6 _ (mx_blt hb)) rfl rfl hd (G.2 p e s m args below meth c hc hs H locs la A h1 h2 hR hL hl)
    · cases e
  · cases e
theorem mx_s_sald (hd : decode M.1 pc = .ok (.saload, 1)) : mx_Sn B M pc (mx_sald (pc + 1)) := by
  intro d k call hk hcl ls st h rr e
  unfold mx_sald at e
  split at e
  · rename_i j a rest
    split at e
    · rename_i n cc hcell
      split at e
      · cases e
      · rename_i hj0
        replace e := mx_bt e
        obtain ⟨hb, e⟩ := e
        have G := hk _ _ _ _ _ e
        refine ⟨G.1, fun p e s m args below meth c hc hs H locs la A h1 h2 hR hL hl => ?_⟩
        obtain ⟨cell, q1, q2, q3, q4, q5, q6, q7⟩ := hR.at hcell
        exact W.sald A.1 A.2.1 q1 q2 (by rw [q3]; exact fun h => by cases h) (by rw [q4]; exact mx_toClamp hj0 hb) (q6 _ (mx_blt hb)) rfl rfl hd (G.2 p e s m args below meth c hc hs H locs la A h1 h2 hR hL hl)
    · cases e
  · cases e
theorem mx_s_aald (hd : decode M.1 pc = .ok (.aaload, 1)) : mx_Sn B M pc (mx_aald (pc + 1)) := by
  intro d k call hk hcl ls st h rr e
  unfold mx_aald at e
  split at e
  · rename_i j a rest
    split at e
    · rename_i CC n cc hcell
      split at e
      · cases e
      · rename_i hj0
        replace e := mx_bt e
        obtain ⟨hb, e⟩ := e
        have G := hk _ _ _ _ _ e
        refine ⟨G.1, fun p e s m args below meth c hc hs H locs la A h1 h2 hR hL hl => ?_⟩
        obtain ⟨cell, q1, q2, q3, q4, q5, q6, q7⟩ := hR.at hcell
        exact W.aald A.1 A.2.1 q1 q2 rfl (by rw [q3]; exact fun h => by cases h) (by rw [q4]; exact mx_toClamp hj0 hb) (q6 _ (mx_blt hb)) rfl rfl hd (G.2 p e s m args below meth c hc hs H locs la A h1 h2 hR hL hl)
    · cases e
  · cases e
/-- an array with one place changed -/
theorem mx_arr_put {E : mx_E} {U : State} {H1 : Heap} {a n k : Nat} {ty : FieldType} {t : mx_A} {cell : Cell} {v : Value} (q2 : U.isArrayOf cell ty) (q3 : cell.vm = .none) (q4 : cell.slots.size = n) (q5 : n ≤ 8192) (q6 : ∀ j, j < n → cell.slots[j]? = some (mx_v E (mx_get 13 t j))) (q7 : ∀ C, ty = .object C → va_RA U cell.cls ty) (hk : k < n)
    (e1 : H1[a]? = some (cell.setSlot k (mx_v E v))) : mx_ok E U H1 a (.inr (ty, n, mx_set 13 t k v)) := by
  refine ⟨_, e1, q2, q3, by rw [k2_slotsz]; exact q4, q5, fun j hj => ?_, q7⟩
  rw [mx_get_set v 13 t k j (by show k < 8192; omega) (by show j < 8192; omega)]
  by_cases hjk : j = k
  · rw [if_pos hjk, hjk]
    exact Cell.slots_setSlot_self _ (by omega)
  · rw [if_neg hjk, slot_ne _ _ (Ne.symm hjk)]
    exact q6 j hj
theorem mx_s_iast (hd : decode M.1 pc = .ok (.iastore, 1)) : mx_Sn B M pc (mx_iast B.2.1.1.2.2.1 (pc + 1)) := by
  intro d k call hk hcl ls st h rr e
  unfold mx_iast at e
  split at e
  · rename_i x j a rest
    replace e := mx_bf e
    obtain ⟨ha, e⟩ := e
    have ha2 := mx_nblt ha
    split at e
    · rename_i n cc hcell
      split at e
      · cases e
      · rename_i hj0
        replace e := mx_bt e
        obtain ⟨hb, e⟩ := e
        have G := hk _ _ _ _ _ e
        refine ⟨G.1, fun p e s m args below meth c hc hs H locs la A h1 h2 hR hL hl => ?_⟩
        obtain ⟨cell, q1, q2, q3, q4, q5, q6, q7⟩ := hR.at hcell
        refine W.iast A.1 A.2.1 q1 q2 (by rw [q3]; exact fun h => by cases h) (by rw [q4]; exact mx_toClamp hj0 hb) rfl rfl hd fun H1 e1 e2 e3 => ?_
        exact G.2 p e s m args below meth c hc hs H1 _ la A h1 h2 (hR.put ha2 (mx_cell_some hcell).1 (mx_arr_put q2 q3 q4 q5 q6 q7 (mx_blt hb) e1) e2 e3) (mx_locs ha2 hL) hl
    · cases e
  · cases e
theorem mx_s_last (hd : decode M.1 pc = .ok (.lastore, 1)) : mx_Sn B M pc (mx_last B.2.1.1.2.2.1 (pc + 1)) := by
  intro d k call hk hcl ls st h rr e
  unfold mx_last at e
  split at e
  · rename_i x j a rest
    replace e := mx_bf e
    obtain ⟨ha, e⟩ := e
    have ha2 := mx_nblt ha
    split at e
    · rename_i n cc hcell
      split at e
      · cases e
      · rename_i hj0
        replace e := mx_bt e
        obtain ⟨hb, e⟩ := e
        have G := hk _ _ _ _ _ e
        refine ⟨G.1, fun p e s m args below meth c hc hs H locs la A h1 h2 hR hL hl => ?_⟩
        obtain ⟨cell, q1, q2, q3, q4, q5, q6, q7⟩ := hR.at hcell
        refine W.last A.1 A.2.1 q1 q2 (by rw [q3]; exact fun h => by cases h) (by rw [q4]; exact mx_toClamp hj0 hb) rfl rfl hd fun H1 e1 e2 e3 => ?_
        exact G.2 p e s m args below meth c hc hs H1 _ la A h1 h2 (hR.put ha2 (mx_cell_some hcell).1 (mx_arr_put q2 q3 q4 q5 q6 q7 (mx_blt hb) e1) e2 e3) (mx_locs ha2 hL) hl
    · cases e
  · cases e
theorem mx_s_bast (hd : decode M.1 pc = .ok (.bastore, 1)) : mx_Sn B M pc (mx_bast B.2.1.1.2.2.1 (pc + 1)) := by
  intro d k call hk hcl ls st h rr e
  unfold mx_bast at e
  split at e
  · rename_i x j a rest
    replace e := mx_bf e
    obtain ⟨ha, e⟩ := e
    have ha2 := mx_nblt ha
    split at e
    · rename_i n cc hcell
      split at e
      · cases e
      · rename_i hj0
        replace e := mx_bt e
        obtain ⟨hb, e⟩ := e
        have G := hk _ _ _ _ _ e
        refine ⟨G.1, fun p e s m args below meth c hc hs H locs la A h1 h2 hR hL hl => ?_⟩
        obtain ⟨cell, q1, q2, q3, q4, q5, q6, q7⟩ := hR.at hcell
        refine W.bast A.1 A.2.1 q1 q2 (by rw [q3]; exact fun h => by cases h) (by rw [q4]; exact mx_toClamp hj0 hb) rfl rfl hd fun H1 e1 e2 e3 => ?_
        exact G.2 p e s m args below meth c hc hs H1 _ la A h1 h2 (hR.put ha2 (mx_cell_some hcell).1 (mx_arr_put q2 q3 q4 q5 q6 q7 (mx_blt hb) e1) e2 e3) (mx_locs ha2 hL) hl
    · cases e
  · cases e
theorem mx_s_zast (hd : decode M.1 pc = .ok (.bastore, 1)) : mx_Sn B M pc (mx_zast B.2.1.1.2.2.1 (pc + 1)) := by
  intro d k call hk hcl ls st h rr e
  unfold mx_zast at e
  split at e
  · rename_i x j a rest
    replace e := mx_bf e
    obtain ⟨ha, e⟩ := e
    have ha2 := mx_nblt ha
    split at e
    · rename_i n cc hcell
      split at e
      · cases e
      · rename_i hj0
        replace e := mx_bt e
        obtain ⟨hb, e⟩ := e
        have G := hk _ _ _ _ _ e
        refine ⟨G.1, fun p e s m args below meth c hc hs H locs la A h1 h2 hR hL hl => ?_⟩
        obtain ⟨cell, q1, q2, q3, q4, q5, q6, q7⟩ := hR.at hcell
        refine W.zast A.1 A.2.1 q1 q2 (by rw [q3]; exact fun h => by cases h) (by rw [q4]; exact mx_toClamp hj0 hb) rfl rfl hd fun H1 e1 e2 e3 => ?_
        exact G.2 p e s m args below meth c hc hs H1 _ la A h1 h2 (hR.put ha2 (mx_cell_some hcell).1 (mx_arr_put q2 q3 q4 q5 q6 q7 (mx_blt hb) e1) e2 e3) (mx_locs ha2 hL) hl
    · cases e
  · cases e
theorem mx_s_cast (hd : decode M.1 pc = .ok (.castore, 1)) : mx_Sn B M pc (mx_cast B.2.1.1.2.2.1 (pc + 1)) := by
  intro d k call hk hcl ls st h rr e
  unfold mx_cast at e
  split at e
  · rename_i x j a rest
    replace e := mx_bf e
    obtain ⟨ha, e⟩ := e
    have ha2 := mx_nblt ha
    split at e
    · rename_i n cc hcell
      split at e
      · cases e
      · rename_i hj0
        replace e := mx_bt e
        obtain ⟨hb, e⟩ := e
        have G := hk _ _ _ _ _ e
        refine ⟨G.1, fun p e s m args below meth c hc hs H locs la A h1 h2 hR hL hl => ?_⟩
        obtain ⟨cell, q1, q2, q3, q4, q5, q6, q7⟩ := hR.at hcell
        refine W.cast A.1 A.2.1 q1 q2 (by rw [q3]; exact fun h => by cases h) (by rw [q4]; exact mx_toClamp hj0 hb) rfl rfl hd fun H1 e1 e2 e3 => ?_
        exact G.2 p e s m args below meth c hc hs H1 _ la A h1 h2 (hR.put ha2 (mx_cell_some hcell).1 (mx_arr_put q2 q3 q4 q5 q6 q7 (mx_blt hb) e1) e2 e3) (mx_locs ha2 hL) hl
    · cases e
  · cases e
theorem mx_s_sast (hd : decode M.1 pc = .ok (.sastore, 1)) : mx_Sn B M pc (mx_sast B.2.1.1.2.2.1 (pc + 1)) := by
  intro d k call hk hcl ls st h rr e
  unfold mx_sast at e
  split at e
  · rename_i x j a rest
    replace e := mx_bf e
    obtain ⟨ha, e⟩ := e
    have ha2 := mx_nblt ha
    split at e
    · rename_i n cc hcell
      split at e
      · cases e
      · rename_i hj0
        replace e := mx_bt e
        obtain ⟨hb, e⟩ := e
        have G := hk _ _ _ _ _ e
        refine ⟨G.1, fun p e s m args below meth c hc hs H locs la A h1 h2 hR hL hl => ?_⟩
        obtain ⟨cell, q1, q2, q3, q4, q5, q6, q7⟩ := hR.at hcell
        refine W.sast A.1 A.2.1 q1 q2 (by rw [q3]; exact fun h => by cases h) (by rw [q4]; exact mx_toClamp hj0 hb) rfl rfl hd fun H1 e1 e2 e3 => ?_
        exact G.2 p e s m args below meth c hc hs H1 _ la A h1 h2 (hR.put ha2 (mx_cell_some hcell).1 (mx_arr_put q2 q3 q4 q5 q6 q7 (mx_blt hb) e1) e2 e3) (mx_locs ha2 hL) hl
    · cases e
  · cases e
theorem mx_s_aast {ci : Nat} {r : vw_C} (hd : decode M.1 pc = .ok (.aastore, 1)) (hcs : mx_Cs B ci r) : mx_Sn B M pc (mx_aast B.2.1.1.2.2.1 ci (pc + 1) r.1) := by
  intro d k call hk hcl ls st h rr e
  unfold mx_aast at e
  split at e
  · rename_i b j a rest
    replace e := mx_bf e
    obtain ⟨ha, e⟩ := e
    have ha2 := mx_nblt ha
    split at e
    · rename_i cz fs hcellb
      replace e := mx_bt e
      obtain ⟨hb, e⟩ := e
      have hci : cz = ci := Nat.eq_of_beq_eq_true hb
      subst hci
      split at e
      · rename_i D n cc hcell
        split at e
        · rename_i hDC
          subst hDC
          split at e
          · cases e
          · rename_i hj0
            replace e := mx_bt e
            obtain ⟨hb2, e⟩ := e
            have G := hk _ _ _ _ _ e
            refine ⟨G.1, fun p e s m args below meth c hc hs H locs la A h1 h2 hR hL hl => ?_⟩
            obtain ⟨cell, q1, q2, q3, q4, q5, q6, q7⟩ := hR.at hcell
            obtain ⟨hlen, cellV, g1, g2, g3, -⟩ := mx_obj hR hcellb hcs.1
            have hcls := (A.2.2.2.2.2.2.2.2.1.1 _ _ hcs.1).2
            obtain ⟨kA, comp, k1, k2, k3, -⟩ := q7 _ rfl
            have hcomp : comp = B.2.1.1.2.1.1 cz := Option.some.inj (k3.symm.trans hcls.1)
            subst hcomp
            obtain ⟨kC, hkC, -⟩ := hcls.2
            refine W.aast A.1 A.2.1 q1 (fun q h => by rw [q3] at h; cases h) (by rw [q3]; exact fun h => by cases h) k1 k2 rfl hkC ⟨hj0, by rw [q4]; exact mx_blt hb2⟩ g1 (fun q h => by rw [g3] at h; cases h) (by rw [g2]; exact hkC) (by rw [g2]; exact va_assign hcls) rfl rfl hd fun H1 e1 e2 e3 => ?_
            exact G.2 p e s m args below meth c hc hs H1 _ la A h1 h2 (hR.put ha2 (mx_cell_some hcell).1 (mx_arr_put (v := .ref b) q2 q3 q4 q5 q6 q7 (mx_blt hb2) e1) e2 e3) (mx_locs ha2 hL) hl
        · cases e
      · cases e
    · cases e
  · cases e
theorem mx_s_alen (hd : decode M.1 pc = .ok (.arraylength, 1)) : mx_Sn B M pc (mx_alen (pc + 1)) := by
  intro d k call hk hcl ls st h rr e
  unfold mx_alen at e
  split at e
  · rename_i a rest
    split at e
    · rename_i ty n cc hcell
      have G := hk _ _ _ _ _ e
      refine ⟨G.1, fun p e s m args below meth c hc hs H locs la A h1 h2 hR hL hl => ?_⟩
      obtain ⟨cell, q1, q2, q3, q4, q5, q6, q7⟩ := hR.at hcell
      exact W.alen A.1 A.2.1 q1 q2 (by rw [q4]) rfl rfl hd (G.2 p e s m args below meth c hc hs H locs la A h1 h2 hR hL hl)
    · cases e
  · cases e
end MXH
end
section
/-! calls, answers, switches, static fields; a method by its table -/
section MXC
variable {B : mx_B} {M : mx_M} {pc : Nat}
theorem mx_s_tsw {df lo hi : Int} {offs : Array Int} {len dt : Nat} {ts : List Nat} (hd : decode M.1 pc = .ok (.tableswitch df lo hi offs, len)) (hdf : (pc : Int) + df = (dt : Int)) (hts : offs.toList.map (fun o => (pc : Int) + o) = ts.map (fun t : Nat => (t : Int))) : mx_Sn B M pc (mx_tsw lo hi ts dt) := by
  intro d k call hk hcl ls st h rr e
  unfold mx_tsw at e
  split at e
  · rename_i x rest
    split at e
    · rename_i hx
      exact mx_G.step (hk _ _ _ _ _ e) (fun p e s m args below meth c R H locs cells slots Q la A hl K => lv_tableOut A.1 A.2.1 hd hx hdf K)
    · rename_i hx
      split at e
      · rename_i t ht
        have h3 : (ts.map (fun t : Nat => (t : Int)))[(x.toInt - lo).toNat]? = some (t : Int) := by rw [List.getElem?_map, ht]; rfl
        rw [← hts, List.getElem?_map] at h3
        cases ho : offs.toList[(x.toInt - lo).toNat]? with
        | none => rw [ho] at h3; cases h3
        | some off =>
          rw [ho] at h3
          have h4 : (pc : Int) + off = (t : Int) := Option.some.inj h3
          exact mx_G.step (hk _ _ _ _ _ e) (fun p e s m args below meth c R H locs cells slots Q la A hl K => lv_tableIn A.1 A.2.1 hd (fun q => hx (Or.inl q)) (fun q => hx (Or.inr q)) (by rw [← Array.getElem?_toList]; exact ho) h4 K)
      · cases e
  · cases e
theorem mx_find_eq {pc df : Int} {dt : Nat} (x : Int) (hdf : pc + df = (dt : Int)) : ∀ (l : List (Int × Int)) (ps : List (Int × Nat)), l.map (fun q => (q.1, pc + q.2)) = ps.map (fun q => (q.1, (q.2 : Int))) → pc + Op.lookupswitch.offset l df x = (mx_find ps dt x : Int)
  | [], [], _ => hdf
  | [], _ :: _, h => by cases h
  | _ :: _, [], h => by cases h
  | (a, o) :: l, (b, t) :: ps, h => by
    have h1 := List.cons.inj h
    have h2 : a = b := congrArg Prod.fst h1.1
    have h3 : pc + o = (t : Int) := congrArg Prod.snd h1.1
    subst h2
    rw [Op.lookupswitch.offset_cons]
    unfold mx_find
    by_cases hx : x = a
    · rw [if_pos hx, if_pos hx.symm]; exact h3
    · rw [if_neg hx, if_neg (fun q => hx q.symm)]; exact mx_find_eq x hdf l ps h1.2
theorem mx_s_lsw {df : Int} {pr : Array (Int × Int)} {len dt : Nat} {ps : List (Int × Nat)} (hd : decode M.1 pc = .ok (.lookupswitch df pr, len)) (hp : (pr.toList.zip (pr.toList.drop 1)).all (fun (a, next) => a.1 < next.1) = true) (hdf : (pc : Int) + df = (dt : Int)) (hps : pr.toList.map (fun q => (q.1, (pc : Int) + q.2)) = ps.map (fun q => (q.1, (q.2 : Int)))) : mx_Sn B M pc (mx_lsw ps dt) := by
  intro d k call hk hcl ls st h rr e
  unfold mx_lsw at e
  split at e
  · rename_i x rest
    exact mx_G.step (hk _ _ _ _ _ e) (fun p e s m args below meth c R H locs cells slots Q la A hl K => lv_lookup A.1 A.2.1 hd hp rfl (mx_find_eq x.toInt hdf _ _ hps) K)
  · cases e
/-- a static field that nobody writes -/
theorem mx_s_gets {i : Nat} {z : mx_Z} (hd : decode M.1 pc = .ok (.getstatic i, 3)) (hz : z ∈ B.2.1.2.2.2.2) (hlink : Cond.fieldLink M.2.2.1 i z.1 z.2.1 z.2.2.1 ∈ B.2.1.2.1) : mx_Sn B M pc (mx_const z.2.2.2 (pc + 3)) := by
  intro d k call hk hcl ls st h rr e
  have G := hk _ _ _ _ _ e
  refine ⟨G.1, fun p e s m args below meth c hc hs H locs la A h1 h2 hR hL hl => ?_⟩
  obtain ⟨cf, kf, fi, f, a, cell, k1, k2, k3, k4, k5, k6, k7, k8⟩ := A.2.2.2.2.2.2.2.2.2.2.2.2 _ hz
  exact W.gets A.1 A.2.1 A.2.2.2.1 (A.2.2.2.2.1 _ hlink) k1 k2 k3 k4 (by rw [hR.2.2.2.1 a (Nat.not_le.mp k8)]; exact k5) (fun e => by rw [e] at k6; cases k6) k7 rfl hd (G.2 p e s m args below meth c hc hs H locs la A h1 h2 hR hL hl)
/-- what a call needs of the method: its name, code, locals, answer, how many parameters -/
def mx_Me (B : mx_B) (mi : Nat) (y : MethodName) (bytes : ByteArray) (maxL : Nat) (ret : Option FieldType) (n : Nat) : Prop :=
  ¬ mi = 0 ∧ B.2.2.1 mi = y ∧ (∃ ws', B.2.2.2 mi = Cond.code y bytes maxL ret :: ws') ∧ GoodIn B.2.1.2.1 (B.2.2.2 mi) ∧ Cond.initialized y.cls ∈ B.2.1.2.1 ∧ (y.cls ≠ "java/lang/invoke/MethodHandle" ∧ y.cls ≠ "java/lang/invoke/VarHandle" ∧ (parseMethodDescriptor y.desc).map (fun d => d.parameters.length) = some n) ∧ maxL ≤ 45
theorem mx_cat_sum {E : mx_E} : ∀ (st : List Value), ((st.map (mx_v E)).map fun v => v.category).sum = mx_cat st
  | [] => rfl
  | v :: r => by
    show (mx_v E v).category + ((r.map (mx_v E)).map fun v => v.category).sum = _
    rw [mx_cat_sum r, mx_v_cat]
    cases v <;> rfl
theorem mx_blind {V : mx_Ev} {as : List Value} {h : mx_H} : FrameBlind (mx_Pc V as h) := by
  intro a U g mk q
  obtain ⟨q1, q2, q3⟩ := q
  have hal : U.vm.Alike (U.calling g mk a).vm := Vm.Alike.refl U.vm
  refine ⟨q1, mx_Rp.moved hal q2, ?_⟩
  obtain ⟨k1, k2, k3, k5, k4⟩ := q3
  exact ⟨va_K.moved hal k1, fun w hw => va_Nw.same rfl rfl (k2 w hw), fun w hw => va_Nw.same rfl rfl (k3 w hw), k5, fun z hz => va_Z.moved hal (k4 z hz)⟩
theorem mx_pre {V : mx_Ev} {s : State} {as : List Value} {h : mx_H} {H : Heap} (hR : mx_Rp V.1 s h H) (hK : mx_KK V s) : ∀ U : State, U.heap = H → s.WarmedH U.vm → mx_Pc V as h (as.map (mx_v V.1)).toArray U := by
  intro U hU hW
  exact ⟨rfl, by rw [hU]; exact mx_Rp.moved hW.alike hR, mx_KK.warm hW hK⟩
/-- behind a call -/
theorem mx_after {d : Nat} {p : Program} {e : Env} {s : State} {m : MethodId} {args : Array Value} {below : List Frame} {meth : Method} {c : Code} {H : Heap} {locs : List Loc} {la : Array Slot} {hc hs nx : Nat} {ls : mx_L} {h : mx_H} {r1 rr : mx_R} {rest st0 : List Value} {aa : Array Value}
    (A : mx_At B M p s m args meth c) (hnx : nx = pc + 3) (h1 : hc ≤ h.1) (h2 : hs ≤ h.2.1) (hle : mx_le h r1.2) (hL : ∀ q ∈ locs, mx_up B.2.1 q.base) (hl : mx_ls B.2.1.1 la M.2.1 ls)
    (G : mx_G B M d nx ls (r1.1.toList ++ rest) r1.2 rr)
    (hr : va_Run p B.1 e (mx_rm d (rr.2.1 - hc) (rr.2.2.1 - hs)) s m args below meth c H locs (h.1 - hc) (h.2.1 - hs) (r1.2.1 - h.1) (r1.2.2.1 - h.2.1) (F0 m pc la (st0.map (mx_v B.2.1.1))) (rest.map (mx_v B.2.1.1)) (mx_Qc B.2.1 r1 aa) (mx_up B.2.1)) :
    W p B.1 e (mx_rm d (rr.2.1 - hc) (rr.2.2.1 - hs)) s m args below meth c H locs (h.1 - hc) (h.2.1 - hs) (MQ below (mx_Qc B.2.1 rr) args s (rr.2.1 - hc) (rr.2.2.1 - hs) (mx_up B.2.1)) (F0 m pc la (st0.map (mx_v B.2.1.1))) := by
  subst hnx
  intro T hT X
  obtain ⟨v, sv, t, T', L, k0, X', hLL, e1, e2, ⟨hv, hRt⟩, st⟩ := hr T hT X
  have hv2 : v = r1.1.map (mx_v B.2.1.1) := Outcome.returned.inj hv
  have z1 : h.1 - hc + (r1.2.1 - h.1) = r1.2.1 - hc := by have := hle.1; omega
  have z2 : h.2.1 - hs + (r1.2.2.1 - h.2.1) = r1.2.2.1 - hs := by have := hle.2; omega
  rw [z1, z2] at X'
  have hal : t.vm.Alike s.vm := by rw [← e2]; exact X'.warmed.alike.symm
  have K := G.2 p e s m args below meth c hc hs T'.heap (locs ++ L) la A (Nat.le_trans h1 hle.1) (Nat.le_trans h2 hle.2) (by rw [e1]; exact mx_Rp.moved hal hRt) (fun q hq => by
    rcases List.mem_append.mp hq with hq | hq
    · exact hL q hq
    · exact hLL q hq) hl
  obtain ⟨t2, a1, b1⟩ := K T' rfl X'
  refine ⟨t2, st t2 ?_, b1⟩
  have z3 : v.toList ++ rest.map (mx_v B.2.1.1) = (r1.1.toList ++ rest).map (mx_v B.2.1.1) := by
    rw [hv2]
    cases r1.1 <;> rfl
  rw [z3]
  exact a1
theorem mx_take {st : List Value} {nt : Nat} {l : List Value} (h : (st.take nt).reverse = l) : st = l.reverse ++ st.drop nt := by
  rw [← h, List.reverse_reverse, List.take_append_drop]
theorem mx_ret1_eq {k : mx_K} {nx : Nat} {ls : mx_L} {rest : List Value} (r1 : mx_R) : mx_ret1 k nx ls rest r1 = k nx ls (r1.1.toList ++ rest) r1.2 := by
  obtain ⟨v, h⟩ := r1
  cases v <;> rfl
theorem mx_s_callv {i mi nt ci maxL : Nat} {y : MethodName} {bytes : ByteArray} {ret : Option FieldType} {r : vw_C}  (hd : decode M.1 pc = .ok (.invokevirtual i, 3)) (hm : mx_Me B mi y bytes maxL ret (nt - 1)) (hcl : B.2.1.1.1[ci]? = some r) (hin : Cond.instanceMethod y ∈ B.2.1.2.1) (hsel : Cond.selects r.1 y y ∈ B.2.1.2.1) (hlink : Cond.methodLink M.2.2.1 i y ∈ B.2.1.2.1) : mx_Sn B M pc (mx_callv mi nt ci (pc + 3)) := by
  intro d k call hk hcall ls st h rr e
  unfold mx_callv at e
  split at e
  · rename_i b as hst
    split at e
    · rename_i cz fs hcell
      replace e := mx_bt e
      obtain ⟨hb, e⟩ := e
      obtain ⟨hb1, hb2⟩ := mx_and hb
      obtain ⟨hb2, hb3⟩ := mx_and hb2
      have hci : cz = ci := Nat.eq_of_beq_eq_true hb1
      subst hci
      have hlen : as.length = nt - 1 := Nat.eq_of_beq_eq_true hb2
      have hcat := Nat.ble_eq.mp hb3
      split at e
      · rename_i r1 hr1
        rw [mx_ret1_eq] at e
        have G := hk _ _ _ _ _ e
        obtain ⟨hm0, hm1, ⟨ws', hm2⟩, hm3, hm4, hm5, hm6⟩ := hm
        obtain ⟨d', hdd, hle, hMet⟩ := hcall _ _ _ _ hr1
        have hMet := hMet hm0
        rw [hm1] at hMet
        have g1 := G.1.1
        have g2 := G.1.2
        refine ⟨hle.tr G.1, fun p e s m args below meth c hc hs H locs la A h1 h2 hR hL hl => ?_⟩
        subst hdd
        obtain ⟨hlenf, cell, q1, q2, q3, q4⟩ := mx_obj hR hcell hcl
        have hcls := (A.2.2.2.2.2.2.2.2.1.1 _ _ hcl).2
        refine mx_after (aa := ((Value.ref b :: as).map (mx_v B.2.1.1)).toArray) A rfl h1 h2 hle hL hl G ?_
        exact va_runV (C := r.1) (b := mx_rho B.2.1.1 b) (As := as.map (mx_v B.2.1.1)) (rest := (st.drop nt).map (mx_v B.2.1.1)) ⟨A.1, A.2.1, A.2.2.1, A.2.2.2.1, A.2.2.2.2.1⟩ hMet ⟨callB_of (nt - 1) A.2.2.2.2.1 hm3 hm2 rfl rfl (A.2.2.2.2.1 _ hm4) (A.2.2.2.2.1 _ hlink) hm5 ⟨Nat.le_refl _, by show 8 + (maxL + 11) + 64 * d' ≤ 64 * (d' + 1); omega⟩, A.2.2.2.2.1 _ hin, A.2.2.2.2.1 _ hsel⟩ ⟨mx_blind, ⟨cell, q1, by rw [q3]; rfl, by rw [q2]; exact hcls.1⟩, mx_pre (as := .ref b :: as) hR A.2.2.2.2.2.2.2.2⟩ rfl (by rw [List.length_map]; exact hlen) (hl.1) (by
            show st.map (mx_v B.2.1.1) = _
            conv => lhs; rw [mx_take hst]
            rw [List.reverse_cons, List.append_assoc, List.map_append, List.map_append, List.map_reverse]; rfl) (lv_room (by rw [mx_cat_sum]; exact hcat)) hd ⟨by show _ ≤ rr.2.1 - hc; have := hle.1; omega, by show _ ≤ rr.2.2.1 - hs; have := hle.2; omega⟩
      · cases e
    · cases e
  · cases e
theorem mx_s_callvN {i mi nt ci maxL : Nat} {y : MethodName} {bytes : ByteArray} {ret : Option FieldType} {r : vw_C} {host : String} (hd : decode M.1 pc = .ok (.invokevirtual i, 3)) (hm : mx_Me B mi y bytes maxL ret (nt - 1)) (hcl : B.2.1.1.1[ci]? = some r) (hin : Cond.instanceMethod y ∈ B.2.1.2.1) (hsel : Cond.selects r.1 y y ∈ B.2.1.2.1) (hlink : (M.2.2.1, i, y, host) ∈ B.2.1.2.2.2.1) : mx_Sn B M pc (mx_callv mi nt ci (pc + 3)) := by
  intro d k call hk hcall ls st h rr e
  unfold mx_callv at e
  split at e
  · rename_i b as hst
    split at e
    · rename_i cz fs hcell
      replace e := mx_bt e
      obtain ⟨hb, e⟩ := e
      obtain ⟨hb1, hb2⟩ := mx_and hb
      obtain ⟨hb2, hb3⟩ := mx_and hb2
      have hci : cz = ci := Nat.eq_of_beq_eq_true hb1
      subst hci
      have hlen : as.length = nt - 1 := Nat.eq_of_beq_eq_true hb2
      have hcat := Nat.ble_eq.mp hb3
      split at e
      · rename_i r1 hr1
        rw [mx_ret1_eq] at e
        have G := hk _ _ _ _ _ e
        obtain ⟨hm0, hm1, ⟨ws', hm2⟩, hm3, hm4, hm5, hm6⟩ := hm
        obtain ⟨d', hdd, hle, hMet⟩ := hcall _ _ _ _ hr1
        have hMet := hMet hm0
        rw [hm1] at hMet
        have g1 := G.1.1
        have g2 := G.1.2
        refine ⟨hle.tr G.1, fun p e s m args below meth c hc hs H locs la A h1 h2 hR hL hl => ?_⟩
        subst hdd
        obtain ⟨hlenf, cell, q1, q2, q3, q4⟩ := mx_obj hR hcell hcl
        have hcls := (A.2.2.2.2.2.2.2.2.1.1 _ _ hcl).2
        refine mx_after (aa := ((Value.ref b :: as).map (mx_v B.2.1.1)).toArray) A rfl h1 h2 hle hL hl G ?_
        exact va_runVN (C := r.1) (b := mx_rho B.2.1.1 b) (As := as.map (mx_v B.2.1.1)) (rest := (st.drop nt).map (mx_v B.2.1.1)) ⟨A.1, A.2.1, A.2.2.1, A.2.2.2.1, A.2.2.2.2.1⟩ hMet ⟨va_cnB (nt - 1) A.2.2.2.2.1 hm3 hm2 rfl rfl (A.2.2.2.2.2.2.2.2.2.2.1 _ hlink) (A.2.2.2.2.1 _ hm4) hm5 ⟨Nat.le_refl _, by show 8 + (maxL + 11) + 64 * d' ≤ 64 * (d' + 1); omega⟩, A.2.2.2.2.1 _ hin, A.2.2.2.2.1 _ hsel⟩ ⟨mx_blind, ⟨cell, q1, by rw [q3]; rfl, by rw [q2]; exact hcls.1⟩, mx_pre (as := .ref b :: as) hR A.2.2.2.2.2.2.2.2⟩ rfl (by rw [List.length_map]; exact hlen) (hl.1) (by
            show st.map (mx_v B.2.1.1) = _
            conv => lhs; rw [mx_take hst]
            rw [List.reverse_cons, List.append_assoc, List.map_append, List.map_append, List.map_reverse]; rfl) (lv_room (by rw [mx_cat_sum]; exact hcat)) hd ⟨by show _ ≤ rr.2.1 - hc; have := hle.1; omega, by show _ ≤ rr.2.2.1 - hs; have := hle.2; omega⟩
      · cases e
    · cases e
  · cases e
theorem mx_s_calls {i mi nt maxL : Nat} {y : MethodName} {bytes : ByteArray} {ret : Option FieldType}  (hd : decode M.1 pc = .ok (.invokestatic i, 3)) (hm : mx_Me B mi y bytes maxL ret nt) (hstat : Cond.static y ∈ B.2.1.2.1) (hlink : Cond.methodLink M.2.2.1 i y ∈ B.2.1.2.1) : mx_Sn B M pc (mx_calls mi nt (pc + 3)) := by
  intro d k call hk hcall ls st h rr e
  unfold mx_calls at e
  replace e := mx_bt e
  obtain ⟨hb, e⟩ := e
  obtain ⟨hb2, hb3⟩ := mx_and hb
  have hlen : (st.take nt).length = nt := Nat.eq_of_beq_eq_true hb2
  have hcat := Nat.ble_eq.mp hb3
  split at e
  · rename_i r1 hr1
    rw [mx_ret1_eq] at e
    have G := hk _ _ _ _ _ e
    obtain ⟨hm0, hm1, ⟨ws', hm2⟩, hm3, hm4, hm5, hm6⟩ := hm
    obtain ⟨d', hdd, hle, hMet⟩ := hcall _ _ _ _ hr1
    have hMet := hMet hm0
    rw [hm1] at hMet
    have g1 := G.1.1
    have g2 := G.1.2
    refine ⟨hle.tr G.1, fun p e s m args below meth c hc hs H locs la A h1 h2 hR hL hl => ?_⟩
    subst hdd
    refine mx_after (aa := ((st.take nt).reverse.map (mx_v B.2.1.1)).toArray) A rfl h1 h2 hle hL hl G ?_
    exact va_runS (As := (st.take nt).reverse.map (mx_v B.2.1.1)) (rest := (st.drop nt).map (mx_v B.2.1.1)) ⟨A.1, A.2.1, A.2.2.1, A.2.2.2.1, A.2.2.2.2.1⟩ hMet ⟨callB_of nt A.2.2.2.2.1 hm3 hm2 rfl rfl (A.2.2.2.2.1 _ hm4) (A.2.2.2.2.1 _ hlink) hm5 ⟨Nat.le_refl _, by show 8 + (maxL + 11) + 64 * d' ≤ 64 * (d' + 1); omega⟩, A.2.2.2.2.1 _ hstat⟩ ⟨mx_blind, mx_pre hR A.2.2.2.2.2.2.2.2⟩ rfl (by rw [List.length_map, List.length_reverse]; exact hlen) (hl.1) (by
            show st.map (mx_v B.2.1.1) = _
            rw [← List.map_reverse, List.reverse_reverse, ← List.map_append, List.take_append_drop]) (lv_room (by rw [mx_cat_sum]; exact hcat)) hd ⟨by show _ ≤ rr.2.1 - hc; have := hle.1; omega, by show _ ≤ rr.2.2.1 - hs; have := hle.2; omega⟩
  · cases e
theorem mx_s_callsN {i mi nt maxL : Nat} {y : MethodName} {bytes : ByteArray} {ret : Option FieldType} {host : String} (hd : decode M.1 pc = .ok (.invokestatic i, 3)) (hm : mx_Me B mi y bytes maxL ret nt) (hstat : Cond.static y ∈ B.2.1.2.1) (hlink : (M.2.2.1, i, y, host) ∈ B.2.1.2.2.2.1) : mx_Sn B M pc (mx_calls mi nt (pc + 3)) := by
  intro d k call hk hcall ls st h rr e
  unfold mx_calls at e
  replace e := mx_bt e
  obtain ⟨hb, e⟩ := e
  obtain ⟨hb2, hb3⟩ := mx_and hb
  have hlen : (st.take nt).length = nt := Nat.eq_of_beq_eq_true hb2
  have hcat := Nat.ble_eq.mp hb3
  split at e
  · rename_i r1 hr1
    rw [mx_ret1_eq] at e
    have G := hk _ _ _ _ _ e
    obtain ⟨hm0, hm1, ⟨ws', hm2⟩, hm3, hm4, hm5, hm6⟩ := hm
    obtain ⟨d', hdd, hle, hMet⟩ := hcall _ _ _ _ hr1
    have hMet := hMet hm0
    rw [hm1] at hMet
    have g1 := G.1.1
    have g2 := G.1.2
    refine ⟨hle.tr G.1, fun p e s m args below meth c hc hs H locs la A h1 h2 hR hL hl => ?_⟩
    subst hdd
    refine mx_after (aa := ((st.take nt).reverse.map (mx_v B.2.1.1)).toArray) A rfl h1 h2 hle hL hl G ?_
    exact va_runSN (As := (st.take nt).reverse.map (mx_v B.2.1.1)) (rest := (st.drop nt).map (mx_v B.2.1.1)) ⟨A.1, A.2.1, A.2.2.1, A.2.2.2.1, A.2.2.2.2.1⟩ hMet ⟨va_cnB nt A.2.2.2.2.1 hm3 hm2 rfl rfl (A.2.2.2.2.2.2.2.2.2.2.1 _ hlink) (A.2.2.2.2.1 _ hm4) hm5 ⟨Nat.le_refl _, by show 8 + (maxL + 11) + 64 * d' ≤ 64 * (d' + 1); omega⟩, A.2.2.2.2.1 _ hstat, trivial⟩ ⟨mx_blind, mx_pre hR A.2.2.2.2.2.2.2.2⟩ rfl (by rw [List.length_map, List.length_reverse]; exact hlen) (hl.1) (by
            show st.map (mx_v B.2.1.1) = _
            rw [← List.map_reverse, List.reverse_reverse, ← List.map_append, List.take_append_drop]) (lv_room (by rw [mx_cat_sum]; exact hcat)) hd ⟨by show _ ≤ rr.2.1 - hc; have := hle.1; omega, by show _ ≤ rr.2.2.1 - hs; have := hle.2; omega⟩
  · cases e
theorem mx_s_calli {i mi nt maxL : Nat} {y : MethodName} {bytes : ByteArray}  (hd : decode M.1 pc = .ok (.invokespecial i, 3)) (hm : mx_Me B mi y bytes maxL none (nt - 1)) (hin : Cond.instanceMethod y ∈ B.2.1.2.1) (hy : y.name = "<init>") (hlink : Cond.methodLink M.2.2.1 i y ∈ B.2.1.2.1) : mx_Sn B M pc (mx_calli mi nt (pc + 3)) := by
  intro d k call hk hcall ls st h rr e
  unfold mx_calli at e
  split at e
  · rename_i b as hst
    replace e := mx_bt e
    obtain ⟨hb, e⟩ := e
    obtain ⟨hb2, hb3⟩ := mx_and hb
    have hlen : as.length = nt - 1 := Nat.eq_of_beq_eq_true hb2
    have hcat := Nat.ble_eq.mp hb3
    split at e
    · rename_i r1 hr1
      replace e := mx_bt e
      obtain ⟨hnone, e⟩ := e
      have G : mx_G B M d (pc + 3) ls (r1.1.toList ++ st.drop nt) r1.2 rr := by
        rw [Option.isNone_iff_eq_none.mp hnone]; exact hk _ _ _ _ _ e
      obtain ⟨hm0, hm1, ⟨ws', hm2⟩, hm3, hm4, hm5, hm6⟩ := hm
      obtain ⟨d', hdd, hle, hMet⟩ := hcall _ _ _ _ hr1
      have hMet := hMet hm0
      rw [hm1] at hMet
      have g1 := G.1.1
      have g2 := G.1.2
      refine ⟨hle.tr G.1, fun p e s m args below meth c hc hs H locs la A h1 h2 hR hL hl => ?_⟩
      subst hdd
      refine mx_after (aa := ((Value.ref b :: as).map (mx_v B.2.1.1)).toArray) A rfl h1 h2 hle hL hl G ?_
      exact va_runI (b := mx_rho B.2.1.1 b) (As := as.map (mx_v B.2.1.1)) (rest := (st.drop nt).map (mx_v B.2.1.1)) ⟨A.1, A.2.1, A.2.2.1, A.2.2.2.1, A.2.2.2.2.1⟩ hMet ⟨callB_of (nt - 1) A.2.2.2.2.1 hm3 hm2 rfl rfl (A.2.2.2.2.1 _ hm4) (A.2.2.2.2.1 _ hlink) hm5 ⟨Nat.le_refl _, by show 8 + (maxL + 11) + 64 * d' ≤ 64 * (d' + 1); omega⟩, hy, A.2.2.2.2.1 _ hin⟩ ⟨mx_blind, mx_pre (as := .ref b :: as) hR A.2.2.2.2.2.2.2.2⟩ rfl (by rw [List.length_map]; exact hlen) (hl.1) (by
            show st.map (mx_v B.2.1.1) = _
            conv => lhs; rw [mx_take hst]
            rw [List.reverse_cons, List.append_assoc, List.map_append, List.map_append, List.map_reverse]; rfl) (lv_room (by rw [mx_cat_sum]; exact hcat)) hd ⟨by show _ ≤ rr.2.1 - hc; have := hle.1; omega, by show _ ≤ rr.2.2.1 - hs; have := hle.2; omega⟩
    · cases e
  · cases e
theorem mx_s_calliN {i mi nt maxL : Nat} {y : MethodName} {bytes : ByteArray} {host : String} (hd : decode M.1 pc = .ok (.invokespecial i, 3)) (hm : mx_Me B mi y bytes maxL none (nt - 1)) (hin : Cond.instanceMethod y ∈ B.2.1.2.1) (hy : y.name = "<init>") (hlink : (M.2.2.1, i, y, host) ∈ B.2.1.2.2.2.1) : mx_Sn B M pc (mx_calli mi nt (pc + 3)) := by
  intro d k call hk hcall ls st h rr e
  unfold mx_calli at e
  split at e
  · rename_i b as hst
    replace e := mx_bt e
    obtain ⟨hb, e⟩ := e
    obtain ⟨hb2, hb3⟩ := mx_and hb
    have hlen : as.length = nt - 1 := Nat.eq_of_beq_eq_true hb2
    have hcat := Nat.ble_eq.mp hb3
    split at e
    · rename_i r1 hr1
      replace e := mx_bt e
      obtain ⟨hnone, e⟩ := e
      have G : mx_G B M d (pc + 3) ls (r1.1.toList ++ st.drop nt) r1.2 rr := by
        rw [Option.isNone_iff_eq_none.mp hnone]; exact hk _ _ _ _ _ e
      obtain ⟨hm0, hm1, ⟨ws', hm2⟩, hm3, hm4, hm5, hm6⟩ := hm
      obtain ⟨d', hdd, hle, hMet⟩ := hcall _ _ _ _ hr1
      have hMet := hMet hm0
      rw [hm1] at hMet
      have g1 := G.1.1
      have g2 := G.1.2
      refine ⟨hle.tr G.1, fun p e s m args below meth c hc hs H locs la A h1 h2 hR hL hl => ?_⟩
      subst hdd
      refine mx_after (aa := ((Value.ref b :: as).map (mx_v B.2.1.1)).toArray) A rfl h1 h2 hle hL hl G ?_
      exact va_runIN (b := mx_rho B.2.1.1 b) (As := as.map (mx_v B.2.1.1)) (rest := (st.drop nt).map (mx_v B.2.1.1)) ⟨A.1, A.2.1, A.2.2.1, A.2.2.2.1, A.2.2.2.2.1⟩ hMet ⟨va_cnB (nt - 1) A.2.2.2.2.1 hm3 hm2 rfl rfl (A.2.2.2.2.2.2.2.2.2.2.1 _ hlink) (A.2.2.2.2.1 _ hm4) hm5 ⟨Nat.le_refl _, by show 8 + (maxL + 11) + 64 * d' ≤ 64 * (d' + 1); omega⟩, hy, A.2.2.2.2.1 _ hin⟩ ⟨mx_blind, mx_pre (as := .ref b :: as) hR A.2.2.2.2.2.2.2.2⟩ rfl (by rw [List.length_map]; exact hlen) (hl.1) (by
            show st.map (mx_v B.2.1.1) = _
            conv => lhs; rw [mx_take hst]
            rw [List.reverse_cons, List.append_assoc, List.map_append, List.map_append, List.map_reverse]; rfl) (lv_room (by rw [mx_cat_sum]; exact hcat)) hd ⟨by show _ ≤ rr.2.1 - hc; have := hle.1; omega, by show _ ≤ rr.2.2.1 - hs; have := hle.2; omega⟩
    · cases e
  · cases e
theorem mx_s_objinit {i : Nat} (hd : decode M.1 pc = .ok (.invokespecial i, 3)) (hlink : Cond.methodLink M.2.2.1 i objectInit ∈ B.2.1.2.1) (hin : Cond.instanceMethod objectInit ∈ B.2.1.2.1) (hco : Cond.code objectInit ⟨#[0xb1]⟩ 1 none ∈ B.2.1.2.1) : mx_Sn B M pc (mx_objinit (pc + 3)) := by
  intro d k call hk hcall ls st h rr e
  unfold mx_objinit at e
  split at e
  · rename_i a rest
    replace e := mx_bt e
    obtain ⟨hb, e⟩ := e
    have hcat := Nat.ble_eq.mp hb
    split at e
    · rename_i r1 hr1
      obtain ⟨d', hdd, hle, hMet⟩ := hcall _ _ _ _ hr1
      have G := hk _ _ _ _ _ e
      refine ⟨G.1, fun p e s m args below meth c hc hs H locs la A h1 h2 hR hL hl => ?_⟩
      subst hdd
      refine W.objInit A.1 A.2.1 A.2.2.2.1 (A.2.2.2.2.1 _ hlink) (A.2.2.2.2.1 _ hin) (A.2.2.2.2.1 _ hco) rfl (by rw [A.2.2.1]; exact hl.1) rfl hd (by show 1 ≤ d' + 1; omega) ?_ (G.2 p e s m args below meth c hc hs H locs la A h1 h2 hR hL hl)
      show 2 * 0 + _ + 12 ≤ 64 * (d' + 1)
      rw [mx_cat_sum]; omega
    · cases e
  · cases e
theorem mx_s_mmax {i : Nat} (hd : decode M.1 pc = .ok (.invokestatic i, 3)) (hlink : Cond.methodLink M.2.2.1 i Lib.Math.max.name ∈ B.2.1.2.1) (hstat : Cond.static Lib.Math.max.name ∈ B.2.1.2.1) (hini : Cond.initialized "java/lang/Math" ∈ B.2.1.2.1) (hco : Cond.code Lib.Math.max.name Lib.Math.max.code 2 (some .int) ∈ B.2.1.2.1) : mx_Sn B M pc (mx_mmax (pc + 3)) := by
  intro d k call hk hcall ls st h rr e
  unfold mx_mmax at e
  split at e
  · rename_i y x rest
    replace e := mx_bt e
    obtain ⟨hb, e⟩ := e
    have hcat := Nat.ble_eq.mp hb
    split at e
    · rename_i r1 hr1
      obtain ⟨d', hdd, hle, hMet⟩ := hcall _ _ _ _ hr1
      have G := hk _ _ _ _ _ e
      have g1 := G.1.1
      have g2 := G.1.2
      refine ⟨G.1, fun p e s m args below meth c hc hs H locs la A h1 h2 hR hL hl => ?_⟩
      subst hdd
      refine va_mmax A.1 A.2.1 (by rw [A.2.2.1]; exact hl.1.symm) A.2.2.2.1 (A.2.2.2.2.1 _ hlink) (A.2.2.2.2.1 _ hstat) (A.2.2.2.2.1 _ hini) (A.2.2.2.2.1 _ hco) (by show 1 ≤ d' + 1; omega) ?_ (by show _ ≤ rr.2.1 - hc; omega) (by show _ ≤ rr.2.2.1 - hs; omega) hd (G.2 p e s m args below meth c hc hs H locs la A h1 h2 hR hL hl)
      show _ + 13 ≤ 64 * (d' + 1)
      rw [mx_cat_sum]; omega
    · cases e
  · cases e
theorem mx_s_mmin {i : Nat} (hd : decode M.1 pc = .ok (.invokestatic i, 3)) (hlink : Cond.methodLink M.2.2.1 i Lib.Math.min.name ∈ B.2.1.2.1) (hstat : Cond.static Lib.Math.min.name ∈ B.2.1.2.1) (hini : Cond.initialized "java/lang/Math" ∈ B.2.1.2.1) (hco : Cond.code Lib.Math.min.name Lib.Math.min.code 2 (some .int) ∈ B.2.1.2.1) : mx_Sn B M pc (mx_mmin (pc + 3)) := by
  intro d k call hk hcall ls st h rr e
  unfold mx_mmin at e
  split at e
  · rename_i y x rest
    replace e := mx_bt e
    obtain ⟨hb, e⟩ := e
    have hcat := Nat.ble_eq.mp hb
    split at e
    · rename_i r1 hr1
      obtain ⟨d', hdd, hle, hMet⟩ := hcall _ _ _ _ hr1
      have G := hk _ _ _ _ _ e
      have g1 := G.1.1
      have g2 := G.1.2
      refine ⟨G.1, fun p e s m args below meth c hc hs H locs la A h1 h2 hR hL hl => ?_⟩
      subst hdd
      refine va_mmin A.1 A.2.1 (by rw [A.2.2.1]; exact hl.1.symm) A.2.2.2.1 (A.2.2.2.2.1 _ hlink) (A.2.2.2.2.1 _ hstat) (A.2.2.2.2.1 _ hini) (A.2.2.2.2.1 _ hco) (by show 1 ≤ d' + 1; omega) ?_ (by show _ ≤ rr.2.1 - hc; omega) (by show _ ≤ rr.2.2.1 - hs; omega) hd (G.2 p e s m args below meth c hc hs H locs la A h1 h2 hR hL hl)
      show _ + 13 ≤ 64 * (d' + 1)
      rw [mx_cat_sum]; omega
    · cases e
  · cases e
theorem mx_s_iret (hd : decode M.1 pc = .ok (.ireturn, 1)) (hr : M.2.2.2.2 = some .int) : mx_Sn B M pc mx_iret := by
  intro d k call hk hcall ls st h rr e
  unfold mx_iret at e
  split at e
  · cases e
    refine ⟨mx_le.rf h, fun p e s m args below meth c hc hs H locs la A h1 h2 hR hL hl => ?_⟩
    exact W.iret A.1 A.2.1 (A.2.2.2.2.2.1.trans hr) (fun t ht hW => ⟨rfl, by rw [ht]; exact mx_Rp.moved hW.alike hR⟩) hL hd A.2.2.2.2.2.2.1
  · cases e
theorem mx_s_zret (hd : decode M.1 pc = .ok (.ireturn, 1)) (hr : M.2.2.2.2 = some .boolean) : mx_Sn B M pc mx_zret := by
  intro d k call hk hcall ls st h rr e
  unfold mx_zret at e
  split at e
  · split at e
    · rename_i hv
      cases e
      refine ⟨mx_le.rf h, fun p e s m args below meth c hc hs H locs la A h1 h2 hR hL hl => ?_⟩
      refine W.zret A.1 A.2.1 (A.2.2.2.2.2.1.trans hr) ?_ (fun t ht hW => ⟨rfl, by rw [ht]; exact mx_Rp.moved hW.alike hR⟩) hL hd A.2.2.2.2.2.2.1
      rcases hv with hv | hv
      · subst hv; decide +kernel
      · subst hv; decide +kernel
    · cases e
  · cases e
theorem mx_s_lret (hd : decode M.1 pc = .ok (.lreturn, 1)) (hr : M.2.2.2.2 = some .long) : mx_Sn B M pc mx_lret := by
  intro d k call hk hcall ls st h rr e
  unfold mx_lret at e
  split at e
  · cases e
    refine ⟨mx_le.rf h, fun p e s m args below meth c hc hs H locs la A h1 h2 hR hL hl => ?_⟩
    exact W.lret A.1 A.2.1 (A.2.2.2.2.2.1.trans hr) (fun t ht hW => ⟨rfl, by rw [ht]; exact mx_Rp.moved hW.alike hR⟩) hL hd A.2.2.2.2.2.2.1
  · cases e
theorem mx_s_vret (hd : decode M.1 pc = .ok (.return_, 1)) (hr : M.2.2.2.2 = none) : mx_Sn B M pc mx_vret := by
  intro d k call hk hcall ls st h rr e
  unfold mx_vret at e
  split at e
  · cases e
    refine ⟨mx_le.rf h, fun p e s m args below meth c hc hs H locs la A h1 h2 hR hL hl => ?_⟩
    exact W.vret A.1 A.2.1 (A.2.2.2.2.2.1.trans hr) (fun t ht hW => ⟨rfl, by rw [ht]; exact mx_Rp.moved hW.alike hR⟩) hL hd A.2.2.2.2.2.2.1
  · cases e
theorem mx_s_aret {rt : FieldType} (hd : decode M.1 pc = .ok (.areturn, 1)) (hr : M.2.2.2.2 = some rt) (hrt : (∃ n, rt = .object n) ∨ ∃ t, rt = .array t) : mx_Sn B M pc mx_aret := by
  intro d k call hk hcall ls st h rr e
  unfold mx_aret at e
  split at e
  · rename_i a
    cases e
    refine ⟨mx_le.rf h, fun p e s m args below meth c hc hs H locs la A h1 h2 hR hL hl => ?_⟩
    exact W.aret (v := .ref (mx_rho B.2.1.1 a)) A.1 A.2.1 (A.2.2.2.2.2.1.trans hr) hrt (Or.inr ⟨_, rfl⟩) (fun t ht hW => ⟨rfl, by rw [ht]; exact mx_Rp.moved hW.alike hR⟩) hL hd A.2.2.2.2.2.2.1
  · cases e
    refine ⟨mx_le.rf h, fun p e s m args below meth c hc hs H locs la A h1 h2 hR hL hl => ?_⟩
    exact W.aret (v := .null) A.1 A.2.1 (A.2.2.2.2.2.1.trans hr) hrt (Or.inl rfl) (fun t ht hW => ⟨rfl, by rw [ht]; exact mx_Rp.moved hW.alike hR⟩) hL hd A.2.2.2.2.2.2.1
  · cases e
/-- the entry's locals -/
theorem mx_ent_len : ∀ (as : List Value) (n : Nat), (lg_sl as).length ≤ (mx_ent as n).length
  | [], n => Nat.zero_le _
  | v :: vs, n => by
    have h2 := mx_ent_len vs (n - 2)
    have h1 := mx_ent_len vs (n - 1)
    cases v <;> (simp [lg_sl, mx_ent, Value.category, List.flatMap_cons] at h1 h2 ⊢; omega)
theorem mx_ent_at {E : mx_E} : ∀ (as : List Value) (n b i : Nat) (v : Value), (mx_ent as n)[i]? = some (some v) → (b + i, mx_v E v) ∈ lv_args b (as.map (mx_v E))
  | [], n, b, i, v, h => by
    unfold mx_ent at h
    rw [List.getElem?_replicate] at h
    split at h <;> cases h
  | a :: vs, n, b, i, v, h => by
    show (b + i, mx_v E v) ∈ (b, mx_v E a) :: lv_args (if (mx_v E a).category = 2 then b + 2 else b + 1) (vs.map (mx_v E))
    rw [mx_v_cat]
    have one : ∀ l : mx_L, (some a :: l)[i]? = some (some v) → (i = 0 ∧ v = a) ∨ ∃ j, i = j + 1 ∧ l[j]? = some (some v) := by
      intro l hl
      cases i with
      | zero => left; cases hl; exact ⟨rfl, rfl⟩
      | succ j => right; exact ⟨j, rfl, by rw [List.getElem?_cons_succ] at hl; exact hl⟩
    have fin1 : a.category = 1 → ((i = 0 ∧ v = a) ∨ ∃ j, i = j + 1 ∧ (mx_ent vs (n - 1))[j]? = some (some v)) → (b + i, mx_v E v) ∈ (b, mx_v E a) :: lv_args (if a.category = 2 then b + 2 else b + 1) (vs.map (mx_v E)) := by
      intro hc hh
      rw [if_neg (by rw [hc]; decide)]
      rcases hh with ⟨rfl, rfl⟩ | ⟨j, rfl, hj⟩
      · exact List.mem_cons_self
      · have := mx_ent_at (E := E) vs (n - 1) (b + 1) j v hj
        rw [show b + (j + 1) = b + 1 + j by omega]
        exact List.mem_cons_of_mem _ this
    have fin2 : a.category = 2 → ((i = 0 ∧ v = a) ∨ ∃ j, i = j + 1 ∧ (none :: mx_ent vs (n - 2))[j]? = some (some v)) → (b + i, mx_v E v) ∈ (b, mx_v E a) :: lv_args (if a.category = 2 then b + 2 else b + 1) (vs.map (mx_v E)) := by
      intro hc hh
      rw [if_pos hc]
      rcases hh with ⟨rfl, rfl⟩ | ⟨j, rfl, hj⟩
      · exact List.mem_cons_self
      · cases j with
        | zero => cases hj
        | succ j =>
          rw [List.getElem?_cons_succ] at hj
          have := mx_ent_at (E := E) vs (n - 2) (b + 2) j v hj
          rw [show b + (j + 1 + 1) = b + 2 + j by omega]
          exact List.mem_cons_of_mem _ this
    cases a <;> first | exact fin1 rfl (one _ h) | exact fin2 rfl (one _ h)
theorem mx_entry {E : mx_E} {as : List Value} {n : Nat} (hn : (mx_ent as n).length = n) : mx_ls E ((lg_sl (as.map (mx_v E)) ++ List.replicate (n - (lg_sl (as.map (mx_v E))).length) Slot.unset).toArray) n (mx_ent as n) := by
  have hsl : (lg_sl (as.map (mx_v E))).length = (lg_sl as).length := by
    clear hn
    induction as with
    | nil => rfl
    | cons v vs ih =>
      simp only [lg_sl, List.map_cons, List.flatMap_cons, List.length_append, mx_v_cat] at ih ⊢
      rw [ih]
      split <;> rfl
  have h := lv_entry (as.map (mx_v E)) (n := n) (by rw [hsl]; have := mx_ent_len as n; omega)
  exact mx_ls_of h hn (fun i v hv => by have := mx_ent_at (E := E) as n 0 i v hv; rw [Nat.zero_add] at this; exact this)
/-- a method whose table is sound; all of them: what the small machine answers, the machine does -/
def mx_Ok (B : mx_B) (P : mx_P) (mi : Nat) : Prop := ∃ M : mx_M, (∀ pc, mx_Sn B M pc ((P mi).2 pc)) ∧ (P mi).1 = M.2.1 ∧ (B.2.2.1 mi).cls = M.2.2.1 ∧ (B.2.2.1 mi).name = M.2.2.2.1 ∧ plainName (B.2.2.1 mi).cls = true ∧ B.2.2.2 mi = Cond.code (B.2.2.1 mi) M.1 M.2.1 M.2.2.2.2 :: B.2.1.2.1
theorem mx_ev_ok {P : mx_P} {fuel : Nat} (hP : ∀ mi, ¬ mi = 0 → mx_Ok B P mi) : ∀ d, mx_Cl B d (mx_ev P fuel d)
  | 0 => fun _ _ _ _ e => by cases e
  | d + 1 => by
    intro mi as h r e
    have e2 : (bif Nat.beq mi 0 then some ((none, h) : mx_R) else bif Nat.beq (mx_ent as (P mi).1).length (P mi).1 then mx_run (P mi).2 (mx_ev P fuel d) fuel 0 (mx_ent as (P mi).1) [] h else none) = some r := e
    refine ⟨d, rfl, ?_⟩
    cases h0 : Nat.beq mi 0 with
    | true =>
      rw [h0] at e2
      cases e2
      exact ⟨mx_le.rf h, fun z => absurd (Nat.eq_of_beq_eq_true h0) z⟩
    | false =>
      rw [h0] at e2
      obtain ⟨hb, e3⟩ := mx_bt (show (bif Nat.beq (mx_ent as (P mi).1).length (P mi).1 then mx_run (P mi).2 (mx_ev P fuel d) fuel 0 (mx_ent as (P mi).1) [] h else none) = some r from e2)
      have hlen : (mx_ent as (P mi).1).length = (P mi).1 := Nat.eq_of_beq_eq_true hb
      have hmi : ¬ mi = 0 := fun z => by rw [z] at h0; cases h0
      obtain ⟨M, k1, k2, k3, k4, k5, k6⟩ := hP mi hmi
      have G := mx_run_ok k1 (mx_ev_ok hP d) fuel 0 (mx_ent as (P mi).1) [] h r e3
      refine ⟨G.1, fun _ => ?_⟩
      refine Met.ofW (cc := M.1) (maxL := M.2.1) (ret := M.2.2.2.2) k5 k6 ?_
      intro p e s m args below meth c s₁ Bd hml hv
      obtain ⟨rfl, hR, hK⟩ := hv
      have hts := atoms_spec (ws := B.2.2.2 mi) Bd.pre
      have A : mx_At B M p s m (as.map (mx_v B.2.1.1)).toArray meth c := ⟨Bd.exec, Bd.bytes, hml, by rw [← k3]; exact findClass_of_methodNamed Bd.named, fun w hw => hts w (by rw [k6]; exact List.mem_cons_of_mem _ hw), Bd.returns, Bd.notSynchronized, by rw [← k4]; exact (name_of_methodNamed Bd.named Bd.method).1, hK⟩
      have K := G.2 p e s m _ below meth c h.1 h.2.1 s.heap [] _ A (Nat.le_refl _) (Nat.le_refl _) hR (fun q hq => by cases hq) (by rw [← k2]; exact mx_entry hlen)
      rw [Nat.sub_self, Nat.sub_self] at K
      rw [lg_entry_eq, ← k2]
      exact K
end MXC
end
section
section MXM
variable {B : mx_B} {M : mx_M} {pc : Nat}
noncomputable def mx_dup2 (nx : Nat) : mx_O := fun k call ls st h => match st with
  | a :: _ => bif mx_c1 a then mx_dup2a nx k call ls st h else mx_dup2b nx k call ls st h
  | _ => none
theorem mx_s_dup2 (hd : decode M.1 pc = .ok (.dup2, 1)) : mx_Sn B M pc (mx_dup2 (pc + 1)) := by
  intro d k call hk hc ls st h r e
  unfold mx_dup2 at e
  split at e
  · rename_i a rest
    cases hb : mx_c1 a with
    | true => rw [hb] at e; exact mx_s_dup2a hd d k call hk hc _ _ _ _ e
    | false => rw [hb] at e; exact mx_s_dup2b hd d k call hk hc _ _ _ _ e
  · cases e
theorem mx_s_ldcw {i : Nat} {v : Int32} (hw : Jvm.Cond.constant M.2.2.1 i v ∈ B.2.1.2.1) (hd : decode M.1 pc = .ok (.ldc_w i, 3)) : mx_Sn B M pc (mx_const (.int v) (pc + 3)) := by
  intro d k call hk hc ls st h r e
  exact mx_G.step (hk _ _ _ _ _ e) (fun p e s m args below meth c R H locs cells slots Q la A hl K => lv_ldcw A.1 A.2.1 A.2.2.2.1 (A.2.2.2.2.1 _ hw) hd K)
/-- a method: name, code, locals, answer, table; all of them by number -/
abbrev mx_I : Type := MethodName × ByteArray × Nat × Option FieldType × (Nat → mx_O)
noncomputable def mx_mk (big : List Cond) (info : Nat → mx_I) (cl : List vw_C) (NM : List mx_NM) (Zs : List mx_Z) (l : Launch) (D : va_G) (b0 : Nat) (ad : Nat → Nat) (Hb : Heap) (tau : Nat → Int64) : mx_B :=
  (l, ((cl, D, Zs.length, b0, ad, Hb, tau), big, [], NM, Zs), fun mi => (info mi).1, fun mi => Cond.code (info mi).1 (info mi).2.1 (info mi).2.2.1 (info mi).2.2.2.1 :: big)
noncomputable def mx_pg (info : Nat → mx_I) : mx_P := fun mi => ((info mi).2.2.1, (info mi).2.2.2.2)
def mx_Gd (B : mx_B) (I : mx_I) : Prop := (∀ pc, mx_Sn B (I.2.1, I.2.2.1, I.1.cls, I.1.name, I.2.2.2.1) pc (I.2.2.2.2 pc)) ∧ plainName I.1.cls = true
noncomputable def mx_pn (k : Nat) (l r : Nat → mx_I) : Nat → mx_I := fun mi => bif Nat.blt mi k then l mi else r mi
noncomputable def mx_pf (k : Nat) (a b : mx_I) : Nat → mx_I := fun mi => bif Nat.beq mi k then a else b
theorem mx_Gd_n {k : Nat} {l r : Nat → mx_I} (hl : ∀ mi, mx_Gd B (l mi)) (hr : ∀ mi, mx_Gd B (r mi)) : ∀ mi, mx_Gd B (mx_pn k l r mi) := by
  intro mi
  unfold mx_pn
  cases Nat.blt mi k
  · exact hr mi
  · exact hl mi
theorem mx_Gd_f {k : Nat} {a b : mx_I} (ha : mx_Gd B a) (hb : mx_Gd B b) : ∀ mi, mx_Gd B (mx_pf k a b mi) := by
  intro mi
  unfold mx_pf
  cases Nat.beq mi k
  · exact hb
  · exact ha
theorem mx_all {big : List Cond} {info : Nat → mx_I} {cl : List vw_C} {NM : List mx_NM} {Zs : List mx_Z} {l : Launch} {D : va_G} {b0 : Nat} {ad : Nat → Nat} {Hb : Heap} {tau : Nat → Int64} (h : ∀ mi, mx_Gd (mx_mk big info cl NM Zs l D b0 ad Hb tau) (info mi)) (fuel d : Nat) :
    mx_Cl (mx_mk big info cl NM Zs l D b0 ad Hb tau) d (mx_ev (mx_pg info) fuel d) :=
  mx_ev_ok (fun mi _ => ⟨_, (h mi).1, rfl, rfl, rfl, (h mi).2, rfl⟩) d
theorem mx_MeOf {big : List Cond} {info : Nat → mx_I} {cl : List vw_C} {NM : List mx_NM} {Zs : List mx_Z} {l : Launch} {D : va_G} {b0 : Nat} {ad : Nat → Nat} {Hb : Heap} {tau : Nat → Int64} (hbig : ∀ w ∈ big, goodWord w = true) {mi : Nat} {y : MethodName} {bytes : ByteArray} {maxL : Nat} {ret : Option FieldType} {tab : Nat → mx_O} {n : Nat} (h0 : ¬ mi = 0) (hi : info mi = (y, bytes, maxL, ret, tab)) (hc : Cond.code y bytes maxL ret ∈ big) (hini : Cond.initialized y.cls ∈ big)
    (hd : y.cls ≠ "java/lang/invoke/MethodHandle" ∧ y.cls ≠ "java/lang/invoke/VarHandle" ∧ (parseMethodDescriptor y.desc).map (fun d => d.parameters.length) = some n) (hL : maxL ≤ 45) : mx_Me (mx_mk big info cl NM Zs l D b0 ad Hb tau) mi y bytes maxL ret n := by
  have e1 : (mx_mk big info cl NM Zs l D b0 ad Hb tau).2.2.2 mi = Cond.code y bytes maxL ret :: big := by
    show Cond.code (info mi).1 (info mi).2.1 (info mi).2.2.1 (info mi).2.2.2.1 :: big = _
    rw [hi]
  refine ⟨h0, by show (info mi).1 = y; rw [hi], ⟨big, e1⟩, ?_, hini, hd, hL⟩
  rw [e1]
  intro w hw
  rcases List.mem_cons.mp hw with rfl | hw
  · exact ⟨hc, Or.inl rfl⟩
  · exact ⟨hw, good_of_word (hbig w hw)⟩
end MXM
end
section
set_option maxRecDepth 100000 in
noncomputable def tb_1 : Nat → mx_O := (mx_node 73 (mx_node 40 (mx_node 19 (mx_node 8 (mx_node 4 (mx_node 1 (mx_leaf 0 (mx_aload 0 1)) (mx_leaf 1 (mx_objinit 4))) (mx_node 5 (mx_leaf 4 (mx_aload 0 5)) (mx_leaf 5 (mx_const (.int 361) 8)))) (mx_node 13 (mx_node 10 (mx_leaf 8 (mx_newa .int (.int 0) 10)) (mx_leaf 10 (mx_putf 1 0 0 (.array .int) 13))) (mx_node 14 (mx_leaf 13 (mx_aload 0 14)) (mx_node 17 (mx_leaf 14 (mx_const (.int 6930) 17)) (mx_leaf 17 (mx_newa .byte (.int 0) 19)))))) (mx_node 31 (mx_node 23 (mx_node 22 (mx_leaf 19 (mx_putf 1 0 1 (.array .byte) 22)) (mx_leaf 22 (mx_aload 0 23))) (mx_node 26 (mx_leaf 23 (mx_const (.int 385) 26)) (mx_node 28 (mx_leaf 26 (mx_newa .byte (.int 0) 28)) (mx_leaf 28 (mx_putf 1 0 2 (.array .byte) 31))))) (mx_node 34 (mx_node 32 (mx_leaf 31 (mx_aload 0 32)) (mx_leaf 32 (mx_const (.int 19) 34))) (mx_node 36 (mx_leaf 34 (mx_newa .int (.int 0) 36)) (mx_node 39 (mx_leaf 36 (mx_putf 1 0 3 (.array .int) 39)) (mx_leaf 39 (mx_aload 0 40))))))) (mx_node 57 (mx_node 49 (mx_node 44 (mx_node 41 (mx_leaf 40 (mx_const (.int 0) 41)) (mx_leaf 41 (mx_putf 1 0 4 (.int) 44))) (mx_node 45 (mx_leaf 44 (mx_aload 0 45)) (mx_node 46 (mx_leaf 45 (mx_const (.int 0) 46)) (mx_leaf 46 (mx_putf 1 0 5 (.int) 49))))) (mx_node 51 (mx_node 50 (mx_leaf 49 (mx_const (.int 0) 50)) (mx_leaf 50 (mx_istore 1 51))) (mx_node 52 (mx_leaf 51 (mx_iload 1 52)) (mx_node 54 (mx_leaf 52 (mx_const (.int 18) 54)) (mx_leaf 54 (mx_icmp_gt 70 57)))))) (mx_node 64 (mx_node 61 (mx_node 58 (mx_leaf 57 (mx_aload 0 58)) (mx_leaf 58 (mx_getf 0 0 61))) (mx_node 62 (mx_leaf 61 (mx_iload 1 62)) (mx_node 63 (mx_leaf 62 (mx_const (.int 1) 63)) (mx_leaf 63 (mx_iast 1 64))))) (mx_node 70 (mx_node 67 (mx_leaf 64 (mx_iinc 1 1 67)) (mx_leaf 67 (mx_goto 51))) (mx_node 71 (mx_leaf 70 (mx_const (.int 1) 71)) (mx_node 72 (mx_leaf 71 (mx_istore 1 72)) (mx_leaf 72 (mx_iload 1 73)))))))) (mx_node 104 (mx_node 89 (mx_node 81 (mx_node 78 (mx_node 75 (mx_leaf 73 (mx_const (.int 18) 75)) (mx_leaf 75 (mx_icmp_gt 137 78))) (mx_node 79 (mx_leaf 78 (mx_const (.int 1) 79)) (mx_node 80 (mx_leaf 79 (mx_istore 2 80)) (mx_leaf 80 (mx_iload 2 81))))) (mx_node 86 (mx_node 83 (mx_leaf 81 (mx_const (.int 18) 83)) (mx_leaf 83 (mx_icmp_gt 131 86))) (mx_node 87 (mx_leaf 86 (mx_aload 0 87)) (mx_node 88 (mx_leaf 87 (mx_iload 1 88)) (mx_leaf 88 (mx_iload 2 89)))))) (mx_node 96 (mx_node 91 (mx_node 90 (mx_leaf 89 (mx_const (.int 1) 90)) (mx_leaf 90 (mx_isub 91))) (mx_node 94 (mx_leaf 91 (mx_callv 2 3 0 94)) (mx_node 95 (mx_leaf 94 (mx_istore 3 95)) (mx_leaf 95 (mx_aload 0 96))))) (mx_node 100 (mx_node 99 (mx_leaf 96 (mx_getf 0 0 99)) (mx_leaf 99 (mx_iload 1 100))) (mx_node 102 (mx_leaf 100 (mx_const (.int 19) 102)) (mx_node 103 (mx_leaf 102 (mx_imul 103)) (mx_leaf 103 (mx_iload 2 104))))))) (mx_node 118 (mx_node 111 (mx_node 106 (mx_node 105 (mx_leaf 104 (mx_iadd 105)) (mx_leaf 105 (mx_iload 1 106))) (mx_node 107 (mx_leaf 106 (mx_iload 2 107)) (mx_node 110 (mx_leaf 107 (mx_icmp_ge 114 110)) (mx_leaf 110 (mx_iload 3 111))))) (mx_node 115 (mx_node 114 (mx_leaf 111 (mx_goto 124)) (mx_leaf 114 (mx_iload 3 115))) (mx_node 116 (mx_leaf 115 (mx_aload 0 116)) (mx_node 117 (mx_leaf 116 (mx_iload 1 117)) (mx_leaf 117 (mx_iload 2 118)))))) (mx_node 125 (mx_node 120 (mx_node 119 (mx_leaf 118 (mx_isub 119)) (mx_leaf 119 (mx_iload 2 120))) (mx_node 123 (mx_leaf 120 (mx_callv 2 3 0 123)) (mx_node 124 (mx_leaf 123 (mx_iadd 124)) (mx_leaf 124 (mx_iast 1 125))))) (mx_node 131 (mx_node 128 (mx_leaf 125 (mx_iinc 2 1 128)) (mx_leaf 128 (mx_goto 80))) (mx_node 134 (mx_leaf 131 (mx_iinc 1 1 134)) (mx_node 137 (mx_leaf 134 (mx_goto 72)) (mx_leaf 137 (mx_vret)))))))))
set_option maxRecDepth 100000 in
noncomputable def tb_2 : Nat → mx_O := (mx_node 7 (mx_node 4 (mx_node 1 (mx_leaf 0 (mx_aload 0 1)) (mx_leaf 1 (mx_getf 0 0 4))) (mx_node 5 (mx_leaf 4 (mx_iload 1 5)) (mx_leaf 5 (mx_const (.int 19) 7)))) (mx_node 9 (mx_node 8 (mx_leaf 7 (mx_imul 8)) (mx_leaf 8 (mx_iload 2 9))) (mx_node 10 (mx_leaf 9 (mx_iadd 10)) (mx_node 11 (mx_leaf 10 (mx_iald 11)) (mx_leaf 11 (mx_iret))))))
set_option maxRecDepth 100000 in
noncomputable def tb_3 : Nat → mx_O := (mx_node 57 (mx_node 28 (mx_node 14 (mx_node 8 (mx_node 2 (mx_node 1 (mx_leaf 0 (mx_iload 1 1)) (mx_leaf 1 (mx_aload 0 2))) (mx_node 5 (mx_leaf 2 (mx_getf 0 4 5)) (mx_leaf 5 (mx_icmp_eq 19 8)))) (mx_node 10 (mx_node 9 (mx_leaf 8 (mx_iload 1 9)) (mx_leaf 9 (mx_const (.int 1) 10))) (mx_node 13 (mx_leaf 10 (mx_icmp_lt 19 13)) (mx_leaf 13 (mx_iload 1 14))))) (mx_node 21 (mx_node 19 (mx_node 16 (mx_leaf 14 (mx_const (.int 18) 16)) (mx_leaf 16 (mx_icmp_le 20 19))) (mx_node 20 (mx_leaf 19 (mx_vret)) (mx_leaf 20 (mx_aload 0 21)))) (mx_node 25 (mx_node 22 (mx_leaf 21 (mx_iload 1 22)) (mx_leaf 22 (mx_putf 1 0 4 (.int) 25))) (mx_node 26 (mx_leaf 25 (mx_aload 0 26)) (mx_node 27 (mx_leaf 26 (mx_aload 0 27)) (mx_leaf 27 (mx_aload 0 28))))))) (mx_node 46 (mx_node 38 (mx_node 32 (mx_node 31 (mx_leaf 28 (mx_getf 0 4 31)) (mx_leaf 31 (mx_aload 0 32))) (mx_node 35 (mx_leaf 32 (mx_getf 0 4 35)) (mx_leaf 35 (mx_callv 2 3 0 38)))) (mx_node 42 (mx_node 41 (mx_leaf 38 (mx_putf 1 0 5 (.int) 41)) (mx_leaf 41 (mx_aload 0 42))) (mx_node 45 (mx_leaf 42 (mx_getf 0 3 45)) (mx_leaf 45 (mx_const (.int 0) 46))))) (mx_node 52 (mx_node 50 (mx_node 47 (mx_leaf 46 (mx_aload 0 47)) (mx_leaf 47 (mx_getf 0 4 50))) (mx_node 51 (mx_leaf 50 (mx_iast 1 51)) (mx_leaf 51 (mx_const (.int 1) 52)))) (mx_node 54 (mx_node 53 (mx_leaf 52 (mx_istore 2 53)) (mx_leaf 53 (mx_const (.int 0) 54))) (mx_node 55 (mx_leaf 54 (mx_istore 3 55)) (mx_node 56 (mx_leaf 55 (mx_iload 3 56)) (mx_leaf 56 (mx_aload 0 57)))))))) (mx_node 89 (mx_node 73 (mx_node 66 (mx_node 63 (mx_node 60 (mx_leaf 57 (mx_getf 0 5 60)) (mx_leaf 60 (mx_icmp_ge 118 63))) (mx_node 64 (mx_leaf 63 (mx_const (.int 0) 64)) (mx_leaf 64 (mx_istore 4 66)))) (mx_node 69 (mx_node 68 (mx_leaf 66 (mx_iload 4 68)) (mx_leaf 68 (mx_iload 2 69))) (mx_node 72 (mx_leaf 69 (mx_icmp_ge 98 72)) (mx_leaf 72 (mx_aload 0 73))))) (mx_node 80 (mx_node 77 (mx_node 76 (mx_leaf 73 (mx_getf 0 1 76)) (mx_leaf 76 (mx_iload 3 77))) (mx_node 79 (mx_leaf 77 (mx_const (.int 18) 79)) (mx_leaf 79 (mx_imul 80)))) (mx_node 83 (mx_node 82 (mx_leaf 80 (mx_iload 4 82)) (mx_leaf 82 (mx_iadd 83))) (mx_node 84 (mx_leaf 83 (mx_aload 0 84)) (mx_node 87 (mx_leaf 84 (mx_getf 0 3 87)) (mx_leaf 87 (mx_iload 4 89))))))) (mx_node 104 (mx_node 95 (mx_node 91 (mx_node 90 (mx_leaf 89 (mx_iald 90)) (mx_leaf 90 (mx_i2b 91))) (mx_node 92 (mx_leaf 91 (mx_bast 1 92)) (mx_leaf 92 (mx_iinc 4 1 95)))) (mx_node 99 (mx_node 98 (mx_leaf 95 (mx_goto 66)) (mx_leaf 98 (mx_aload 0 99))) (mx_node 102 (mx_leaf 99 (mx_getf 0 2 102)) (mx_node 103 (mx_leaf 102 (mx_iload 3 103)) (mx_leaf 103 (mx_iload 2 104)))))) (mx_node 108 (mx_node 106 (mx_node 105 (mx_leaf 104 (mx_i2b 105)) (mx_leaf 105 (mx_bast 1 106))) (mx_node 107 (mx_leaf 106 (mx_aload 0 107)) (mx_leaf 107 (mx_iload 2 108)))) (mx_node 112 (mx_node 111 (mx_leaf 108 (mx_callv 4 2 0 111)) (mx_leaf 111 (mx_istore 2 112))) (mx_node 115 (mx_leaf 112 (mx_iinc 3 1 115)) (mx_node 118 (mx_leaf 115 (mx_goto 55)) (mx_leaf 118 (mx_vret)))))))))
set_option maxRecDepth 100000 in
noncomputable def tb_4 : Nat → mx_O := (mx_node 45 (mx_node 20 (mx_node 7 (mx_node 3 (mx_node 1 (mx_leaf 0 (mx_iload 1 1)) (mx_node 2 (mx_leaf 1 (mx_const (.int 1) 2)) (mx_leaf 2 (mx_isub 3)))) (mx_node 5 (mx_node 4 (mx_leaf 3 (mx_istore 2 4)) (mx_leaf 4 (mx_const (.int 1) 5))) (mx_node 6 (mx_leaf 5 (mx_istore 3 6)) (mx_leaf 6 (mx_iload 2 7))))) (mx_node 14 (mx_node 10 (mx_leaf 7 (mx_if_le 29 10)) (mx_node 11 (mx_leaf 10 (mx_aload 0 11)) (mx_leaf 11 (mx_getf 0 3 14)))) (mx_node 16 (mx_node 15 (mx_leaf 14 (mx_iload 2 15)) (mx_leaf 15 (mx_iald 16))) (mx_node 17 (mx_leaf 16 (mx_const (.int 1) 17)) (mx_leaf 17 (mx_icmp_ne 29 20)))))) (mx_node 35 (mx_node 29 (mx_node 23 (mx_leaf 20 (mx_iinc 2 (-1) 23)) (mx_node 26 (mx_leaf 23 (mx_iinc 3 1 26)) (mx_leaf 26 (mx_goto 6)))) (mx_node 33 (mx_node 30 (mx_leaf 29 (mx_aload 0 30)) (mx_leaf 30 (mx_getf 0 3 33))) (mx_node 34 (mx_leaf 33 (mx_iload 2 34)) (mx_leaf 34 (mx_dup2 35))))) (mx_node 39 (mx_node 37 (mx_node 36 (mx_leaf 35 (mx_iald 36)) (mx_leaf 36 (mx_const (.int 1) 37))) (mx_node 38 (mx_leaf 37 (mx_isub 38)) (mx_leaf 38 (mx_iast 1 39)))) (mx_node 43 (mx_node 40 (mx_leaf 39 (mx_aload 0 40)) (mx_leaf 40 (mx_getf 0 3 43))) (mx_node 44 (mx_leaf 43 (mx_iload 2 44)) (mx_leaf 44 (mx_iald 45))))))) (mx_node 71 (mx_node 54 (mx_node 49 (mx_node 47 (mx_leaf 45 (mx_istore 4 47)) (mx_node 48 (mx_leaf 47 (mx_iload 2 48)) (mx_leaf 48 (mx_const (.int 1) 49)))) (mx_node 51 (mx_node 50 (mx_leaf 49 (mx_iadd 50)) (mx_leaf 50 (mx_istore 2 51))) (mx_node 52 (mx_leaf 51 (mx_iload 2 52)) (mx_leaf 52 (mx_const (.int 18) 54))))) (mx_node 63 (mx_node 58 (mx_node 57 (mx_leaf 54 (mx_icmp_ge 93 57)) (mx_leaf 57 (mx_iload 3 58))) (mx_node 61 (mx_leaf 58 (mx_if_le 93 61)) (mx_leaf 61 (mx_iload 4 63)))) (mx_node 67 (mx_node 66 (mx_leaf 63 (mx_if_le 93 66)) (mx_leaf 66 (mx_aload 0 67))) (mx_node 70 (mx_leaf 67 (mx_getf 0 3 70)) (mx_leaf 70 (mx_iload 2 71)))))) (mx_node 83 (mx_node 77 (mx_node 73 (mx_leaf 71 (mx_iload 4 73)) (mx_node 74 (mx_leaf 73 (mx_iload 3 74)) (mx_leaf 74 (mx_mmin 77)))) (mx_node 79 (mx_node 78 (mx_leaf 77 (mx_iast 1 78)) (mx_leaf 78 (mx_iload 3 79))) (mx_node 80 (mx_leaf 79 (mx_aload 0 80)) (mx_leaf 80 (mx_getf 0 3 83))))) (mx_node 87 (mx_node 85 (mx_node 84 (mx_leaf 83 (mx_iload 2 84)) (mx_leaf 84 (mx_iald 85))) (mx_node 86 (mx_leaf 85 (mx_isub 86)) (mx_leaf 86 (mx_istore 3 87)))) (mx_node 93 (mx_node 90 (mx_leaf 87 (mx_iinc 2 1 90)) (mx_leaf 90 (mx_goto 51))) (mx_node 94 (mx_leaf 93 (mx_iload 2 94)) (mx_leaf 94 (mx_iret))))))))
set_option maxRecDepth 100000 in
noncomputable def tb_5 : Nat → mx_O := (mx_node 12 (mx_node 5 (mx_node 1 (mx_leaf 0 (mx_iload 1 1)) (mx_node 4 (mx_leaf 1 (mx_if_lt 12 4)) (mx_leaf 4 (mx_iload 1 5)))) (mx_node 6 (mx_leaf 5 (mx_aload 0 6)) (mx_node 9 (mx_leaf 6 (mx_getf 0 5 9)) (mx_leaf 9 (mx_icmp_lt 16 12))))) (mx_node 17 (mx_node 13 (mx_leaf 12 (mx_const (.int 0) 13)) (mx_node 16 (mx_leaf 13 (mx_goto 22)) (mx_leaf 16 (mx_aload 0 17)))) (mx_node 21 (mx_node 20 (mx_leaf 17 (mx_getf 0 2 20)) (mx_leaf 20 (mx_iload 1 21))) (mx_node 22 (mx_leaf 21 (mx_bald 22)) (mx_leaf 22 (mx_iret))))))
set_option maxRecDepth 100000 in
noncomputable def tb_6 : Nat → mx_O := (mx_node 17 (mx_node 6 (mx_node 4 (mx_node 1 (mx_leaf 0 (mx_iload 2 1)) (mx_leaf 1 (mx_if_lt 13 4))) (mx_node 5 (mx_leaf 4 (mx_iload 2 5)) (mx_leaf 5 (mx_aload 0 6)))) (mx_node 10 (mx_node 7 (mx_leaf 6 (mx_iload 1 7)) (mx_leaf 7 (mx_callv 5 2 0 10))) (mx_node 13 (mx_leaf 10 (mx_icmp_lt 17 13)) (mx_node 14 (mx_leaf 13 (mx_const (.int 0) 14)) (mx_leaf 14 (mx_goto 28)))))) (mx_node 24 (mx_node 21 (mx_node 18 (mx_leaf 17 (mx_aload 0 18)) (mx_leaf 18 (mx_getf 0 1 21))) (mx_node 22 (mx_leaf 21 (mx_iload 1 22)) (mx_leaf 22 (mx_const (.int 18) 24)))) (mx_node 26 (mx_node 25 (mx_leaf 24 (mx_imul 25)) (mx_leaf 25 (mx_iload 2 26))) (mx_node 27 (mx_leaf 26 (mx_iadd 27)) (mx_node 28 (mx_leaf 27 (mx_bald 28)) (mx_leaf 28 (mx_iret)))))))
set_option maxRecDepth 100000 in
noncomputable def tb_7 : Nat → mx_O := (mx_node 20 (mx_node 9 (mx_node 5 (mx_node 1 (mx_leaf 0 (mx_aload 0 1)) (mx_node 2 (mx_leaf 1 (mx_iload 1 2)) (mx_leaf 2 (mx_callv 5 2 0 5)))) (mx_node 6 (mx_leaf 5 (mx_istore 3 6)) (mx_node 7 (mx_leaf 6 (mx_const (.int 0) 7)) (mx_leaf 7 (mx_istore 4 9))))) (mx_node 15 (mx_node 11 (mx_leaf 9 (mx_iload 4 11)) (mx_node 12 (mx_leaf 11 (mx_iload 3 12)) (mx_leaf 12 (mx_icmp_ge 40 15)))) (mx_node 16 (mx_leaf 15 (mx_aload 0 16)) (mx_node 19 (mx_leaf 16 (mx_getf 0 1 19)) (mx_leaf 19 (mx_iload 1 20)))))) (mx_node 28 (mx_node 25 (mx_node 22 (mx_leaf 20 (mx_const (.int 18) 22)) (mx_node 23 (mx_leaf 22 (mx_imul 23)) (mx_leaf 23 (mx_iload 4 25)))) (mx_node 26 (mx_leaf 25 (mx_iadd 26)) (mx_node 27 (mx_leaf 26 (mx_bald 27)) (mx_leaf 27 (mx_iload 2 28))))) (mx_node 34 (mx_node 31 (mx_leaf 28 (mx_icmp_ne 34 31)) (mx_node 33 (mx_leaf 31 (mx_iload 4 33)) (mx_leaf 33 (mx_iret)))) (mx_node 40 (mx_node 37 (mx_leaf 34 (mx_iinc 4 1 37)) (mx_leaf 37 (mx_goto 9))) (mx_node 41 (mx_leaf 40 (mx_const (.int (-1)) 41)) (mx_leaf 41 (mx_iret)))))))
set_option maxRecDepth 100000 in
noncomputable def tb_8 : Nat → mx_O := (mx_node 22 (mx_node 11 (mx_node 5 (mx_node 1 (mx_leaf 0 (mx_aload 2 1)) (mx_node 2 (mx_leaf 1 (mx_const (.int 0) 2)) (mx_leaf 2 (mx_calls 284 2 5)))) (mx_node 7 (mx_node 6 (mx_leaf 5 (mx_aload 0 6)) (mx_leaf 6 (mx_iload 1 7))) (mx_node 10 (mx_leaf 7 (mx_callv 5 2 0 10)) (mx_leaf 10 (mx_istore 3 11))))) (mx_node 16 (mx_node 12 (mx_leaf 11 (mx_const (.int 0) 12)) (mx_node 14 (mx_leaf 12 (mx_istore 4 14)) (mx_leaf 14 (mx_iload 4 16)))) (mx_node 20 (mx_node 17 (mx_leaf 16 (mx_iload 3 17)) (mx_leaf 17 (mx_icmp_ge 44 20))) (mx_node 21 (mx_leaf 20 (mx_aload 2 21)) (mx_leaf 21 (mx_aload 0 22)))))) (mx_node 33 (mx_node 28 (mx_node 25 (mx_leaf 22 (mx_getf 0 1 25)) (mx_node 26 (mx_leaf 25 (mx_iload 1 26)) (mx_leaf 26 (mx_const (.int 18) 28)))) (mx_node 31 (mx_node 29 (mx_leaf 28 (mx_imul 29)) (mx_leaf 29 (mx_iload 4 31))) (mx_node 32 (mx_leaf 31 (mx_iadd 32)) (mx_leaf 32 (mx_bald 33))))) (mx_node 37 (mx_node 35 (mx_node 34 (mx_leaf 33 (mx_dup2 34)) (mx_leaf 34 (mx_iald 35))) (mx_node 36 (mx_leaf 35 (mx_const (.int 1) 36)) (mx_leaf 36 (mx_iadd 37)))) (mx_node 41 (mx_node 38 (mx_leaf 37 (mx_iast 1 38)) (mx_leaf 38 (mx_iinc 4 1 41))) (mx_node 44 (mx_leaf 41 (mx_goto 14)) (mx_leaf 44 (mx_vret)))))))
set_option maxRecDepth 100000 in
noncomputable def tb_9 : Nat → mx_O := (mx_node 36 (mx_node 17 (mx_node 7 (mx_node 2 (mx_node 1 (mx_leaf 0 (mx_const (.int 0) 1)) (mx_leaf 1 (mx_istore 2 2))) (mx_node 3 (mx_leaf 2 (mx_aload 0 3)) (mx_node 6 (mx_leaf 3 (mx_getf 0 4 6)) (mx_leaf 6 (mx_istore 3 7))))) (mx_node 11 (mx_node 9 (mx_leaf 7 (mx_const (.int 18) 9)) (mx_leaf 9 (mx_istore 4 11))) (mx_node 13 (mx_leaf 11 (mx_const (.int 18) 13)) (mx_node 15 (mx_leaf 13 (mx_istore 5 15)) (mx_leaf 15 (mx_iload 5 17)))))) (mx_node 27 (mx_node 21 (mx_node 20 (mx_leaf 17 (mx_if_le 69 20)) (mx_leaf 20 (mx_iload 3 21))) (mx_node 24 (mx_leaf 21 (mx_if_le 69 24)) (mx_node 25 (mx_leaf 24 (mx_aload 1 25)) (mx_leaf 25 (mx_iload 5 27))))) (mx_node 32 (mx_node 28 (mx_leaf 27 (mx_iald 28)) (mx_node 31 (mx_leaf 28 (mx_if_le 63 31)) (mx_leaf 31 (mx_iload 2 32)))) (mx_node 33 (mx_leaf 32 (mx_aload 0 33)) (mx_node 34 (mx_leaf 33 (mx_iload 3 34)) (mx_leaf 34 (mx_iload 4 36))))))) (mx_node 53 (mx_node 46 (mx_node 40 (mx_node 39 (mx_leaf 36 (mx_callv 2 3 0 39)) (mx_leaf 39 (mx_aload 0 40))) (mx_node 41 (mx_leaf 40 (mx_iload 3 41)) (mx_node 43 (mx_leaf 41 (mx_iload 5 43)) (mx_leaf 43 (mx_callv 2 3 0 46))))) (mx_node 49 (mx_node 47 (mx_leaf 46 (mx_isub 47)) (mx_node 48 (mx_leaf 47 (mx_iadd 48)) (mx_leaf 48 (mx_istore 2 49)))) (mx_node 50 (mx_leaf 49 (mx_iload 3 50)) (mx_node 52 (mx_leaf 50 (mx_iload 5 52)) (mx_leaf 52 (mx_aload 1 53)))))) (mx_node 59 (mx_node 56 (mx_node 55 (mx_leaf 53 (mx_iload 5 55)) (mx_leaf 55 (mx_iald 56))) (mx_node 57 (mx_leaf 56 (mx_imul 57)) (mx_node 58 (mx_leaf 57 (mx_isub 58)) (mx_leaf 58 (mx_istore 3 59))))) (mx_node 66 (mx_node 61 (mx_leaf 59 (mx_iload 5 61)) (mx_node 63 (mx_leaf 61 (mx_istore 4 63)) (mx_leaf 63 (mx_iinc 5 (-1) 66)))) (mx_node 69 (mx_leaf 66 (mx_goto 15)) (mx_node 70 (mx_leaf 69 (mx_iload 2 70)) (mx_leaf 70 (mx_iret))))))))
set_option maxRecDepth 100000 in
noncomputable def tb_10 : Nat → mx_O := (mx_node 21 (mx_node 9 (mx_node 3 (mx_node 1 (mx_leaf 0 (mx_const (.int 0) 1)) (mx_node 2 (mx_leaf 1 (mx_istore 3 2)) (mx_leaf 2 (mx_const (.int 0) 3)))) (mx_node 5 (mx_leaf 3 (mx_istore 4 5)) (mx_node 7 (mx_leaf 5 (mx_iload 4 7)) (mx_leaf 7 (mx_const (.int 18) 9))))) (mx_node 14 (mx_node 12 (mx_leaf 9 (mx_icmp_ge 42 12)) (mx_node 13 (mx_leaf 12 (mx_iload 3 13)) (mx_leaf 13 (mx_aload 0 14)))) (mx_node 17 (mx_node 15 (mx_leaf 14 (mx_iload 2 15)) (mx_leaf 15 (mx_iload 4 17))) (mx_node 20 (mx_leaf 17 (mx_callv 6 3 0 20)) (mx_leaf 20 (mx_aload 0 21)))))) (mx_node 31 (mx_node 27 (mx_node 22 (mx_leaf 21 (mx_iload 1 22)) (mx_node 24 (mx_leaf 22 (mx_iload 4 24)) (mx_leaf 24 (mx_callv 6 3 0 27)))) (mx_node 29 (mx_node 28 (mx_leaf 27 (mx_isub 28)) (mx_leaf 28 (mx_iadd 29))) (mx_node 30 (mx_leaf 29 (mx_istore 3 30)) (mx_leaf 30 (mx_iload 3 31))))) (mx_node 36 (mx_node 34 (mx_leaf 31 (mx_if_ge 36 34)) (mx_node 35 (mx_leaf 34 (mx_const (.int 0) 35)) (mx_leaf 35 (mx_zret)))) (mx_node 42 (mx_node 39 (mx_leaf 36 (mx_iinc 4 1 39)) (mx_leaf 39 (mx_goto 5))) (mx_node 43 (mx_leaf 42 (mx_const (.int 1) 43)) (mx_leaf 43 (mx_zret)))))))
set_option maxRecDepth 100000 in
noncomputable def tb_11 : Nat → mx_O := (mx_node 5 (mx_node 1 (mx_leaf 0 (mx_aload 0 1)) (mx_node 4 (mx_leaf 1 (mx_objinit 4)) (mx_leaf 4 (mx_aload 0 5)))) (mx_node 6 (mx_leaf 5 (mx_iload 1 6)) (mx_node 9 (mx_leaf 6 (mx_putf 1 1 0 (.int) 9)) (mx_leaf 9 (mx_vret)))))
set_option maxRecDepth 100000 in
noncomputable def tb_12 : Nat → mx_O := (mx_node 12 (mx_node 4 (mx_node 1 (mx_leaf 0 (mx_aload 0 1)) (mx_node 3 (mx_leaf 1 (mx_const (.int 1103515245) 3)) (mx_leaf 3 (mx_aload 0 4)))) (mx_node 8 (mx_node 7 (mx_leaf 4 (mx_getf 1 0 7)) (mx_leaf 7 (mx_imul 8))) (mx_node 11 (mx_leaf 8 (mx_const (.int 12345) 11)) (mx_leaf 11 (mx_iadd 12))))) (mx_node 21 (mx_node 16 (mx_node 15 (mx_leaf 12 (mx_putf 1 1 0 (.int) 15)) (mx_leaf 15 (mx_aload 0 16))) (mx_node 19 (mx_leaf 16 (mx_getf 1 0 19)) (mx_leaf 19 (mx_const (.int 16) 21)))) (mx_node 23 (mx_node 22 (mx_leaf 21 (mx_iushr 22)) (mx_leaf 22 (mx_iload 1 23))) (mx_node 24 (mx_leaf 23 (mx_irem 24)) (mx_leaf 24 (mx_iret))))))
set_option maxRecDepth 100000 in
noncomputable def tb_13 : Nat → mx_O := (mx_node 33 (mx_node 15 (mx_node 7 (mx_node 3 (mx_node 1 (mx_leaf 0 (mx_aload 0 1)) (mx_leaf 1 (mx_const (.int 6) 3))) (mx_node 6 (mx_leaf 3 (mx_callv 12 2 1 6)) (mx_leaf 6 (mx_istore 1 7)))) (mx_node 9 (mx_node 8 (mx_leaf 7 (mx_iload 1 8)) (mx_leaf 8 (mx_const (.int 3) 9))) (mx_node 12 (mx_leaf 9 (mx_icmp_ne 19 12)) (mx_node 13 (mx_leaf 12 (mx_aload 0 13)) (mx_leaf 13 (mx_const (.int 8) 15)))))) (mx_node 24 (mx_node 19 (mx_node 18 (mx_leaf 15 (mx_callv 12 2 1 18)) (mx_leaf 18 (mx_iret))) (mx_node 20 (mx_leaf 19 (mx_iload 1 20)) (mx_node 21 (mx_leaf 20 (mx_const (.int 4) 21)) (mx_leaf 21 (mx_icmp_ne 34 24))))) (mx_node 27 (mx_node 26 (mx_leaf 24 (mx_const (.int 20) 26)) (mx_leaf 26 (mx_aload 0 27))) (mx_node 29 (mx_leaf 27 (mx_const (.int 10) 29)) (mx_node 32 (mx_leaf 29 (mx_callv 12 2 1 32)) (mx_leaf 32 (mx_iadd 33))))))) (mx_node 51 (mx_node 40 (mx_node 35 (mx_node 34 (mx_leaf 33 (mx_iret)) (mx_leaf 34 (mx_iload 1 35))) (mx_node 36 (mx_leaf 35 (mx_const (.int 5) 36)) (mx_node 39 (mx_leaf 36 (mx_icmp_ne 62 39)) (mx_leaf 39 (mx_aload 0 40))))) (mx_node 45 (mx_node 42 (mx_leaf 40 (mx_const (.int 6) 42)) (mx_leaf 42 (mx_callv 12 2 1 45))) (mx_node 46 (mx_leaf 45 (mx_istore 2 46)) (mx_node 49 (mx_leaf 46 (mx_const (.int 3000) 49)) (mx_leaf 49 (mx_const (.int 100) 51)))))) (mx_node 57 (mx_node 53 (mx_node 52 (mx_leaf 51 (mx_iload 2 52)) (mx_leaf 52 (mx_imul 53))) (mx_node 54 (mx_leaf 53 (mx_iadd 54)) (mx_node 55 (mx_leaf 54 (mx_aload 0 55)) (mx_leaf 55 (mx_const (.int 6) 57))))) (mx_node 61 (mx_node 60 (mx_leaf 57 (mx_callv 12 2 1 60)) (mx_leaf 60 (mx_iadd 61))) (mx_node 62 (mx_leaf 61 (mx_iret)) (mx_node 63 (mx_leaf 62 (mx_const (.int 0) 63)) (mx_leaf 63 (mx_iret))))))))
set_option maxRecDepth 100000 in
noncomputable def tb_14 : Nat → mx_O := (mx_node 45 (mx_node 22 (mx_node 10 (mx_node 4 (mx_node 1 (mx_leaf 0 (mx_aload 0 1)) (mx_leaf 1 (mx_objinit 4))) (mx_node 5 (mx_leaf 4 (mx_aload 0 5)) (mx_node 8 (mx_leaf 5 (mx_const (.int 385) 8)) (mx_leaf 8 (mx_newa .int (.int 0) 10))))) (mx_node 14 (mx_node 13 (mx_leaf 10 (mx_putf 1 2 2 (.array .int) 13)) (mx_leaf 13 (mx_aload 0 14))) (mx_node 17 (mx_leaf 14 (mx_const (.int 385) 17)) (mx_node 19 (mx_leaf 17 (mx_newa .int (.int 0) 19)) (mx_leaf 19 (mx_putf 1 2 3 (.array .int) 22)))))) (mx_node 32 (mx_node 26 (mx_node 23 (mx_leaf 22 (mx_aload 0 23)) (mx_leaf 23 (mx_const (.int 385) 26))) (mx_node 28 (mx_leaf 26 (mx_newa .int (.int 0) 28)) (mx_node 31 (mx_leaf 28 (mx_putf 1 2 4 (.array .int) 31)) (mx_leaf 31 (mx_aload 0 32))))) (mx_node 40 (mx_node 35 (mx_leaf 32 (mx_const (.int 385) 35)) (mx_node 37 (mx_leaf 35 (mx_newa .int (.int 0) 37)) (mx_leaf 37 (mx_putf 1 2 5 (.array .int) 40)))) (mx_node 41 (mx_leaf 40 (mx_aload 0 41)) (mx_node 42 (mx_leaf 41 (mx_const (.int 0) 42)) (mx_leaf 42 (mx_putf 1 2 6 (.int) 45))))))) (mx_node 62 (mx_node 52 (mx_node 47 (mx_node 46 (mx_leaf 45 (mx_aload 0 46)) (mx_leaf 46 (mx_const (.int 1) 47))) (mx_node 50 (mx_leaf 47 (mx_putf 1 2 7 (.int) 50)) (mx_node 51 (mx_leaf 50 (mx_aload 0 51)) (mx_leaf 51 (mx_const (.int 0) 52))))) (mx_node 57 (mx_node 55 (mx_leaf 52 (mx_putf 1 2 8 (.int) 55)) (mx_node 56 (mx_leaf 55 (mx_aload 0 56)) (mx_leaf 56 (mx_const (.int 0) 57)))) (mx_node 60 (mx_leaf 57 (mx_putf 1 2 9 (.int) 60)) (mx_node 61 (mx_leaf 60 (mx_aload 0 61)) (mx_leaf 61 (mx_const (.int 0) 62)))))) (mx_node 71 (mx_node 66 (mx_node 65 (mx_leaf 62 (mx_putf 1 2 10 (.int) 65)) (mx_leaf 65 (mx_aload 0 66))) (mx_node 67 (mx_leaf 66 (mx_const (.int 0) 67)) (mx_node 70 (mx_leaf 67 (mx_putf 1 2 11 (.int) 70)) (mx_leaf 70 (mx_aload 0 71))))) (mx_node 76 (mx_node 72 (mx_leaf 71 (mx_aload 1 72)) (mx_node 75 (mx_leaf 72 (mx_putf 1 2 0 (.object "TitheHeap$Atlas") 75)) (mx_leaf 75 (mx_aload 0 76)))) (mx_node 77 (mx_leaf 76 (mx_aload 2 77)) (mx_node 80 (mx_leaf 77 (mx_putf 1 2 1 (.object "TitheHeap$Mill") 80)) (mx_leaf 80 (mx_vret))))))))
set_option maxRecDepth 100000 in
noncomputable def tb_15 : Nat → mx_O := (mx_node 41 (mx_node 20 (mx_node 10 (mx_node 5 (mx_node 1 (mx_leaf 0 (mx_aload 0 1)) (mx_node 4 (mx_leaf 1 (mx_getf 2 3 4)) (mx_leaf 4 (mx_const (.int (-1)) 5)))) (mx_node 8 (mx_leaf 5 (mx_calls 284 2 8)) (mx_node 9 (mx_leaf 8 (mx_iload 1 9)) (mx_leaf 9 (mx_istore 2 10))))) (mx_node 13 (mx_node 11 (mx_leaf 10 (mx_const (.int 0) 11)) (mx_node 12 (mx_leaf 11 (mx_istore 3 12)) (mx_leaf 12 (mx_iload 3 13)))) (mx_node 16 (mx_leaf 13 (mx_const (.int 385) 16)) (mx_node 19 (mx_leaf 16 (mx_icmp_ge 57 19)) (mx_leaf 19 (mx_aload 0 20)))))) (mx_node 32 (mx_node 25 (mx_node 23 (mx_leaf 20 (mx_getf 2 3 23)) (mx_node 24 (mx_leaf 23 (mx_iload 2 24)) (mx_leaf 24 (mx_iald 25)))) (mx_node 28 (mx_leaf 25 (mx_if_ge 57 28)) (mx_node 29 (mx_leaf 28 (mx_aload 0 29)) (mx_leaf 29 (mx_getf 2 3 32))))) (mx_node 35 (mx_node 33 (mx_leaf 32 (mx_iload 2 33)) (mx_node 34 (mx_leaf 33 (mx_iload 3 34)) (mx_leaf 34 (mx_iast 1 35)))) (mx_node 39 (mx_node 36 (mx_leaf 35 (mx_aload 0 36)) (mx_leaf 36 (mx_getf 2 2 39))) (mx_node 40 (mx_leaf 39 (mx_iload 3 40)) (mx_leaf 40 (mx_iload 2 41))))))) (mx_node 63 (mx_node 53 (mx_node 46 (mx_node 42 (mx_leaf 41 (mx_iast 1 42)) (mx_node 45 (mx_leaf 42 (mx_iinc 3 1 45)) (mx_leaf 45 (mx_aload 0 46)))) (mx_node 49 (mx_leaf 46 (mx_getf 2 1 49)) (mx_node 50 (mx_leaf 49 (mx_iload 2 50)) (mx_leaf 50 (mx_callv 27 2 4 53))))) (mx_node 58 (mx_node 54 (mx_leaf 53 (mx_istore 2 54)) (mx_node 57 (mx_leaf 54 (mx_goto 12)) (mx_leaf 57 (mx_aload 0 58)))) (mx_node 59 (mx_leaf 58 (mx_const (.int 0) 59)) (mx_node 60 (mx_leaf 59 (mx_aload 0 60)) (mx_leaf 60 (mx_getf 2 3 63)))))) (mx_node 73 (mx_node 68 (mx_node 64 (mx_leaf 63 (mx_iload 2 64)) (mx_node 65 (mx_leaf 64 (mx_iald 65)) (mx_leaf 65 (mx_mmax 68)))) (mx_node 71 (mx_leaf 68 (mx_putf 1 2 6 (.int) 71)) (mx_node 72 (mx_leaf 71 (mx_aload 0 72)) (mx_leaf 72 (mx_const (.int 1) 73))))) (mx_node 78 (mx_node 74 (mx_leaf 73 (mx_iload 3 74)) (mx_node 75 (mx_leaf 74 (mx_aload 0 75)) (mx_leaf 75 (mx_getf 2 6 78)))) (mx_node 82 (mx_node 79 (mx_leaf 78 (mx_isub 79)) (mx_leaf 79 (mx_mmax 82))) (mx_node 85 (mx_leaf 82 (mx_putf 1 2 7 (.int) 85)) (mx_leaf 85 (mx_vret))))))))
set_option maxRecDepth 100000 in
noncomputable def tb_16 : Nat → mx_O := (mx_node 31 (mx_node 15 (mx_node 6 (mx_node 2 (mx_node 1 (mx_leaf 0 (mx_lload 1 1)) (mx_leaf 1 (mx_aload 0 2))) (mx_node 5 (mx_leaf 2 (mx_getf 2 6 5)) (mx_leaf 5 (mx_i2l 6)))) (mx_node 10 (mx_node 7 (mx_leaf 6 (mx_lif_ge 14 10)) (mx_leaf 7 (mx_if_ge 14 10))) (mx_node 11 (mx_leaf 10 (mx_lload 1 11)) (mx_node 14 (mx_leaf 11 (mx_goto 33)) (mx_leaf 14 (mx_aload 0 15)))))) (mx_node 24 (mx_node 19 (mx_node 18 (mx_leaf 15 (mx_getf 2 6 18)) (mx_leaf 18 (mx_i2l 19))) (mx_node 20 (mx_leaf 19 (mx_lload 1 20)) (mx_node 21 (mx_leaf 20 (mx_aload 0 21)) (mx_leaf 21 (mx_getf 2 6 24))))) (mx_node 26 (mx_node 25 (mx_leaf 24 (mx_i2l 25)) (mx_leaf 25 (mx_lsub 26))) (mx_node 27 (mx_leaf 26 (mx_aload 0 27)) (mx_node 30 (mx_leaf 27 (mx_getf 2 7 30)) (mx_leaf 30 (mx_i2l 31))))))) (mx_node 44 (mx_node 35 (mx_node 33 (mx_node 32 (mx_leaf 31 (mx_lrem 32)) (mx_leaf 32 (mx_ladd 33))) (mx_node 34 (mx_leaf 33 (mx_lstore 3 34)) (mx_leaf 34 (mx_lload 3 35)))) (mx_node 37 (mx_node 36 (mx_leaf 35 (mx_const (.long 0) 36)) (mx_leaf 36 (mx_lif_lt 48 40))) (mx_node 40 (mx_leaf 37 (mx_if_lt 48 40)) (mx_node 41 (mx_leaf 40 (mx_lload 3 41)) (mx_leaf 41 (mx_const (.long 385) 44)))))) (mx_node 53 (mx_node 48 (mx_node 45 (mx_leaf 44 (mx_lif_lt 52 48)) (mx_leaf 45 (mx_if_lt 52 48))) (mx_node 49 (mx_leaf 48 (mx_const (.int (-1)) 49)) (mx_node 52 (mx_leaf 49 (mx_goto 59)) (mx_leaf 52 (mx_aload 0 53))))) (mx_node 57 (mx_node 56 (mx_leaf 53 (mx_getf 2 2 56)) (mx_leaf 56 (mx_lload 3 57))) (mx_node 58 (mx_leaf 57 (mx_l2i 58)) (mx_node 59 (mx_leaf 58 (mx_iald 59)) (mx_leaf 59 (mx_iret))))))))
set_option maxRecDepth 100000 in
noncomputable def tb_17 : Nat → mx_O := (mx_node 27 (mx_node 11 (mx_node 3 (mx_node 1 (mx_leaf 0 (mx_const (.int 0) 1)) (mx_node 2 (mx_leaf 1 (mx_istore 3 2)) (mx_leaf 2 (mx_const (.int 0) 3)))) (mx_node 7 (mx_node 5 (mx_leaf 3 (mx_istore 4 5)) (mx_leaf 5 (mx_iload 4 7))) (mx_node 8 (mx_leaf 7 (mx_aload 0 8)) (mx_leaf 8 (mx_getf 2 0 11))))) (mx_node 21 (mx_node 17 (mx_node 14 (mx_leaf 11 (mx_getf 0 5 14)) (mx_leaf 14 (mx_icmp_ge 62 17))) (mx_node 19 (mx_leaf 17 (mx_iload 4 19)) (mx_leaf 19 (mx_istore 5 21)))) (mx_node 24 (mx_node 22 (mx_leaf 21 (mx_const (.int 0) 22)) (mx_leaf 22 (mx_istore 6 24))) (mx_node 26 (mx_leaf 24 (mx_iload 6 26)) (mx_leaf 26 (mx_iload 2 27)))))) (mx_node 47 (mx_node 36 (mx_node 31 (mx_node 30 (mx_leaf 27 (mx_icmp_ge 47 30)) (mx_leaf 30 (mx_aload 0 31))) (mx_node 34 (mx_leaf 31 (mx_getf 2 1 34)) (mx_leaf 34 (mx_iload 5 36)))) (mx_node 41 (mx_node 39 (mx_leaf 36 (mx_callv 27 2 4 39)) (mx_leaf 39 (mx_istore 5 41))) (mx_node 44 (mx_leaf 41 (mx_iinc 6 1 44)) (mx_leaf 44 (mx_goto 24))))) (mx_node 56 (mx_node 50 (mx_node 49 (mx_leaf 47 (mx_iload 5 49)) (mx_leaf 49 (mx_iload 1 50))) (mx_node 53 (mx_leaf 50 (mx_icmp_ne 56 53)) (mx_leaf 53 (mx_iinc 3 1 56)))) (mx_node 62 (mx_node 59 (mx_leaf 56 (mx_iinc 4 1 59)) (mx_leaf 59 (mx_goto 5))) (mx_node 63 (mx_leaf 62 (mx_iload 3 63)) (mx_leaf 63 (mx_iret)))))))
set_option maxRecDepth 100000 in
noncomputable def tb_18 : Nat → mx_O := (mx_node 50 (mx_node 27 (mx_node 13 (mx_node 5 (mx_node 1 (mx_leaf 0 (mx_aload 0 1)) (mx_node 4 (mx_leaf 1 (mx_callv 19 1 2 4)) (mx_leaf 4 (mx_istore 1 5)))) (mx_node 7 (mx_node 6 (mx_leaf 5 (mx_aload 0 6)) (mx_leaf 6 (mx_aload 0 7))) (mx_node 10 (mx_leaf 7 (mx_getf 2 0 10)) (mx_leaf 10 (mx_getf 0 5 13))))) (mx_node 19 (mx_node 15 (mx_node 14 (mx_leaf 13 (mx_iload 1 14)) (mx_leaf 14 (mx_isub 15))) (mx_node 18 (mx_leaf 15 (mx_putf 1 2 9 (.int) 18)) (mx_leaf 18 (mx_aload 0 19)))) (mx_node 23 (mx_node 22 (mx_leaf 19 (mx_callv 20 1 2 22)) (mx_leaf 22 (mx_aload 0 23))) (mx_node 24 (mx_leaf 23 (mx_const (.int 0) 24)) (mx_leaf 24 (mx_putf 1 2 11 (.int) 27)))))) (mx_node 36 (mx_node 30 (mx_node 28 (mx_leaf 27 (mx_iload 1 28)) (mx_node 29 (mx_leaf 28 (mx_const (.int 1) 29)) (mx_leaf 29 (mx_isub 30)))) (mx_node 32 (mx_node 31 (mx_leaf 30 (mx_istore 2 31)) (mx_leaf 31 (mx_iload 2 32))) (mx_node 35 (mx_leaf 32 (mx_if_lt 103 35)) (mx_leaf 35 (mx_aload 0 36))))) (mx_node 42 (mx_node 40 (mx_node 39 (mx_leaf 36 (mx_getf 2 2 39)) (mx_leaf 39 (mx_iload 2 40))) (mx_node 41 (mx_leaf 40 (mx_iald 41)) (mx_leaf 41 (mx_istore 3 42)))) (mx_node 46 (mx_node 43 (mx_leaf 42 (mx_aload 0 43)) (mx_leaf 43 (mx_getf 2 1 46))) (mx_node 47 (mx_leaf 46 (mx_iload 3 47)) (mx_leaf 47 (mx_callv 27 2 4 50))))))) (mx_node 76 (mx_node 63 (mx_node 56 (mx_node 52 (mx_leaf 50 (mx_istore 4 52)) (mx_node 53 (mx_leaf 52 (mx_aload 0 53)) (mx_leaf 53 (mx_getf 2 5 56)))) (mx_node 58 (mx_node 57 (mx_leaf 56 (mx_iload 3 57)) (mx_leaf 57 (mx_aload 0 58))) (mx_node 61 (mx_leaf 58 (mx_getf 2 5 61)) (mx_leaf 61 (mx_iload 4 63))))) (mx_node 69 (mx_node 65 (mx_node 64 (mx_leaf 63 (mx_iald 64)) (mx_leaf 64 (mx_iast 1 65))) (mx_node 66 (mx_leaf 65 (mx_aload 0 66)) (mx_leaf 66 (mx_getf 2 3 69)))) (mx_node 71 (mx_node 70 (mx_leaf 69 (mx_iload 3 70)) (mx_leaf 70 (mx_aload 0 71))) (mx_node 74 (mx_leaf 71 (mx_getf 2 3 74)) (mx_leaf 74 (mx_iload 4 76)))))) (mx_node 86 (mx_node 80 (mx_node 78 (mx_node 77 (mx_leaf 76 (mx_iald 77)) (mx_leaf 77 (mx_const (.int 1) 78))) (mx_node 79 (mx_leaf 78 (mx_iadd 79)) (mx_leaf 79 (mx_iast 1 80)))) (mx_node 82 (mx_node 81 (mx_leaf 80 (mx_aload 0 81)) (mx_leaf 81 (mx_aload 0 82))) (mx_node 85 (mx_leaf 82 (mx_getf 2 11 85)) (mx_leaf 85 (mx_aload 0 86))))) (mx_node 94 (mx_node 90 (mx_node 89 (mx_leaf 86 (mx_getf 2 3 89)) (mx_leaf 89 (mx_iload 3 90))) (mx_node 91 (mx_leaf 90 (mx_iald 91)) (mx_leaf 91 (mx_mmax 94)))) (mx_node 100 (mx_node 97 (mx_leaf 94 (mx_putf 1 2 11 (.int) 97)) (mx_leaf 97 (mx_iinc 2 (-1) 100))) (mx_node 103 (mx_leaf 100 (mx_goto 31)) (mx_leaf 103 (mx_vret))))))))
set_option maxRecDepth 100000 in
noncomputable def tb_19 : Nat → mx_O := (mx_node 81 (mx_node 38 (mx_node 21 (mx_node 9 (mx_node 4 (mx_node 1 (mx_leaf 0 (mx_aload 0 1)) (mx_leaf 1 (mx_getf 2 4 4))) (mx_node 5 (mx_leaf 4 (mx_const (.int 0) 5)) (mx_node 8 (mx_leaf 5 (mx_calls 284 2 8)) (mx_leaf 8 (mx_const (.int 0) 9))))) (mx_node 12 (mx_node 10 (mx_leaf 9 (mx_istore 1 10)) (mx_node 11 (mx_leaf 10 (mx_iload 1 11)) (mx_leaf 11 (mx_aload 0 12)))) (mx_node 15 (mx_leaf 12 (mx_getf 2 0 15)) (mx_node 18 (mx_leaf 15 (mx_getf 0 5 18)) (mx_leaf 18 (mx_icmp_ge 44 21)))))) (mx_node 30 (mx_node 25 (mx_node 22 (mx_leaf 21 (mx_aload 0 22)) (mx_leaf 22 (mx_getf 2 4 25))) (mx_node 26 (mx_leaf 25 (mx_aload 0 26)) (mx_node 29 (mx_leaf 26 (mx_getf 2 1 29)) (mx_leaf 29 (mx_iload 1 30))))) (mx_node 35 (mx_node 33 (mx_leaf 30 (mx_callv 27 2 4 33)) (mx_node 34 (mx_leaf 33 (mx_dup2 34)) (mx_leaf 34 (mx_iald 35)))) (mx_node 36 (mx_leaf 35 (mx_const (.int 1) 36)) (mx_node 37 (mx_leaf 36 (mx_iadd 37)) (mx_leaf 37 (mx_iast 1 38))))))) (mx_node 59 (mx_node 47 (mx_node 44 (mx_node 41 (mx_leaf 38 (mx_iinc 1 1 41)) (mx_leaf 41 (mx_goto 10))) (mx_node 45 (mx_leaf 44 (mx_const (.int 0) 45)) (mx_node 46 (mx_leaf 45 (mx_istore 1 46)) (mx_leaf 46 (mx_const (.int 0) 47))))) (mx_node 50 (mx_node 48 (mx_leaf 47 (mx_istore 2 48)) (mx_node 49 (mx_leaf 48 (mx_iload 2 49)) (mx_leaf 49 (mx_aload 0 50)))) (mx_node 53 (mx_leaf 50 (mx_getf 2 0 53)) (mx_node 56 (mx_leaf 53 (mx_getf 0 5 56)) (mx_leaf 56 (mx_icmp_ge 84 59)))))) (mx_node 69 (mx_node 64 (mx_node 60 (mx_leaf 59 (mx_aload 0 60)) (mx_node 63 (mx_leaf 60 (mx_getf 2 4 63)) (mx_leaf 63 (mx_iload 2 64)))) (mx_node 65 (mx_leaf 64 (mx_iald 65)) (mx_node 68 (mx_leaf 65 (mx_if_ne 78 68)) (mx_leaf 68 (mx_aload 0 69))))) (mx_node 74 (mx_node 72 (mx_leaf 69 (mx_getf 2 2 72)) (mx_node 73 (mx_leaf 72 (mx_iload 1 73)) (mx_leaf 73 (mx_iload 2 74)))) (mx_node 75 (mx_leaf 74 (mx_iast 1 75)) (mx_node 78 (mx_leaf 75 (mx_iinc 1 1 78)) (mx_leaf 78 (mx_iinc 2 1 81)))))))) (mx_node 122 (mx_node 100 (mx_node 90 (mx_node 85 (mx_node 84 (mx_leaf 81 (mx_goto 48)) (mx_leaf 84 (mx_aload 0 85))) (mx_node 86 (mx_leaf 85 (mx_iload 1 86)) (mx_node 89 (mx_leaf 86 (mx_putf 1 2 8 (.int) 89)) (mx_leaf 89 (mx_const (.int 0) 90))))) (mx_node 93 (mx_node 91 (mx_leaf 90 (mx_istore 2 91)) (mx_node 92 (mx_leaf 91 (mx_iload 2 92)) (mx_leaf 92 (mx_iload 1 93)))) (mx_node 96 (mx_leaf 93 (mx_icmp_ge 159 96)) (mx_node 97 (mx_leaf 96 (mx_iload 2 97)) (mx_leaf 97 (mx_const (.int 385) 100)))))) (mx_node 112 (mx_node 107 (mx_node 103 (mx_leaf 100 (mx_icmp_ge 159 103)) (mx_node 104 (mx_leaf 103 (mx_aload 0 104)) (mx_leaf 104 (mx_getf 2 1 107)))) (mx_node 108 (mx_leaf 107 (mx_aload 0 108)) (mx_node 111 (mx_leaf 108 (mx_getf 2 2 111)) (mx_leaf 111 (mx_iload 2 112))))) (mx_node 117 (mx_node 113 (mx_leaf 112 (mx_iald 113)) (mx_node 116 (mx_leaf 113 (mx_callv 27 2 4 116)) (mx_leaf 116 (mx_istore 3 117)))) (mx_node 118 (mx_leaf 117 (mx_aload 0 118)) (mx_node 121 (mx_leaf 118 (mx_getf 2 4 121)) (mx_leaf 121 (mx_iload 3 122))))))) (mx_node 137 (mx_node 127 (mx_node 124 (mx_node 123 (mx_leaf 122 (mx_dup2 123)) (mx_leaf 123 (mx_iald 124))) (mx_node 125 (mx_leaf 124 (mx_const (.int 1) 125)) (mx_node 126 (mx_leaf 125 (mx_isub 126)) (mx_leaf 126 (mx_iast 1 127))))) (mx_node 132 (mx_node 128 (mx_leaf 127 (mx_aload 0 128)) (mx_node 131 (mx_leaf 128 (mx_getf 2 4 131)) (mx_leaf 131 (mx_iload 3 132)))) (mx_node 133 (mx_leaf 132 (mx_iald 133)) (mx_node 136 (mx_leaf 133 (mx_if_ne 153 136)) (mx_leaf 136 (mx_iload 1 137)))))) (mx_node 149 (mx_node 144 (mx_node 140 (mx_leaf 137 (mx_const (.int 385) 140)) (mx_node 143 (mx_leaf 140 (mx_icmp_ge 153 143)) (mx_leaf 143 (mx_aload 0 144)))) (mx_node 147 (mx_leaf 144 (mx_getf 2 2 147)) (mx_node 148 (mx_leaf 147 (mx_iload 1 148)) (mx_leaf 148 (mx_iload 3 149))))) (mx_node 156 (mx_node 150 (mx_leaf 149 (mx_iast 1 150)) (mx_node 153 (mx_leaf 150 (mx_iinc 1 1 153)) (mx_leaf 153 (mx_iinc 2 1 156)))) (mx_node 159 (mx_leaf 156 (mx_goto 91)) (mx_node 160 (mx_leaf 159 (mx_iload 1 160)) (mx_leaf 160 (mx_iret)))))))))
set_option maxRecDepth 100000 in
noncomputable def tb_20 : Nat → mx_O := (mx_node 56 (mx_node 30 (mx_node 14 (mx_node 8 (mx_node 4 (mx_node 1 (mx_leaf 0 (mx_aload 0 1)) (mx_leaf 1 (mx_getf 2 5 4))) (mx_node 5 (mx_leaf 4 (mx_const (.int 0) 5)) (mx_leaf 5 (mx_calls 284 2 8)))) (mx_node 10 (mx_node 9 (mx_leaf 8 (mx_aload 0 9)) (mx_leaf 9 (mx_const (.int 0) 10))) (mx_node 13 (mx_leaf 10 (mx_putf 1 2 10 (.int) 13)) (mx_leaf 13 (mx_const (.int 0) 14))))) (mx_node 20 (mx_node 16 (mx_node 15 (mx_leaf 14 (mx_istore 1 15)) (mx_leaf 15 (mx_iload 1 16))) (mx_node 17 (mx_leaf 16 (mx_aload 0 17)) (mx_leaf 17 (mx_getf 2 0 20)))) (mx_node 26 (mx_node 23 (mx_leaf 20 (mx_getf 0 5 23)) (mx_leaf 23 (mx_icmp_ge 116 26))) (mx_node 27 (mx_leaf 26 (mx_aload 0 27)) (mx_leaf 27 (mx_getf 2 4 30)))))) (mx_node 44 (mx_node 36 (mx_node 32 (mx_node 31 (mx_leaf 30 (mx_iload 1 31)) (mx_leaf 31 (mx_iald 32))) (mx_node 35 (mx_leaf 32 (mx_if_le 110 35)) (mx_leaf 35 (mx_aload 0 36)))) (mx_node 40 (mx_node 39 (mx_leaf 36 (mx_getf 2 5 39)) (mx_leaf 39 (mx_iload 1 40))) (mx_node 41 (mx_leaf 40 (mx_iald 41)) (mx_leaf 41 (mx_if_ne 110 44))))) (mx_node 50 (mx_node 46 (mx_node 45 (mx_leaf 44 (mx_aload 0 45)) (mx_leaf 45 (mx_dup 46))) (mx_node 49 (mx_leaf 46 (mx_getf 2 10 49)) (mx_leaf 49 (mx_const (.int 1) 50)))) (mx_node 54 (mx_node 51 (mx_leaf 50 (mx_iadd 51)) (mx_leaf 51 (mx_putf 1 2 10 (.int) 54))) (mx_node 55 (mx_leaf 54 (mx_iload 1 55)) (mx_leaf 55 (mx_istore 2 56))))))) (mx_node 84 (mx_node 70 (mx_node 60 (mx_node 58 (mx_node 57 (mx_leaf 56 (mx_const (.int 0) 57)) (mx_leaf 57 (mx_istore 3 58))) (mx_node 59 (mx_leaf 58 (mx_iload 3 59)) (mx_leaf 59 (mx_aload 0 60)))) (mx_node 66 (mx_node 63 (mx_leaf 60 (mx_getf 2 0 63)) (mx_leaf 63 (mx_getf 0 5 66))) (mx_node 69 (mx_leaf 66 (mx_icmp_ge 110 69)) (mx_leaf 69 (mx_aload 0 70))))) (mx_node 78 (mx_node 74 (mx_node 73 (mx_leaf 70 (mx_getf 2 5 73)) (mx_leaf 73 (mx_iload 2 74))) (mx_node 75 (mx_leaf 74 (mx_iald 75)) (mx_leaf 75 (mx_if_ne 110 78)))) (mx_node 82 (mx_node 79 (mx_leaf 78 (mx_aload 0 79)) (mx_leaf 79 (mx_getf 2 5 82))) (mx_node 83 (mx_leaf 82 (mx_iload 2 83)) (mx_leaf 83 (mx_aload 0 84)))))) (mx_node 96 (mx_node 92 (mx_node 88 (mx_node 87 (mx_leaf 84 (mx_getf 2 10 87)) (mx_leaf 87 (mx_iast 1 88))) (mx_node 89 (mx_leaf 88 (mx_aload 0 89)) (mx_leaf 89 (mx_getf 2 3 92)))) (mx_node 94 (mx_node 93 (mx_leaf 92 (mx_iload 2 93)) (mx_leaf 93 (mx_const (.int 0) 94))) (mx_node 95 (mx_leaf 94 (mx_iast 1 95)) (mx_leaf 95 (mx_aload 0 96))))) (mx_node 104 (mx_node 100 (mx_node 99 (mx_leaf 96 (mx_getf 2 1 99)) (mx_leaf 99 (mx_iload 2 100))) (mx_node 103 (mx_leaf 100 (mx_callv 27 2 4 103)) (mx_leaf 103 (mx_istore 2 104)))) (mx_node 110 (mx_node 107 (mx_leaf 104 (mx_iinc 3 1 107)) (mx_leaf 107 (mx_goto 58))) (mx_node 113 (mx_leaf 110 (mx_iinc 1 1 113)) (mx_node 116 (mx_leaf 113 (mx_goto 15)) (mx_leaf 116 (mx_vret)))))))))
set_option maxRecDepth 100000 in
noncomputable def tb_21 : Nat → mx_O := (mx_node 19 (mx_node 5 (mx_node 2 (mx_node 1 (mx_leaf 0 (mx_const (.int 0) 1)) (mx_leaf 1 (mx_istore 2 2))) (mx_node 3 (mx_leaf 2 (mx_const (.int 0) 3)) (mx_node 4 (mx_leaf 3 (mx_istore 3 4)) (mx_leaf 4 (mx_iload 3 5))))) (mx_node 12 (mx_node 6 (mx_leaf 5 (mx_aload 0 6)) (mx_node 9 (mx_leaf 6 (mx_getf 2 0 9)) (mx_leaf 9 (mx_getf 0 5 12)))) (mx_node 15 (mx_leaf 12 (mx_icmp_ge 39 15)) (mx_node 16 (mx_leaf 15 (mx_aload 0 16)) (mx_leaf 16 (mx_getf 2 5 19)))))) (mx_node 27 (mx_node 22 (mx_node 20 (mx_leaf 19 (mx_iload 3 20)) (mx_node 21 (mx_leaf 20 (mx_iald 21)) (mx_leaf 21 (mx_aload 0 22)))) (mx_node 25 (mx_leaf 22 (mx_getf 2 5 25)) (mx_node 26 (mx_leaf 25 (mx_iload 1 26)) (mx_leaf 26 (mx_iald 27))))) (mx_node 36 (mx_node 30 (mx_leaf 27 (mx_icmp_ne 33 30)) (mx_node 33 (mx_leaf 30 (mx_iinc 2 1 33)) (mx_leaf 33 (mx_iinc 3 1 36)))) (mx_node 39 (mx_leaf 36 (mx_goto 4)) (mx_node 40 (mx_leaf 39 (mx_iload 2 40)) (mx_leaf 40 (mx_iret)))))))
set_option maxRecDepth 100000 in
noncomputable def tb_22 : Nat → mx_O := (mx_node 10 (mx_node 5 (mx_node 1 (mx_leaf 0 (mx_aload 0 1)) (mx_node 4 (mx_leaf 1 (mx_objinit 4)) (mx_leaf 4 (mx_aload 0 5)))) (mx_node 6 (mx_leaf 5 (mx_aload 1 6)) (mx_node 9 (mx_leaf 6 (mx_putf 1 3 0 (.array .int) 9)) (mx_leaf 9 (mx_aload 0 10))))) (mx_node 15 (mx_node 11 (mx_leaf 10 (mx_aload 2 11)) (mx_node 14 (mx_leaf 11 (mx_putf 1 3 1 (.array .int) 14)) (mx_leaf 14 (mx_aload 0 15)))) (mx_node 16 (mx_leaf 15 (mx_iload 3 16)) (mx_node 19 (mx_leaf 16 (mx_putf 1 3 2 (.int) 19)) (mx_leaf 19 (mx_vret))))))
set_option maxRecDepth 100000 in
noncomputable def tb_23 : Nat → mx_O := (mx_node 42 (mx_node 22 (mx_node 9 (mx_node 4 (mx_node 1 (mx_leaf 0 (mx_aload 0 1)) (mx_leaf 1 (mx_objinit 4))) (mx_node 5 (mx_leaf 4 (mx_aload 0 5)) (mx_node 8 (mx_leaf 5 (mx_new 3 3 [.null, .null, .int 0] 8)) (mx_leaf 8 (mx_dup 9))))) (mx_node 15 (mx_node 12 (mx_leaf 9 (mx_const (.ref 0) 12)) (mx_leaf 12 (mx_const (.ref 0) 15))) (mx_node 16 (mx_leaf 15 (mx_const (.int 0) 16)) (mx_node 19 (mx_leaf 16 (mx_calli 22 4 19)) (mx_leaf 19 (mx_putf 1 4 1 (.object "TitheHeap$Laws") 22)))))) (mx_node 31 (mx_node 24 (mx_node 23 (mx_leaf 22 (mx_aload 0 23)) (mx_leaf 23 (mx_const (.int 0) 24))) (mx_node 27 (mx_leaf 24 (mx_putf 1 4 2 (.int) 27)) (mx_node 28 (mx_leaf 27 (mx_aload 0 28)) (mx_leaf 28 (mx_const (.int 7315) 31))))) (mx_node 36 (mx_node 33 (mx_leaf 31 (mx_newa .int (.int 0) 33)) (mx_leaf 33 (mx_putf 1 4 3 (.array .int) 36))) (mx_node 37 (mx_leaf 36 (mx_aload 0 37)) (mx_node 40 (mx_leaf 37 (mx_const (.int 3850) 40)) (mx_leaf 40 (mx_newa .int (.int 0) 42))))))) (mx_node 62 (mx_node 54 (mx_node 46 (mx_node 45 (mx_leaf 42 (mx_putf 1 4 4 (.array .int) 45)) (mx_leaf 45 (mx_aload 0 46))) (mx_node 49 (mx_leaf 46 (mx_const (.int 6498) 49)) (mx_node 51 (mx_leaf 49 (mx_newa .int (.int 0) 51)) (mx_leaf 51 (mx_putf 1 4 5 (.array .int) 54))))) (mx_node 56 (mx_node 55 (mx_leaf 54 (mx_aload 0 55)) (mx_leaf 55 (mx_const (.int 5) 56))) (mx_node 58 (mx_leaf 56 (mx_newa .int (.int 0) 58)) (mx_node 61 (mx_leaf 58 (mx_putf 1 4 6 (.array .int) 61)) (mx_leaf 61 (mx_aload 0 62)))))) (mx_node 72 (mx_node 66 (mx_node 64 (mx_leaf 62 (mx_const (.int 64) 64)) (mx_leaf 64 (mx_newa .int (.int 0) 66))) (mx_node 69 (mx_leaf 66 (mx_putf 1 4 7 (.array .int) 69)) (mx_node 70 (mx_leaf 69 (mx_aload 0 70)) (mx_leaf 70 (mx_const (.int 19) 72))))) (mx_node 78 (mx_node 74 (mx_leaf 72 (mx_newa .int (.int 0) 74)) (mx_node 77 (mx_leaf 74 (mx_putf 1 4 8 (.array .int) 77)) (mx_leaf 77 (mx_aload 0 78)))) (mx_node 79 (mx_leaf 78 (mx_aload 1 79)) (mx_node 82 (mx_leaf 79 (mx_putf 1 4 0 (.object "TitheHeap$Atlas") 82)) (mx_leaf 82 (mx_vret))))))))
set_option maxRecDepth 100000 in
noncomputable def tb_24 : Nat → mx_O := (mx_node 16 (mx_node 9 (mx_node 2 (mx_node 1 (mx_leaf 0 (mx_aload 0 1)) (mx_leaf 1 (mx_aload 1 2))) (mx_node 5 (mx_leaf 2 (mx_putf 1 4 1 (.object "TitheHeap$Laws") 5)) (mx_node 6 (mx_leaf 5 (mx_aload 0 6)) (mx_leaf 6 (mx_getf 4 6 9))))) (mx_node 11 (mx_node 10 (mx_leaf 9 (mx_const (.int 3) 10)) (mx_leaf 10 (mx_iload 2 11))) (mx_node 12 (mx_leaf 11 (mx_iast 1 12)) (mx_node 13 (mx_leaf 12 (mx_aload 0 13)) (mx_leaf 13 (mx_getf 4 6 16)))))) (mx_node 21 (mx_node 18 (mx_node 17 (mx_leaf 16 (mx_const (.int 4) 17)) (mx_leaf 17 (mx_iload 3 18))) (mx_node 19 (mx_leaf 18 (mx_iast 1 19)) (mx_node 20 (mx_leaf 19 (mx_aload 0 20)) (mx_leaf 20 (mx_dup 21))))) (mx_node 25 (mx_node 24 (mx_leaf 21 (mx_getf 4 2 24)) (mx_leaf 24 (mx_const (.int 1) 25))) (mx_node 26 (mx_leaf 25 (mx_iadd 26)) (mx_node 29 (mx_leaf 26 (mx_putf 1 4 2 (.int) 29)) (mx_leaf 29 (mx_vret)))))))
set_option maxRecDepth 100000 in
noncomputable def tb_25 : Nat → mx_O := (mx_node 15 (mx_node 6 (mx_node 4 (mx_node 1 (mx_leaf 0 (mx_aload 0 1)) (mx_leaf 1 (mx_getf 4 6 4))) (mx_node 5 (mx_leaf 4 (mx_const (.int 4) 5)) (mx_leaf 5 (mx_iald 6)))) (mx_node 10 (mx_node 7 (mx_leaf 6 (mx_iload 1 7)) (mx_leaf 7 (mx_icmp_eq 27 10))) (mx_node 11 (mx_leaf 10 (mx_aload 0 11)) (mx_node 14 (mx_leaf 11 (mx_getf 4 6 14)) (mx_leaf 14 (mx_const (.int 4) 15)))))) (mx_node 19 (mx_node 17 (mx_node 16 (mx_leaf 15 (mx_iload 1 16)) (mx_leaf 16 (mx_iast 1 17))) (mx_node 18 (mx_leaf 17 (mx_aload 0 18)) (mx_leaf 18 (mx_dup 19)))) (mx_node 23 (mx_node 22 (mx_leaf 19 (mx_getf 4 2 22)) (mx_leaf 22 (mx_const (.int 1) 23))) (mx_node 24 (mx_leaf 23 (mx_iadd 24)) (mx_node 27 (mx_leaf 24 (mx_putf 1 4 2 (.int) 27)) (mx_leaf 27 (mx_vret)))))))
set_option maxRecDepth 100000 in
noncomputable def tb_26 : Nat → mx_O := (mx_node 56 (mx_node 30 (mx_node 16 (mx_node 6 (mx_node 4 (mx_node 1 (mx_leaf 0 (mx_iload 1 1)) (mx_leaf 1 (mx_if_lt 25 4))) (mx_node 5 (mx_leaf 4 (mx_iload 1 5)) (mx_leaf 5 (mx_aload 0 6)))) (mx_node 12 (mx_node 9 (mx_leaf 6 (mx_getf 4 0 9)) (mx_leaf 9 (mx_getf 0 5 12))) (mx_node 15 (mx_leaf 12 (mx_icmp_ge 25 15)) (mx_leaf 15 (mx_iload 2 16))))) (mx_node 25 (mx_node 20 (mx_node 19 (mx_leaf 16 (mx_if_lt 25 19)) (mx_leaf 19 (mx_iload 2 20))) (mx_node 22 (mx_leaf 20 (mx_const (.int 18) 22)) (mx_leaf 22 (mx_icmp_le 27 25)))) (mx_node 27 (mx_node 26 (mx_leaf 25 (mx_const (.int (-1)) 26)) (mx_leaf 26 (mx_iret))) (mx_node 28 (mx_leaf 27 (mx_iload 1 28)) (mx_leaf 28 (mx_const (.int 19) 30)))))) (mx_node 40 (mx_node 34 (mx_node 32 (mx_node 31 (mx_leaf 30 (mx_imul 31)) (mx_leaf 31 (mx_iload 2 32))) (mx_node 33 (mx_leaf 32 (mx_iadd 33)) (mx_leaf 33 (mx_istore 3 34)))) (mx_node 38 (mx_node 35 (mx_leaf 34 (mx_aload 0 35)) (mx_leaf 35 (mx_getf 4 3 38))) (mx_node 39 (mx_leaf 38 (mx_iload 3 39)) (mx_leaf 39 (mx_iald 40))))) (mx_node 47 (mx_node 43 (mx_node 42 (mx_leaf 40 (mx_const (.int 10) 42)) (mx_leaf 42 (mx_ishr 43))) (mx_node 44 (mx_leaf 43 (mx_aload 0 44)) (mx_leaf 44 (mx_getf 4 2 47)))) (mx_node 51 (mx_node 50 (mx_leaf 47 (mx_icmp_eq 101 50)) (mx_leaf 50 (mx_aload 0 51))) (mx_node 54 (mx_leaf 51 (mx_getf 4 0 54)) (mx_node 55 (mx_leaf 54 (mx_iload 1 55)) (mx_leaf 55 (mx_iload 2 56)))))))) (mx_node 89 (mx_node 74 (mx_node 65 (mx_node 61 (mx_node 59 (mx_leaf 56 (mx_callv 7 3 0 59)) (mx_leaf 59 (mx_istore 4 61))) (mx_node 62 (mx_leaf 61 (mx_iload 2 62)) (mx_leaf 62 (mx_if_le 74 65)))) (mx_node 70 (mx_node 67 (mx_leaf 65 (mx_iload 4 67)) (mx_leaf 67 (mx_if_ge 74 70))) (mx_node 71 (mx_leaf 70 (mx_const (.int (-1)) 71)) (mx_leaf 71 (mx_goto 81))))) (mx_node 81 (mx_node 76 (mx_node 75 (mx_leaf 74 (mx_aload 0 75)) (mx_leaf 75 (mx_iload 1 76))) (mx_node 78 (mx_leaf 76 (mx_iload 4 78)) (mx_leaf 78 (mx_callv 29 3 4 81)))) (mx_node 84 (mx_node 83 (mx_leaf 81 (mx_istore 5 83)) (mx_leaf 83 (mx_aload 0 84))) (mx_node 87 (mx_leaf 84 (mx_getf 4 3 87)) (mx_node 88 (mx_leaf 87 (mx_iload 3 88)) (mx_leaf 88 (mx_aload 0 89))))))) (mx_node 101 (mx_node 97 (mx_node 94 (mx_node 92 (mx_leaf 89 (mx_getf 4 2 92)) (mx_leaf 92 (mx_const (.int 10) 94))) (mx_node 95 (mx_leaf 94 (mx_ishl 95)) (mx_leaf 95 (mx_iload 5 97)))) (mx_node 99 (mx_node 98 (mx_leaf 97 (mx_const (.int 1) 98)) (mx_leaf 98 (mx_iadd 99))) (mx_node 100 (mx_leaf 99 (mx_ior 100)) (mx_leaf 100 (mx_iast 1 101))))) (mx_node 107 (mx_node 105 (mx_node 102 (mx_leaf 101 (mx_aload 0 102)) (mx_leaf 102 (mx_getf 4 3 105))) (mx_node 106 (mx_leaf 105 (mx_iload 3 106)) (mx_leaf 106 (mx_iald 107)))) (mx_node 111 (mx_node 110 (mx_leaf 107 (mx_const (.int 1023) 110)) (mx_leaf 110 (mx_iand 111))) (mx_node 112 (mx_leaf 111 (mx_const (.int 1) 112)) (mx_node 113 (mx_leaf 112 (mx_isub 113)) (mx_leaf 113 (mx_iret)))))))))
set_option maxRecDepth 100000 in
noncomputable def tb_27 : Nat → mx_O := (mx_node 3 (mx_node 1 (mx_leaf 0 (mx_const (.int 0) 1)) (mx_node 2 (mx_leaf 1 (mx_aload 0 2)) (mx_leaf 2 (mx_iload 1 3)))) (mx_node 7 (mx_node 4 (mx_leaf 3 (mx_const (.int 0) 4)) (mx_leaf 4 (mx_callv 26 3 4 7))) (mx_node 10 (mx_leaf 7 (mx_mmax 10)) (mx_leaf 10 (mx_iret)))))
set_option maxRecDepth 100000 in
noncomputable def tb_28 : Nat → mx_O := (mx_node 54 (mx_node 29 (mx_node 16 (mx_node 6 (mx_node 4 (mx_node 1 (mx_leaf 0 (mx_iload 1 1)) (mx_leaf 1 (mx_if_lt 25 4))) (mx_node 5 (mx_leaf 4 (mx_iload 1 5)) (mx_leaf 5 (mx_aload 0 6)))) (mx_node 12 (mx_node 9 (mx_leaf 6 (mx_getf 4 0 9)) (mx_leaf 9 (mx_getf 0 5 12))) (mx_node 15 (mx_leaf 12 (mx_icmp_ge 25 15)) (mx_leaf 15 (mx_iload 2 16))))) (mx_node 25 (mx_node 20 (mx_node 19 (mx_leaf 16 (mx_if_lt 25 19)) (mx_leaf 19 (mx_iload 2 20))) (mx_node 22 (mx_leaf 20 (mx_const (.int 10) 22)) (mx_leaf 22 (mx_icmp_lt 27 25)))) (mx_node 27 (mx_node 26 (mx_leaf 25 (mx_const (.int (-1)) 26)) (mx_leaf 26 (mx_iret))) (mx_node 28 (mx_leaf 27 (mx_iload 2 28)) (mx_leaf 28 (mx_aload 0 29)))))) (mx_node 45 (mx_node 39 (mx_node 33 (mx_node 32 (mx_leaf 29 (mx_getf 4 0 32)) (mx_leaf 32 (mx_iload 1 33))) (mx_node 36 (mx_leaf 33 (mx_callv 5 2 0 36)) (mx_leaf 36 (mx_icmp_lt 46 39)))) (mx_node 41 (mx_node 40 (mx_leaf 39 (mx_aload 0 40)) (mx_leaf 40 (mx_iload 1 41))) (mx_node 42 (mx_leaf 41 (mx_const (.int 0) 42)) (mx_leaf 42 (mx_callv 26 3 4 45))))) (mx_node 50 (mx_node 47 (mx_node 46 (mx_leaf 45 (mx_iret)) (mx_leaf 46 (mx_iload 1 47))) (mx_node 49 (mx_leaf 47 (mx_const (.int 10) 49)) (mx_leaf 49 (mx_imul 50)))) (mx_node 52 (mx_node 51 (mx_leaf 50 (mx_iload 2 51)) (mx_leaf 51 (mx_iadd 52))) (mx_node 53 (mx_leaf 52 (mx_istore 3 53)) (mx_leaf 53 (mx_aload 0 54))))))) (mx_node 82 (mx_node 69 (mx_node 61 (mx_node 58 (mx_node 57 (mx_leaf 54 (mx_getf 4 4 57)) (mx_leaf 57 (mx_iload 3 58))) (mx_node 59 (mx_leaf 58 (mx_iald 59)) (mx_leaf 59 (mx_const (.int 10) 61)))) (mx_node 63 (mx_node 62 (mx_leaf 61 (mx_ishr 62)) (mx_leaf 62 (mx_aload 0 63))) (mx_node 66 (mx_leaf 63 (mx_getf 4 2 66)) (mx_leaf 66 (mx_icmp_eq 91 69))))) (mx_node 75 (mx_node 73 (mx_node 70 (mx_leaf 69 (mx_aload 0 70)) (mx_leaf 70 (mx_getf 4 4 73))) (mx_node 74 (mx_leaf 73 (mx_iload 3 74)) (mx_leaf 74 (mx_aload 0 75)))) (mx_node 80 (mx_node 78 (mx_leaf 75 (mx_getf 4 2 78)) (mx_leaf 78 (mx_const (.int 10) 80))) (mx_node 81 (mx_leaf 80 (mx_ishl 81)) (mx_leaf 81 (mx_aload 0 82)))))) (mx_node 92 (mx_node 88 (mx_node 84 (mx_node 83 (mx_leaf 82 (mx_iload 1 83)) (mx_leaf 83 (mx_iload 2 84))) (mx_node 87 (mx_leaf 84 (mx_callv 29 3 4 87)) (mx_leaf 87 (mx_const (.int 1) 88)))) (mx_node 90 (mx_node 89 (mx_leaf 88 (mx_iadd 89)) (mx_leaf 89 (mx_ior 90))) (mx_node 91 (mx_leaf 90 (mx_iast 1 91)) (mx_leaf 91 (mx_aload 0 92))))) (mx_node 100 (mx_node 96 (mx_node 95 (mx_leaf 92 (mx_getf 4 4 95)) (mx_leaf 95 (mx_iload 3 96))) (mx_node 97 (mx_leaf 96 (mx_iald 97)) (mx_leaf 97 (mx_const (.int 1023) 100)))) (mx_node 102 (mx_node 101 (mx_leaf 100 (mx_iand 101)) (mx_leaf 101 (mx_const (.int 1) 102))) (mx_node 103 (mx_leaf 102 (mx_isub 103)) (mx_leaf 103 (mx_iret))))))))
set_option maxRecDepth 100000 in
noncomputable def tb_29 : Nat → mx_O := (mx_node 57 (mx_node 26 (mx_node 13 (mx_node 5 (mx_node 1 (mx_leaf 0 (mx_aload 0 1)) (mx_node 4 (mx_leaf 1 (mx_getf 4 8 4)) (mx_leaf 4 (mx_const (.int 0) 5)))) (mx_node 9 (mx_node 8 (mx_leaf 5 (mx_calls 284 2 8)) (mx_leaf 8 (mx_aload 0 9))) (mx_node 12 (mx_leaf 9 (mx_getf 4 0 12)) (mx_leaf 12 (mx_iload 1 13))))) (mx_node 20 (mx_node 17 (mx_node 16 (mx_leaf 13 (mx_callv 5 2 0 16)) (mx_leaf 16 (mx_istore 3 17))) (mx_node 18 (mx_leaf 17 (mx_const (.int 0) 18)) (mx_leaf 18 (mx_istore 4 20)))) (mx_node 23 (mx_node 21 (mx_leaf 20 (mx_const (.int 0) 21)) (mx_leaf 21 (mx_istore 5 23))) (mx_node 25 (mx_leaf 23 (mx_iload 5 25)) (mx_leaf 25 (mx_iload 3 26)))))) (mx_node 43 (mx_node 34 (mx_node 30 (mx_node 29 (mx_leaf 26 (mx_icmp_ge 89 29)) (mx_leaf 29 (mx_aload 0 30))) (mx_node 33 (mx_leaf 30 (mx_getf 4 0 33)) (mx_leaf 33 (mx_iload 1 34)))) (mx_node 39 (mx_node 36 (mx_leaf 34 (mx_iload 5 36)) (mx_leaf 36 (mx_callv 6 3 0 39))) (mx_node 41 (mx_leaf 39 (mx_istore 6 41)) (mx_leaf 41 (mx_iload 5 43))))) (mx_node 51 (mx_node 47 (mx_node 44 (mx_leaf 43 (mx_iload 2 44)) (mx_leaf 44 (mx_icmp_ne 51 47))) (mx_node 48 (mx_leaf 47 (mx_const (.int 0) 48)) (mx_leaf 48 (mx_goto 60)))) (mx_node 54 (mx_node 52 (mx_leaf 51 (mx_aload 0 52)) (mx_leaf 52 (mx_iload 6 54))) (mx_node 56 (mx_leaf 54 (mx_iload 5 56)) (mx_leaf 56 (mx_iload 3 57))))))) (mx_node 83 (mx_node 73 (mx_node 66 (mx_node 62 (mx_node 60 (mx_leaf 57 (mx_callv 30 4 4 60)) (mx_leaf 60 (mx_istore 7 62))) (mx_node 64 (mx_leaf 62 (mx_iload 4 64)) (mx_leaf 64 (mx_iload 7 66)))) (mx_node 69 (mx_node 67 (mx_leaf 66 (mx_iadd 67)) (mx_leaf 67 (mx_istore 4 69))) (mx_node 70 (mx_leaf 69 (mx_aload 0 70)) (mx_leaf 70 (mx_getf 4 8 73))))) (mx_node 79 (mx_node 77 (mx_node 75 (mx_leaf 73 (mx_iload 6 75)) (mx_leaf 75 (mx_iload 7 77))) (mx_node 78 (mx_leaf 77 (mx_isub 78)) (mx_leaf 78 (mx_dup2 79)))) (mx_node 81 (mx_node 80 (mx_leaf 79 (mx_iald 80)) (mx_leaf 80 (mx_const (.int 1) 81))) (mx_node 82 (mx_leaf 81 (mx_iadd 82)) (mx_leaf 82 (mx_iast 1 83)))))) (mx_node 98 (mx_node 93 (mx_node 89 (mx_node 86 (mx_leaf 83 (mx_iinc 5 1 86)) (mx_leaf 86 (mx_goto 23))) (mx_node 90 (mx_leaf 89 (mx_aload 0 90)) (mx_leaf 90 (mx_getf 4 8 93)))) (mx_node 96 (mx_node 95 (mx_leaf 93 (mx_iload 4 95)) (mx_leaf 95 (mx_dup2 96))) (mx_node 97 (mx_leaf 96 (mx_iald 97)) (mx_leaf 97 (mx_const (.int 1) 98))))) (mx_node 104 (mx_node 100 (mx_node 99 (mx_leaf 98 (mx_iadd 99)) (mx_leaf 99 (mx_iast 1 100))) (mx_node 101 (mx_leaf 100 (mx_aload 0 101)) (mx_leaf 101 (mx_getf 4 0 104)))) (mx_node 108 (mx_node 105 (mx_leaf 104 (mx_aload 0 105)) (mx_leaf 105 (mx_getf 4 8 108))) (mx_node 111 (mx_leaf 108 (mx_callv 9 2 0 111)) (mx_leaf 111 (mx_iret))))))))
set_option maxRecDepth 100000 in
noncomputable def tb_30 : Nat → mx_O := (mx_node 70 (mx_node 36 (mx_node 15 (mx_node 6 (mx_node 3 (mx_node 1 (mx_leaf 0 (mx_iload 1 1)) (mx_leaf 1 (mx_const (.int 18) 3))) (mx_node 4 (mx_leaf 3 (mx_imul 4)) (mx_node 5 (mx_leaf 4 (mx_iload 2 5)) (mx_leaf 5 (mx_iadd 6))))) (mx_node 10 (mx_node 8 (mx_leaf 6 (mx_const (.int 19) 8)) (mx_node 9 (mx_leaf 8 (mx_imul 9)) (mx_leaf 9 (mx_iload 3 10)))) (mx_node 11 (mx_leaf 10 (mx_iadd 11)) (mx_node 13 (mx_leaf 11 (mx_istore 4 13)) (mx_leaf 13 (mx_iload 4 15)))))) (mx_node 25 (mx_node 20 (mx_node 18 (mx_leaf 15 (mx_if_lt 28 18)) (mx_leaf 18 (mx_iload 4 20))) (mx_node 21 (mx_leaf 20 (mx_aload 0 21)) (mx_node 24 (mx_leaf 21 (mx_getf 4 5 24)) (mx_leaf 24 (mx_alen 25))))) (mx_node 30 (mx_node 28 (mx_leaf 25 (mx_icmp_lt 30 28)) (mx_node 29 (mx_leaf 28 (mx_const (.int 0) 29)) (mx_leaf 29 (mx_iret)))) (mx_node 31 (mx_leaf 30 (mx_aload 0 31)) (mx_node 34 (mx_leaf 31 (mx_getf 4 5 34)) (mx_leaf 34 (mx_iload 4 36))))))) (mx_node 53 (mx_node 43 (mx_node 38 (mx_node 37 (mx_leaf 36 (mx_iald 37)) (mx_leaf 37 (mx_const (.int 5) 38))) (mx_node 39 (mx_leaf 38 (mx_ishr 39)) (mx_node 40 (mx_leaf 39 (mx_aload 0 40)) (mx_leaf 40 (mx_getf 4 2 43))))) (mx_node 50 (mx_node 46 (mx_leaf 43 (mx_icmp_eq 149 46)) (mx_node 47 (mx_leaf 46 (mx_aload 0 47)) (mx_leaf 47 (mx_getf 4 6 50)))) (mx_node 51 (mx_leaf 50 (mx_const (.int 0) 51)) (mx_node 52 (mx_leaf 51 (mx_iload 1 52)) (mx_leaf 52 (mx_iast 1 53)))))) (mx_node 61 (mx_node 58 (mx_node 54 (mx_leaf 53 (mx_aload 0 54)) (mx_node 57 (mx_leaf 54 (mx_getf 4 6 57)) (mx_leaf 57 (mx_const (.int 1) 58)))) (mx_node 59 (mx_leaf 58 (mx_iload 2 59)) (mx_node 60 (mx_leaf 59 (mx_iast 1 60)) (mx_leaf 60 (mx_aload 0 61))))) (mx_node 66 (mx_node 64 (mx_leaf 61 (mx_getf 4 6 64)) (mx_node 65 (mx_leaf 64 (mx_const (.int 2) 65)) (mx_leaf 65 (mx_iload 3 66)))) (mx_node 67 (mx_leaf 66 (mx_iast 1 67)) (mx_node 68 (mx_leaf 67 (mx_const (.int 1) 68)) (mx_leaf 68 (mx_istore 5 70)))))))) (mx_node 116 (mx_node 95 (mx_node 81 (mx_node 74 (mx_node 71 (mx_leaf 70 (mx_aload 0 71)) (mx_leaf 71 (mx_getf 4 1 74))) (mx_node 77 (mx_leaf 74 (mx_getf 3 1 77)) (mx_node 78 (mx_leaf 77 (mx_alen 78)) (mx_leaf 78 (mx_if_le 101 81))))) (mx_node 86 (mx_node 82 (mx_leaf 81 (mx_aload 0 82)) (mx_node 83 (mx_leaf 82 (mx_aload 0 83)) (mx_leaf 83 (mx_getf 4 1 86)))) (mx_node 89 (mx_leaf 86 (mx_getf 3 1 89)) (mx_node 92 (mx_leaf 89 (mx_callv 31 2 4 92)) (mx_leaf 92 (mx_if_ne 101 95)))))) (mx_node 108 (mx_node 101 (mx_node 96 (mx_leaf 95 (mx_const (.int 0) 96)) (mx_node 98 (mx_leaf 96 (mx_istore 5 98)) (mx_leaf 98 (mx_goto 133)))) (mx_node 102 (mx_leaf 101 (mx_aload 0 102)) (mx_node 105 (mx_leaf 102 (mx_getf 4 1 105)) (mx_leaf 105 (mx_getf 3 0 108))))) (mx_node 113 (mx_node 109 (mx_leaf 108 (mx_alen 109)) (mx_node 112 (mx_leaf 109 (mx_if_le 133 112)) (mx_leaf 112 (mx_const (.int 0) 113)))) (mx_node 114 (mx_leaf 113 (mx_iload 1 114)) (mx_node 115 (mx_leaf 114 (mx_aload 0 115)) (mx_leaf 115 (mx_aload 0 116))))))) (mx_node 143 (mx_node 131 (mx_node 122 (mx_node 119 (mx_leaf 116 (mx_getf 4 1 119)) (mx_leaf 119 (mx_getf 3 0 122))) (mx_node 125 (mx_leaf 122 (mx_callv 31 2 4 125)) (mx_node 128 (mx_leaf 125 (mx_mmin 128)) (mx_leaf 128 (mx_mmax 131))))) (mx_node 137 (mx_node 133 (mx_leaf 131 (mx_istore 5 133)) (mx_node 134 (mx_leaf 133 (mx_aload 0 134)) (mx_leaf 134 (mx_getf 4 5 137)))) (mx_node 139 (mx_leaf 137 (mx_iload 4 139)) (mx_node 140 (mx_leaf 139 (mx_aload 0 140)) (mx_leaf 140 (mx_getf 4 2 143)))))) (mx_node 150 (mx_node 147 (mx_node 144 (mx_leaf 143 (mx_const (.int 5) 144)) (mx_node 145 (mx_leaf 144 (mx_ishl 145)) (mx_leaf 145 (mx_iload 5 147)))) (mx_node 148 (mx_leaf 147 (mx_ior 148)) (mx_node 149 (mx_leaf 148 (mx_iast 1 149)) (mx_leaf 149 (mx_aload 0 150))))) (mx_node 156 (mx_node 153 (mx_leaf 150 (mx_getf 4 5 153)) (mx_node 155 (mx_leaf 153 (mx_iload 4 155)) (mx_leaf 155 (mx_iald 156)))) (mx_node 158 (mx_leaf 156 (mx_const (.int 31) 158)) (mx_node 159 (mx_leaf 158 (mx_iand 159)) (mx_leaf 159 (mx_iret)))))))))
set_option maxRecDepth 100000 in
noncomputable def tb_31 : Nat → mx_O := (mx_node 215 (mx_node 82 (mx_node 44 (mx_node 15 (mx_node 6 (mx_node 3 (mx_node 1 (mx_leaf 0 (mx_const (.int (-1)) 1)) (mx_node 2 (mx_leaf 1 (mx_istore 2 2)) (mx_leaf 2 (mx_const (.int 0) 3)))) (mx_node 4 (mx_leaf 3 (mx_istore 3 4)) (mx_node 5 (mx_leaf 4 (mx_iload 3 5)) (mx_leaf 5 (mx_aload 1 6))))) (mx_node 11 (mx_node 7 (mx_leaf 6 (mx_alen 7)) (mx_node 10 (mx_leaf 7 (mx_icmp_ge 389 10)) (mx_leaf 10 (mx_aload 1 11)))) (mx_node 12 (mx_leaf 11 (mx_iload 3 12)) (mx_node 13 (mx_leaf 12 (mx_iald 13)) (mx_leaf 13 (mx_istore 4 15)))))) (mx_node 29 (mx_node 23 (mx_node 17 (mx_leaf 15 (mx_iload 4 17)) (mx_node 20 (mx_leaf 17 (mx_const (.int 1004) 20)) (mx_leaf 20 (mx_icmp_gt 27 23)))) (mx_node 24 (mx_leaf 23 (mx_const (.int 0) 24)) (mx_node 27 (mx_leaf 24 (mx_goto 52)) (mx_leaf 27 (mx_iload 4 29))))) (mx_node 36 (mx_node 32 (mx_leaf 29 (mx_const (.int 1018) 32)) (mx_node 35 (mx_leaf 32 (mx_icmp_ne 39 35)) (mx_leaf 35 (mx_const (.int 1) 36)))) (mx_node 39 (mx_leaf 36 (mx_goto 52)) (mx_node 41 (mx_leaf 39 (mx_iload 4 41)) (mx_leaf 41 (mx_const (.int 1019) 44))))))) (mx_node 64 (mx_node 55 (mx_node 51 (mx_node 47 (mx_leaf 44 (mx_icmp_ne 51 47)) (mx_node 48 (mx_leaf 47 (mx_const (.int 3) 48)) (mx_leaf 48 (mx_goto 52)))) (mx_node 52 (mx_leaf 51 (mx_const (.int 2) 52)) (mx_node 54 (mx_leaf 52 (mx_istore 5 54)) (mx_leaf 54 (mx_iload 2 55))))) (mx_node 59 (mx_node 56 (mx_leaf 55 (mx_const (.int 1) 56)) (mx_node 57 (mx_leaf 56 (mx_iadd 57)) (mx_leaf 57 (mx_iload 5 59)))) (mx_node 62 (mx_leaf 59 (mx_icmp_lt 76 62)) (mx_node 63 (mx_leaf 62 (mx_iload 2 63)) (mx_leaf 63 (mx_const (.int 1) 64)))))) (mx_node 73 (mx_node 68 (mx_node 65 (mx_leaf 64 (mx_iadd 65)) (mx_node 67 (mx_leaf 65 (mx_iload 5 67)) (mx_leaf 67 (mx_isub 68)))) (mx_node 69 (mx_leaf 68 (mx_aload 0 69)) (mx_node 72 (mx_leaf 69 (mx_getf 4 7 72)) (mx_leaf 72 (mx_alen 73))))) (mx_node 78 (mx_node 76 (mx_leaf 73 (mx_icmp_lt 78 76)) (mx_node 77 (mx_leaf 76 (mx_const (.int 0) 77)) (mx_leaf 77 (mx_iret)))) (mx_node 79 (mx_leaf 78 (mx_iload 2 79)) (mx_node 80 (mx_leaf 79 (mx_const (.int 1) 80)) (mx_leaf 80 (mx_iload 5 82)))))))) (mx_node 172 (mx_node 100 (mx_node 90 (mx_node 85 (mx_node 83 (mx_leaf 82 (mx_isub 83)) (mx_node 84 (mx_leaf 83 (mx_iadd 84)) (mx_leaf 84 (mx_istore 2 85)))) (mx_node 86 (mx_leaf 85 (mx_aload 0 86)) (mx_node 89 (mx_leaf 86 (mx_getf 4 7 89)) (mx_leaf 89 (mx_iload 2 90))))) (mx_node 95 (mx_node 91 (mx_leaf 90 (mx_iald 91)) (mx_node 93 (mx_leaf 91 (mx_istore 6 93)) (mx_leaf 93 (mx_iload 5 95)))) (mx_node 96 (mx_leaf 95 (mx_const (.int 1) 96)) (mx_node 99 (mx_leaf 96 (mx_icmp_le 110 99)) (mx_leaf 99 (mx_aload 0 100)))))) (mx_node 110 (mx_node 105 (mx_node 103 (mx_leaf 100 (mx_getf 4 7 103)) (mx_node 104 (mx_leaf 103 (mx_iload 2 104)) (mx_leaf 104 (mx_const (.int 1) 105)))) (mx_node 106 (mx_leaf 105 (mx_iadd 106)) (mx_node 107 (mx_leaf 106 (mx_iald 107)) (mx_leaf 107 (mx_goto 111))))) (mx_node 114 (mx_node 111 (mx_leaf 110 (mx_const (.int 0) 111)) (mx_node 113 (mx_leaf 111 (mx_istore 7 113)) (mx_leaf 113 (mx_const (.long 0) 114)))) (mx_node 116 (mx_leaf 114 (mx_lstore 8 116)) (mx_node 118 (mx_leaf 116 (mx_iload 4 118)) (mx_leaf 118 (mx_tsw 1010 1019 [172, 184, 196, 208, 225, 242, 259, 270, 281, 291] 316))))))) (mx_node 191 (mx_node 181 (mx_node 177 (mx_node 174 (mx_leaf 172 (mx_iload 6 174)) (mx_node 175 (mx_leaf 174 (mx_i2l 175)) (mx_leaf 175 (mx_iload 7 177)))) (mx_node 178 (mx_leaf 177 (mx_i2l 178)) (mx_node 179 (mx_leaf 178 (mx_ladd 179)) (mx_leaf 179 (mx_lstore 8 181))))) (mx_node 187 (mx_node 184 (mx_leaf 181 (mx_goto 344)) (mx_node 186 (mx_leaf 184 (mx_iload 6 186)) (mx_leaf 186 (mx_i2l 187)))) (mx_node 189 (mx_leaf 187 (mx_iload 7 189)) (mx_node 190 (mx_leaf 189 (mx_i2l 190)) (mx_leaf 190 (mx_lsub 191)))))) (mx_node 202 (mx_node 198 (mx_node 193 (mx_leaf 191 (mx_lstore 8 193)) (mx_node 196 (mx_leaf 193 (mx_goto 344)) (mx_leaf 196 (mx_iload 6 198)))) (mx_node 199 (mx_leaf 198 (mx_i2l 199)) (mx_node 201 (mx_leaf 199 (mx_iload 7 201)) (mx_leaf 201 (mx_i2l 202))))) (mx_node 208 (mx_node 203 (mx_leaf 202 (mx_lmul 203)) (mx_node 205 (mx_leaf 203 (mx_lstore 8 205)) (mx_leaf 205 (mx_goto 344)))) (mx_node 210 (mx_leaf 208 (mx_iload 6 210)) (mx_node 212 (mx_leaf 210 (mx_iload 7 212)) (mx_leaf 212 (mx_icmp_ne 219 215))))))))) (mx_node 308 (mx_node 264 (mx_node 239 (mx_node 227 (mx_node 220 (mx_node 216 (mx_leaf 215 (mx_const (.long 1) 216)) (mx_node 219 (mx_leaf 216 (mx_goto 220)) (mx_leaf 219 (mx_const (.long 0) 220)))) (mx_node 222 (mx_leaf 220 (mx_lstore 8 222)) (mx_node 225 (mx_leaf 222 (mx_goto 344)) (mx_leaf 225 (mx_iload 6 227))))) (mx_node 233 (mx_node 229 (mx_leaf 227 (mx_iload 7 229)) (mx_node 232 (mx_leaf 229 (mx_icmp_ge 236 232)) (mx_leaf 232 (mx_const (.long 1) 233)))) (mx_node 236 (mx_leaf 233 (mx_goto 237)) (mx_node 237 (mx_leaf 236 (mx_const (.long 0) 237)) (mx_leaf 237 (mx_lstore 8 239)))))) (mx_node 253 (mx_node 246 (mx_node 242 (mx_leaf 239 (mx_goto 344)) (mx_node 244 (mx_leaf 242 (mx_iload 6 244)) (mx_leaf 244 (mx_iload 7 246)))) (mx_node 249 (mx_leaf 246 (mx_icmp_le 253 249)) (mx_node 250 (mx_leaf 249 (mx_const (.long 1) 250)) (mx_leaf 250 (mx_goto 254))))) (mx_node 259 (mx_node 254 (mx_leaf 253 (mx_const (.long 0) 254)) (mx_node 256 (mx_leaf 254 (mx_lstore 8 256)) (mx_leaf 256 (mx_goto 344)))) (mx_node 261 (mx_leaf 259 (mx_iload 6 261)) (mx_node 263 (mx_leaf 261 (mx_iload 7 263)) (mx_leaf 263 (mx_iand 264))))))) (mx_node 285 (mx_node 275 (mx_node 270 (mx_node 265 (mx_leaf 264 (mx_i2l 265)) (mx_node 267 (mx_leaf 265 (mx_lstore 8 267)) (mx_leaf 267 (mx_goto 344)))) (mx_node 272 (mx_leaf 270 (mx_iload 6 272)) (mx_node 274 (mx_leaf 272 (mx_iload 7 274)) (mx_leaf 274 (mx_ior 275))))) (mx_node 281 (mx_node 276 (mx_leaf 275 (mx_i2l 276)) (mx_node 278 (mx_leaf 276 (mx_lstore 8 278)) (mx_leaf 278 (mx_goto 344)))) (mx_node 282 (mx_leaf 281 (mx_const (.int 1) 282)) (mx_node 284 (mx_leaf 282 (mx_iload 6 284)) (mx_leaf 284 (mx_isub 285)))))) (mx_node 298 (mx_node 291 (mx_node 286 (mx_leaf 285 (mx_i2l 286)) (mx_node 288 (mx_leaf 286 (mx_lstore 8 288)) (mx_leaf 288 (mx_goto 344)))) (mx_node 293 (mx_leaf 291 (mx_iload 6 293)) (mx_node 296 (mx_leaf 293 (mx_if_eq 302 296)) (mx_leaf 296 (mx_iload 7 298))))) (mx_node 303 (mx_node 299 (mx_leaf 298 (mx_i2l 299)) (mx_node 302 (mx_leaf 299 (mx_goto 311)) (mx_leaf 302 (mx_aload 0 303)))) (mx_node 306 (mx_leaf 303 (mx_getf 4 7 306)) (mx_node 307 (mx_leaf 306 (mx_iload 2 307)) (mx_leaf 307 (mx_const (.int 2) 308)))))))) (mx_node 354 (mx_node 331 (mx_node 318 (mx_node 311 (mx_node 309 (mx_leaf 308 (mx_iadd 309)) (mx_node 310 (mx_leaf 309 (mx_iald 310)) (mx_leaf 310 (mx_i2l 311)))) (mx_node 313 (mx_leaf 311 (mx_lstore 8 313)) (mx_node 316 (mx_leaf 313 (mx_goto 344)) (mx_leaf 316 (mx_iload 4 318))))) (mx_node 326 (mx_node 321 (mx_leaf 318 (mx_const (.int 1000) 321)) (mx_node 324 (mx_leaf 321 (mx_icmp_ge 330 324)) (mx_leaf 324 (mx_iload 4 326)))) (mx_node 327 (mx_leaf 326 (mx_i2l 327)) (mx_node 330 (mx_leaf 327 (mx_goto 342)) (mx_leaf 330 (mx_aload 0 331)))))) (mx_node 342 (mx_node 339 (mx_node 334 (mx_leaf 331 (mx_getf 4 6 334)) (mx_node 336 (mx_leaf 334 (mx_iload 4 336)) (mx_leaf 336 (mx_const (.int 1000) 339)))) (mx_node 340 (mx_leaf 339 (mx_isub 340)) (mx_node 341 (mx_leaf 340 (mx_iald 341)) (mx_leaf 341 (mx_i2l 342))))) (mx_node 348 (mx_node 344 (mx_leaf 342 (mx_lstore 8 344)) (mx_node 345 (mx_leaf 344 (mx_aload 0 345)) (mx_leaf 345 (mx_getf 4 7 348)))) (mx_node 349 (mx_leaf 348 (mx_iload 2 349)) (mx_node 351 (mx_leaf 349 (mx_lload 8 351)) (mx_leaf 351 (mx_const (.long 1000000) 354))))))) (mx_node 382 (mx_node 369 (mx_node 361 (mx_node 355 (mx_leaf 354 (mx_lif_le 364 358)) (mx_node 358 (mx_leaf 355 (mx_if_le 364 358)) (mx_leaf 358 (mx_const (.long 1000000) 361)))) (mx_node 364 (mx_leaf 361 (mx_goto 381)) (mx_node 366 (mx_leaf 364 (mx_lload 8 366)) (mx_leaf 366 (mx_const (.long (-1000000)) 369))))) (mx_node 376 (mx_node 370 (mx_leaf 369 (mx_lif_ge 379 373)) (mx_node 373 (mx_leaf 370 (mx_if_ge 379 373)) (mx_leaf 373 (mx_const (.long (-1000000)) 376)))) (mx_node 379 (mx_leaf 376 (mx_goto 381)) (mx_node 381 (mx_leaf 379 (mx_lload 8 381)) (mx_leaf 381 (mx_l2i 382)))))) (mx_node 394 (mx_node 389 (mx_node 383 (mx_leaf 382 (mx_iast 1 383)) (mx_node 386 (mx_leaf 383 (mx_iinc 3 1 386)) (mx_leaf 386 (mx_goto 4)))) (mx_node 390 (mx_leaf 389 (mx_iload 2 390)) (mx_node 393 (mx_leaf 390 (mx_if_ge 397 393)) (mx_leaf 393 (mx_const (.int 0) 394))))) (mx_node 401 (mx_node 397 (mx_leaf 394 (mx_goto 403)) (mx_node 398 (mx_leaf 397 (mx_aload 0 398)) (mx_leaf 398 (mx_getf 4 7 401)))) (mx_node 402 (mx_leaf 401 (mx_const (.int 0) 402)) (mx_node 403 (mx_leaf 402 (mx_iald 403)) (mx_leaf 403 (mx_iret))))))))))
set_option maxRecDepth 100000 in
noncomputable def tb_32 : Nat → mx_O := (mx_node 27 (mx_node 12 (mx_node 5 (mx_node 1 (mx_leaf 0 (mx_aload 0 1)) (mx_node 4 (mx_leaf 1 (mx_objinit 4)) (mx_leaf 4 (mx_aload 0 5)))) (mx_node 8 (mx_leaf 5 (mx_new 3 3 [.null, .null, .int 0] 8)) (mx_node 9 (mx_leaf 8 (mx_dup 9)) (mx_leaf 9 (mx_const (.ref 0) 12))))) (mx_node 19 (mx_node 15 (mx_leaf 12 (mx_const (.ref 0) 15)) (mx_node 16 (mx_leaf 15 (mx_const (.int 0) 16)) (mx_leaf 16 (mx_calli 22 4 19)))) (mx_node 23 (mx_node 22 (mx_leaf 19 (mx_putf 1 5 0 (.object "TitheHeap$Laws") 22)) (mx_leaf 22 (mx_aload 0 23))) (mx_node 24 (mx_leaf 23 (mx_const (.int 1) 24)) (mx_leaf 24 (mx_putf 1 5 1 (.int) 27)))))) (mx_node 37 (mx_node 32 (mx_node 28 (mx_leaf 27 (mx_aload 0 28)) (mx_node 29 (mx_leaf 28 (mx_const (.int 0) 29)) (mx_leaf 29 (mx_putf 1 5 2 (.int) 32)))) (mx_node 33 (mx_leaf 32 (mx_aload 0 33)) (mx_node 34 (mx_leaf 33 (mx_const (.int 0) 34)) (mx_leaf 34 (mx_putf 1 5 3 (.int) 37))))) (mx_node 42 (mx_node 38 (mx_leaf 37 (mx_aload 0 38)) (mx_node 39 (mx_leaf 38 (mx_const (.int 0) 39)) (mx_leaf 39 (mx_putf 1 5 4 (.int) 42)))) (mx_node 44 (mx_node 43 (mx_leaf 42 (mx_aload 0 43)) (mx_leaf 43 (mx_const (.int 0) 44))) (mx_node 47 (mx_leaf 44 (mx_putf 1 5 5 (.boolean) 47)) (mx_leaf 47 (mx_vret)))))))
set_option maxRecDepth 100000 in
noncomputable def tb_33 : Nat → mx_O := (mx_node 18 (mx_node 9 (mx_node 2 (mx_node 1 (mx_leaf 0 (mx_aload 0 1)) (mx_leaf 1 (mx_aload 1 2))) (mx_node 5 (mx_leaf 2 (mx_getf 5 0 5)) (mx_node 8 (mx_leaf 5 (mx_putf 1 5 0 (.object "TitheHeap$Laws") 8)) (mx_leaf 8 (mx_aload 0 9))))) (mx_node 13 (mx_node 10 (mx_leaf 9 (mx_aload 1 10)) (mx_leaf 10 (mx_getf 5 1 13))) (mx_node 16 (mx_leaf 13 (mx_putf 1 5 1 (.int) 16)) (mx_node 17 (mx_leaf 16 (mx_aload 0 17)) (mx_leaf 17 (mx_aload 1 18)))))) (mx_node 29 (mx_node 24 (mx_node 21 (mx_leaf 18 (mx_getf 5 2 21)) (mx_leaf 21 (mx_putf 1 5 2 (.int) 24))) (mx_node 25 (mx_leaf 24 (mx_aload 0 25)) (mx_node 26 (mx_leaf 25 (mx_aload 1 26)) (mx_leaf 26 (mx_getf 5 3 29))))) (mx_node 34 (mx_node 32 (mx_leaf 29 (mx_putf 1 5 3 (.int) 32)) (mx_node 33 (mx_leaf 32 (mx_aload 0 33)) (mx_leaf 33 (mx_aload 1 34)))) (mx_node 37 (mx_leaf 34 (mx_getf 5 4 37)) (mx_node 40 (mx_leaf 37 (mx_putf 1 5 4 (.int) 40)) (mx_leaf 40 (mx_vret)))))))
set_option maxRecDepth 100000 in
noncomputable def tb_34 : Nat → mx_O := (mx_node 9 (mx_node 4 (mx_node 1 (mx_leaf 0 (mx_aload 0 1)) (mx_leaf 1 (mx_objinit 4))) (mx_node 5 (mx_leaf 4 (mx_aload 0 5)) (mx_node 7 (mx_leaf 5 (mx_const (.int 30) 7)) (mx_leaf 7 (mx_newa .int (.int 0) 9))))) (mx_node 13 (mx_node 12 (mx_leaf 9 (mx_putf 1 6 0 (.array .int) 12)) (mx_leaf 12 (mx_aload 0 13))) (mx_node 14 (mx_leaf 13 (mx_const (.int 0) 14)) (mx_node 17 (mx_leaf 14 (mx_putf 1 6 1 (.int) 17)) (mx_leaf 17 (mx_vret))))))
set_option maxRecDepth 100000 in
noncomputable def tb_35 : Nat → mx_O := (mx_node 53 (mx_node 26 (mx_node 14 (mx_node 6 (mx_node 1 (mx_leaf 0 (mx_aload 0 1)) (mx_node 4 (mx_leaf 1 (mx_getf 6 1 4)) (mx_leaf 4 (mx_const (.int 10) 6)))) (mx_node 10 (mx_node 9 (mx_leaf 6 (mx_icmp_ne 39 9)) (mx_leaf 9 (mx_aload 0 10))) (mx_node 13 (mx_leaf 10 (mx_getf 6 0 13)) (mx_leaf 13 (mx_const (.int 3) 14))))) (mx_node 20 (mx_node 18 (mx_node 15 (mx_leaf 14 (mx_aload 0 15)) (mx_leaf 15 (mx_getf 6 0 18))) (mx_node 19 (mx_leaf 18 (mx_const (.int 0) 19)) (mx_leaf 19 (mx_aload 0 20)))) (mx_node 24 (mx_node 23 (mx_leaf 20 (mx_getf 6 0 23)) (mx_leaf 23 (mx_alen 24))) (mx_node 25 (mx_leaf 24 (mx_const (.int 3) 25)) (mx_leaf 25 (mx_isub 26)))))) (mx_node 39 (mx_node 31 (mx_node 29 (mx_leaf 26 (mx_stuck)) (mx_node 30 (mx_leaf 29 (mx_aload 0 30)) (mx_leaf 30 (mx_dup 31)))) (mx_node 35 (mx_node 34 (mx_leaf 31 (mx_getf 6 1 34)) (mx_leaf 34 (mx_const (.int 1) 35))) (mx_node 36 (mx_leaf 35 (mx_isub 36)) (mx_leaf 36 (mx_putf 1 6 1 (.int) 39))))) (mx_node 47 (mx_node 43 (mx_node 40 (mx_leaf 39 (mx_aload 0 40)) (mx_leaf 40 (mx_getf 6 0 43))) (mx_node 44 (mx_leaf 43 (mx_aload 0 44)) (mx_leaf 44 (mx_getf 6 1 47)))) (mx_node 49 (mx_node 48 (mx_leaf 47 (mx_const (.int 3) 48)) (mx_leaf 48 (mx_imul 49))) (mx_node 50 (mx_leaf 49 (mx_aload 1 50)) (mx_leaf 50 (mx_getf 5 2 53))))))) (mx_node 76 (mx_node 64 (mx_node 58 (mx_node 54 (mx_leaf 53 (mx_iast 1 54)) (mx_node 55 (mx_leaf 54 (mx_aload 0 55)) (mx_leaf 55 (mx_getf 6 0 58)))) (mx_node 62 (mx_node 59 (mx_leaf 58 (mx_aload 0 59)) (mx_leaf 59 (mx_getf 6 1 62))) (mx_node 63 (mx_leaf 62 (mx_const (.int 3) 63)) (mx_leaf 63 (mx_imul 64))))) (mx_node 70 (mx_node 66 (mx_node 65 (mx_leaf 64 (mx_const (.int 1) 65)) (mx_leaf 65 (mx_iadd 66))) (mx_node 67 (mx_leaf 66 (mx_aload 1 67)) (mx_leaf 67 (mx_getf 5 3 70)))) (mx_node 72 (mx_node 71 (mx_leaf 70 (mx_iast 1 71)) (mx_leaf 71 (mx_aload 0 72))) (mx_node 75 (mx_leaf 72 (mx_getf 6 0 75)) (mx_leaf 75 (mx_aload 0 76)))))) (mx_node 87 (mx_node 81 (mx_node 79 (mx_leaf 76 (mx_getf 6 1 79)) (mx_node 80 (mx_leaf 79 (mx_const (.int 3) 80)) (mx_leaf 80 (mx_imul 81)))) (mx_node 83 (mx_node 82 (mx_leaf 81 (mx_const (.int 2) 82)) (mx_leaf 82 (mx_iadd 83))) (mx_node 84 (mx_leaf 83 (mx_aload 1 84)) (mx_leaf 84 (mx_getf 5 4 87))))) (mx_node 93 (mx_node 89 (mx_node 88 (mx_leaf 87 (mx_iast 1 88)) (mx_leaf 88 (mx_aload 0 89))) (mx_node 90 (mx_leaf 89 (mx_dup 90)) (mx_leaf 90 (mx_getf 6 1 93)))) (mx_node 95 (mx_node 94 (mx_leaf 93 (mx_const (.int 1) 94)) (mx_leaf 94 (mx_iadd 95))) (mx_node 98 (mx_leaf 95 (mx_putf 1 6 1 (.int) 98)) (mx_leaf 98 (mx_vret))))))))
set_option maxRecDepth 100000 in
noncomputable def tb_36 : Nat → mx_O := (mx_node 39 (mx_node 19 (mx_node 7 (mx_node 2 (mx_node 1 (mx_leaf 0 (mx_iload 2 1)) (mx_leaf 1 (mx_const (.int 1) 2))) (mx_node 5 (mx_leaf 2 (mx_icmp_lt 13 5)) (mx_node 6 (mx_leaf 5 (mx_iload 2 6)) (mx_leaf 6 (mx_aload 0 7))))) (mx_node 14 (mx_node 10 (mx_leaf 7 (mx_getf 6 1 10)) (mx_node 13 (mx_leaf 10 (mx_icmp_le 14 13)) (mx_leaf 13 (mx_vret)))) (mx_node 15 (mx_leaf 14 (mx_aload 0 15)) (mx_node 16 (mx_leaf 15 (mx_dup 16)) (mx_leaf 16 (mx_getf 6 1 19)))))) (mx_node 29 (mx_node 24 (mx_node 20 (mx_leaf 19 (mx_iload 2 20)) (mx_node 21 (mx_leaf 20 (mx_isub 21)) (mx_leaf 21 (mx_putf 1 6 1 (.int) 24)))) (mx_node 25 (mx_leaf 24 (mx_aload 1 25)) (mx_node 26 (mx_leaf 25 (mx_aload 0 26)) (mx_leaf 26 (mx_getf 6 0 29))))) (mx_node 34 (mx_node 30 (mx_leaf 29 (mx_aload 0 30)) (mx_node 33 (mx_leaf 30 (mx_getf 6 1 33)) (mx_leaf 33 (mx_const (.int 3) 34)))) (mx_node 35 (mx_leaf 34 (mx_imul 35)) (mx_node 36 (mx_leaf 35 (mx_iald 36)) (mx_leaf 36 (mx_putf 1 5 2 (.int) 39))))))) (mx_node 56 (mx_node 48 (mx_node 41 (mx_node 40 (mx_leaf 39 (mx_aload 1 40)) (mx_leaf 40 (mx_aload 0 41))) (mx_node 44 (mx_leaf 41 (mx_getf 6 0 44)) (mx_node 45 (mx_leaf 44 (mx_aload 0 45)) (mx_leaf 45 (mx_getf 6 1 48))))) (mx_node 51 (mx_node 49 (mx_leaf 48 (mx_const (.int 3) 49)) (mx_node 50 (mx_leaf 49 (mx_imul 50)) (mx_leaf 50 (mx_const (.int 1) 51)))) (mx_node 52 (mx_leaf 51 (mx_iadd 52)) (mx_node 53 (mx_leaf 52 (mx_iald 53)) (mx_leaf 53 (mx_putf 1 5 3 (.int) 56)))))) (mx_node 66 (mx_node 61 (mx_node 57 (mx_leaf 56 (mx_aload 1 57)) (mx_node 58 (mx_leaf 57 (mx_aload 0 58)) (mx_leaf 58 (mx_getf 6 0 61)))) (mx_node 62 (mx_leaf 61 (mx_aload 0 62)) (mx_node 65 (mx_leaf 62 (mx_getf 6 1 65)) (mx_leaf 65 (mx_const (.int 3) 66))))) (mx_node 69 (mx_node 67 (mx_leaf 66 (mx_imul 67)) (mx_node 68 (mx_leaf 67 (mx_const (.int 2) 68)) (mx_leaf 68 (mx_iadd 69)))) (mx_node 70 (mx_leaf 69 (mx_iald 70)) (mx_node 73 (mx_leaf 70 (mx_putf 1 5 4 (.int) 73)) (mx_leaf 73 (mx_vret))))))))
set_option maxRecDepth 100000 in
noncomputable def tb_37 : Nat → mx_O := (mx_node 47 (mx_node 22 (mx_node 11 (mx_node 5 (mx_node 1 (mx_leaf 0 (mx_aload 0 1)) (mx_node 4 (mx_leaf 1 (mx_objinit 4)) (mx_leaf 4 (mx_aload 0 5)))) (mx_node 6 (mx_leaf 5 (mx_const (.int 0) 6)) (mx_node 8 (mx_leaf 6 (mx_newa .byte (.int 0) 8)) (mx_leaf 8 (mx_putf 1 7 0 (.array .byte) 11))))) (mx_node 16 (mx_node 12 (mx_leaf 11 (mx_aload 0 12)) (mx_node 13 (mx_leaf 12 (mx_const (.int 0) 13)) (mx_leaf 13 (mx_putf 1 7 1 (.int) 16)))) (mx_node 18 (mx_node 17 (mx_leaf 16 (mx_aload 0 17)) (mx_leaf 17 (mx_const (.int 0) 18))) (mx_node 21 (mx_leaf 18 (mx_putf 1 7 2 (.int) 21)) (mx_leaf 21 (mx_aload 0 22)))))) (mx_node 33 (mx_node 27 (mx_node 23 (mx_leaf 22 (mx_const (.int 0) 23)) (mx_node 26 (mx_leaf 23 (mx_putf 1 7 3 (.int) 26)) (mx_leaf 26 (mx_aload 0 27)))) (mx_node 31 (mx_node 28 (mx_leaf 27 (mx_const (.int 3) 28)) (mx_leaf 28 (mx_putf 1 7 4 (.int) 31))) (mx_node 32 (mx_leaf 31 (mx_aload 0 32)) (mx_leaf 32 (mx_const (.int 0) 33))))) (mx_node 40 (mx_node 36 (mx_leaf 33 (mx_putf 1 7 5 (.int) 36)) (mx_node 37 (mx_leaf 36 (mx_aload 0 37)) (mx_leaf 37 (mx_const (.int 900) 40)))) (mx_node 45 (mx_node 42 (mx_leaf 40 (mx_newa .int (.int 0) 42)) (mx_leaf 42 (mx_putf 1 7 6 (.array .int) 45))) (mx_node 46 (mx_leaf 45 (mx_aload 0 46)) (mx_leaf 46 (mx_const (.int 0) 47))))))) (mx_node 74 (mx_node 61 (mx_node 54 (mx_node 50 (mx_leaf 47 (mx_putf 1 7 7 (.int) 50)) (mx_node 51 (mx_leaf 50 (mx_aload 0 51)) (mx_leaf 51 (mx_const (.ref 0) 54)))) (mx_node 57 (mx_leaf 54 (mx_putf 1 7 8 (.array .int) 57)) (mx_node 58 (mx_leaf 57 (mx_aload 0 58)) (mx_leaf 58 (mx_const (.ref 0) 61))))) (mx_node 66 (mx_node 64 (mx_leaf 61 (mx_putf 1 7 9 (.array .int) 64)) (mx_node 65 (mx_leaf 64 (mx_aload 0 65)) (mx_leaf 65 (mx_const (.int 0) 66)))) (mx_node 70 (mx_node 69 (mx_leaf 66 (mx_putf 1 7 10 (.int) 69)) (mx_leaf 69 (mx_aload 0 70))) (mx_node 72 (mx_leaf 70 (mx_const (.int 19) 72)) (mx_leaf 72 (mx_newa .int (.int 0) 74)))))) (mx_node 87 (mx_node 79 (mx_node 77 (mx_leaf 74 (mx_putf 1 7 11 (.array .int) 77)) (mx_node 78 (mx_leaf 77 (mx_aload 0 78)) (mx_leaf 78 (mx_const (.int 0) 79)))) (mx_node 83 (mx_node 82 (mx_leaf 79 (mx_putf 1 7 12 (.int) 82)) (mx_leaf 82 (mx_aload 0 83))) (mx_node 84 (mx_leaf 83 (mx_const (.int 0) 84)) (mx_leaf 84 (mx_putf 1 7 13 (.int) 87))))) (mx_node 92 (mx_node 88 (mx_leaf 87 (mx_aload 0 88)) (mx_node 89 (mx_leaf 88 (mx_const (.int 0) 89)) (mx_leaf 89 (mx_putf 1 7 14 (.int) 92)))) (mx_node 94 (mx_node 93 (mx_leaf 92 (mx_aload 0 93)) (mx_leaf 93 (mx_const (.int (-1)) 94))) (mx_node 97 (mx_leaf 94 (mx_putf 1 7 15 (.int) 97)) (mx_leaf 97 (mx_vret))))))))
set_option maxRecDepth 100000 in
noncomputable def tb_38 : Nat → mx_O := (mx_node 87 (mx_node 43 (mx_node 19 (mx_node 7 (mx_node 2 (mx_node 1 (mx_leaf 0 (mx_aload 0 1)) (mx_leaf 1 (mx_aload 1 2))) (mx_node 5 (mx_leaf 2 (mx_putf 1 7 0 (.array .byte) 5)) (mx_node 6 (mx_leaf 5 (mx_aload 0 6)) (mx_leaf 6 (mx_const (.int 0) 7))))) (mx_node 10 (mx_node 8 (mx_leaf 7 (mx_iload 2 8)) (mx_node 9 (mx_leaf 8 (mx_aload 1 9)) (mx_leaf 9 (mx_alen 10)))) (mx_node 13 (mx_leaf 10 (mx_mmin 13)) (mx_node 16 (mx_leaf 13 (mx_mmax 16)) (mx_leaf 16 (mx_putf 1 7 1 (.int) 19)))))) (mx_node 31 (mx_node 24 (mx_node 20 (mx_leaf 19 (mx_aload 0 20)) (mx_node 21 (mx_leaf 20 (mx_const (.int 0) 21)) (mx_leaf 21 (mx_putf 1 7 2 (.int) 24)))) (mx_node 25 (mx_leaf 24 (mx_aload 0 25)) (mx_node 28 (mx_leaf 25 (mx_const (.ref 0) 28)) (mx_leaf 28 (mx_putf 1 7 8 (.array .int) 31))))) (mx_node 38 (mx_node 32 (mx_leaf 31 (mx_aload 0 32)) (mx_node 35 (mx_leaf 32 (mx_const (.ref 0) 35)) (mx_leaf 35 (mx_putf 1 7 9 (.array .int) 38)))) (mx_node 39 (mx_leaf 38 (mx_aload 0 39)) (mx_node 40 (mx_leaf 39 (mx_const (.int 0) 40)) (mx_leaf 40 (mx_putf 1 7 10 (.int) 43))))))) (mx_node 63 (mx_node 53 (mx_node 48 (mx_node 44 (mx_leaf 43 (mx_aload 0 44)) (mx_node 47 (mx_leaf 44 (mx_getf 7 11 47)) (mx_leaf 47 (mx_const (.int 0) 48)))) (mx_node 51 (mx_leaf 48 (mx_calls 284 2 51)) (mx_node 52 (mx_leaf 51 (mx_aload 0 52)) (mx_leaf 52 (mx_const (.int 0) 53))))) (mx_node 58 (mx_node 56 (mx_leaf 53 (mx_putf 1 7 12 (.int) 56)) (mx_node 57 (mx_leaf 56 (mx_aload 0 57)) (mx_leaf 57 (mx_const (.int 0) 58)))) (mx_node 61 (mx_leaf 58 (mx_putf 1 7 14 (.int) 61)) (mx_node 62 (mx_leaf 61 (mx_aload 0 62)) (mx_leaf 62 (mx_const (.int (-1)) 63)))))) (mx_node 77 (mx_node 70 (mx_node 66 (mx_leaf 63 (mx_putf 1 7 15 (.int) 66)) (mx_node 67 (mx_leaf 66 (mx_aload 0 67)) (mx_leaf 67 (mx_callv 56 1 7 70)))) (mx_node 71 (mx_leaf 70 (mx_aload 0 71)) (mx_node 74 (mx_leaf 71 (mx_const (.int 300) 74)) (mx_leaf 74 (mx_callv 53 2 7 77))))) (mx_node 84 (mx_node 78 (mx_leaf 77 (mx_aload 0 78)) (mx_node 81 (mx_leaf 78 (mx_const (.int 301) 81)) (mx_leaf 81 (mx_callv 53 2 7 84)))) (mx_node 85 (mx_leaf 84 (mx_aload 0 85)) (mx_node 86 (mx_leaf 85 (mx_aload 0 86)) (mx_leaf 86 (mx_const (.int 0) 87)))))))) (mx_node 132 (mx_node 108 (mx_node 98 (mx_node 92 (mx_node 89 (mx_leaf 87 (mx_const (.int 9) 89)) (mx_leaf 89 (mx_callv 54 3 7 92))) (mx_node 95 (mx_leaf 92 (mx_putf 1 7 13 (.int) 95)) (mx_node 96 (mx_leaf 95 (mx_aload 0 96)) (mx_leaf 96 (mx_const (.int 59) 98))))) (mx_node 103 (mx_node 101 (mx_leaf 98 (mx_callv 53 2 7 101)) (mx_node 102 (mx_leaf 101 (mx_aload 0 102)) (mx_leaf 102 (mx_const (.int 1) 103)))) (mx_node 106 (mx_leaf 103 (mx_putf 1 7 10 (.int) 106)) (mx_node 107 (mx_leaf 106 (mx_const (.int 0) 107)) (mx_leaf 107 (mx_istore 3 108)))))) (mx_node 120 (mx_node 113 (mx_node 109 (mx_leaf 108 (mx_iload 3 109)) (mx_node 110 (mx_leaf 109 (mx_aload 0 110)) (mx_leaf 110 (mx_getf 7 1 113)))) (mx_node 116 (mx_leaf 113 (mx_icmp_ge 157 116)) (mx_node 117 (mx_leaf 116 (mx_aload 0 117)) (mx_leaf 117 (mx_getf 7 4 120))))) (mx_node 127 (mx_node 123 (mx_leaf 120 (mx_if_eq 157 123)) (mx_node 124 (mx_leaf 123 (mx_aload 0 124)) (mx_leaf 124 (mx_getf 7 4 127)))) (mx_node 128 (mx_leaf 127 (mx_const (.int 3) 128)) (mx_node 131 (mx_leaf 128 (mx_icmp_eq 157 131)) (mx_leaf 131 (mx_aload 0 132))))))) (mx_node 157 (mx_node 143 (mx_node 138 (mx_node 135 (mx_leaf 132 (mx_callv 40 1 7 135)) (mx_node 136 (mx_leaf 135 (mx_aload 0 136)) (mx_leaf 136 (mx_const (.int 59) 138)))) (mx_node 141 (mx_leaf 138 (mx_callv 53 2 7 141)) (mx_node 142 (mx_leaf 141 (mx_aload 0 142)) (mx_leaf 142 (mx_dup 143))))) (mx_node 148 (mx_node 146 (mx_leaf 143 (mx_getf 7 10 146)) (mx_node 147 (mx_leaf 146 (mx_const (.int 1) 147)) (mx_leaf 147 (mx_iadd 148)))) (mx_node 151 (mx_leaf 148 (mx_putf 1 7 10 (.int) 151)) (mx_node 154 (mx_leaf 151 (mx_iinc 3 1 154)) (mx_leaf 154 (mx_goto 108)))))) (mx_node 169 (mx_node 164 (mx_node 158 (mx_leaf 157 (mx_aload 0 158)) (mx_node 161 (mx_leaf 158 (mx_getf 7 12 161)) (mx_leaf 161 (mx_if_ne 176 164)))) (mx_node 165 (mx_leaf 164 (mx_aload 0 165)) (mx_node 168 (mx_leaf 165 (mx_getf 7 11 168)) (mx_leaf 168 (mx_const (.int 1) 169))))) (mx_node 172 (mx_node 170 (mx_leaf 169 (mx_const (.int 1) 170)) (mx_node 171 (mx_leaf 170 (mx_iast 1 171)) (mx_leaf 171 (mx_aload 0 172)))) (mx_node 173 (mx_leaf 172 (mx_const (.int 1) 173)) (mx_node 176 (mx_leaf 173 (mx_putf 1 7 12 (.int) 176)) (mx_leaf 176 (mx_vret)))))))))
set_option maxRecDepth 100000 in
noncomputable def tb_39 : Nat → mx_O := (mx_node 9 (mx_node 4 (mx_node 3 (mx_leaf 0 (mx_new 3 3 [.null, .null, .int 0] 3)) (mx_leaf 3 (mx_dup 4))) (mx_node 5 (mx_leaf 4 (mx_aload 0 5)) (mx_node 8 (mx_leaf 5 (mx_getf 7 8 8)) (mx_leaf 8 (mx_aload 0 9))))) (mx_node 13 (mx_node 12 (mx_leaf 9 (mx_getf 7 9 12)) (mx_leaf 12 (mx_aload 0 13))) (mx_node 16 (mx_leaf 13 (mx_getf 7 10 16)) (mx_node 19 (mx_leaf 16 (mx_calli 22 4 19)) (mx_leaf 19 (mx_aret))))))
set_option maxRecDepth 100000 in
noncomputable def tb_40 : Nat → mx_O := (mx_node 60 (mx_node 31 (mx_node 16 (mx_node 10 (mx_node 4 (mx_node 1 (mx_leaf 0 (mx_aload 0 1)) (mx_leaf 1 (mx_getf 7 4 4))) (mx_node 7 (mx_leaf 4 (mx_const (.int 302) 7)) (mx_leaf 7 (mx_icmp_ne 50 10)))) (mx_node 14 (mx_node 11 (mx_leaf 10 (mx_aload 0 11)) (mx_leaf 11 (mx_callv 56 1 7 14))) (mx_node 15 (mx_leaf 14 (mx_aload 0 15)) (mx_leaf 15 (mx_const (.int 1) 16))))) (mx_node 23 (mx_node 19 (mx_node 18 (mx_leaf 16 (mx_const (.int 18) 18)) (mx_leaf 18 (mx_aload 0 19))) (mx_node 22 (mx_leaf 19 (mx_getf 7 12 22)) (mx_leaf 22 (mx_isub 23)))) (mx_node 27 (mx_node 26 (mx_leaf 23 (mx_callv 54 3 7 26)) (mx_leaf 26 (mx_istore 1 27))) (mx_node 28 (mx_leaf 27 (mx_aload 0 28)) (mx_leaf 28 (mx_getf 7 11 31)))))) (mx_node 39 (mx_node 35 (mx_node 33 (mx_node 32 (mx_leaf 31 (mx_iload 1 32)) (mx_leaf 32 (mx_dup2 33))) (mx_node 34 (mx_leaf 33 (mx_iald 34)) (mx_leaf 34 (mx_const (.int 1) 35)))) (mx_node 37 (mx_node 36 (mx_leaf 35 (mx_iadd 36)) (mx_leaf 36 (mx_iast 1 37))) (mx_node 38 (mx_leaf 37 (mx_aload 0 38)) (mx_leaf 38 (mx_dup 39))))) (mx_node 47 (mx_node 43 (mx_node 42 (mx_leaf 39 (mx_getf 7 12 42)) (mx_leaf 42 (mx_iload 1 43))) (mx_node 44 (mx_leaf 43 (mx_iadd 44)) (mx_leaf 44 (mx_putf 1 7 12 (.int) 47)))) (mx_node 51 (mx_node 50 (mx_leaf 47 (mx_goto 129)) (mx_leaf 50 (mx_aload 0 51))) (mx_node 54 (mx_leaf 51 (mx_getf 7 4 54)) (mx_node 57 (mx_leaf 54 (mx_const (.int 303) 57)) (mx_leaf 57 (mx_icmp_ne 87 60)))))))) (mx_node 97 (mx_node 74 (mx_node 66 (mx_node 64 (mx_node 61 (mx_leaf 60 (mx_aload 0 61)) (mx_leaf 61 (mx_callv 41 1 7 64))) (mx_node 65 (mx_leaf 64 (mx_aload 0 65)) (mx_leaf 65 (mx_const (.int 0) 66)))) (mx_node 70 (mx_node 69 (mx_leaf 66 (mx_callv 42 2 7 69)) (mx_leaf 69 (mx_aload 0 70))) (mx_node 71 (mx_leaf 70 (mx_aload 0 71)) (mx_leaf 71 (mx_getf 7 6 74))))) (mx_node 84 (mx_node 78 (mx_node 75 (mx_leaf 74 (mx_aload 0 75)) (mx_leaf 75 (mx_getf 7 7 78))) (mx_node 81 (mx_leaf 78 (mx_stuck)) (mx_leaf 81 (mx_putf 1 7 8 (.array .int) 84)))) (mx_node 88 (mx_node 87 (mx_leaf 84 (mx_goto 129)) (mx_leaf 87 (mx_aload 0 88))) (mx_node 91 (mx_leaf 88 (mx_getf 7 4 91)) (mx_node 94 (mx_leaf 91 (mx_const (.int 304) 94)) (mx_leaf 94 (mx_icmp_ne 124 97))))))) (mx_node 111 (mx_node 103 (mx_node 101 (mx_node 98 (mx_leaf 97 (mx_aload 0 98)) (mx_leaf 98 (mx_callv 41 1 7 101))) (mx_node 102 (mx_leaf 101 (mx_aload 0 102)) (mx_leaf 102 (mx_const (.int 0) 103)))) (mx_node 107 (mx_node 106 (mx_leaf 103 (mx_callv 47 2 7 106)) (mx_leaf 106 (mx_aload 0 107))) (mx_node 108 (mx_leaf 107 (mx_aload 0 108)) (mx_leaf 108 (mx_getf 7 6 111))))) (mx_node 121 (mx_node 115 (mx_node 112 (mx_leaf 111 (mx_aload 0 112)) (mx_leaf 112 (mx_getf 7 7 115))) (mx_node 118 (mx_leaf 115 (mx_stuck)) (mx_leaf 118 (mx_putf 1 7 9 (.array .int) 121)))) (mx_node 125 (mx_node 124 (mx_leaf 121 (mx_goto 129)) (mx_leaf 124 (mx_aload 0 125))) (mx_node 126 (mx_leaf 125 (mx_const (.int 2) 126)) (mx_node 129 (mx_leaf 126 (mx_callv 55 2 7 129)) (mx_leaf 129 (mx_vret)))))))))
set_option maxRecDepth 100000 in
noncomputable def tb_41 : Nat → mx_O := (mx_node 7 (mx_node 4 (mx_node 1 (mx_leaf 0 (mx_aload 0 1)) (mx_leaf 1 (mx_callv 56 1 7 4))) (mx_node 5 (mx_leaf 4 (mx_aload 0 5)) (mx_leaf 5 (mx_const (.int 58) 7)))) (mx_node 11 (mx_node 10 (mx_leaf 7 (mx_callv 53 2 7 10)) (mx_leaf 10 (mx_aload 0 11))) (mx_node 12 (mx_leaf 11 (mx_const (.int 0) 12)) (mx_node 15 (mx_leaf 12 (mx_putf 1 7 7 (.int) 15)) (mx_leaf 15 (mx_vret))))))
set_option maxRecDepth 100000 in
noncomputable def tb_42 : Nat → mx_O := (mx_node 34 (mx_node 15 (mx_node 6 (mx_node 2 (mx_node 1 (mx_leaf 0 (mx_aload 0 1)) (mx_leaf 1 (mx_iload 1 2))) (mx_node 5 (mx_leaf 2 (mx_callv 43 2 7 5)) (mx_leaf 5 (mx_const (.int 0) 6)))) (mx_node 8 (mx_node 7 (mx_leaf 6 (mx_istore 2 7)) (mx_leaf 7 (mx_iload 2 8))) (mx_node 9 (mx_leaf 8 (mx_aload 0 9)) (mx_node 12 (mx_leaf 9 (mx_getf 7 1 12)) (mx_leaf 12 (mx_icmp_ge 72 15)))))) (mx_node 24 (mx_node 19 (mx_node 16 (mx_leaf 15 (mx_aload 0 16)) (mx_leaf 16 (mx_getf 7 4 19))) (mx_node 21 (mx_leaf 19 (mx_const (.int 43) 21)) (mx_leaf 21 (mx_icmp_eq 33 24)))) (mx_node 28 (mx_node 25 (mx_leaf 24 (mx_aload 0 25)) (mx_leaf 25 (mx_getf 7 4 28))) (mx_node 30 (mx_leaf 28 (mx_const (.int 45) 30)) (mx_node 33 (mx_leaf 30 (mx_icmp_ne 72 33)) (mx_leaf 33 (mx_aload 0 34))))))) (mx_node 49 (mx_node 42 (mx_node 38 (mx_node 37 (mx_leaf 34 (mx_getf 7 4 37)) (mx_leaf 37 (mx_istore 3 38))) (mx_node 39 (mx_leaf 38 (mx_aload 0 39)) (mx_leaf 39 (mx_callv 56 1 7 42)))) (mx_node 44 (mx_node 43 (mx_leaf 42 (mx_aload 0 43)) (mx_leaf 43 (mx_iload 1 44))) (mx_node 47 (mx_leaf 44 (mx_callv 43 2 7 47)) (mx_node 48 (mx_leaf 47 (mx_aload 0 48)) (mx_leaf 48 (mx_iload 3 49)))))) (mx_node 60 (mx_node 54 (mx_node 51 (mx_leaf 49 (mx_const (.int 43) 51)) (mx_leaf 51 (mx_icmp_ne 60 54))) (mx_node 57 (mx_leaf 54 (mx_const (.int 1010) 57)) (mx_leaf 57 (mx_goto 63)))) (mx_node 66 (mx_node 63 (mx_leaf 60 (mx_const (.int 1011) 63)) (mx_leaf 63 (mx_callv 52 2 7 66))) (mx_node 69 (mx_leaf 66 (mx_iinc 2 1 69)) (mx_node 72 (mx_leaf 69 (mx_goto 7)) (mx_leaf 72 (mx_vret))))))))
set_option maxRecDepth 100000 in
noncomputable def tb_43 : Nat → mx_O := (mx_node 21 (mx_node 8 (mx_node 5 (mx_node 1 (mx_leaf 0 (mx_aload 0 1)) (mx_node 2 (mx_leaf 1 (mx_iload 1 2)) (mx_leaf 2 (mx_callv 44 2 7 5)))) (mx_node 6 (mx_leaf 5 (mx_const (.int 0) 6)) (mx_node 7 (mx_leaf 6 (mx_istore 2 7)) (mx_leaf 7 (mx_iload 2 8))))) (mx_node 15 (mx_node 9 (mx_leaf 8 (mx_aload 0 9)) (mx_node 12 (mx_leaf 9 (mx_getf 7 1 12)) (mx_leaf 12 (mx_icmp_ge 46 15)))) (mx_node 16 (mx_leaf 15 (mx_aload 0 16)) (mx_node 19 (mx_leaf 16 (mx_getf 7 4 19)) (mx_leaf 19 (mx_const (.int 42) 21)))))) (mx_node 33 (mx_node 28 (mx_node 24 (mx_leaf 21 (mx_icmp_ne 46 24)) (mx_node 25 (mx_leaf 24 (mx_aload 0 25)) (mx_leaf 25 (mx_callv 56 1 7 28)))) (mx_node 29 (mx_leaf 28 (mx_aload 0 29)) (mx_node 30 (mx_leaf 29 (mx_iload 1 30)) (mx_leaf 30 (mx_callv 44 2 7 33))))) (mx_node 40 (mx_node 34 (mx_leaf 33 (mx_aload 0 34)) (mx_node 37 (mx_leaf 34 (mx_const (.int 1012) 37)) (mx_leaf 37 (mx_callv 52 2 7 40)))) (mx_node 43 (mx_leaf 40 (mx_iinc 2 1 43)) (mx_node 46 (mx_leaf 43 (mx_goto 7)) (mx_leaf 46 (mx_vret)))))))
set_option maxRecDepth 100000 in
noncomputable def tb_44 : Nat → mx_O := (mx_node 71 (mx_node 34 (mx_node 14 (mx_node 8 (mx_node 4 (mx_node 1 (mx_leaf 0 (mx_aload 0 1)) (mx_leaf 1 (mx_getf 7 4 4))) (mx_node 5 (mx_leaf 4 (mx_const (.int 1) 5)) (mx_leaf 5 (mx_icmp_ne 23 8)))) (mx_node 10 (mx_node 9 (mx_leaf 8 (mx_aload 0 9)) (mx_leaf 9 (mx_aload 0 10))) (mx_node 11 (mx_leaf 10 (mx_const (.int 0) 11)) (mx_leaf 11 (mx_const (.int 999) 14))))) (mx_node 24 (mx_node 20 (mx_node 17 (mx_leaf 14 (mx_callv 54 3 7 17)) (mx_leaf 17 (mx_callv 52 2 7 20))) (mx_node 23 (mx_leaf 20 (mx_goto 148)) (mx_leaf 23 (mx_aload 0 24)))) (mx_node 29 (mx_node 27 (mx_leaf 24 (mx_getf 7 4 27)) (mx_leaf 27 (mx_const (.int 40) 29))) (mx_node 32 (mx_leaf 29 (mx_icmp_ne 56 32)) (mx_node 33 (mx_leaf 32 (mx_aload 0 33)) (mx_leaf 33 (mx_iload 1 34))))))) (mx_node 50 (mx_node 42 (mx_node 40 (mx_node 37 (mx_leaf 34 (mx_callv 51 2 7 37)) (mx_leaf 37 (mx_if_eq 148 40))) (mx_node 41 (mx_leaf 40 (mx_aload 0 41)) (mx_leaf 41 (mx_iload 1 42)))) (mx_node 44 (mx_node 43 (mx_leaf 42 (mx_const (.int 1) 43)) (mx_leaf 43 (mx_iadd 44))) (mx_node 47 (mx_leaf 44 (mx_callv 42 2 7 47)) (mx_node 48 (mx_leaf 47 (mx_aload 0 48)) (mx_leaf 48 (mx_const (.int 41) 50)))))) (mx_node 60 (mx_node 56 (mx_node 53 (mx_leaf 50 (mx_callv 53 2 7 53)) (mx_leaf 53 (mx_goto 148))) (mx_node 57 (mx_leaf 56 (mx_aload 0 57)) (mx_leaf 57 (mx_getf 7 4 60)))) (mx_node 66 (mx_node 63 (mx_leaf 60 (mx_const (.int 305) 63)) (mx_leaf 63 (mx_icmp_ne 84 66))) (mx_node 67 (mx_leaf 66 (mx_aload 0 67)) (mx_node 68 (mx_leaf 67 (mx_iload 1 68)) (mx_leaf 68 (mx_callv 51 2 7 71)))))))) (mx_node 111 (mx_node 88 (mx_node 77 (mx_node 75 (mx_node 74 (mx_leaf 71 (mx_if_eq 148 74)) (mx_leaf 74 (mx_aload 0 75))) (mx_node 76 (mx_leaf 75 (mx_iload 1 76)) (mx_leaf 76 (mx_const (.int 1) 77)))) (mx_node 81 (mx_node 78 (mx_leaf 77 (mx_iadd 78)) (mx_leaf 78 (mx_callv 46 2 7 81))) (mx_node 84 (mx_leaf 81 (mx_goto 148)) (mx_node 85 (mx_leaf 84 (mx_aload 0 85)) (mx_leaf 85 (mx_getf 7 4 88)))))) (mx_node 98 (mx_node 94 (mx_node 91 (mx_leaf 88 (mx_const (.int 301) 91)) (mx_leaf 91 (mx_icmp_ne 104 94))) (mx_node 95 (mx_leaf 94 (mx_aload 0 95)) (mx_leaf 95 (mx_const (.int 1004) 98)))) (mx_node 104 (mx_node 101 (mx_leaf 98 (mx_callv 45 2 7 101)) (mx_leaf 101 (mx_goto 148))) (mx_node 105 (mx_leaf 104 (mx_aload 0 105)) (mx_node 108 (mx_leaf 105 (mx_getf 7 4 108)) (mx_leaf 108 (mx_const (.int 309) 111))))))) (mx_node 132 (mx_node 121 (mx_node 115 (mx_node 114 (mx_leaf 111 (mx_icmp_lt 143 114)) (mx_leaf 114 (mx_aload 0 115))) (mx_node 118 (mx_leaf 115 (mx_getf 7 4 118)) (mx_leaf 118 (mx_const (.int 312) 121)))) (mx_node 125 (mx_node 124 (mx_leaf 121 (mx_icmp_gt 143 124)) (mx_leaf 124 (mx_aload 0 125))) (mx_node 128 (mx_leaf 125 (mx_const (.int 1000) 128)) (mx_node 129 (mx_leaf 128 (mx_aload 0 129)) (mx_leaf 129 (mx_getf 7 4 132)))))) (mx_node 140 (mx_node 136 (mx_node 133 (mx_leaf 132 (mx_iadd 133)) (mx_leaf 133 (mx_const (.int 309) 136))) (mx_node 137 (mx_leaf 136 (mx_isub 137)) (mx_leaf 137 (mx_callv 45 2 7 140)))) (mx_node 144 (mx_node 143 (mx_leaf 140 (mx_goto 148)) (mx_leaf 143 (mx_aload 0 144))) (mx_node 145 (mx_leaf 144 (mx_const (.int 2) 145)) (mx_node 148 (mx_leaf 145 (mx_callv 55 2 7 148)) (mx_leaf 148 (mx_vret)))))))))
set_option maxRecDepth 100000 in
noncomputable def tb_45 : Nat → mx_O := (mx_node 5 (mx_node 1 (mx_leaf 0 (mx_aload 0 1)) (mx_node 2 (mx_leaf 1 (mx_iload 1 2)) (mx_leaf 2 (mx_callv 52 2 7 5)))) (mx_node 6 (mx_leaf 5 (mx_aload 0 6)) (mx_node 9 (mx_leaf 6 (mx_callv 56 1 7 9)) (mx_leaf 9 (mx_vret)))))
set_option maxRecDepth 100000 in
noncomputable def tb_46 : Nat → mx_O := (mx_node 21 (mx_node 9 (mx_node 2 (mx_node 1 (mx_leaf 0 (mx_aload 0 1)) (mx_leaf 1 (mx_iload 1 2))) (mx_node 5 (mx_leaf 2 (mx_callv 47 2 7 5)) (mx_node 6 (mx_leaf 5 (mx_aload 0 6)) (mx_leaf 6 (mx_const (.int 306) 9))))) (mx_node 14 (mx_node 12 (mx_leaf 9 (mx_callv 53 2 7 12)) (mx_node 13 (mx_leaf 12 (mx_aload 0 13)) (mx_leaf 13 (mx_iload 1 14)))) (mx_node 17 (mx_leaf 14 (mx_callv 42 2 7 17)) (mx_node 18 (mx_leaf 17 (mx_aload 0 18)) (mx_leaf 18 (mx_const (.int 307) 21)))))) (mx_node 30 (mx_node 25 (mx_node 24 (mx_leaf 21 (mx_callv 53 2 7 24)) (mx_leaf 24 (mx_aload 0 25))) (mx_node 26 (mx_leaf 25 (mx_iload 1 26)) (mx_node 29 (mx_leaf 26 (mx_callv 42 2 7 29)) (mx_leaf 29 (mx_aload 0 30))))) (mx_node 37 (mx_node 33 (mx_leaf 30 (mx_const (.int 308) 33)) (mx_node 36 (mx_leaf 33 (mx_callv 53 2 7 36)) (mx_leaf 36 (mx_aload 0 37)))) (mx_node 40 (mx_leaf 37 (mx_const (.int 1019) 40)) (mx_node 43 (mx_leaf 40 (mx_callv 52 2 7 43)) (mx_leaf 43 (mx_vret)))))))
set_option maxRecDepth 100000 in
noncomputable def tb_47 : Nat → mx_O := (mx_node 22 (mx_node 8 (mx_node 5 (mx_node 1 (mx_leaf 0 (mx_aload 0 1)) (mx_node 2 (mx_leaf 1 (mx_iload 1 2)) (mx_leaf 2 (mx_callv 48 2 7 5)))) (mx_node 6 (mx_leaf 5 (mx_const (.int 0) 6)) (mx_node 7 (mx_leaf 6 (mx_istore 2 7)) (mx_leaf 7 (mx_iload 2 8))))) (mx_node 15 (mx_node 9 (mx_leaf 8 (mx_aload 0 9)) (mx_node 12 (mx_leaf 9 (mx_getf 7 1 12)) (mx_leaf 12 (mx_icmp_ge 47 15)))) (mx_node 16 (mx_leaf 15 (mx_aload 0 16)) (mx_node 19 (mx_leaf 16 (mx_getf 7 4 19)) (mx_leaf 19 (mx_const (.int 313) 22)))))) (mx_node 34 (mx_node 29 (mx_node 25 (mx_leaf 22 (mx_icmp_ne 47 25)) (mx_node 26 (mx_leaf 25 (mx_aload 0 26)) (mx_leaf 26 (mx_callv 56 1 7 29)))) (mx_node 30 (mx_leaf 29 (mx_aload 0 30)) (mx_node 31 (mx_leaf 30 (mx_iload 1 31)) (mx_leaf 31 (mx_callv 48 2 7 34))))) (mx_node 41 (mx_node 35 (mx_leaf 34 (mx_aload 0 35)) (mx_node 38 (mx_leaf 35 (mx_const (.int 1017) 38)) (mx_leaf 38 (mx_callv 52 2 7 41)))) (mx_node 44 (mx_leaf 41 (mx_iinc 2 1 44)) (mx_node 47 (mx_leaf 44 (mx_goto 7)) (mx_leaf 47 (mx_vret)))))))
set_option maxRecDepth 100000 in
noncomputable def tb_48 : Nat → mx_O := (mx_node 22 (mx_node 8 (mx_node 5 (mx_node 1 (mx_leaf 0 (mx_aload 0 1)) (mx_node 2 (mx_leaf 1 (mx_iload 1 2)) (mx_leaf 2 (mx_callv 49 2 7 5)))) (mx_node 6 (mx_leaf 5 (mx_const (.int 0) 6)) (mx_node 7 (mx_leaf 6 (mx_istore 2 7)) (mx_leaf 7 (mx_iload 2 8))))) (mx_node 15 (mx_node 9 (mx_leaf 8 (mx_aload 0 9)) (mx_node 12 (mx_leaf 9 (mx_getf 7 1 12)) (mx_leaf 12 (mx_icmp_ge 47 15)))) (mx_node 16 (mx_leaf 15 (mx_aload 0 16)) (mx_node 19 (mx_leaf 16 (mx_getf 7 4 19)) (mx_leaf 19 (mx_const (.int 314) 22)))))) (mx_node 34 (mx_node 29 (mx_node 25 (mx_leaf 22 (mx_icmp_ne 47 25)) (mx_node 26 (mx_leaf 25 (mx_aload 0 26)) (mx_leaf 26 (mx_callv 56 1 7 29)))) (mx_node 30 (mx_leaf 29 (mx_aload 0 30)) (mx_node 31 (mx_leaf 30 (mx_iload 1 31)) (mx_leaf 31 (mx_callv 49 2 7 34))))) (mx_node 41 (mx_node 35 (mx_leaf 34 (mx_aload 0 35)) (mx_node 38 (mx_leaf 35 (mx_const (.int 1016) 38)) (mx_leaf 38 (mx_callv 52 2 7 41)))) (mx_node 44 (mx_leaf 41 (mx_iinc 2 1 44)) (mx_node 47 (mx_leaf 44 (mx_goto 7)) (mx_leaf 47 (mx_vret)))))))
set_option maxRecDepth 100000 in
noncomputable def tb_49 : Nat → mx_O := (mx_node 39 (mx_node 19 (mx_node 10 (mx_node 4 (mx_node 1 (mx_leaf 0 (mx_aload 0 1)) (mx_leaf 1 (mx_getf 7 4 4))) (mx_node 7 (mx_leaf 4 (mx_const (.int 315) 7)) (mx_leaf 7 (mx_icmp_ne 35 10)))) (mx_node 12 (mx_node 11 (mx_leaf 10 (mx_aload 0 11)) (mx_leaf 11 (mx_iload 1 12))) (mx_node 15 (mx_leaf 12 (mx_callv 51 2 7 15)) (mx_node 18 (mx_leaf 15 (mx_if_eq 73 18)) (mx_leaf 18 (mx_aload 0 19)))))) (mx_node 26 (mx_node 21 (mx_node 20 (mx_leaf 19 (mx_iload 1 20)) (mx_leaf 20 (mx_const (.int 1) 21))) (mx_node 22 (mx_leaf 21 (mx_iadd 22)) (mx_node 25 (mx_leaf 22 (mx_callv 49 2 7 25)) (mx_leaf 25 (mx_aload 0 26))))) (mx_node 32 (mx_node 29 (mx_leaf 26 (mx_const (.int 1018) 29)) (mx_leaf 29 (mx_callv 52 2 7 32))) (mx_node 35 (mx_leaf 32 (mx_goto 73)) (mx_node 36 (mx_leaf 35 (mx_aload 0 36)) (mx_leaf 36 (mx_getf 7 4 39))))))) (mx_node 55 (mx_node 46 (mx_node 44 (mx_node 41 (mx_leaf 39 (mx_const (.int 91) 41)) (mx_leaf 41 (mx_icmp_ne 68 44))) (mx_node 45 (mx_leaf 44 (mx_aload 0 45)) (mx_leaf 45 (mx_iload 1 46)))) (mx_node 52 (mx_node 49 (mx_leaf 46 (mx_callv 51 2 7 49)) (mx_leaf 49 (mx_if_eq 73 52))) (mx_node 53 (mx_leaf 52 (mx_aload 0 53)) (mx_node 54 (mx_leaf 53 (mx_iload 1 54)) (mx_leaf 54 (mx_const (.int 1) 55)))))) (mx_node 65 (mx_node 59 (mx_node 56 (mx_leaf 55 (mx_iadd 56)) (mx_leaf 56 (mx_callv 47 2 7 59))) (mx_node 60 (mx_leaf 59 (mx_aload 0 60)) (mx_node 62 (mx_leaf 60 (mx_const (.int 93) 62)) (mx_leaf 62 (mx_callv 53 2 7 65))))) (mx_node 69 (mx_node 68 (mx_leaf 65 (mx_goto 73)) (mx_leaf 68 (mx_aload 0 69))) (mx_node 70 (mx_leaf 69 (mx_iload 1 70)) (mx_node 73 (mx_leaf 70 (mx_callv 50 2 7 73)) (mx_leaf 73 (mx_vret))))))))
set_option maxRecDepth 100000 in
noncomputable def tb_50 : Nat → mx_O := (mx_node 34 (mx_node 16 (mx_node 6 (mx_node 2 (mx_node 1 (mx_leaf 0 (mx_aload 0 1)) (mx_leaf 1 (mx_iload 1 2))) (mx_node 5 (mx_leaf 2 (mx_callv 42 2 7 5)) (mx_leaf 5 (mx_aload 0 6)))) (mx_node 10 (mx_node 9 (mx_leaf 6 (mx_getf 7 4 9)) (mx_leaf 9 (mx_istore 2 10))) (mx_node 11 (mx_leaf 10 (mx_iload 2 11)) (mx_node 13 (mx_leaf 11 (mx_const (.int 61) 13)) (mx_leaf 13 (mx_icmp_eq 34 16)))))) (mx_node 25 (mx_node 19 (mx_node 17 (mx_leaf 16 (mx_iload 2 17)) (mx_leaf 17 (mx_const (.int 60) 19))) (mx_node 22 (mx_leaf 19 (mx_icmp_eq 34 22)) (mx_node 23 (mx_leaf 22 (mx_iload 2 23)) (mx_leaf 23 (mx_const (.int 62) 25))))) (mx_node 29 (mx_node 28 (mx_leaf 25 (mx_icmp_eq 34 28)) (mx_leaf 28 (mx_aload 0 29))) (mx_node 30 (mx_leaf 29 (mx_const (.int 2) 30)) (mx_node 33 (mx_leaf 30 (mx_callv 55 2 7 33)) (mx_leaf 33 (mx_vret))))))) (mx_node 50 (mx_node 40 (mx_node 38 (mx_node 35 (mx_leaf 34 (mx_aload 0 35)) (mx_leaf 35 (mx_callv 56 1 7 38))) (mx_node 39 (mx_leaf 38 (mx_aload 0 39)) (mx_leaf 39 (mx_iload 1 40)))) (mx_node 44 (mx_node 43 (mx_leaf 40 (mx_callv 42 2 7 43)) (mx_leaf 43 (mx_aload 0 44))) (mx_node 45 (mx_leaf 44 (mx_iload 2 45)) (mx_node 47 (mx_leaf 45 (mx_const (.int 61) 47)) (mx_leaf 47 (mx_icmp_ne 56 50)))))) (mx_node 62 (mx_node 56 (mx_node 53 (mx_leaf 50 (mx_const (.int 1013) 53)) (mx_leaf 53 (mx_goto 71))) (mx_node 57 (mx_leaf 56 (mx_iload 2 57)) (mx_node 59 (mx_leaf 57 (mx_const (.int 60) 59)) (mx_leaf 59 (mx_icmp_ne 68 62))))) (mx_node 68 (mx_node 65 (mx_leaf 62 (mx_const (.int 1014) 65)) (mx_leaf 65 (mx_goto 71))) (mx_node 71 (mx_leaf 68 (mx_const (.int 1015) 71)) (mx_node 74 (mx_leaf 71 (mx_callv 52 2 7 74)) (mx_leaf 74 (mx_vret))))))))
set_option maxRecDepth 100000 in
noncomputable def tb_51 : Nat → mx_O := (mx_node 11 (mx_node 6 (mx_node 1 (mx_leaf 0 (mx_iload 1 1)) (mx_node 3 (mx_leaf 1 (mx_const (.int 6) 3)) (mx_leaf 3 (mx_icmp_lt 13 6)))) (mx_node 7 (mx_leaf 6 (mx_aload 0 7)) (mx_node 8 (mx_leaf 7 (mx_const (.int 4) 8)) (mx_leaf 8 (mx_callv 55 2 7 11))))) (mx_node 14 (mx_node 12 (mx_leaf 11 (mx_const (.int 0) 12)) (mx_node 13 (mx_leaf 12 (mx_zret)) (mx_leaf 13 (mx_aload 0 14)))) (mx_node 17 (mx_leaf 14 (mx_callv 56 1 7 17)) (mx_node 18 (mx_leaf 17 (mx_const (.int 1) 18)) (mx_leaf 18 (mx_zret))))))
set_option maxRecDepth 100000 in
noncomputable def tb_52 : Nat → mx_O := (mx_node 17 (mx_node 8 (mx_node 4 (mx_node 1 (mx_leaf 0 (mx_aload 0 1)) (mx_leaf 1 (mx_getf 7 7 4))) (mx_node 5 (mx_leaf 4 (mx_aload 0 5)) (mx_leaf 5 (mx_getf 7 6 8)))) (mx_node 12 (mx_node 9 (mx_leaf 8 (mx_alen 9)) (mx_leaf 9 (mx_icmp_ge 32 12))) (mx_node 13 (mx_leaf 12 (mx_aload 0 13)) (mx_node 16 (mx_leaf 13 (mx_getf 7 6 16)) (mx_leaf 16 (mx_aload 0 17)))))) (mx_node 24 (mx_node 21 (mx_node 20 (mx_leaf 17 (mx_getf 7 7 20)) (mx_leaf 20 (mx_iload 1 21))) (mx_node 22 (mx_leaf 21 (mx_iast 1 22)) (mx_node 23 (mx_leaf 22 (mx_aload 0 23)) (mx_leaf 23 (mx_dup 24))))) (mx_node 28 (mx_node 27 (mx_leaf 24 (mx_getf 7 7 27)) (mx_leaf 27 (mx_const (.int 1) 28))) (mx_node 29 (mx_leaf 28 (mx_iadd 29)) (mx_node 32 (mx_leaf 29 (mx_putf 1 7 7 (.int) 32)) (mx_leaf 32 (mx_vret)))))))
set_option maxRecDepth 100000 in
noncomputable def tb_53 : Nat → mx_O := (mx_node 9 (mx_node 4 (mx_node 1 (mx_leaf 0 (mx_aload 0 1)) (mx_leaf 1 (mx_getf 7 4 4))) (mx_node 5 (mx_leaf 4 (mx_iload 1 5)) (mx_node 8 (mx_leaf 5 (mx_icmp_ne 15 8)) (mx_leaf 8 (mx_aload 0 9))))) (mx_node 16 (mx_node 12 (mx_leaf 9 (mx_callv 56 1 7 12)) (mx_node 15 (mx_leaf 12 (mx_goto 20)) (mx_leaf 15 (mx_aload 0 16)))) (mx_node 17 (mx_leaf 16 (mx_const (.int 2) 17)) (mx_node 20 (mx_leaf 17 (mx_callv 55 2 7 20)) (mx_leaf 20 (mx_vret))))))
set_option maxRecDepth 100000 in
noncomputable def tb_54 : Nat → mx_O := (mx_node 21 (mx_node 10 (mx_node 5 (mx_node 1 (mx_leaf 0 (mx_aload 0 1)) (mx_node 4 (mx_leaf 1 (mx_getf 7 5 4)) (mx_leaf 4 (mx_istore 3 5)))) (mx_node 6 (mx_leaf 5 (mx_aload 0 6)) (mx_node 9 (mx_leaf 6 (mx_getf 7 4 9)) (mx_leaf 9 (mx_const (.int 1) 10))))) (mx_node 15 (mx_node 13 (mx_leaf 10 (mx_icmp_eq 20 13)) (mx_node 14 (mx_leaf 13 (mx_aload 0 14)) (mx_leaf 14 (mx_const (.int 2) 15)))) (mx_node 19 (mx_node 18 (mx_leaf 15 (mx_callv 55 2 7 18)) (mx_leaf 18 (mx_const (.int 0) 19))) (mx_node 20 (mx_leaf 19 (mx_iret)) (mx_leaf 20 (mx_iload 3 21)))))) (mx_node 32 (mx_node 26 (mx_node 22 (mx_leaf 21 (mx_iload 1 22)) (mx_node 25 (mx_leaf 22 (mx_icmp_lt 30 25)) (mx_leaf 25 (mx_iload 3 26)))) (mx_node 30 (mx_node 27 (mx_leaf 26 (mx_iload 2 27)) (mx_leaf 27 (mx_icmp_le 37 30))) (mx_node 31 (mx_leaf 30 (mx_aload 0 31)) (mx_leaf 31 (mx_const (.int 3) 32))))) (mx_node 37 (mx_node 35 (mx_leaf 32 (mx_callv 55 2 7 35)) (mx_node 36 (mx_leaf 35 (mx_const (.int 0) 36)) (mx_leaf 36 (mx_iret)))) (mx_node 41 (mx_node 38 (mx_leaf 37 (mx_aload 0 38)) (mx_leaf 38 (mx_callv 56 1 7 41))) (mx_node 42 (mx_leaf 41 (mx_iload 3 42)) (mx_leaf 42 (mx_iret)))))))
set_option maxRecDepth 100000 in
noncomputable def tb_55 : Nat → mx_O := (mx_node 19 (mx_node 9 (mx_node 4 (mx_node 1 (mx_leaf 0 (mx_aload 0 1)) (mx_leaf 1 (mx_getf 7 4 4))) (mx_node 5 (mx_leaf 4 (mx_const (.int 3) 5)) (mx_node 8 (mx_leaf 5 (mx_icmp_ne 9 8)) (mx_leaf 8 (mx_vret))))) (mx_node 14 (mx_node 10 (mx_leaf 9 (mx_aload 0 10)) (mx_node 11 (mx_leaf 10 (mx_aload 0 11)) (mx_leaf 11 (mx_getf 7 4 14)))) (mx_node 15 (mx_leaf 14 (mx_const (.int 2) 15)) (mx_node 18 (mx_leaf 15 (mx_icmp_ne 22 18)) (mx_leaf 18 (mx_const (.int 1) 19)))))) (mx_node 28 (mx_node 23 (mx_node 22 (mx_leaf 19 (mx_goto 23)) (mx_leaf 22 (mx_iload 1 23))) (mx_node 26 (mx_leaf 23 (mx_putf 1 7 14 (.int) 26)) (mx_node 27 (mx_leaf 26 (mx_aload 0 27)) (mx_leaf 27 (mx_aload 0 28))))) (mx_node 35 (mx_node 31 (mx_leaf 28 (mx_getf 7 3 31)) (mx_node 34 (mx_leaf 31 (mx_putf 1 7 15 (.int) 34)) (mx_leaf 34 (mx_aload 0 35)))) (mx_node 36 (mx_leaf 35 (mx_const (.int 3) 36)) (mx_node 39 (mx_leaf 36 (mx_putf 1 7 4 (.int) 39)) (mx_leaf 39 (mx_vret)))))))
set_option maxRecDepth 100000 in
noncomputable def tb_56 : Nat → mx_O := (mx_node 92 (mx_node 47 (mx_node 23 (mx_node 9 (mx_node 4 (mx_node 1 (mx_leaf 0 (mx_aload 0 1)) (mx_leaf 1 (mx_getf 7 14 4))) (mx_node 7 (mx_leaf 4 (mx_if_eq 8 7)) (mx_node 8 (mx_leaf 7 (mx_vret)) (mx_leaf 8 (mx_aload 0 9))))) (mx_node 16 (mx_node 12 (mx_leaf 9 (mx_getf 7 2 12)) (mx_node 13 (mx_leaf 12 (mx_aload 0 13)) (mx_leaf 13 (mx_getf 7 1 16)))) (mx_node 19 (mx_leaf 16 (mx_icmp_ge 60 19)) (mx_node 20 (mx_leaf 19 (mx_aload 0 20)) (mx_leaf 20 (mx_getf 7 0 23)))))) (mx_node 34 (mx_node 28 (mx_node 24 (mx_leaf 23 (mx_aload 0 24)) (mx_node 27 (mx_leaf 24 (mx_getf 7 2 27)) (mx_leaf 27 (mx_bald 28)))) (mx_node 30 (mx_leaf 28 (mx_const (.int 10) 30)) (mx_node 33 (mx_leaf 30 (mx_icmp_eq 47 33)) (mx_leaf 33 (mx_aload 0 34))))) (mx_node 41 (mx_node 37 (mx_leaf 34 (mx_getf 7 0 37)) (mx_node 38 (mx_leaf 37 (mx_aload 0 38)) (mx_leaf 38 (mx_getf 7 2 41)))) (mx_node 42 (mx_leaf 41 (mx_bald 42)) (mx_node 44 (mx_leaf 42 (mx_const (.int 32) 44)) (mx_leaf 44 (mx_icmp_ne 60 47))))))) (mx_node 68 (mx_node 54 (mx_node 49 (mx_node 48 (mx_leaf 47 (mx_aload 0 48)) (mx_leaf 48 (mx_dup 49))) (mx_node 52 (mx_leaf 49 (mx_getf 7 2 52)) (mx_node 53 (mx_leaf 52 (mx_const (.int 1) 53)) (mx_leaf 53 (mx_iadd 54))))) (mx_node 61 (mx_node 57 (mx_leaf 54 (mx_putf 1 7 2 (.int) 57)) (mx_node 60 (mx_leaf 57 (mx_goto 8)) (mx_leaf 60 (mx_aload 0 61)))) (mx_node 62 (mx_leaf 61 (mx_aload 0 62)) (mx_node 65 (mx_leaf 62 (mx_getf 7 2 65)) (mx_leaf 65 (mx_putf 1 7 3 (.int) 68)))))) (mx_node 80 (mx_node 73 (mx_node 69 (mx_leaf 68 (mx_aload 0 69)) (mx_node 72 (mx_leaf 69 (mx_getf 7 2 72)) (mx_leaf 72 (mx_aload 0 73)))) (mx_node 76 (mx_leaf 73 (mx_getf 7 1 76)) (mx_node 79 (mx_leaf 76 (mx_icmp_lt 87 79)) (mx_leaf 79 (mx_aload 0 80))))) (mx_node 87 (mx_node 81 (mx_leaf 80 (mx_const (.int 0) 81)) (mx_node 84 (mx_leaf 81 (mx_putf 1 7 4 (.int) 84)) (mx_leaf 84 (mx_goto 182)))) (mx_node 88 (mx_leaf 87 (mx_aload 0 88)) (mx_node 89 (mx_leaf 88 (mx_aload 0 89)) (mx_leaf 89 (mx_getf 7 2 92)))))))) (mx_node 143 (mx_node 115 (mx_node 103 (mx_node 96 (mx_node 94 (mx_leaf 92 (mx_const (.int 97) 94)) (mx_leaf 94 (mx_const (.int 122) 96))) (mx_node 99 (mx_leaf 96 (mx_callv 57 4 7 99)) (mx_node 102 (mx_leaf 99 (mx_if_eq 113 102)) (mx_leaf 102 (mx_aload 0 103))))) (mx_node 110 (mx_node 104 (mx_leaf 103 (mx_aload 0 104)) (mx_node 107 (mx_leaf 104 (mx_callv 59 1 7 107)) (mx_leaf 107 (mx_putf 1 7 4 (.int) 110)))) (mx_node 113 (mx_leaf 110 (mx_goto 182)) (mx_node 114 (mx_leaf 113 (mx_aload 0 114)) (mx_leaf 114 (mx_aload 0 115)))))) (mx_node 129 (mx_node 122 (mx_node 118 (mx_leaf 115 (mx_getf 7 2 118)) (mx_node 120 (mx_leaf 118 (mx_const (.int 48) 120)) (mx_leaf 120 (mx_const (.int 57) 122)))) (mx_node 125 (mx_leaf 122 (mx_callv 57 4 7 125)) (mx_node 128 (mx_leaf 125 (mx_if_eq 139 128)) (mx_leaf 128 (mx_aload 0 129))))) (mx_node 136 (mx_node 130 (mx_leaf 129 (mx_aload 0 130)) (mx_node 133 (mx_leaf 130 (mx_callv 58 1 7 133)) (mx_leaf 133 (mx_putf 1 7 4 (.int) 136)))) (mx_node 139 (mx_leaf 136 (mx_goto 182)) (mx_node 140 (mx_leaf 139 (mx_aload 0 140)) (mx_leaf 140 (mx_getf 7 0 143))))))) (mx_node 160 (mx_node 152 (mx_node 147 (mx_node 144 (mx_leaf 143 (mx_aload 0 144)) (mx_leaf 144 (mx_getf 7 2 147))) (mx_node 148 (mx_leaf 147 (mx_bald 148)) (mx_node 151 (mx_leaf 148 (mx_const (.int 255) 151)) (mx_leaf 151 (mx_iand 152))))) (mx_node 155 (mx_node 153 (mx_leaf 152 (mx_i2c 153)) (mx_node 154 (mx_leaf 153 (mx_istore 1 154)) (mx_leaf 154 (mx_aload 0 155)))) (mx_node 156 (mx_leaf 155 (mx_dup 156)) (mx_node 159 (mx_leaf 156 (mx_getf 7 2 159)) (mx_leaf 159 (mx_const (.int 1) 160)))))) (mx_node 171 (mx_node 165 (mx_node 161 (mx_leaf 160 (mx_iadd 161)) (mx_node 164 (mx_leaf 161 (mx_putf 1 7 2 (.int) 164)) (mx_leaf 164 (mx_aload 0 165)))) (mx_node 167 (mx_leaf 165 (mx_stuck)) (mx_node 168 (mx_leaf 167 (mx_iload 1 168)) (mx_leaf 168 (mx_stuck))))) (mx_node 178 (mx_node 174 (mx_leaf 171 (mx_if_lt 178 174)) (mx_node 175 (mx_leaf 174 (mx_iload 1 175)) (mx_leaf 175 (mx_goto 179)))) (mx_node 179 (mx_leaf 178 (mx_const (.int 2) 179)) (mx_node 182 (mx_leaf 179 (mx_putf 1 7 4 (.int) 182)) (mx_leaf 182 (mx_vret)))))))))
set_option maxRecDepth 100000 in
noncomputable def tb_57 : Nat → mx_O := (mx_node 18 (mx_node 9 (mx_node 2 (mx_node 1 (mx_leaf 0 (mx_iload 1 1)) (mx_leaf 1 (mx_aload 0 2))) (mx_node 5 (mx_leaf 2 (mx_getf 7 1 5)) (mx_node 8 (mx_leaf 5 (mx_icmp_ge 32 8)) (mx_leaf 8 (mx_aload 0 9))))) (mx_node 13 (mx_node 12 (mx_leaf 9 (mx_getf 7 0 12)) (mx_leaf 12 (mx_iload 1 13))) (mx_node 14 (mx_leaf 13 (mx_bald 14)) (mx_node 15 (mx_leaf 14 (mx_iload 2 15)) (mx_leaf 15 (mx_icmp_lt 32 18)))))) (mx_node 25 (mx_node 22 (mx_node 19 (mx_leaf 18 (mx_aload 0 19)) (mx_leaf 19 (mx_getf 7 0 22))) (mx_node 23 (mx_leaf 22 (mx_iload 1 23)) (mx_node 24 (mx_leaf 23 (mx_bald 24)) (mx_leaf 24 (mx_iload 3 25))))) (mx_node 29 (mx_node 28 (mx_leaf 25 (mx_icmp_gt 32 28)) (mx_leaf 28 (mx_const (.int 1) 29))) (mx_node 32 (mx_leaf 29 (mx_goto 33)) (mx_node 33 (mx_leaf 32 (mx_const (.int 0) 33)) (mx_leaf 33 (mx_zret)))))))
set_option maxRecDepth 100000 in
noncomputable def tb_58 : Nat → mx_O := (mx_node 52 (mx_node 25 (mx_node 10 (mx_node 5 (mx_node 1 (mx_leaf 0 (mx_aload 0 1)) (mx_node 2 (mx_leaf 1 (mx_const (.int 0) 2)) (mx_leaf 2 (mx_putf 1 7 5 (.int) 5)))) (mx_node 6 (mx_leaf 5 (mx_aload 0 6)) (mx_node 9 (mx_leaf 6 (mx_getf 7 2 9)) (mx_leaf 9 (mx_aload 0 10))))) (mx_node 17 (mx_node 13 (mx_leaf 10 (mx_getf 7 1 13)) (mx_node 16 (mx_leaf 13 (mx_icmp_ge 81 16)) (mx_leaf 16 (mx_aload 0 17)))) (mx_node 21 (mx_node 18 (mx_leaf 17 (mx_aload 0 18)) (mx_leaf 18 (mx_getf 7 2 21))) (mx_node 23 (mx_leaf 21 (mx_const (.int 48) 23)) (mx_leaf 23 (mx_const (.int 57) 25)))))) (mx_node 40 (mx_node 32 (mx_node 28 (mx_leaf 25 (mx_callv 57 4 7 28)) (mx_node 31 (mx_leaf 28 (mx_if_eq 81 31)) (mx_leaf 31 (mx_aload 0 32)))) (mx_node 36 (mx_node 35 (mx_leaf 32 (mx_getf 7 2 35)) (mx_leaf 35 (mx_aload 0 36))) (mx_node 39 (mx_leaf 36 (mx_getf 7 3 39)) (mx_leaf 39 (mx_isub 40))))) (mx_node 45 (mx_node 41 (mx_leaf 40 (mx_const (.int 3) 41)) (mx_node 44 (mx_leaf 41 (mx_icmp_ge 68 44)) (mx_leaf 44 (mx_aload 0 45)))) (mx_node 49 (mx_node 46 (mx_leaf 45 (mx_aload 0 46)) (mx_leaf 46 (mx_getf 7 5 49))) (mx_node 51 (mx_leaf 49 (mx_const (.int 10) 51)) (mx_leaf 51 (mx_imul 52))))))) (mx_node 74 (mx_node 62 (mx_node 57 (mx_node 53 (mx_leaf 52 (mx_aload 0 53)) (mx_node 56 (mx_leaf 53 (mx_getf 7 0 56)) (mx_leaf 56 (mx_aload 0 57)))) (mx_node 60 (mx_leaf 57 (mx_getf 7 2 60)) (mx_node 61 (mx_leaf 60 (mx_bald 61)) (mx_leaf 61 (mx_iadd 62))))) (mx_node 68 (mx_node 64 (mx_leaf 62 (mx_const (.int 48) 64)) (mx_node 65 (mx_leaf 64 (mx_isub 65)) (mx_leaf 65 (mx_putf 1 7 5 (.int) 68)))) (mx_node 70 (mx_node 69 (mx_leaf 68 (mx_aload 0 69)) (mx_leaf 69 (mx_dup 70))) (mx_node 73 (mx_leaf 70 (mx_getf 7 2 73)) (mx_leaf 73 (mx_const (.int 1) 74)))))) (mx_node 89 (mx_node 81 (mx_node 75 (mx_leaf 74 (mx_iadd 75)) (mx_node 78 (mx_leaf 75 (mx_putf 1 7 2 (.int) 78)) (mx_leaf 78 (mx_goto 5)))) (mx_node 85 (mx_node 82 (mx_leaf 81 (mx_aload 0 82)) (mx_leaf 82 (mx_getf 7 2 85))) (mx_node 86 (mx_leaf 85 (mx_aload 0 86)) (mx_leaf 86 (mx_getf 7 3 89))))) (mx_node 94 (mx_node 90 (mx_leaf 89 (mx_isub 90)) (mx_node 91 (mx_leaf 90 (mx_const (.int 3) 91)) (mx_leaf 91 (mx_icmp_le 98 94)))) (mx_node 98 (mx_node 95 (mx_leaf 94 (mx_const (.int 2) 95)) (mx_leaf 95 (mx_goto 99))) (mx_node 99 (mx_leaf 98 (mx_const (.int 1) 99)) (mx_leaf 99 (mx_iret))))))))
set_option maxRecDepth 100000 in
noncomputable def tb_59 : Nat → mx_O := (mx_node 77 (mx_node 42 (mx_node 20 (mx_node 11 (mx_node 4 (mx_node 1 (mx_leaf 0 (mx_aload 0 1)) (mx_leaf 1 (mx_getf 7 2 4))) (mx_node 5 (mx_leaf 4 (mx_aload 0 5)) (mx_node 8 (mx_leaf 5 (mx_getf 7 1 8)) (mx_leaf 8 (mx_icmp_ge 39 11))))) (mx_node 13 (mx_node 12 (mx_leaf 11 (mx_aload 0 12)) (mx_leaf 12 (mx_aload 0 13))) (mx_node 16 (mx_leaf 13 (mx_getf 7 2 16)) (mx_node 18 (mx_leaf 16 (mx_const (.int 97) 18)) (mx_leaf 18 (mx_const (.int 122) 20)))))) (mx_node 31 (mx_node 26 (mx_node 23 (mx_leaf 20 (mx_callv 57 4 7 23)) (mx_leaf 23 (mx_if_eq 39 26))) (mx_node 27 (mx_leaf 26 (mx_aload 0 27)) (mx_node 28 (mx_leaf 27 (mx_dup 28)) (mx_leaf 28 (mx_getf 7 2 31))))) (mx_node 33 (mx_node 32 (mx_leaf 31 (mx_const (.int 1) 32)) (mx_leaf 32 (mx_iadd 33))) (mx_node 36 (mx_leaf 33 (mx_putf 1 7 2 (.int) 36)) (mx_node 39 (mx_leaf 36 (mx_goto 0)) (mx_leaf 39 (mx_const (.int 300) 42))))))) (mx_node 57 (mx_node 47 (mx_node 44 (mx_node 43 (mx_leaf 42 (mx_istore 1 43)) (mx_leaf 43 (mx_const (.int 0) 44))) (mx_node 45 (mx_leaf 44 (mx_istore 2 45)) (mx_node 46 (mx_leaf 45 (mx_const (.int 1) 46)) (mx_leaf 46 (mx_istore 3 47))))) (mx_node 50 (mx_node 48 (mx_leaf 47 (mx_const (.int 0) 48)) (mx_leaf 48 (mx_istore 4 50))) (mx_node 52 (mx_leaf 50 (mx_iload 4 52)) (mx_node 54 (mx_leaf 52 (mx_stuck)) (mx_leaf 54 (mx_stuck)))))) (mx_node 69 (mx_node 62 (mx_node 60 (mx_leaf 57 (mx_icmp_ge 152 60)) (mx_leaf 60 (mx_stuck))) (mx_node 64 (mx_leaf 62 (mx_iload 4 64)) (mx_node 67 (mx_leaf 64 (mx_stuck)) (mx_leaf 67 (mx_istore 5 69))))) (mx_node 73 (mx_node 70 (mx_leaf 69 (mx_aload 0 70)) (mx_leaf 70 (mx_getf 7 3 73))) (mx_node 75 (mx_leaf 73 (mx_iload 4 75)) (mx_node 76 (mx_leaf 75 (mx_iadd 76)) (mx_leaf 76 (mx_iload 2 77)))))))) (mx_node 117 (mx_node 97 (mx_node 87 (mx_node 80 (mx_node 78 (mx_leaf 77 (mx_isub 78)) (mx_leaf 78 (mx_istore 6 80))) (mx_node 82 (mx_leaf 80 (mx_iload 5 82)) (mx_node 84 (mx_leaf 82 (mx_const (.int 32) 84)) (mx_leaf 84 (mx_icmp_eq 121 87))))) (mx_node 91 (mx_node 88 (mx_leaf 87 (mx_iload 3 88)) (mx_leaf 88 (mx_if_eq 116 91))) (mx_node 93 (mx_leaf 91 (mx_iload 6 93)) (mx_node 94 (mx_leaf 93 (mx_aload 0 94)) (mx_leaf 94 (mx_getf 7 2 97)))))) (mx_node 107 (mx_node 101 (mx_node 100 (mx_leaf 97 (mx_icmp_ge 116 100)) (mx_leaf 100 (mx_aload 0 101))) (mx_node 104 (mx_leaf 101 (mx_getf 7 0 104)) (mx_node 106 (mx_leaf 104 (mx_iload 6 106)) (mx_leaf 106 (mx_bald 107))))) (mx_node 112 (mx_node 109 (mx_leaf 107 (mx_iload 5 109)) (mx_leaf 109 (mx_icmp_ne 116 112))) (mx_node 113 (mx_leaf 112 (mx_const (.int 1) 113)) (mx_node 116 (mx_leaf 113 (mx_goto 117)) (mx_leaf 116 (mx_const (.int 0) 117))))))) (mx_node 136 (mx_node 127 (mx_node 121 (mx_node 118 (mx_leaf 117 (mx_istore 3 118)) (mx_leaf 118 (mx_goto 146))) (mx_node 122 (mx_leaf 121 (mx_iload 3 122)) (mx_node 125 (mx_leaf 122 (mx_if_eq 136 125)) (mx_leaf 125 (mx_iload 6 127))))) (mx_node 131 (mx_node 128 (mx_leaf 127 (mx_aload 0 128)) (mx_leaf 128 (mx_getf 7 2 131))) (mx_node 134 (mx_leaf 131 (mx_icmp_ne 136 134)) (mx_node 135 (mx_leaf 134 (mx_iload 1 135)) (mx_leaf 135 (mx_iret)))))) (mx_node 144 (mx_node 141 (mx_node 139 (mx_leaf 136 (mx_iinc 1 1 139)) (mx_leaf 139 (mx_iload 4 141))) (mx_node 142 (mx_leaf 141 (mx_const (.int 1) 142)) (mx_node 143 (mx_leaf 142 (mx_iadd 143)) (mx_leaf 143 (mx_istore 2 144))))) (mx_node 149 (mx_node 145 (mx_leaf 144 (mx_const (.int 1) 145)) (mx_node 146 (mx_leaf 145 (mx_istore 3 146)) (mx_leaf 146 (mx_iinc 4 1 149)))) (mx_node 152 (mx_leaf 149 (mx_goto 50)) (mx_node 155 (mx_leaf 152 (mx_const (.int 299) 155)) (mx_leaf 155 (mx_iret)))))))))
set_option maxRecDepth 100000 in
noncomputable def tb_60 : Nat → mx_O := (mx_node 40 (mx_node 19 (mx_node 8 (mx_node 4 (mx_node 1 (mx_leaf 0 (mx_aload 0 1)) (mx_leaf 1 (mx_objinit 4))) (mx_node 5 (mx_leaf 4 (mx_aload 0 5)) (mx_leaf 5 (mx_const (.int 385) 8)))) (mx_node 13 (mx_node 10 (mx_leaf 8 (mx_newa .int (.int 0) 10)) (mx_leaf 10 (mx_putf 1 8 2 (.array .int) 13))) (mx_node 14 (mx_leaf 13 (mx_aload 0 14)) (mx_node 17 (mx_leaf 14 (mx_const (.int 385) 17)) (mx_leaf 17 (mx_newa .int (.int 0) 19)))))) (mx_node 28 (mx_node 23 (mx_node 22 (mx_leaf 19 (mx_putf 1 8 3 (.array .int) 22)) (mx_leaf 22 (mx_aload 0 23))) (mx_node 26 (mx_leaf 23 (mx_const (.int 385) 26)) (mx_leaf 26 (mx_newa .int (.int 0) 28)))) (mx_node 32 (mx_node 31 (mx_leaf 28 (mx_putf 1 8 4 (.array .int) 31)) (mx_leaf 31 (mx_aload 0 32))) (mx_node 35 (mx_leaf 32 (mx_const (.int 385) 35)) (mx_node 37 (mx_leaf 35 (mx_newa .int (.int 0) 37)) (mx_leaf 37 (mx_putf 1 8 5 (.array .int) 40))))))) (mx_node 59 (mx_node 49 (mx_node 44 (mx_node 41 (mx_leaf 40 (mx_aload 0 41)) (mx_leaf 41 (mx_const (.int 385) 44))) (mx_node 46 (mx_leaf 44 (mx_newa .int (.int 0) 46)) (mx_leaf 46 (mx_putf 1 8 6 (.array .int) 49)))) (mx_node 53 (mx_node 50 (mx_leaf 49 (mx_aload 0 50)) (mx_leaf 50 (mx_const (.int 385) 53))) (mx_node 55 (mx_leaf 53 (mx_newa .int (.int 0) 55)) (mx_node 58 (mx_leaf 55 (mx_putf 1 8 7 (.array .int) 58)) (mx_leaf 58 (mx_aload 0 59)))))) (mx_node 65 (mx_node 63 (mx_node 60 (mx_leaf 59 (mx_const (.int 0) 60)) (mx_leaf 60 (mx_putf 1 8 8 (.int) 63))) (mx_node 64 (mx_leaf 63 (mx_aload 0 64)) (mx_leaf 64 (mx_aload 1 65)))) (mx_node 69 (mx_node 68 (mx_leaf 65 (mx_putf 1 8 0 (.object "TitheHeap$Atlas") 68)) (mx_leaf 68 (mx_aload 0 69))) (mx_node 70 (mx_leaf 69 (mx_aload 2 70)) (mx_node 73 (mx_leaf 70 (mx_putf 1 8 1 (.object "TitheHeap$Mill") 73)) (mx_leaf 73 (mx_vret))))))))
set_option maxRecDepth 100000 in
noncomputable def tb_61 : Nat → mx_O := (mx_node 37 (mx_node 19 (mx_node 9 (mx_node 4 (mx_node 1 (mx_leaf 0 (mx_aload 0 1)) (mx_leaf 1 (mx_getf 8 5 4))) (mx_node 5 (mx_leaf 4 (mx_const (.int (-1)) 5)) (mx_node 8 (mx_leaf 5 (mx_calls 284 2 8)) (mx_leaf 8 (mx_aload 0 9))))) (mx_node 14 (mx_node 12 (mx_leaf 9 (mx_getf 8 5 12)) (mx_node 13 (mx_leaf 12 (mx_iload 1 13)) (mx_leaf 13 (mx_const (.int 0) 14)))) (mx_node 15 (mx_leaf 14 (mx_iast 1 15)) (mx_node 16 (mx_leaf 15 (mx_aload 0 16)) (mx_leaf 16 (mx_getf 8 2 19)))))) (mx_node 27 (mx_node 22 (mx_node 20 (mx_leaf 19 (mx_const (.int 0) 20)) (mx_node 21 (mx_leaf 20 (mx_iload 1 21)) (mx_leaf 21 (mx_iast 1 22)))) (mx_node 23 (mx_leaf 22 (mx_aload 0 23)) (mx_node 24 (mx_leaf 23 (mx_const (.int 1) 24)) (mx_leaf 24 (mx_putf 1 8 8 (.int) 27))))) (mx_node 30 (mx_node 28 (mx_leaf 27 (mx_const (.int 0) 28)) (mx_node 29 (mx_leaf 28 (mx_istore 3 29)) (mx_leaf 29 (mx_iload 3 30)))) (mx_node 31 (mx_leaf 30 (mx_aload 0 31)) (mx_node 34 (mx_leaf 31 (mx_getf 8 8 34)) (mx_leaf 34 (mx_icmp_ge 77 37))))))) (mx_node 59 (mx_node 49 (mx_node 44 (mx_node 38 (mx_leaf 37 (mx_iload 3 38)) (mx_node 41 (mx_leaf 38 (mx_const (.int 385) 41)) (mx_leaf 41 (mx_icmp_ge 77 44)))) (mx_node 45 (mx_leaf 44 (mx_aload 0 45)) (mx_node 48 (mx_leaf 45 (mx_getf 8 2 48)) (mx_leaf 48 (mx_iload 3 49))))) (mx_node 54 (mx_node 50 (mx_leaf 49 (mx_iald 50)) (mx_node 51 (mx_leaf 50 (mx_iload 2 51)) (mx_leaf 51 (mx_icmp_ne 61 54)))) (mx_node 55 (mx_leaf 54 (mx_aload 0 55)) (mx_node 58 (mx_leaf 55 (mx_getf 8 5 58)) (mx_leaf 58 (mx_iload 2 59)))))) (mx_node 67 (mx_node 62 (mx_node 60 (mx_leaf 59 (mx_iald 60)) (mx_node 61 (mx_leaf 60 (mx_iret)) (mx_leaf 61 (mx_aload 0 62)))) (mx_node 63 (mx_leaf 62 (mx_aload 0 63)) (mx_node 66 (mx_leaf 63 (mx_getf 8 2 66)) (mx_leaf 66 (mx_iload 3 67))))) (mx_node 74 (mx_node 68 (mx_leaf 67 (mx_iald 68)) (mx_node 71 (mx_leaf 68 (mx_callv 62 2 8 71)) (mx_leaf 71 (mx_iinc 3 1 74)))) (mx_node 77 (mx_leaf 74 (mx_goto 29)) (mx_node 78 (mx_leaf 77 (mx_const (.int (-1)) 78)) (mx_leaf 78 (mx_iret))))))))
set_option maxRecDepth 100000 in
noncomputable def tb_62 : Nat → mx_O := (mx_node 59 (mx_node 23 (mx_node 11 (mx_node 5 (mx_node 1 (mx_leaf 0 (mx_aload 0 1)) (mx_node 4 (mx_leaf 1 (mx_getf 8 0 4)) (mx_leaf 4 (mx_iload 1 5)))) (mx_node 9 (mx_node 6 (mx_leaf 5 (mx_const (.int 0) 6)) (mx_leaf 6 (mx_callv 6 3 0 9))) (mx_node 10 (mx_leaf 9 (mx_istore 2 10)) (mx_leaf 10 (mx_const (.int 0) 11))))) (mx_node 17 (mx_node 13 (mx_node 12 (mx_leaf 11 (mx_istore 3 12)) (mx_leaf 12 (mx_iload 3 13))) (mx_node 14 (mx_leaf 13 (mx_iload 2 14)) (mx_leaf 14 (mx_icmp_gt 111 17)))) (mx_node 21 (mx_node 18 (mx_leaf 17 (mx_aload 0 18)) (mx_leaf 18 (mx_getf 8 1 21))) (mx_node 22 (mx_leaf 21 (mx_iload 1 22)) (mx_leaf 22 (mx_iload 3 23)))))) (mx_node 40 (mx_node 33 (mx_node 28 (mx_node 26 (mx_leaf 23 (mx_callv 26 3 4 26)) (mx_leaf 26 (mx_istore 4 28))) (mx_node 30 (mx_leaf 28 (mx_iload 4 30)) (mx_leaf 30 (mx_if_lt 105 33)))) (mx_node 37 (mx_node 34 (mx_leaf 33 (mx_aload 0 34)) (mx_leaf 34 (mx_getf 8 5 37))) (mx_node 39 (mx_leaf 37 (mx_iload 4 39)) (mx_leaf 39 (mx_iald 40))))) (mx_node 50 (mx_node 44 (mx_node 43 (mx_leaf 40 (mx_if_ge 105 43)) (mx_leaf 43 (mx_aload 0 44))) (mx_node 47 (mx_leaf 44 (mx_getf 8 8 47)) (mx_leaf 47 (mx_const (.int 385) 50)))) (mx_node 54 (mx_node 53 (mx_leaf 50 (mx_icmp_ge 105 53)) (mx_leaf 53 (mx_aload 0 54))) (mx_node 57 (mx_leaf 54 (mx_getf 8 5 57)) (mx_leaf 57 (mx_iload 4 59))))))) (mx_node 83 (mx_node 69 (mx_node 65 (mx_node 63 (mx_node 60 (mx_leaf 59 (mx_aload 0 60)) (mx_leaf 60 (mx_getf 8 5 63))) (mx_node 64 (mx_leaf 63 (mx_iload 1 64)) (mx_leaf 64 (mx_iald 65)))) (mx_node 67 (mx_node 66 (mx_leaf 65 (mx_const (.int 1) 66)) (mx_leaf 66 (mx_iadd 67))) (mx_node 68 (mx_leaf 67 (mx_iast 1 68)) (mx_leaf 68 (mx_aload 0 69))))) (mx_node 76 (mx_node 74 (mx_node 72 (mx_leaf 69 (mx_getf 8 3 72)) (mx_leaf 72 (mx_iload 4 74))) (mx_node 75 (mx_leaf 74 (mx_iload 1 75)) (mx_leaf 75 (mx_iast 1 76)))) (mx_node 80 (mx_node 77 (mx_leaf 76 (mx_aload 0 77)) (mx_leaf 77 (mx_getf 8 4 80))) (mx_node 82 (mx_leaf 80 (mx_iload 4 82)) (mx_leaf 82 (mx_iload 3 83)))))) (mx_node 96 (mx_node 89 (mx_node 85 (mx_node 84 (mx_leaf 83 (mx_iast 1 84)) (mx_leaf 84 (mx_aload 0 85))) (mx_node 88 (mx_leaf 85 (mx_getf 8 2 88)) (mx_leaf 88 (mx_aload 0 89)))) (mx_node 94 (mx_node 92 (mx_leaf 89 (mx_getf 8 8 92)) (mx_leaf 92 (mx_iload 4 94))) (mx_node 95 (mx_leaf 94 (mx_iast 1 95)) (mx_leaf 95 (mx_aload 0 96))))) (mx_node 102 (mx_node 100 (mx_node 97 (mx_leaf 96 (mx_dup 97)) (mx_leaf 97 (mx_getf 8 8 100))) (mx_node 101 (mx_leaf 100 (mx_const (.int 1) 101)) (mx_leaf 101 (mx_iadd 102)))) (mx_node 108 (mx_node 105 (mx_leaf 102 (mx_putf 1 8 8 (.int) 105)) (mx_leaf 105 (mx_iinc 3 1 108))) (mx_node 111 (mx_leaf 108 (mx_goto 12)) (mx_leaf 111 (mx_vret))))))))
set_option maxRecDepth 100000 in
noncomputable def tb_63 : Nat → mx_O := (mx_node 15 (mx_node 5 (mx_node 2 (mx_node 1 (mx_leaf 0 (mx_iload 1 1)) (mx_leaf 1 (mx_istore 3 2))) (mx_node 3 (mx_leaf 2 (mx_const (.int 0) 3)) (mx_leaf 3 (mx_istore 4 5)))) (mx_node 8 (mx_node 7 (mx_leaf 5 (mx_iload 4 7)) (mx_leaf 7 (mx_iload 2 8))) (mx_node 11 (mx_leaf 8 (mx_icmp_ge 24 11)) (mx_node 12 (mx_leaf 11 (mx_aload 0 12)) (mx_leaf 12 (mx_getf 8 3 15)))))) (mx_node 24 (mx_node 17 (mx_node 16 (mx_leaf 15 (mx_iload 3 16)) (mx_leaf 16 (mx_iald 17))) (mx_node 18 (mx_leaf 17 (mx_istore 3 18)) (mx_node 21 (mx_leaf 18 (mx_iinc 4 1 21)) (mx_leaf 21 (mx_goto 5))))) (mx_node 28 (mx_node 25 (mx_leaf 24 (mx_aload 0 25)) (mx_leaf 25 (mx_getf 8 4 28))) (mx_node 29 (mx_leaf 28 (mx_iload 3 29)) (mx_node 30 (mx_leaf 29 (mx_iald 30)) (mx_leaf 30 (mx_iret)))))))
set_option maxRecDepth 100000 in
noncomputable def tb_64 : Nat → mx_O := (mx_node 53 (mx_node 26 (mx_node 11 (mx_node 5 (mx_node 1 (mx_leaf 0 (mx_aload 0 1)) (mx_node 4 (mx_leaf 1 (mx_getf 8 5 4)) (mx_leaf 4 (mx_const (.int (-1)) 5)))) (mx_node 9 (mx_node 8 (mx_leaf 5 (mx_calls 284 2 8)) (mx_leaf 8 (mx_const (.int 1) 9))) (mx_node 10 (mx_leaf 9 (mx_istore 3 10)) (mx_leaf 10 (mx_const (.int 0) 11))))) (mx_node 18 (mx_node 13 (mx_leaf 11 (mx_istore 4 13)) (mx_node 15 (mx_leaf 13 (mx_iload 4 15)) (mx_leaf 15 (mx_const (.int 385) 18)))) (mx_node 22 (mx_node 21 (mx_leaf 18 (mx_icmp_gt 103 21)) (mx_leaf 21 (mx_iload 3 22))) (mx_node 25 (mx_leaf 22 (mx_if_eq 103 25)) (mx_leaf 25 (mx_const (.int 0) 26)))))) (mx_node 39 (mx_node 30 (mx_node 27 (mx_leaf 26 (mx_istore 3 27)) (mx_node 28 (mx_leaf 27 (mx_const (.int 0) 28)) (mx_leaf 28 (mx_istore 5 30)))) (mx_node 33 (mx_node 32 (mx_leaf 30 (mx_iload 5 32)) (mx_leaf 32 (mx_aload 0 33))) (mx_node 36 (mx_leaf 33 (mx_getf 8 0 36)) (mx_leaf 36 (mx_getf 0 5 39))))) (mx_node 46 (mx_node 42 (mx_leaf 39 (mx_icmp_ge 81 42)) (mx_node 43 (mx_leaf 42 (mx_aload 0 43)) (mx_leaf 43 (mx_getf 8 5 46)))) (mx_node 49 (mx_node 48 (mx_leaf 46 (mx_iload 5 48)) (mx_leaf 48 (mx_iald 49))) (mx_node 52 (mx_leaf 49 (mx_if_ge 75 52)) (mx_leaf 52 (mx_aload 0 53))))))) (mx_node 81 (mx_node 68 (mx_node 58 (mx_node 55 (mx_leaf 53 (mx_iload 5 55)) (mx_node 56 (mx_leaf 55 (mx_iload 2 56)) (mx_leaf 56 (mx_iload 4 58)))) (mx_node 64 (mx_node 61 (mx_leaf 58 (mx_callv 65 4 8 61)) (mx_leaf 61 (mx_if_eq 75 64))) (mx_node 65 (mx_leaf 64 (mx_aload 0 65)) (mx_leaf 65 (mx_getf 8 5 68))))) (mx_node 73 (mx_node 70 (mx_leaf 68 (mx_iload 5 70)) (mx_node 72 (mx_leaf 70 (mx_iload 4 72)) (mx_leaf 72 (mx_iast 1 73)))) (mx_node 75 (mx_node 74 (mx_leaf 73 (mx_const (.int 1) 74)) (mx_leaf 74 (mx_istore 3 75))) (mx_node 78 (mx_leaf 75 (mx_iinc 5 1 78)) (mx_leaf 78 (mx_goto 30)))))) (mx_node 94 (mx_node 86 (mx_node 82 (mx_leaf 81 (mx_aload 0 82)) (mx_node 85 (mx_leaf 82 (mx_getf 8 5 85)) (mx_leaf 85 (mx_iload 1 86)))) (mx_node 90 (mx_node 87 (mx_leaf 86 (mx_iald 87)) (mx_leaf 87 (mx_if_lt 97 90))) (mx_node 91 (mx_leaf 90 (mx_aload 0 91)) (mx_leaf 91 (mx_getf 8 5 94))))) (mx_node 97 (mx_node 95 (mx_leaf 94 (mx_iload 1 95)) (mx_node 96 (mx_leaf 95 (mx_iald 96)) (mx_leaf 96 (mx_iret)))) (mx_node 103 (mx_node 100 (mx_leaf 97 (mx_iinc 4 1 100)) (mx_leaf 100 (mx_goto 13))) (mx_node 104 (mx_leaf 103 (mx_const (.int (-1)) 104)) (mx_leaf 104 (mx_iret))))))))
set_option maxRecDepth 100000 in
noncomputable def tb_65 : Nat → mx_O := (mx_node 38 (mx_node 16 (mx_node 6 (mx_node 4 (mx_node 1 (mx_leaf 0 (mx_aload 0 1)) (mx_leaf 1 (mx_getf 8 0 4))) (mx_node 5 (mx_leaf 4 (mx_iload 1 5)) (mx_leaf 5 (mx_const (.int 0) 6)))) (mx_node 11 (mx_node 9 (mx_leaf 6 (mx_callv 6 3 0 9)) (mx_leaf 9 (mx_istore 4 11))) (mx_node 12 (mx_leaf 11 (mx_const (.int 0) 12)) (mx_node 14 (mx_leaf 12 (mx_istore 5 14)) (mx_leaf 14 (mx_iload 5 16)))))) (mx_node 26 (mx_node 21 (mx_node 18 (mx_leaf 16 (mx_iload 4 18)) (mx_leaf 18 (mx_icmp_gt 74 21))) (mx_node 22 (mx_leaf 21 (mx_aload 0 22)) (mx_node 25 (mx_leaf 22 (mx_getf 8 1 25)) (mx_leaf 25 (mx_iload 1 26))))) (mx_node 31 (mx_node 28 (mx_leaf 26 (mx_iload 5 28)) (mx_leaf 28 (mx_callv 26 3 4 31))) (mx_node 33 (mx_leaf 31 (mx_istore 6 33)) (mx_node 35 (mx_leaf 33 (mx_iload 6 35)) (mx_leaf 35 (mx_if_lt 68 38))))))) (mx_node 58 (mx_node 48 (mx_node 42 (mx_node 39 (mx_leaf 38 (mx_aload 0 39)) (mx_leaf 39 (mx_getf 8 0 42))) (mx_node 44 (mx_leaf 42 (mx_iload 6 44)) (mx_node 45 (mx_leaf 44 (mx_const (.int 0) 45)) (mx_leaf 45 (mx_callv 6 3 0 48))))) (mx_node 52 (mx_node 49 (mx_leaf 48 (mx_iload 2 49)) (mx_leaf 49 (mx_icmp_gt 68 52))) (mx_node 53 (mx_leaf 52 (mx_aload 0 53)) (mx_node 56 (mx_leaf 53 (mx_getf 8 5 56)) (mx_leaf 56 (mx_iload 6 58)))))) (mx_node 67 (mx_node 60 (mx_node 59 (mx_leaf 58 (mx_iald 59)) (mx_leaf 59 (mx_iload 3 60))) (mx_node 63 (mx_leaf 60 (mx_calls 66 2 63)) (mx_node 66 (mx_leaf 63 (mx_if_ne 68 66)) (mx_leaf 66 (mx_const (.int 0) 67))))) (mx_node 71 (mx_node 68 (mx_leaf 67 (mx_zret)) (mx_leaf 68 (mx_iinc 5 1 71))) (mx_node 74 (mx_leaf 71 (mx_goto 14)) (mx_node 75 (mx_leaf 74 (mx_const (.int 1) 75)) (mx_leaf 75 (mx_zret))))))))
set_option maxRecDepth 100000 in
noncomputable def tb_66 : Nat → mx_O := (mx_node 6 (mx_node 4 (mx_node 1 (mx_leaf 0 (mx_iload 0 1)) (mx_leaf 1 (mx_if_lt 13 4))) (mx_node 5 (mx_leaf 4 (mx_iload 0 5)) (mx_leaf 5 (mx_iload 1 6)))) (mx_node 10 (mx_node 9 (mx_leaf 6 (mx_icmp_ge 13 9)) (mx_leaf 9 (mx_const (.int 1) 10))) (mx_node 13 (mx_leaf 10 (mx_goto 14)) (mx_node 14 (mx_leaf 13 (mx_const (.int 0) 14)) (mx_leaf 14 (mx_zret))))))
set_option maxRecDepth 100000 in
noncomputable def tb_67 : Nat → mx_O := (mx_node 85 (mx_node 42 (mx_node 22 (mx_node 10 (mx_node 3 (mx_node 1 (mx_leaf 0 (mx_const (.int 0) 1)) (mx_node 2 (mx_leaf 1 (mx_istore 3 2)) (mx_leaf 2 (mx_iload 3 3)))) (mx_node 4 (mx_leaf 3 (mx_aload 0 4)) (mx_node 7 (mx_leaf 4 (mx_getf 8 0 7)) (mx_leaf 7 (mx_getf 0 5 10))))) (mx_node 17 (mx_node 13 (mx_leaf 10 (mx_icmp_ge 54 13)) (mx_node 14 (mx_leaf 13 (mx_aload 0 14)) (mx_leaf 14 (mx_getf 8 6 17)))) (mx_node 18 (mx_leaf 17 (mx_iload 3 18)) (mx_node 19 (mx_leaf 18 (mx_aload 0 19)) (mx_leaf 19 (mx_getf 8 0 22)))))) (mx_node 34 (mx_node 27 (mx_node 23 (mx_leaf 22 (mx_iload 3 23)) (mx_node 26 (mx_leaf 23 (mx_callv 5 2 0 26)) (mx_leaf 26 (mx_iload 2 27)))) (mx_node 30 (mx_leaf 27 (mx_icmp_gt 34 30)) (mx_node 31 (mx_leaf 30 (mx_const (.int 0) 31)) (mx_leaf 31 (mx_goto 35))))) (mx_node 37 (mx_node 35 (mx_leaf 34 (mx_const (.int (-1)) 35)) (mx_node 36 (mx_leaf 35 (mx_iast 1 36)) (mx_leaf 36 (mx_aload 0 37)))) (mx_node 40 (mx_leaf 37 (mx_getf 8 7 40)) (mx_node 41 (mx_leaf 40 (mx_iload 3 41)) (mx_leaf 41 (mx_aload 0 42))))))) (mx_node 64 (mx_node 54 (mx_node 47 (mx_node 45 (mx_leaf 42 (mx_getf 8 6 45)) (mx_node 46 (mx_leaf 45 (mx_iload 3 46)) (mx_leaf 46 (mx_iald 47)))) (mx_node 48 (mx_leaf 47 (mx_iast 1 48)) (mx_node 51 (mx_leaf 48 (mx_iinc 3 1 51)) (mx_leaf 51 (mx_goto 2))))) (mx_node 57 (mx_node 55 (mx_leaf 54 (mx_const (.int 1) 55)) (mx_node 56 (mx_leaf 55 (mx_istore 3 56)) (mx_leaf 56 (mx_const (.int 1) 57)))) (mx_node 59 (mx_leaf 57 (mx_istore 4 59)) (mx_node 61 (mx_leaf 59 (mx_iload 4 61)) (mx_leaf 61 (mx_const (.int 770) 64)))))) (mx_node 76 (mx_node 71 (mx_node 67 (mx_leaf 64 (mx_icmp_gt 173 67)) (mx_node 68 (mx_leaf 67 (mx_iload 3 68)) (mx_leaf 68 (mx_if_eq 173 71)))) (mx_node 72 (mx_leaf 71 (mx_aload 0 72)) (mx_node 75 (mx_leaf 72 (mx_getf 8 6 75)) (mx_leaf 75 (mx_iload 1 76))))) (mx_node 81 (mx_node 77 (mx_leaf 76 (mx_iald 77)) (mx_node 80 (mx_leaf 77 (mx_if_ge 173 80)) (mx_leaf 80 (mx_const (.int 0) 81)))) (mx_node 82 (mx_leaf 81 (mx_istore 3 82)) (mx_node 83 (mx_leaf 82 (mx_const (.int 0) 83)) (mx_leaf 83 (mx_istore 5 85)))))))) (mx_node 133 (mx_node 110 (mx_node 98 (mx_node 91 (mx_node 87 (mx_leaf 85 (mx_iload 5 87)) (mx_node 88 (mx_leaf 87 (mx_aload 0 88)) (mx_leaf 88 (mx_getf 8 0 91)))) (mx_node 94 (mx_leaf 91 (mx_getf 0 5 94)) (mx_node 97 (mx_leaf 94 (mx_icmp_ge 167 97)) (mx_leaf 97 (mx_aload 0 98))))) (mx_node 104 (mx_node 101 (mx_leaf 98 (mx_getf 8 6 101)) (mx_node 103 (mx_leaf 101 (mx_iload 5 103)) (mx_leaf 103 (mx_iald 104)))) (mx_node 107 (mx_leaf 104 (mx_if_ge 129 107)) (mx_node 108 (mx_leaf 107 (mx_aload 0 108)) (mx_leaf 108 (mx_iload 5 110)))))) (mx_node 124 (mx_node 118 (mx_node 112 (mx_leaf 110 (mx_iload 4 112)) (mx_node 115 (mx_leaf 112 (mx_callv 68 3 8 115)) (mx_leaf 115 (mx_if_lt 129 118)))) (mx_node 119 (mx_leaf 118 (mx_aload 0 119)) (mx_node 122 (mx_leaf 119 (mx_getf 8 6 122)) (mx_leaf 122 (mx_iload 5 124))))) (mx_node 128 (mx_node 126 (mx_leaf 124 (mx_iload 4 126)) (mx_node 127 (mx_leaf 126 (mx_iast 1 127)) (mx_leaf 127 (mx_const (.int 1) 128)))) (mx_node 129 (mx_leaf 128 (mx_istore 3 129)) (mx_node 130 (mx_leaf 129 (mx_aload 0 130)) (mx_leaf 130 (mx_getf 8 7 133))))))) (mx_node 158 (mx_node 144 (mx_node 139 (mx_node 135 (mx_leaf 133 (mx_iload 5 135)) (mx_node 136 (mx_leaf 135 (mx_iald 136)) (mx_leaf 136 (mx_if_ge 161 139)))) (mx_node 140 (mx_leaf 139 (mx_aload 0 140)) (mx_node 142 (mx_leaf 140 (mx_iload 5 142)) (mx_leaf 142 (mx_iload 4 144))))) (mx_node 151 (mx_node 147 (mx_leaf 144 (mx_callv 69 3 8 147)) (mx_node 150 (mx_leaf 147 (mx_if_eq 161 150)) (mx_leaf 150 (mx_aload 0 151)))) (mx_node 154 (mx_leaf 151 (mx_getf 8 7 154)) (mx_node 156 (mx_leaf 154 (mx_iload 5 156)) (mx_leaf 156 (mx_iload 4 158)))))) (mx_node 170 (mx_node 161 (mx_node 159 (mx_leaf 158 (mx_iast 1 159)) (mx_node 160 (mx_leaf 159 (mx_const (.int 1) 160)) (mx_leaf 160 (mx_istore 3 161)))) (mx_node 164 (mx_leaf 161 (mx_iinc 5 1 164)) (mx_node 167 (mx_leaf 164 (mx_goto 85)) (mx_leaf 167 (mx_iinc 4 1 170))))) (mx_node 177 (mx_node 173 (mx_leaf 170 (mx_goto 59)) (mx_node 174 (mx_leaf 173 (mx_aload 0 174)) (mx_leaf 174 (mx_getf 8 6 177)))) (mx_node 178 (mx_leaf 177 (mx_iload 1 178)) (mx_node 179 (mx_leaf 178 (mx_iald 179)) (mx_leaf 179 (mx_iret)))))))))
set_option maxRecDepth 100000 in
noncomputable def tb_68 : Nat → mx_O := (mx_node 29 (mx_node 13 (mx_node 6 (mx_node 4 (mx_node 1 (mx_leaf 0 (mx_aload 0 1)) (mx_leaf 1 (mx_getf 8 0 4))) (mx_node 5 (mx_leaf 4 (mx_iload 1 5)) (mx_leaf 5 (mx_const (.int 0) 6)))) (mx_node 10 (mx_node 9 (mx_leaf 6 (mx_callv 6 3 0 9)) (mx_leaf 9 (mx_istore 3 10))) (mx_node 11 (mx_leaf 10 (mx_const (.int 0) 11)) (mx_leaf 11 (mx_istore 4 13))))) (mx_node 20 (mx_node 16 (mx_node 15 (mx_leaf 13 (mx_iload 4 15)) (mx_leaf 15 (mx_iload 3 16))) (mx_node 19 (mx_leaf 16 (mx_icmp_gt 59 19)) (mx_leaf 19 (mx_aload 0 20)))) (mx_node 24 (mx_node 23 (mx_leaf 20 (mx_getf 8 1 23)) (mx_leaf 23 (mx_iload 1 24))) (mx_node 26 (mx_leaf 24 (mx_iload 4 26)) (mx_leaf 26 (mx_callv 26 3 4 29)))))) (mx_node 44 (mx_node 37 (mx_node 33 (mx_node 31 (mx_leaf 29 (mx_istore 5 31)) (mx_leaf 31 (mx_iload 5 33))) (mx_node 36 (mx_leaf 33 (mx_if_lt 53 36)) (mx_leaf 36 (mx_aload 0 37)))) (mx_node 42 (mx_node 40 (mx_leaf 37 (mx_getf 8 7 40)) (mx_leaf 40 (mx_iload 5 42))) (mx_node 43 (mx_leaf 42 (mx_iald 43)) (mx_leaf 43 (mx_iload 2 44))))) (mx_node 53 (mx_node 50 (mx_node 47 (mx_leaf 44 (mx_calls 66 2 47)) (mx_leaf 47 (mx_if_eq 53 50))) (mx_node 52 (mx_leaf 50 (mx_iload 4 52)) (mx_leaf 52 (mx_iret)))) (mx_node 59 (mx_node 56 (mx_leaf 53 (mx_iinc 4 1 56)) (mx_leaf 56 (mx_goto 13))) (mx_node 60 (mx_leaf 59 (mx_const (.int (-1)) 60)) (mx_leaf 60 (mx_iret)))))))
set_option maxRecDepth 100000 in
noncomputable def tb_69 : Nat → mx_O := (mx_node 29 (mx_node 13 (mx_node 6 (mx_node 4 (mx_node 1 (mx_leaf 0 (mx_aload 0 1)) (mx_leaf 1 (mx_getf 8 0 4))) (mx_node 5 (mx_leaf 4 (mx_iload 1 5)) (mx_leaf 5 (mx_const (.int 0) 6)))) (mx_node 10 (mx_node 9 (mx_leaf 6 (mx_callv 6 3 0 9)) (mx_leaf 9 (mx_istore 3 10))) (mx_node 11 (mx_leaf 10 (mx_const (.int 0) 11)) (mx_leaf 11 (mx_istore 4 13))))) (mx_node 20 (mx_node 16 (mx_node 15 (mx_leaf 13 (mx_iload 4 15)) (mx_leaf 15 (mx_iload 3 16))) (mx_node 19 (mx_leaf 16 (mx_icmp_gt 58 19)) (mx_leaf 19 (mx_aload 0 20)))) (mx_node 24 (mx_node 23 (mx_leaf 20 (mx_getf 8 1 23)) (mx_leaf 23 (mx_iload 1 24))) (mx_node 26 (mx_leaf 24 (mx_iload 4 26)) (mx_leaf 26 (mx_callv 26 3 4 29)))))) (mx_node 44 (mx_node 37 (mx_node 33 (mx_node 31 (mx_leaf 29 (mx_istore 5 31)) (mx_leaf 31 (mx_iload 5 33))) (mx_node 36 (mx_leaf 33 (mx_if_lt 52 36)) (mx_leaf 36 (mx_aload 0 37)))) (mx_node 42 (mx_node 40 (mx_leaf 37 (mx_getf 8 6 40)) (mx_leaf 40 (mx_iload 5 42))) (mx_node 43 (mx_leaf 42 (mx_iald 43)) (mx_leaf 43 (mx_iload 2 44))))) (mx_node 52 (mx_node 50 (mx_node 47 (mx_leaf 44 (mx_calls 66 2 47)) (mx_leaf 47 (mx_if_ne 52 50))) (mx_node 51 (mx_leaf 50 (mx_const (.int 0) 51)) (mx_leaf 51 (mx_zret)))) (mx_node 58 (mx_node 55 (mx_leaf 52 (mx_iinc 4 1 55)) (mx_leaf 55 (mx_goto 13))) (mx_node 59 (mx_leaf 58 (mx_const (.int 1) 59)) (mx_leaf 59 (mx_zret)))))))
set_option maxRecDepth 100000 in
noncomputable def tb_70 : Nat → mx_O := (mx_node 13 (mx_node 5 (mx_node 1 (mx_leaf 0 (mx_aload 0 1)) (mx_node 4 (mx_leaf 1 (mx_objinit 4)) (mx_leaf 4 (mx_aload 0 5)))) (mx_node 8 (mx_leaf 5 (mx_const (.int 3850) 8)) (mx_node 10 (mx_leaf 8 (mx_newa .long (.long 0) 10)) (mx_leaf 10 (mx_putf 1 9 2 (.array .long) 13))))) (mx_node 18 (mx_node 14 (mx_leaf 13 (mx_aload 0 14)) (mx_node 15 (mx_leaf 14 (mx_aload 1 15)) (mx_leaf 15 (mx_putf 1 9 0 (.object "TitheHeap$Atlas") 18)))) (mx_node 20 (mx_node 19 (mx_leaf 18 (mx_aload 0 19)) (mx_leaf 19 (mx_aload 2 20))) (mx_node 23 (mx_leaf 20 (mx_putf 1 9 1 (.object "TitheHeap$Mill") 23)) (mx_leaf 23 (mx_vret))))))
set_option maxRecDepth 100000 in
noncomputable def tb_71 : Nat → mx_O := (mx_node 11 (mx_node 5 (mx_node 1 (mx_leaf 0 (mx_aload 0 1)) (mx_node 2 (mx_leaf 1 (mx_const (.int 0) 2)) (mx_leaf 2 (mx_callv 72 2 9 5)))) (mx_node 7 (mx_node 6 (mx_leaf 5 (mx_pop 6)) (mx_leaf 6 (mx_iload 1 7))) (mx_node 10 (mx_leaf 7 (mx_if_lt 24 10)) (mx_leaf 10 (mx_iload 1 11))))) (mx_node 21 (mx_node 17 (mx_node 14 (mx_leaf 11 (mx_const (.int 385) 14)) (mx_leaf 14 (mx_icmp_ge 24 17))) (mx_node 18 (mx_leaf 17 (mx_aload 0 18)) (mx_leaf 18 (mx_getf 9 2 21)))) (mx_node 23 (mx_node 22 (mx_leaf 21 (mx_iload 1 22)) (mx_leaf 22 (mx_const (.long 1) 23))) (mx_node 24 (mx_leaf 23 (mx_last 1 24)) (mx_leaf 24 (mx_vret))))))
set_option maxRecDepth 100000 in
noncomputable def tb_72 : Nat → mx_O := (mx_node 22 (mx_node 11 (mx_node 5 (mx_node 1 (mx_leaf 0 (mx_iload 1 1)) (mx_node 4 (mx_leaf 1 (mx_if_lt 10 4)) (mx_leaf 4 (mx_iload 1 5)))) (mx_node 7 (mx_leaf 5 (mx_const (.int 10) 7)) (mx_node 10 (mx_leaf 7 (mx_icmp_lt 12 10)) (mx_leaf 10 (mx_const (.int 0) 11))))) (mx_node 14 (mx_node 12 (mx_leaf 11 (mx_zret)) (mx_node 13 (mx_leaf 12 (mx_const (.int 0) 13)) (mx_leaf 13 (mx_istore 2 14)))) (mx_node 16 (mx_node 15 (mx_leaf 14 (mx_iload 2 15)) (mx_leaf 15 (mx_aload 0 16))) (mx_node 19 (mx_leaf 16 (mx_getf 9 0 19)) (mx_leaf 19 (mx_getf 0 5 22)))))) (mx_node 35 (mx_node 29 (mx_node 25 (mx_leaf 22 (mx_icmp_ge 44 25)) (mx_node 26 (mx_leaf 25 (mx_aload 0 26)) (mx_leaf 26 (mx_getf 9 2 29)))) (mx_node 33 (mx_node 30 (mx_leaf 29 (mx_iload 1 30)) (mx_leaf 30 (mx_const (.int 385) 33))) (mx_node 34 (mx_leaf 33 (mx_imul 34)) (mx_leaf 34 (mx_iload 2 35))))) (mx_node 38 (mx_node 36 (mx_leaf 35 (mx_iadd 36)) (mx_node 37 (mx_leaf 36 (mx_const (.long 0) 37)) (mx_leaf 37 (mx_last 1 38)))) (mx_node 44 (mx_node 41 (mx_leaf 38 (mx_iinc 2 1 41)) (mx_leaf 41 (mx_goto 14))) (mx_node 45 (mx_leaf 44 (mx_const (.int 1) 45)) (mx_leaf 45 (mx_zret)))))))
set_option maxRecDepth 100000 in
noncomputable def tb_73 : Nat → mx_O := (mx_node 71 (mx_node 36 (mx_node 16 (mx_node 7 (mx_node 4 (mx_node 1 (mx_leaf 0 (mx_iload 1 1)) (mx_leaf 1 (mx_if_lt 14 4))) (mx_node 5 (mx_leaf 4 (mx_aload 0 5)) (mx_node 6 (mx_leaf 5 (mx_iload 1 6)) (mx_leaf 6 (mx_const (.int 1) 7))))) (mx_node 11 (mx_node 8 (mx_leaf 7 (mx_iadd 8)) (mx_leaf 8 (mx_callv 72 2 9 11))) (mx_node 14 (mx_leaf 11 (mx_if_ne 15 14)) (mx_node 15 (mx_leaf 14 (mx_vret)) (mx_leaf 15 (mx_iload 1 16)))))) (mx_node 24 (mx_node 20 (mx_node 19 (mx_leaf 16 (mx_const (.int 385) 19)) (mx_leaf 19 (mx_imul 20))) (mx_node 21 (mx_leaf 20 (mx_istore 3 21)) (mx_node 22 (mx_leaf 21 (mx_const (.int 0) 22)) (mx_leaf 22 (mx_istore 4 24))))) (mx_node 27 (mx_node 26 (mx_leaf 24 (mx_iload 4 26)) (mx_leaf 26 (mx_aload 0 27))) (mx_node 30 (mx_leaf 27 (mx_getf 9 0 30)) (mx_node 33 (mx_leaf 30 (mx_getf 0 5 33)) (mx_leaf 33 (mx_icmp_ge 149 36))))))) (mx_node 51 (mx_node 44 (mx_node 40 (mx_node 37 (mx_leaf 36 (mx_aload 0 37)) (mx_leaf 37 (mx_getf 9 2 40))) (mx_node 41 (mx_leaf 40 (mx_iload 3 41)) (mx_node 43 (mx_leaf 41 (mx_iload 4 43)) (mx_leaf 43 (mx_iadd 44))))) (mx_node 46 (mx_node 45 (mx_leaf 44 (mx_lald 45)) (mx_leaf 45 (mx_const (.long 0) 46))) (mx_node 47 (mx_leaf 46 (mx_lif_le 63 50)) (mx_node 50 (mx_leaf 47 (mx_if_le 63 50)) (mx_leaf 50 (mx_aload 0 51)))))) (mx_node 63 (mx_node 56 (mx_node 54 (mx_leaf 51 (mx_getf 9 0 54)) (mx_leaf 54 (mx_iload 4 56))) (mx_node 57 (mx_leaf 56 (mx_const (.int 0) 57)) (mx_node 60 (mx_leaf 57 (mx_callv 6 3 0 60)) (mx_leaf 60 (mx_goto 64))))) (mx_node 66 (mx_node 64 (mx_leaf 63 (mx_const (.int (-1)) 64)) (mx_leaf 64 (mx_istore 5 66))) (mx_node 67 (mx_leaf 66 (mx_const (.int 0) 67)) (mx_node 69 (mx_leaf 67 (mx_istore 6 69)) (mx_leaf 69 (mx_iload 6 71)))))))) (mx_node 113 (mx_node 94 (mx_node 82 (mx_node 76 (mx_node 73 (mx_leaf 71 (mx_iload 5 73)) (mx_leaf 73 (mx_icmp_gt 143 76))) (mx_node 77 (mx_leaf 76 (mx_aload 0 77)) (mx_node 80 (mx_leaf 77 (mx_getf 9 1 80)) (mx_leaf 80 (mx_iload 4 82))))) (mx_node 87 (mx_node 84 (mx_leaf 82 (mx_iload 6 84)) (mx_leaf 84 (mx_callv 26 3 4 87))) (mx_node 89 (mx_leaf 87 (mx_istore 7 89)) (mx_node 91 (mx_leaf 89 (mx_iload 7 91)) (mx_leaf 91 (mx_if_lt 137 94)))))) (mx_node 103 (mx_node 96 (mx_node 95 (mx_leaf 94 (mx_iload 2 95)) (mx_leaf 95 (mx_const (.int (-1)) 96))) (mx_node 99 (mx_leaf 96 (mx_icmp_eq 112 99)) (mx_node 100 (mx_leaf 99 (mx_aload 0 100)) (mx_leaf 100 (mx_getf 9 0 103))))) (mx_node 108 (mx_node 105 (mx_leaf 103 (mx_iload 7 105)) (mx_leaf 105 (mx_callv 5 2 0 108))) (mx_node 109 (mx_leaf 108 (mx_iload 2 109)) (mx_node 112 (mx_leaf 109 (mx_icmp_ne 137 112)) (mx_leaf 112 (mx_aload 0 113))))))) (mx_node 130 (mx_node 123 (mx_node 117 (mx_node 116 (mx_leaf 113 (mx_getf 9 2 116)) (mx_leaf 116 (mx_iload 3 117))) (mx_node 120 (mx_leaf 117 (mx_const (.int 385) 120)) (mx_node 121 (mx_leaf 120 (mx_iadd 121)) (mx_leaf 121 (mx_iload 7 123))))) (mx_node 125 (mx_node 124 (mx_leaf 123 (mx_iadd 124)) (mx_leaf 124 (mx_dup2 125))) (mx_node 126 (mx_leaf 125 (mx_lald 126)) (mx_node 127 (mx_leaf 126 (mx_aload 0 127)) (mx_leaf 127 (mx_getf 9 2 130)))))) (mx_node 136 (mx_node 133 (mx_node 131 (mx_leaf 130 (mx_iload 3 131)) (mx_leaf 131 (mx_iload 4 133))) (mx_node 134 (mx_leaf 133 (mx_iadd 134)) (mx_node 135 (mx_leaf 134 (mx_lald 135)) (mx_leaf 135 (mx_ladd 136))))) (mx_node 143 (mx_node 137 (mx_leaf 136 (mx_last 1 137)) (mx_node 140 (mx_leaf 137 (mx_iinc 6 1 140)) (mx_leaf 140 (mx_goto 69)))) (mx_node 146 (mx_leaf 143 (mx_iinc 4 1 146)) (mx_node 149 (mx_leaf 146 (mx_goto 24)) (mx_leaf 149 (mx_vret)))))))))
set_option maxRecDepth 100000 in
noncomputable def tb_74 : Nat → mx_O := (mx_node 53 (mx_node 24 (mx_node 14 (mx_node 6 (mx_node 4 (mx_node 1 (mx_leaf 0 (mx_iload 1 1)) (mx_leaf 1 (mx_if_lt 14 4))) (mx_node 5 (mx_leaf 4 (mx_aload 0 5)) (mx_leaf 5 (mx_iload 1 6)))) (mx_node 8 (mx_node 7 (mx_leaf 6 (mx_const (.int 1) 7)) (mx_leaf 7 (mx_iadd 8))) (mx_node 11 (mx_leaf 8 (mx_callv 72 2 9 11)) (mx_leaf 11 (mx_if_ne 15 14))))) (mx_node 20 (mx_node 16 (mx_node 15 (mx_leaf 14 (mx_vret)) (mx_leaf 15 (mx_iload 1 16))) (mx_node 19 (mx_leaf 16 (mx_const (.int 385) 19)) (mx_leaf 19 (mx_imul 20)))) (mx_node 22 (mx_node 21 (mx_leaf 20 (mx_istore 2 21)) (mx_leaf 21 (mx_const (.int 0) 22))) (mx_node 23 (mx_leaf 22 (mx_istore 3 23)) (mx_leaf 23 (mx_iload 3 24)))))) (mx_node 41 (mx_node 34 (mx_node 28 (mx_node 25 (mx_leaf 24 (mx_aload 0 25)) (mx_leaf 25 (mx_getf 9 0 28))) (mx_node 31 (mx_leaf 28 (mx_getf 0 5 31)) (mx_leaf 31 (mx_icmp_ge 110 34)))) (mx_node 37 (mx_node 35 (mx_leaf 34 (mx_const (.int 0) 35)) (mx_leaf 35 (mx_istore 4 37))) (mx_node 39 (mx_leaf 37 (mx_iload 4 39)) (mx_leaf 39 (mx_const (.int 10) 41))))) (mx_node 49 (mx_node 45 (mx_node 44 (mx_leaf 41 (mx_icmp_ge 104 44)) (mx_leaf 44 (mx_aload 0 45))) (mx_node 48 (mx_leaf 45 (mx_getf 9 2 48)) (mx_leaf 48 (mx_iload 2 49)))) (mx_node 51 (mx_node 50 (mx_leaf 49 (mx_iload 3 50)) (mx_leaf 50 (mx_iadd 51))) (mx_node 52 (mx_leaf 51 (mx_lald 52)) (mx_leaf 52 (mx_const (.long 0) 53))))))) (mx_node 85 (mx_node 69 (mx_node 61 (mx_node 57 (mx_node 54 (mx_leaf 53 (mx_lif_le 104 57)) (mx_leaf 54 (mx_if_le 104 57))) (mx_node 58 (mx_leaf 57 (mx_aload 0 58)) (mx_leaf 58 (mx_getf 9 1 61)))) (mx_node 64 (mx_node 62 (mx_leaf 61 (mx_iload 3 62)) (mx_leaf 62 (mx_iload 4 64))) (mx_node 67 (mx_leaf 64 (mx_callv 28 3 4 67)) (mx_leaf 67 (mx_istore 5 69))))) (mx_node 78 (mx_node 74 (mx_node 71 (mx_leaf 69 (mx_iload 5 71)) (mx_leaf 71 (mx_if_lt 98 74))) (mx_node 75 (mx_leaf 74 (mx_aload 0 75)) (mx_leaf 75 (mx_getf 9 2 78)))) (mx_node 82 (mx_node 79 (mx_leaf 78 (mx_iload 2 79)) (mx_leaf 79 (mx_const (.int 385) 82))) (mx_node 83 (mx_leaf 82 (mx_iadd 83)) (mx_leaf 83 (mx_iload 5 85)))))) (mx_node 95 (mx_node 89 (mx_node 87 (mx_node 86 (mx_leaf 85 (mx_iadd 86)) (mx_leaf 86 (mx_dup2 87))) (mx_node 88 (mx_leaf 87 (mx_lald 88)) (mx_leaf 88 (mx_aload 0 89)))) (mx_node 93 (mx_node 92 (mx_leaf 89 (mx_getf 9 2 92)) (mx_leaf 92 (mx_iload 2 93))) (mx_node 94 (mx_leaf 93 (mx_iload 3 94)) (mx_leaf 94 (mx_iadd 95))))) (mx_node 101 (mx_node 97 (mx_node 96 (mx_leaf 95 (mx_lald 96)) (mx_leaf 96 (mx_ladd 97))) (mx_node 98 (mx_leaf 97 (mx_last 1 98)) (mx_leaf 98 (mx_iinc 4 1 101)))) (mx_node 107 (mx_node 104 (mx_leaf 101 (mx_goto 37)) (mx_leaf 104 (mx_iinc 3 1 107))) (mx_node 110 (mx_leaf 107 (mx_goto 23)) (mx_leaf 110 (mx_vret))))))))
set_option maxRecDepth 100000 in
noncomputable def tb_75 : Nat → mx_O := (mx_node 37 (mx_node 18 (mx_node 6 (mx_node 3 (mx_node 1 (mx_leaf 0 (mx_const (.long 0) 1)) (mx_leaf 1 (mx_lstore 4 3))) (mx_node 4 (mx_leaf 3 (mx_const (.int 0) 4)) (mx_leaf 4 (mx_istore 6 6)))) (mx_node 9 (mx_node 8 (mx_leaf 6 (mx_iload 6 8)) (mx_leaf 8 (mx_aload 0 9))) (mx_node 12 (mx_leaf 9 (mx_getf 9 0 12)) (mx_node 15 (mx_leaf 12 (mx_getf 0 5 15)) (mx_leaf 15 (mx_icmp_ge 68 18)))))) (mx_node 27 (mx_node 22 (mx_node 19 (mx_leaf 18 (mx_aload 0 19)) (mx_leaf 19 (mx_getf 9 0 22))) (mx_node 24 (mx_leaf 22 (mx_iload 6 24)) (mx_leaf 24 (mx_callv 5 2 0 27)))) (mx_node 31 (mx_node 28 (mx_leaf 27 (mx_iload 2 28)) (mx_leaf 28 (mx_icmp_lt 62 31))) (mx_node 32 (mx_leaf 31 (mx_aload 0 32)) (mx_node 35 (mx_leaf 32 (mx_getf 9 0 35)) (mx_leaf 35 (mx_iload 6 37))))))) (mx_node 55 (mx_node 46 (mx_node 41 (mx_node 40 (mx_leaf 37 (mx_callv 5 2 0 40)) (mx_leaf 40 (mx_iload 3 41))) (mx_node 44 (mx_leaf 41 (mx_icmp_gt 62 44)) (mx_leaf 44 (mx_lload 4 46)))) (mx_node 50 (mx_node 47 (mx_leaf 46 (mx_aload 0 47)) (mx_leaf 47 (mx_getf 9 2 50))) (mx_node 51 (mx_leaf 50 (mx_iload 1 51)) (mx_node 54 (mx_leaf 51 (mx_const (.int 385) 54)) (mx_leaf 54 (mx_imul 55)))))) (mx_node 60 (mx_node 58 (mx_node 57 (mx_leaf 55 (mx_iload 6 57)) (mx_leaf 57 (mx_iadd 58))) (mx_node 59 (mx_leaf 58 (mx_lald 59)) (mx_leaf 59 (mx_ladd 60)))) (mx_node 65 (mx_node 62 (mx_leaf 60 (mx_lstore 4 62)) (mx_leaf 62 (mx_iinc 6 1 65))) (mx_node 68 (mx_leaf 65 (mx_goto 6)) (mx_node 70 (mx_leaf 68 (mx_lload 4 70)) (mx_leaf 70 (mx_lret))))))))
set_option maxRecDepth 100000 in
noncomputable def tb_76 : Nat → mx_O := (mx_node 27 (mx_node 11 (mx_node 3 (mx_node 1 (mx_leaf 0 (mx_const (.long 0) 1)) (mx_node 2 (mx_leaf 1 (mx_lstore 2 2)) (mx_leaf 2 (mx_const (.int 0) 3)))) (mx_node 7 (mx_node 5 (mx_leaf 3 (mx_istore 4 5)) (mx_leaf 5 (mx_iload 4 7))) (mx_node 8 (mx_leaf 7 (mx_aload 0 8)) (mx_leaf 8 (mx_getf 9 0 11))))) (mx_node 19 (mx_node 17 (mx_node 14 (mx_leaf 11 (mx_getf 0 5 14)) (mx_leaf 14 (mx_icmp_ge 51 17))) (mx_node 18 (mx_leaf 17 (mx_lload 2 18)) (mx_leaf 18 (mx_aload 0 19)))) (mx_node 23 (mx_node 22 (mx_leaf 19 (mx_getf 9 2 22)) (mx_leaf 22 (mx_iload 1 23))) (mx_node 26 (mx_leaf 23 (mx_const (.int 385) 26)) (mx_leaf 26 (mx_imul 27)))))) (mx_node 41 (mx_node 32 (mx_node 30 (mx_node 29 (mx_leaf 27 (mx_iload 4 29)) (mx_leaf 29 (mx_iadd 30))) (mx_node 31 (mx_leaf 30 (mx_lald 31)) (mx_leaf 31 (mx_aload 0 32)))) (mx_node 37 (mx_node 35 (mx_leaf 32 (mx_getf 9 0 35)) (mx_leaf 35 (mx_iload 4 37))) (mx_node 38 (mx_leaf 37 (mx_const (.int 0) 38)) (mx_leaf 38 (mx_callv 6 3 0 41))))) (mx_node 45 (mx_node 43 (mx_node 42 (mx_leaf 41 (mx_i2l 42)) (mx_leaf 42 (mx_lmul 43))) (mx_node 44 (mx_leaf 43 (mx_ladd 44)) (mx_leaf 44 (mx_lstore 2 45)))) (mx_node 51 (mx_node 48 (mx_leaf 45 (mx_iinc 4 1 48)) (mx_leaf 48 (mx_goto 5))) (mx_node 52 (mx_leaf 51 (mx_lload 2 52)) (mx_leaf 52 (mx_lret)))))))
set_option maxRecDepth 100000 in
noncomputable def tb_77 : Nat → mx_O := (mx_node 35 (mx_node 15 (mx_node 8 (mx_node 3 (mx_node 1 (mx_leaf 0 (mx_iload 1 1)) (mx_leaf 1 (mx_const (.int 9) 3))) (mx_node 6 (mx_leaf 3 (mx_mmin 6)) (mx_node 7 (mx_leaf 6 (mx_const (.int 1) 7)) (mx_leaf 7 (mx_isub 8))))) (mx_node 10 (mx_node 9 (mx_leaf 8 (mx_istore 2 9)) (mx_leaf 9 (mx_iload 2 10))) (mx_node 13 (mx_leaf 10 (mx_if_lt 76 13)) (mx_node 14 (mx_leaf 13 (mx_const (.int 0) 14)) (mx_leaf 14 (mx_istore 3 15)))))) (mx_node 26 (mx_node 17 (mx_node 16 (mx_leaf 15 (mx_iload 3 16)) (mx_leaf 16 (mx_aload 0 17))) (mx_node 20 (mx_leaf 17 (mx_getf 9 0 20)) (mx_node 23 (mx_leaf 20 (mx_getf 0 5 23)) (mx_leaf 23 (mx_icmp_ge 70 26))))) (mx_node 31 (mx_node 27 (mx_leaf 26 (mx_iload 2 27)) (mx_node 30 (mx_leaf 27 (mx_const (.int 385) 30)) (mx_leaf 30 (mx_imul 31)))) (mx_node 32 (mx_leaf 31 (mx_iload 3 32)) (mx_node 33 (mx_leaf 32 (mx_iadd 33)) (mx_leaf 33 (mx_istore 4 35))))))) (mx_node 53 (mx_node 43 (mx_node 39 (mx_node 36 (mx_leaf 35 (mx_aload 0 36)) (mx_leaf 36 (mx_getf 9 2 39))) (mx_node 41 (mx_leaf 39 (mx_iload 4 41)) (mx_node 42 (mx_leaf 41 (mx_lald 42)) (mx_leaf 42 (mx_const (.long 0) 43))))) (mx_node 48 (mx_node 44 (mx_leaf 43 (mx_lif_le 64 47)) (mx_node 47 (mx_leaf 44 (mx_if_le 64 47)) (mx_leaf 47 (mx_aload 0 48)))) (mx_node 49 (mx_leaf 48 (mx_iload 3 49)) (mx_node 50 (mx_leaf 49 (mx_iload 2 50)) (mx_leaf 50 (mx_callv 78 3 9 53)))))) (mx_node 63 (mx_node 57 (mx_node 56 (mx_leaf 53 (mx_if_ge 64 56)) (mx_leaf 56 (mx_aload 0 57))) (mx_node 60 (mx_leaf 57 (mx_getf 9 2 60)) (mx_node 62 (mx_leaf 60 (mx_iload 4 62)) (mx_leaf 62 (mx_const (.long 0) 63))))) (mx_node 70 (mx_node 64 (mx_leaf 63 (mx_last 1 64)) (mx_node 67 (mx_leaf 64 (mx_iinc 3 1 67)) (mx_leaf 67 (mx_goto 15)))) (mx_node 73 (mx_leaf 70 (mx_iinc 2 (-1) 73)) (mx_node 76 (mx_leaf 73 (mx_goto 9)) (mx_leaf 76 (mx_vret))))))))
set_option maxRecDepth 100000 in
noncomputable def tb_78 : Nat → mx_O := (mx_node 21 (mx_node 10 (mx_node 5 (mx_node 1 (mx_leaf 0 (mx_aload 0 1)) (mx_node 4 (mx_leaf 1 (mx_getf 9 0 4)) (mx_leaf 4 (mx_iload 1 5)))) (mx_node 6 (mx_leaf 5 (mx_const (.int 0) 6)) (mx_node 9 (mx_leaf 6 (mx_callv 6 3 0 9)) (mx_leaf 9 (mx_istore 3 10))))) (mx_node 15 (mx_node 11 (mx_leaf 10 (mx_const (.int 0) 11)) (mx_node 13 (mx_leaf 11 (mx_istore 4 13)) (mx_leaf 13 (mx_iload 4 15)))) (mx_node 19 (mx_node 16 (mx_leaf 15 (mx_iload 3 16)) (mx_leaf 16 (mx_icmp_gt 46 19))) (mx_node 20 (mx_leaf 19 (mx_aload 0 20)) (mx_leaf 20 (mx_aload 0 21)))))) (mx_node 34 (mx_node 27 (mx_node 24 (mx_leaf 21 (mx_getf 9 1 24)) (mx_node 25 (mx_leaf 24 (mx_iload 1 25)) (mx_leaf 25 (mx_iload 4 27)))) (mx_node 30 (mx_leaf 27 (mx_callv 26 3 4 30)) (mx_node 31 (mx_leaf 30 (mx_iload 2 31)) (mx_leaf 31 (mx_callv 79 3 9 34))))) (mx_node 40 (mx_node 37 (mx_leaf 34 (mx_if_eq 40 37)) (mx_node 39 (mx_leaf 37 (mx_iload 4 39)) (mx_leaf 39 (mx_iret)))) (mx_node 46 (mx_node 43 (mx_leaf 40 (mx_iinc 4 1 43)) (mx_leaf 43 (mx_goto 13))) (mx_node 47 (mx_leaf 46 (mx_const (.int (-1)) 47)) (mx_leaf 47 (mx_iret)))))))
set_option maxRecDepth 100000 in
noncomputable def tb_79 : Nat → mx_O := (mx_node 15 (mx_node 8 (mx_node 4 (mx_node 1 (mx_leaf 0 (mx_iload 1 1)) (mx_leaf 1 (mx_if_lt 27 4))) (mx_node 5 (mx_leaf 4 (mx_aload 0 5)) (mx_leaf 5 (mx_getf 9 2 8)))) (mx_node 10 (mx_node 9 (mx_leaf 8 (mx_iload 2 9)) (mx_leaf 9 (mx_const (.int 1) 10))) (mx_node 11 (mx_leaf 10 (mx_iadd 11)) (mx_node 14 (mx_leaf 11 (mx_const (.int 385) 14)) (mx_leaf 14 (mx_imul 15)))))) (mx_node 20 (mx_node 17 (mx_node 16 (mx_leaf 15 (mx_iload 1 16)) (mx_leaf 16 (mx_iadd 17))) (mx_node 18 (mx_leaf 17 (mx_lald 18)) (mx_node 19 (mx_leaf 18 (mx_const (.long 0) 19)) (mx_leaf 19 (mx_lif_le 27 23))))) (mx_node 24 (mx_node 23 (mx_leaf 20 (mx_if_le 27 23)) (mx_leaf 23 (mx_const (.int 1) 24))) (mx_node 27 (mx_leaf 24 (mx_goto 28)) (mx_node 28 (mx_leaf 27 (mx_const (.int 0) 28)) (mx_leaf 28 (mx_zret)))))))
set_option maxRecDepth 100000 in
noncomputable def tb_80 : Nat → mx_O := (mx_node 22 (mx_node 11 (mx_node 3 (mx_node 1 (mx_leaf 0 (mx_iload 1 1)) (mx_node 2 (mx_leaf 1 (mx_istore 3 2)) (mx_leaf 2 (mx_const (.int 0) 3)))) (mx_node 7 (mx_node 5 (mx_leaf 3 (mx_istore 4 5)) (mx_leaf 5 (mx_iload 4 7))) (mx_node 8 (mx_leaf 7 (mx_iload 2 8)) (mx_leaf 8 (mx_icmp_ge 37 11))))) (mx_node 16 (mx_node 12 (mx_leaf 11 (mx_iload 3 12)) (mx_node 15 (mx_leaf 12 (mx_if_lt 37 15)) (mx_leaf 15 (mx_aload 0 16)))) (mx_node 20 (mx_node 19 (mx_leaf 16 (mx_getf 9 1 19)) (mx_leaf 19 (mx_iload 3 20))) (mx_node 21 (mx_leaf 20 (mx_aload 0 21)) (mx_leaf 21 (mx_iload 3 22)))))) (mx_node 38 (mx_node 30 (mx_node 24 (mx_leaf 22 (mx_iload 4 24)) (mx_node 27 (mx_leaf 24 (mx_callv 78 3 9 27)) (mx_leaf 27 (mx_callv 26 3 4 30)))) (mx_node 34 (mx_node 31 (mx_leaf 30 (mx_istore 3 31)) (mx_leaf 31 (mx_iinc 4 1 34))) (mx_node 37 (mx_leaf 34 (mx_goto 5)) (mx_leaf 37 (mx_iload 3 38))))) (mx_node 46 (mx_node 42 (mx_node 41 (mx_leaf 38 (mx_if_ge 45 41)) (mx_leaf 41 (mx_const (.int (-1)) 42))) (mx_node 45 (mx_leaf 42 (mx_goto 51)) (mx_leaf 45 (mx_aload 0 46)))) (mx_node 48 (mx_node 47 (mx_leaf 46 (mx_iload 3 47)) (mx_leaf 47 (mx_iload 2 48))) (mx_node 51 (mx_leaf 48 (mx_callv 78 3 9 51)) (mx_leaf 51 (mx_iret)))))))
set_option maxRecDepth 100000 in
noncomputable def tb_81 : Nat → mx_O := (mx_node 45 (mx_node 23 (mx_node 6 (mx_node 3 (mx_node 1 (mx_leaf 0 (mx_const (.int 0) 1)) (mx_node 2 (mx_leaf 1 (mx_istore 2 2)) (mx_leaf 2 (mx_const (.int 0) 3)))) (mx_node 4 (mx_leaf 3 (mx_istore 3 4)) (mx_node 5 (mx_leaf 4 (mx_iload 3 5)) (mx_leaf 5 (mx_aload 0 6))))) (mx_node 15 (mx_node 9 (mx_leaf 6 (mx_getf 9 0 9)) (mx_node 12 (mx_leaf 9 (mx_getf 0 5 12)) (mx_leaf 12 (mx_icmp_ge 94 15)))) (mx_node 19 (mx_node 16 (mx_leaf 15 (mx_aload 0 16)) (mx_leaf 16 (mx_getf 9 2 19))) (mx_node 20 (mx_leaf 19 (mx_iload 1 20)) (mx_leaf 20 (mx_const (.int 385) 23)))))) (mx_node 32 (mx_node 26 (mx_node 24 (mx_leaf 23 (mx_imul 24)) (mx_node 25 (mx_leaf 24 (mx_iload 3 25)) (mx_leaf 25 (mx_iadd 26)))) (mx_node 28 (mx_node 27 (mx_leaf 26 (mx_lald 27)) (mx_leaf 27 (mx_const (.long 0) 28))) (mx_node 29 (mx_leaf 28 (mx_lif_le 44 32)) (mx_leaf 29 (mx_if_le 44 32))))) (mx_node 37 (mx_node 33 (mx_leaf 32 (mx_aload 0 33)) (mx_node 36 (mx_leaf 33 (mx_getf 9 0 36)) (mx_leaf 36 (mx_iload 3 37)))) (mx_node 41 (mx_node 38 (mx_leaf 37 (mx_const (.int 0) 38)) (mx_leaf 38 (mx_callv 6 3 0 41))) (mx_node 44 (mx_leaf 41 (mx_goto 45)) (mx_leaf 44 (mx_const (.int (-1)) 45))))))) (mx_node 69 (mx_node 57 (mx_node 50 (mx_node 47 (mx_leaf 45 (mx_istore 4 47)) (mx_node 48 (mx_leaf 47 (mx_const (.int 0) 48)) (mx_leaf 48 (mx_istore 5 50)))) (mx_node 52 (mx_leaf 50 (mx_iload 5 52)) (mx_node 54 (mx_leaf 52 (mx_iload 4 54)) (mx_leaf 54 (mx_icmp_gt 88 57))))) (mx_node 62 (mx_node 58 (mx_leaf 57 (mx_aload 0 58)) (mx_node 59 (mx_leaf 58 (mx_aload 0 59)) (mx_leaf 59 (mx_getf 9 1 62)))) (mx_node 65 (mx_node 63 (mx_leaf 62 (mx_iload 3 63)) (mx_leaf 63 (mx_iload 5 65))) (mx_node 68 (mx_leaf 65 (mx_callv 26 3 4 68)) (mx_leaf 68 (mx_iload 1 69)))))) (mx_node 81 (mx_node 76 (mx_node 72 (mx_leaf 69 (mx_callv 79 3 9 72)) (mx_node 75 (mx_leaf 72 (mx_if_eq 82 75)) (mx_leaf 75 (mx_iload 2 76)))) (mx_node 79 (mx_node 77 (mx_leaf 76 (mx_const (.int 1) 77)) (mx_leaf 77 (mx_iload 5 79))) (mx_node 80 (mx_leaf 79 (mx_ishl 80)) (mx_leaf 80 (mx_ior 81))))) (mx_node 88 (mx_node 82 (mx_leaf 81 (mx_istore 2 82)) (mx_node 85 (mx_leaf 82 (mx_iinc 5 1 85)) (mx_leaf 85 (mx_goto 50)))) (mx_node 94 (mx_node 91 (mx_leaf 88 (mx_iinc 3 1 91)) (mx_leaf 91 (mx_goto 4))) (mx_node 95 (mx_leaf 94 (mx_iload 2 95)) (mx_leaf 95 (mx_iret))))))))
set_option maxRecDepth 100000 in
noncomputable def tb_82 : Nat → mx_O := (mx_node 14 (mx_node 7 (mx_node 4 (mx_node 1 (mx_leaf 0 (mx_aload 0 1)) (mx_leaf 1 (mx_objinit 4))) (mx_node 5 (mx_leaf 4 (mx_aload 0 5)) (mx_leaf 5 (mx_const (.int 40) 7)))) (mx_node 12 (mx_node 9 (mx_leaf 7 (mx_newa .long (.long 0) 9)) (mx_leaf 9 (mx_putf 1 10 0 (.array .long) 12))) (mx_node 13 (mx_leaf 12 (mx_aload 0 13)) (mx_leaf 13 (mx_const (.int 0) 14))))) (mx_node 22 (mx_node 18 (mx_node 17 (mx_leaf 14 (mx_putf 1 10 1 (.int) 17)) (mx_leaf 17 (mx_aload 0 18))) (mx_node 19 (mx_leaf 18 (mx_const (.int 0) 19)) (mx_leaf 19 (mx_putf 1 10 2 (.int) 22)))) (mx_node 24 (mx_node 23 (mx_leaf 22 (mx_aload 0 23)) (mx_leaf 23 (mx_const (.int 1) 24))) (mx_node 27 (mx_leaf 24 (mx_putf 1 10 3 (.boolean) 27)) (mx_leaf 27 (mx_vret))))))
set_option maxRecDepth 100000 in
noncomputable def tb_83 : Nat → mx_O := (mx_node 11 (mx_node 5 (mx_node 1 (mx_leaf 0 (mx_aload 0 1)) (mx_node 2 (mx_leaf 1 (mx_iload 1 2)) (mx_leaf 2 (mx_putf 1 10 1 (.int) 5)))) (mx_node 7 (mx_node 6 (mx_leaf 5 (mx_aload 0 6)) (mx_leaf 6 (mx_iload 2 7))) (mx_node 10 (mx_leaf 7 (mx_putf 1 10 2 (.int) 10)) (mx_leaf 10 (mx_aload 0 11))))) (mx_node 16 (mx_node 12 (mx_leaf 11 (mx_const (.int 0) 12)) (mx_node 15 (mx_leaf 12 (mx_putf 1 10 3 (.boolean) 15)) (mx_leaf 15 (mx_aload 0 16)))) (mx_node 20 (mx_node 19 (mx_leaf 16 (mx_getf 10 0 19)) (mx_leaf 19 (mx_const (.long 0) 20))) (mx_node 23 (mx_leaf 20 (mx_calls 285 2 23)) (mx_leaf 23 (mx_vret))))))
set_option maxRecDepth 100000 in
noncomputable def tb_84 : Nat → mx_O := (mx_node 57 (mx_node 41 (mx_node 10 (mx_node 4 (mx_node 1 (mx_leaf 0 (mx_iload 1 1)) (mx_leaf 1 (mx_if_lt 10 4))) (mx_node 5 (mx_leaf 4 (mx_iload 1 5)) (mx_node 7 (mx_leaf 5 (mx_const (.int 40) 7)) (mx_leaf 7 (mx_icmp_lt 11 10))))) (mx_node 12 (mx_node 11 (mx_leaf 10 (mx_vret)) (mx_leaf 11 (mx_aload 0 12))) (mx_node 15 (mx_leaf 12 (mx_getf 10 1 15)) (mx_node 40 (mx_leaf 15 (mx_tsw 0 2 [40, 53, 66] 78)) (mx_leaf 40 (mx_aload 0 41)))))) (mx_node 48 (mx_node 45 (mx_node 44 (mx_leaf 41 (mx_getf 10 0 44)) (mx_leaf 44 (mx_iload 1 45))) (mx_node 46 (mx_leaf 45 (mx_lload 2 46)) (mx_node 47 (mx_leaf 46 (mx_l2i 47)) (mx_leaf 47 (mx_i2b 48))))) (mx_node 50 (mx_node 49 (mx_leaf 48 (mx_i2l 49)) (mx_leaf 49 (mx_last 1 50))) (mx_node 53 (mx_leaf 50 (mx_goto 85)) (mx_node 54 (mx_leaf 53 (mx_aload 0 54)) (mx_leaf 54 (mx_getf 10 0 57))))))) (mx_node 71 (mx_node 62 (mx_node 59 (mx_node 58 (mx_leaf 57 (mx_iload 1 58)) (mx_leaf 58 (mx_lload 2 59))) (mx_node 60 (mx_leaf 59 (mx_l2i 60)) (mx_node 61 (mx_leaf 60 (mx_i2s 61)) (mx_leaf 61 (mx_i2l 62))))) (mx_node 66 (mx_node 63 (mx_leaf 62 (mx_last 1 63)) (mx_leaf 63 (mx_goto 85))) (mx_node 67 (mx_leaf 66 (mx_aload 0 67)) (mx_node 70 (mx_leaf 67 (mx_getf 10 0 70)) (mx_leaf 70 (mx_iload 1 71)))))) (mx_node 78 (mx_node 73 (mx_node 72 (mx_leaf 71 (mx_lload 2 72)) (mx_leaf 72 (mx_l2i 73))) (mx_node 74 (mx_leaf 73 (mx_i2l 74)) (mx_node 75 (mx_leaf 74 (mx_last 1 75)) (mx_leaf 75 (mx_goto 85))))) (mx_node 83 (mx_node 79 (mx_leaf 78 (mx_aload 0 79)) (mx_node 82 (mx_leaf 79 (mx_getf 10 0 82)) (mx_leaf 82 (mx_iload 1 83)))) (mx_node 84 (mx_leaf 83 (mx_lload 2 84)) (mx_node 85 (mx_leaf 84 (mx_last 1 85)) (mx_leaf 85 (mx_vret))))))))
set_option maxRecDepth 100000 in
noncomputable def tb_85 : Nat → mx_O := (mx_node 11 (mx_node 5 (mx_node 1 (mx_leaf 0 (mx_iload 1 1)) (mx_node 4 (mx_leaf 1 (mx_if_lt 10 4)) (mx_leaf 4 (mx_iload 1 5)))) (mx_node 7 (mx_leaf 5 (mx_const (.int 40) 7)) (mx_node 10 (mx_leaf 7 (mx_icmp_lt 14 10)) (mx_leaf 10 (mx_const (.long 0) 11))))) (mx_node 18 (mx_node 14 (mx_leaf 11 (mx_goto 20)) (mx_node 15 (mx_leaf 14 (mx_aload 0 15)) (mx_leaf 15 (mx_getf 10 0 18)))) (mx_node 19 (mx_leaf 18 (mx_iload 1 19)) (mx_node 20 (mx_leaf 19 (mx_lald 20)) (mx_leaf 20 (mx_lret))))))
set_option maxRecDepth 100000 in
noncomputable def tb_86 : Nat → mx_O := (mx_node 24 (mx_node 12 (mx_node 5 (mx_node 1 (mx_leaf 0 (mx_const (.int 0) 1)) (mx_node 3 (mx_leaf 1 (mx_istore 5 3)) (mx_leaf 3 (mx_iload 5 5)))) (mx_node 6 (mx_leaf 5 (mx_aload 0 6)) (mx_node 9 (mx_leaf 6 (mx_getf 10 2 9)) (mx_leaf 9 (mx_icmp_ge 44 12))))) (mx_node 18 (mx_node 13 (mx_leaf 12 (mx_aload 0 13)) (mx_node 16 (mx_leaf 13 (mx_getf 10 0 16)) (mx_leaf 16 (mx_iload 5 18)))) (mx_node 20 (mx_node 19 (mx_leaf 18 (mx_lald 19)) (mx_leaf 19 (mx_lload 1 20))) (mx_node 21 (mx_leaf 20 (mx_lif_lt 36 24)) (mx_leaf 21 (mx_if_lt 36 24)))))) (mx_node 33 (mx_node 30 (mx_node 25 (mx_leaf 24 (mx_aload 0 25)) (mx_node 28 (mx_leaf 25 (mx_getf 10 0 28)) (mx_leaf 28 (mx_iload 5 30)))) (mx_node 31 (mx_leaf 30 (mx_lald 31)) (mx_node 32 (mx_leaf 31 (mx_lload 3 32)) (mx_leaf 32 (mx_lif_le 38 36))))) (mx_node 38 (mx_node 36 (mx_leaf 33 (mx_if_le 38 36)) (mx_node 37 (mx_leaf 36 (mx_const (.int 0) 37)) (mx_leaf 37 (mx_zret)))) (mx_node 44 (mx_node 41 (mx_leaf 38 (mx_iinc 5 1 41)) (mx_leaf 41 (mx_goto 3))) (mx_node 45 (mx_leaf 44 (mx_const (.int 1) 45)) (mx_leaf 45 (mx_zret)))))))
set_option maxRecDepth 100000 in
noncomputable def tb_87 : Nat → mx_O := (mx_node 15 (mx_node 4 (mx_node 2 (mx_node 1 (mx_leaf 0 (mx_const (.int 0) 1)) (mx_leaf 1 (mx_istore 3 2))) (mx_node 3 (mx_leaf 2 (mx_iload 3 3)) (mx_leaf 3 (mx_aload 0 4)))) (mx_node 10 (mx_node 7 (mx_leaf 4 (mx_getf 10 2 7)) (mx_leaf 7 (mx_icmp_ge 29 10))) (mx_node 11 (mx_leaf 10 (mx_aload 0 11)) (mx_node 14 (mx_leaf 11 (mx_getf 10 0 14)) (mx_leaf 14 (mx_iload 3 15)))))) (mx_node 22 (mx_node 17 (mx_node 16 (mx_leaf 15 (mx_lald 16)) (mx_leaf 16 (mx_lload 1 17))) (mx_node 18 (mx_leaf 17 (mx_lif_ne 23 21)) (mx_node 21 (mx_leaf 18 (mx_if_ne 23 21)) (mx_leaf 21 (mx_const (.int 1) 22))))) (mx_node 26 (mx_node 23 (mx_leaf 22 (mx_zret)) (mx_leaf 23 (mx_iinc 3 1 26))) (mx_node 29 (mx_leaf 26 (mx_goto 2)) (mx_node 30 (mx_leaf 29 (mx_const (.int 0) 30)) (mx_leaf 30 (mx_zret)))))))
set_option maxRecDepth 100000 in
noncomputable def tb_88 : Nat → mx_O := (mx_node 123 (mx_node 59 (mx_node 28 (mx_node 14 (mx_node 5 (mx_node 1 (mx_leaf 0 (mx_aload 0 1)) (mx_node 4 (mx_leaf 1 (mx_objinit 4)) (mx_leaf 4 (mx_aload 0 5)))) (mx_node 10 (mx_node 8 (mx_leaf 5 (mx_const (.int 900) 8)) (mx_leaf 8 (mx_newa .byte (.int 0) 10))) (mx_node 13 (mx_leaf 10 (mx_putf 1 11 0 (.array .byte) 13)) (mx_leaf 13 (mx_aload 0 14))))) (mx_node 20 (mx_node 18 (mx_node 15 (mx_leaf 14 (mx_const (.int 0) 15)) (mx_leaf 15 (mx_putf 1 11 1 (.int) 18))) (mx_node 19 (mx_leaf 18 (mx_aload 0 19)) (mx_leaf 19 (mx_const (.int 0) 20)))) (mx_node 24 (mx_node 23 (mx_leaf 20 (mx_putf 1 11 2 (.int) 23)) (mx_leaf 23 (mx_aload 0 24))) (mx_node 25 (mx_leaf 24 (mx_const (.int (-1)) 25)) (mx_leaf 25 (mx_putf 1 11 3 (.int) 28)))))) (mx_node 43 (mx_node 33 (mx_node 29 (mx_leaf 28 (mx_aload 0 29)) (mx_node 32 (mx_leaf 29 (mx_new 7 16 [.null, .int 0, .int 0, .int 0, .int 0, .int 0, .null, .int 0, .null, .null, .int 0, .null, .int 0, .int 0, .int 0, .int 0] 32)) (mx_leaf 32 (mx_dup 33)))) (mx_node 39 (mx_node 36 (mx_leaf 33 (mx_calli 37 1 36)) (mx_leaf 36 (mx_putf 1 11 4 (.object "TitheHeap$Reader") 39))) (mx_node 40 (mx_leaf 39 (mx_aload 0 40)) (mx_leaf 40 (mx_new 0 6 [.null, .null, .null, .null, .int 0, .int 0] 43))))) (mx_node 51 (mx_node 47 (mx_node 44 (mx_leaf 43 (mx_dup 44)) (mx_leaf 44 (mx_calli 1 1 47))) (mx_node 50 (mx_leaf 47 (mx_putf 1 11 5 (.object "TitheHeap$Atlas") 50)) (mx_leaf 50 (mx_aload 0 51)))) (mx_node 55 (mx_node 54 (mx_leaf 51 (mx_new 4 9 [.null, .null, .int 0, .null, .null, .null, .null, .null, .null] 54)) (mx_leaf 54 (mx_dup 55))) (mx_node 56 (mx_leaf 55 (mx_aload 0 56)) (mx_leaf 56 (mx_getf 11 5 59))))))) (mx_node 90 (mx_node 74 (mx_node 66 (mx_node 62 (mx_leaf 59 (mx_calli 23 2 62)) (mx_node 65 (mx_leaf 62 (mx_putf 1 11 6 (.object "TitheHeap$Mill") 65)) (mx_leaf 65 (mx_aload 0 66)))) (mx_node 70 (mx_node 69 (mx_leaf 66 (mx_new 2 12 [.null, .null, .null, .null, .null, .null, .int 0, .int 0, .int 0, .int 0, .int 0, .int 0] 69)) (mx_leaf 69 (mx_dup 70))) (mx_node 71 (mx_leaf 70 (mx_aload 0 71)) (mx_leaf 71 (mx_getf 11 5 74))))) (mx_node 84 (mx_node 78 (mx_node 75 (mx_leaf 74 (mx_aload 0 75)) (mx_leaf 75 (mx_getf 11 6 78))) (mx_node 81 (mx_leaf 78 (mx_calli 14 3 81)) (mx_leaf 81 (mx_putf 1 11 7 (.object "TitheHeap$Going") 84)))) (mx_node 88 (mx_node 85 (mx_leaf 84 (mx_aload 0 85)) (mx_leaf 85 (mx_new 8 9 [.null, .null, .null, .null, .null, .null, .null, .null, .int 0] 88))) (mx_node 89 (mx_leaf 88 (mx_dup 89)) (mx_leaf 89 (mx_aload 0 90)))))) (mx_node 107 (mx_node 97 (mx_node 93 (mx_leaf 90 (mx_getf 11 5 93)) (mx_node 94 (mx_leaf 93 (mx_aload 0 94)) (mx_leaf 94 (mx_getf 11 6 97)))) (mx_node 103 (mx_node 100 (mx_leaf 97 (mx_calli 60 3 100)) (mx_leaf 100 (mx_putf 1 11 8 (.object "TitheHeap$Search") 103))) (mx_node 104 (mx_leaf 103 (mx_aload 0 104)) (mx_leaf 104 (mx_new 9 3 [.null, .null, .null] 107))))) (mx_node 113 (mx_node 109 (mx_node 108 (mx_leaf 107 (mx_dup 108)) (mx_leaf 108 (mx_aload 0 109))) (mx_node 112 (mx_leaf 109 (mx_getf 11 5 112)) (mx_leaf 112 (mx_aload 0 113)))) (mx_node 119 (mx_node 116 (mx_leaf 113 (mx_getf 11 6 116)) (mx_leaf 116 (mx_calli 70 3 119))) (mx_node 122 (mx_leaf 119 (mx_putf 1 11 9 (.object "TitheHeap$Spread") 122)) (mx_leaf 122 (mx_aload 0 123)))))))) (mx_node 188 (mx_node 154 (mx_node 138 (mx_node 130 (mx_node 124 (mx_leaf 123 (mx_const (.int 4) 124)) (mx_node 127 (mx_leaf 124 (mx_newa (.object "TitheHeap$Tray") .null 127)) (mx_leaf 127 (mx_putf 1 11 10 (.array (.object "TitheHeap$Tray")) 130)))) (mx_node 132 (mx_node 131 (mx_leaf 130 (mx_aload 0 131)) (mx_leaf 131 (mx_const (.int 2) 132))) (mx_node 135 (mx_leaf 132 (mx_newa (.object "TitheHeap$Moment") .null 135)) (mx_leaf 135 (mx_putf 1 11 11 (.array (.object "TitheHeap$Moment")) 138))))) (mx_node 146 (mx_node 142 (mx_node 139 (mx_leaf 138 (mx_aload 0 139)) (mx_leaf 139 (mx_new 5 6 [.null, .int 0, .int 0, .int 0, .int 0, .int 0] 142))) (mx_node 143 (mx_leaf 142 (mx_dup 143)) (mx_leaf 143 (mx_calli 32 1 146)))) (mx_node 150 (mx_node 149 (mx_leaf 146 (mx_putf 1 11 12 (.object "TitheHeap$Moment") 149)) (mx_leaf 149 (mx_aload 0 150))) (mx_node 153 (mx_leaf 150 (mx_new 5 6 [.null, .int 0, .int 0, .int 0, .int 0, .int 0] 153)) (mx_leaf 153 (mx_dup 154)))))) (mx_node 171 (mx_node 161 (mx_node 157 (mx_leaf 154 (mx_calli 32 1 157)) (mx_node 160 (mx_leaf 157 (mx_putf 1 11 13 (.object "TitheHeap$Moment") 160)) (mx_leaf 160 (mx_aload 0 161)))) (mx_node 165 (mx_node 164 (mx_leaf 161 (mx_new 6 2 [.null, .int 0] 164)) (mx_leaf 164 (mx_dup 165))) (mx_node 168 (mx_leaf 165 (mx_calli 34 1 168)) (mx_leaf 168 (mx_putf 1 11 14 (.object "TitheHeap$Past") 171))))) (mx_node 179 (mx_node 174 (mx_node 172 (mx_leaf 171 (mx_aload 0 172)) (mx_leaf 172 (mx_const (.int 19) 174))) (mx_node 176 (mx_leaf 174 (mx_newa .int (.int 0) 176)) (mx_leaf 176 (mx_putf 1 11 15 (.array .int) 179)))) (mx_node 183 (mx_node 180 (mx_leaf 179 (mx_aload 0 180)) (mx_leaf 180 (mx_const (.int 190) 183))) (mx_node 185 (mx_leaf 183 (mx_newa .int (.int 0) 185)) (mx_leaf 185 (mx_putf 1 11 16 (.array .int) 188))))))) (mx_node 215 (mx_node 199 (mx_node 191 (mx_node 189 (mx_leaf 188 (mx_const (.int 0) 189)) (mx_node 190 (mx_leaf 189 (mx_istore 1 190)) (mx_leaf 190 (mx_iload 1 191)))) (mx_node 195 (mx_node 192 (mx_leaf 191 (mx_const (.int 4) 192)) (mx_leaf 192 (mx_icmp_ge 214 195))) (mx_node 196 (mx_leaf 195 (mx_aload 0 196)) (mx_leaf 196 (mx_getf 11 10 199))))) (mx_node 207 (mx_node 203 (mx_node 200 (mx_leaf 199 (mx_iload 1 200)) (mx_leaf 200 (mx_new 10 4 [.null, .int 0, .int 0, .int 0] 203))) (mx_node 204 (mx_leaf 203 (mx_dup 204)) (mx_leaf 204 (mx_calli 82 1 207)))) (mx_node 211 (mx_node 208 (mx_leaf 207 (mx_aast 1 10 208 "TitheHeap$Tray")) (mx_leaf 208 (mx_iinc 1 1 211))) (mx_node 214 (mx_leaf 211 (mx_goto 190)) (mx_leaf 214 (mx_const (.int 0) 215)))))) (mx_node 229 (mx_node 221 (mx_node 217 (mx_node 216 (mx_leaf 215 (mx_istore 1 216)) (mx_leaf 216 (mx_iload 1 217))) (mx_node 218 (mx_leaf 217 (mx_const (.int 2) 218)) (mx_leaf 218 (mx_icmp_ge 240 221)))) (mx_node 225 (mx_node 222 (mx_leaf 221 (mx_aload 0 222)) (mx_leaf 222 (mx_getf 11 11 225))) (mx_node 226 (mx_leaf 225 (mx_iload 1 226)) (mx_leaf 226 (mx_new 5 6 [.null, .int 0, .int 0, .int 0, .int 0, .int 0] 229))))) (mx_node 237 (mx_node 233 (mx_node 230 (mx_leaf 229 (mx_dup 230)) (mx_leaf 230 (mx_calli 32 1 233))) (mx_node 234 (mx_leaf 233 (mx_aast 1 5 234 "TitheHeap$Moment")) (mx_leaf 234 (mx_iinc 1 1 237)))) (mx_node 241 (mx_node 240 (mx_leaf 237 (mx_goto 216)) (mx_leaf 240 (mx_aload 0 241))) (mx_node 244 (mx_leaf 241 (mx_callv 135 1 11 244)) (mx_leaf 244 (mx_vret)))))))))
set_option maxRecDepth 100000 in
noncomputable def tb_89 : Nat → mx_O := (mx_node 23 (mx_node 13 (mx_node 7 (mx_node 1 (mx_leaf 0 (mx_aload 0 1)) (mx_node 4 (mx_leaf 1 (mx_getf 11 1 4)) (mx_leaf 4 (mx_const (.int 880) 7)))) (mx_node 10 (mx_leaf 7 (mx_icmp_le 13 10)) (mx_node 12 (mx_leaf 10 (mx_const (.int (-5)) 12)) (mx_leaf 12 (mx_iret))))) (mx_node 18 (mx_node 14 (mx_leaf 13 (mx_aload 0 14)) (mx_node 15 (mx_leaf 14 (mx_iload 1 15)) (mx_leaf 15 (mx_callv 134 2 11 18)))) (mx_node 19 (mx_leaf 18 (mx_aload 0 19)) (mx_node 20 (mx_leaf 19 (mx_iload 2 20)) (mx_leaf 20 (mx_callv 134 2 11 23)))))) (mx_node 34 (mx_node 28 (mx_node 24 (mx_leaf 23 (mx_aload 0 24)) (mx_node 25 (mx_leaf 24 (mx_iload 3 25)) (mx_leaf 25 (mx_callv 134 2 11 28)))) (mx_node 29 (mx_leaf 28 (mx_aload 0 29)) (mx_node 31 (mx_leaf 29 (mx_iload 4 31)) (mx_leaf 31 (mx_callv 134 2 11 34))))) (mx_node 40 (mx_node 35 (mx_leaf 34 (mx_aload 0 35)) (mx_node 37 (mx_leaf 35 (mx_iload 5 37)) (mx_leaf 37 (mx_callv 134 2 11 40)))) (mx_node 41 (mx_leaf 40 (mx_aload 0 41)) (mx_node 44 (mx_leaf 41 (mx_getf 11 1 44)) (mx_leaf 44 (mx_iret)))))))
set_option maxRecDepth 100000 in
noncomputable def tb_90 : Nat → mx_O := (mx_node 77 (mx_node 34 (mx_node 16 (mx_node 6 (mx_node 4 (mx_node 1 (mx_leaf 0 (mx_iload 1 1)) (mx_leaf 1 (mx_if_lt 12 4))) (mx_node 5 (mx_leaf 4 (mx_iload 1 5)) (mx_leaf 5 (mx_aload 0 6)))) (mx_node 12 (mx_node 9 (mx_leaf 6 (mx_getf 11 1 9)) (mx_leaf 9 (mx_icmp_le 15 12))) (mx_node 14 (mx_leaf 12 (mx_const (.int (-3)) 14)) (mx_node 15 (mx_leaf 14 (mx_iret)) (mx_leaf 15 (mx_aload 0 16)))))) (mx_node 25 (mx_node 20 (mx_node 17 (mx_leaf 16 (mx_const (.int 0) 17)) (mx_leaf 17 (mx_putf 1 11 1 (.int) 20))) (mx_node 21 (mx_leaf 20 (mx_aload 0 21)) (mx_node 24 (mx_leaf 21 (mx_getf 11 4 24)) (mx_leaf 24 (mx_aload 0 25))))) (mx_node 29 (mx_node 28 (mx_leaf 25 (mx_getf 11 0 28)) (mx_leaf 28 (mx_iload 1 29))) (mx_node 32 (mx_leaf 29 (mx_callv 38 3 7 32)) (mx_node 33 (mx_leaf 32 (mx_aload 0 33)) (mx_leaf 33 (mx_aload 0 34))))))) (mx_node 58 (mx_node 45 (mx_node 40 (mx_node 37 (mx_leaf 34 (mx_getf 11 4 37)) (mx_leaf 37 (mx_getf 7 14 40))) (mx_node 43 (mx_leaf 40 (mx_putf 1 11 2 (.int) 43)) (mx_node 44 (mx_leaf 43 (mx_aload 0 44)) (mx_leaf 44 (mx_aload 0 45))))) (mx_node 51 (mx_node 48 (mx_leaf 45 (mx_getf 11 4 48)) (mx_leaf 48 (mx_getf 7 15 51))) (mx_node 54 (mx_leaf 51 (mx_putf 1 11 3 (.int) 54)) (mx_node 55 (mx_leaf 54 (mx_aload 0 55)) (mx_leaf 55 (mx_getf 11 2 58)))))) (mx_node 68 (mx_node 63 (mx_node 61 (mx_leaf 58 (mx_if_eq 69 61)) (mx_leaf 61 (mx_const (.int (-30)) 63))) (mx_node 64 (mx_leaf 63 (mx_aload 0 64)) (mx_node 67 (mx_leaf 64 (mx_getf 11 2 67)) (mx_leaf 67 (mx_isub 68))))) (mx_node 70 (mx_node 69 (mx_leaf 68 (mx_iret)) (mx_leaf 69 (mx_aload 0 70))) (mx_node 73 (mx_leaf 70 (mx_getf 11 5 73)) (mx_node 74 (mx_leaf 73 (mx_aload 0 74)) (mx_leaf 74 (mx_getf 11 4 77)))))))) (mx_node 123 (mx_node 101 (mx_node 88 (mx_node 83 (mx_node 80 (mx_leaf 77 (mx_getf 7 12 80)) (mx_leaf 80 (mx_callv 3 2 0 83))) (mx_node 84 (mx_leaf 83 (mx_aload 0 84)) (mx_node 87 (mx_leaf 84 (mx_getf 11 12 87)) (mx_leaf 87 (mx_aload 0 88))))) (mx_node 94 (mx_node 91 (mx_leaf 88 (mx_getf 11 4 91)) (mx_leaf 91 (mx_callv 39 1 7 94))) (mx_node 97 (mx_leaf 94 (mx_putf 1 5 0 (.object "TitheHeap$Laws") 97)) (mx_node 98 (mx_leaf 97 (mx_aload 0 98)) (mx_leaf 98 (mx_getf 11 12 101)))))) (mx_node 112 (mx_node 105 (mx_node 102 (mx_leaf 101 (mx_aload 0 102)) (mx_leaf 102 (mx_getf 11 4 105))) (mx_node 108 (mx_leaf 105 (mx_getf 7 12 108)) (mx_node 111 (mx_leaf 108 (mx_putf 1 5 1 (.int) 111)) (mx_leaf 111 (mx_aload 0 112))))) (mx_node 116 (mx_node 115 (mx_leaf 112 (mx_getf 11 12 115)) (mx_leaf 115 (mx_aload 0 116))) (mx_node 119 (mx_leaf 116 (mx_getf 11 5 119)) (mx_node 120 (mx_leaf 119 (mx_aload 0 120)) (mx_leaf 120 (mx_getf 11 4 123))))))) (mx_node 147 (mx_node 136 (mx_node 129 (mx_node 126 (mx_leaf 123 (mx_getf 7 11 126)) (mx_leaf 126 (mx_callv 9 2 0 129))) (mx_node 132 (mx_leaf 129 (mx_putf 1 5 2 (.int) 132)) (mx_node 133 (mx_leaf 132 (mx_aload 0 133)) (mx_leaf 133 (mx_getf 11 12 136))))) (mx_node 140 (mx_node 137 (mx_leaf 136 (mx_aload 0 137)) (mx_leaf 137 (mx_getf 11 4 140))) (mx_node 143 (mx_leaf 140 (mx_getf 7 13 143)) (mx_node 146 (mx_leaf 143 (mx_putf 1 5 3 (.int) 146)) (mx_leaf 146 (mx_aload 0 147)))))) (mx_node 158 (mx_node 151 (mx_node 150 (mx_leaf 147 (mx_getf 11 12 150)) (mx_leaf 150 (mx_const (.int 0) 151))) (mx_node 154 (mx_leaf 151 (mx_putf 1 5 4 (.int) 154)) (mx_node 155 (mx_leaf 154 (mx_aload 0 155)) (mx_leaf 155 (mx_callv 135 1 11 158))))) (mx_node 162 (mx_node 159 (mx_leaf 158 (mx_aload 0 159)) (mx_leaf 159 (mx_getf 11 12 162))) (mx_node 165 (mx_leaf 162 (mx_getf 5 0 165)) (mx_node 168 (mx_leaf 165 (mx_getf 3 2 168)) (mx_leaf 168 (mx_iret)))))))))
set_option maxRecDepth 100000 in
noncomputable def tb_91 : Nat → mx_O := (mx_node 10 (mx_node 5 (mx_node 1 (mx_leaf 0 (mx_iload 1 1)) (mx_node 4 (mx_leaf 1 (mx_if_ne 9 4)) (mx_leaf 4 (mx_aload 0 5)))) (mx_node 8 (mx_leaf 5 (mx_getf 11 2 8)) (mx_node 9 (mx_leaf 8 (mx_iret)) (mx_leaf 9 (mx_iload 1 10))))) (mx_node 15 (mx_node 11 (mx_leaf 10 (mx_const (.int 1) 11)) (mx_node 14 (mx_leaf 11 (mx_icmp_ne 21 14)) (mx_leaf 14 (mx_aload 0 15)))) (mx_node 21 (mx_node 18 (mx_leaf 15 (mx_getf 11 3 18)) (mx_leaf 18 (mx_goto 22))) (mx_node 22 (mx_leaf 21 (mx_const (.int (-1)) 22)) (mx_leaf 22 (mx_iret))))))
set_option maxRecDepth 100000 in
noncomputable def tb_92 : Nat → mx_O := (mx_node 22 (mx_node 8 (mx_node 4 (mx_node 1 (mx_leaf 0 (mx_iload 1 1)) (mx_leaf 1 (mx_if_ge 7 4))) (mx_node 6 (mx_leaf 4 (mx_const (.int (-3)) 6)) (mx_node 7 (mx_leaf 6 (mx_iret)) (mx_leaf 7 (mx_iload 1 8))))) (mx_node 13 (mx_node 9 (mx_leaf 8 (mx_aload 0 9)) (mx_node 12 (mx_leaf 9 (mx_getf 11 5 12)) (mx_leaf 12 (mx_aload 0 13)))) (mx_node 16 (mx_leaf 13 (mx_getf 11 12 16)) (mx_node 19 (mx_leaf 16 (mx_getf 5 2 19)) (mx_leaf 19 (mx_callv 5 2 0 22)))))) (mx_node 33 (mx_node 26 (mx_node 25 (mx_leaf 22 (mx_icmp_ge 43 25)) (mx_leaf 25 (mx_aload 0 26))) (mx_node 29 (mx_leaf 26 (mx_getf 11 5 29)) (mx_node 30 (mx_leaf 29 (mx_aload 0 30)) (mx_leaf 30 (mx_getf 11 12 33))))) (mx_node 40 (mx_node 36 (mx_leaf 33 (mx_getf 5 2 36)) (mx_node 37 (mx_leaf 36 (mx_iload 1 37)) (mx_leaf 37 (mx_callv 6 3 0 40)))) (mx_node 43 (mx_leaf 40 (mx_goto 44)) (mx_node 44 (mx_leaf 43 (mx_const (.int (-1)) 44)) (mx_leaf 44 (mx_iret)))))))
set_option maxRecDepth 100000 in
noncomputable def tb_93 : Nat → mx_O := (mx_node 26 (mx_node 14 (mx_node 5 (mx_node 1 (mx_leaf 0 (mx_aload 0 1)) (mx_node 4 (mx_leaf 1 (mx_getf 11 5 4)) (mx_leaf 4 (mx_aload 0 5)))) (mx_node 8 (mx_leaf 5 (mx_getf 11 12 8)) (mx_node 11 (mx_leaf 8 (mx_getf 5 2 11)) (mx_leaf 11 (mx_callv 5 2 0 14))))) (mx_node 19 (mx_node 15 (mx_leaf 14 (mx_istore 2 15)) (mx_node 16 (mx_leaf 15 (mx_iload 1 16)) (mx_leaf 16 (mx_if_lt 24 19)))) (mx_node 21 (mx_node 20 (mx_leaf 19 (mx_iload 1 20)) (mx_leaf 20 (mx_iload 2 21))) (mx_node 24 (mx_leaf 21 (mx_icmp_lt 27 24)) (mx_leaf 24 (mx_const (.int (-2)) 26)))))) (mx_node 39 (mx_node 31 (mx_node 27 (mx_leaf 26 (mx_iret)) (mx_node 28 (mx_leaf 27 (mx_aload 0 28)) (mx_leaf 28 (mx_getf 11 6 31)))) (mx_node 35 (mx_node 32 (mx_leaf 31 (mx_aload 0 32)) (mx_leaf 32 (mx_getf 11 5 35))) (mx_node 36 (mx_leaf 35 (mx_aload 0 36)) (mx_leaf 36 (mx_getf 11 12 39))))) (mx_node 46 (mx_node 42 (mx_leaf 39 (mx_getf 5 2 42)) (mx_node 43 (mx_leaf 42 (mx_iload 1 43)) (mx_leaf 43 (mx_callv 6 3 0 46)))) (mx_node 48 (mx_node 47 (mx_leaf 46 (mx_iload 1 47)) (mx_leaf 47 (mx_iload 2 48))) (mx_node 51 (mx_leaf 48 (mx_callv 30 4 4 51)) (mx_leaf 51 (mx_iret)))))))
set_option maxRecDepth 100000 in
noncomputable def tb_94 : Nat → mx_O := (mx_node 34 (mx_node 16 (mx_node 6 (mx_node 4 (mx_node 1 (mx_leaf 0 (mx_iload 2 1)) (mx_leaf 1 (mx_if_lt 9 4))) (mx_node 5 (mx_leaf 4 (mx_iload 2 5)) (mx_leaf 5 (mx_const (.int 2) 6)))) (mx_node 11 (mx_node 9 (mx_leaf 6 (mx_icmp_le 12 9)) (mx_leaf 9 (mx_const (.int (-2)) 11))) (mx_node 12 (mx_leaf 11 (mx_iret)) (mx_node 13 (mx_leaf 12 (mx_aload 0 13)) (mx_leaf 13 (mx_getf 11 6 16)))))) (mx_node 24 (mx_node 20 (mx_node 17 (mx_leaf 16 (mx_aload 0 17)) (mx_leaf 17 (mx_getf 11 12 20))) (mx_node 23 (mx_leaf 20 (mx_getf 5 2 23)) (mx_leaf 23 (mx_iload 1 24)))) (mx_node 28 (mx_node 27 (mx_leaf 24 (mx_callv 26 3 4 27)) (mx_leaf 27 (mx_istore 3 28))) (mx_node 29 (mx_leaf 28 (mx_iload 3 29)) (mx_node 32 (mx_leaf 29 (mx_if_ge 35 32)) (mx_leaf 32 (mx_const (.int (-5)) 34))))))) (mx_node 47 (mx_node 40 (mx_node 36 (mx_node 35 (mx_leaf 34 (mx_iret)) (mx_leaf 35 (mx_iload 2 36))) (mx_node 39 (mx_leaf 36 (mx_if_ne 41 39)) (mx_leaf 39 (mx_iload 3 40)))) (mx_node 42 (mx_node 41 (mx_leaf 40 (mx_iret)) (mx_leaf 41 (mx_iload 2 42))) (mx_node 43 (mx_leaf 42 (mx_const (.int 1) 43)) (mx_node 46 (mx_leaf 43 (mx_icmp_ne 57 46)) (mx_leaf 46 (mx_aload 0 47)))))) (mx_node 58 (mx_node 51 (mx_node 50 (mx_leaf 47 (mx_getf 11 5 50)) (mx_leaf 50 (mx_iload 3 51))) (mx_node 54 (mx_leaf 51 (mx_callv 5 2 0 54)) (mx_node 57 (mx_leaf 54 (mx_goto 66)) (mx_leaf 57 (mx_aload 0 58))))) (mx_node 62 (mx_node 61 (mx_leaf 58 (mx_getf 11 5 61)) (mx_leaf 61 (mx_iload 3 62))) (mx_node 63 (mx_leaf 62 (mx_const (.int 0) 63)) (mx_node 66 (mx_leaf 63 (mx_callv 6 3 0 66)) (mx_leaf 66 (mx_iret))))))))
set_option maxRecDepth 100000 in
noncomputable def tb_95 : Nat → mx_O := (mx_node 12 (mx_node 5 (mx_node 1 (mx_leaf 0 (mx_aload 0 1)) (mx_node 4 (mx_leaf 1 (mx_getf 11 13 4)) (mx_leaf 4 (mx_aload 0 5)))) (mx_node 8 (mx_leaf 5 (mx_getf 11 12 8)) (mx_node 11 (mx_leaf 8 (mx_callv 33 2 5 11)) (mx_leaf 11 (mx_aload 0 12))))) (mx_node 17 (mx_node 13 (mx_leaf 12 (mx_aload 0 13)) (mx_node 14 (mx_leaf 13 (mx_aload 0 14)) (mx_leaf 14 (mx_getf 11 13 17)))) (mx_node 21 (mx_node 18 (mx_leaf 17 (mx_iload 1 18)) (mx_leaf 18 (mx_callv 140 3 11 21))) (mx_node 24 (mx_leaf 21 (mx_callv 136 2 11 24)) (mx_leaf 24 (mx_iret))))))
set_option maxRecDepth 100000 in
noncomputable def tb_96 : Nat → mx_O := (mx_node 27 (mx_node 13 (mx_node 5 (mx_node 1 (mx_leaf 0 (mx_iload 1 1)) (mx_node 2 (mx_leaf 1 (mx_const (.int 1) 2)) (mx_leaf 2 (mx_icmp_lt 11 5)))) (mx_node 8 (mx_node 6 (mx_leaf 5 (mx_iload 1 6)) (mx_leaf 6 (mx_const (.int 99) 8))) (mx_node 11 (mx_leaf 8 (mx_icmp_le 14 11)) (mx_leaf 11 (mx_const (.int (-3)) 13))))) (mx_node 19 (mx_node 15 (mx_node 14 (mx_leaf 13 (mx_iret)) (mx_leaf 14 (mx_aload 0 15))) (mx_node 18 (mx_leaf 15 (mx_getf 11 13 18)) (mx_leaf 18 (mx_aload 0 19)))) (mx_node 25 (mx_node 22 (mx_leaf 19 (mx_getf 11 12 22)) (mx_leaf 22 (mx_callv 33 2 5 25))) (mx_node 26 (mx_leaf 25 (mx_const (.int 0) 26)) (mx_leaf 26 (mx_istore 2 27)))))) (mx_node 38 (mx_node 32 (mx_node 28 (mx_leaf 27 (mx_iload 2 28)) (mx_node 29 (mx_leaf 28 (mx_iload 1 29)) (mx_leaf 29 (mx_icmp_ge 48 32)))) (mx_node 34 (mx_node 33 (mx_leaf 32 (mx_aload 0 33)) (mx_leaf 33 (mx_aload 0 34))) (mx_node 37 (mx_leaf 34 (mx_getf 11 13 37)) (mx_leaf 37 (mx_const (.int 0) 38))))) (mx_node 48 (mx_node 42 (mx_node 41 (mx_leaf 38 (mx_callv 140 3 11 41)) (mx_leaf 41 (mx_pop 42))) (mx_node 45 (mx_leaf 42 (mx_iinc 2 1 45)) (mx_leaf 45 (mx_goto 27)))) (mx_node 50 (mx_node 49 (mx_leaf 48 (mx_aload 0 49)) (mx_leaf 49 (mx_const (.int 0) 50))) (mx_node 53 (mx_leaf 50 (mx_callv 136 2 11 53)) (mx_leaf 53 (mx_iret)))))))
set_option maxRecDepth 100000 in
noncomputable def tb_97 : Nat → mx_O := (mx_node 13 (mx_node 5 (mx_node 1 (mx_leaf 0 (mx_aload 0 1)) (mx_node 4 (mx_leaf 1 (mx_getf 11 13 4)) (mx_leaf 4 (mx_aload 0 5)))) (mx_node 11 (mx_node 8 (mx_leaf 5 (mx_getf 11 12 8)) (mx_leaf 8 (mx_callv 33 2 5 11))) (mx_node 12 (mx_leaf 11 (mx_aload 0 12)) (mx_leaf 12 (mx_aload 0 13))))) (mx_node 18 (mx_node 14 (mx_leaf 13 (mx_aload 0 14)) (mx_node 17 (mx_leaf 14 (mx_getf 11 13 17)) (mx_leaf 17 (mx_iload 1 18)))) (mx_node 22 (mx_node 19 (mx_leaf 18 (mx_iload 2 19)) (mx_leaf 19 (mx_callv 141 4 11 22))) (mx_node 25 (mx_leaf 22 (mx_callv 136 2 11 25)) (mx_leaf 25 (mx_iret))))))
set_option maxRecDepth 100000 in
noncomputable def tb_98 : Nat → mx_O := (mx_node 13 (mx_node 5 (mx_node 1 (mx_leaf 0 (mx_aload 0 1)) (mx_node 4 (mx_leaf 1 (mx_getf 11 13 4)) (mx_leaf 4 (mx_aload 0 5)))) (mx_node 11 (mx_node 8 (mx_leaf 5 (mx_getf 11 12 8)) (mx_leaf 8 (mx_callv 33 2 5 11))) (mx_node 12 (mx_leaf 11 (mx_aload 0 12)) (mx_leaf 12 (mx_aload 0 13))))) (mx_node 18 (mx_node 14 (mx_leaf 13 (mx_aload 0 14)) (mx_node 17 (mx_leaf 14 (mx_getf 11 13 17)) (mx_leaf 17 (mx_iload 1 18)))) (mx_node 22 (mx_node 19 (mx_leaf 18 (mx_iload 2 19)) (mx_leaf 19 (mx_callv 142 4 11 22))) (mx_node 25 (mx_leaf 22 (mx_callv 136 2 11 25)) (mx_leaf 25 (mx_iret))))))
set_option maxRecDepth 100000 in
noncomputable def tb_99 : Nat → mx_O := (mx_node 21 (mx_node 9 (mx_node 4 (mx_node 1 (mx_leaf 0 (mx_aload 0 1)) (mx_leaf 1 (mx_getf 11 12 4))) (mx_node 7 (mx_leaf 4 (mx_getf 5 3 7)) (mx_node 8 (mx_leaf 7 (mx_istore 2 8)) (mx_leaf 8 (mx_aload 0 9))))) (mx_node 16 (mx_node 12 (mx_leaf 9 (mx_getf 11 13 12)) (mx_node 13 (mx_leaf 12 (mx_aload 0 13)) (mx_leaf 13 (mx_getf 11 12 16)))) (mx_node 19 (mx_leaf 16 (mx_callv 33 2 5 19)) (mx_node 20 (mx_leaf 19 (mx_aload 0 20)) (mx_leaf 20 (mx_aload 0 21)))))) (mx_node 33 (mx_node 26 (mx_node 22 (mx_leaf 21 (mx_aload 0 22)) (mx_node 25 (mx_leaf 22 (mx_getf 11 13 25)) (mx_leaf 25 (mx_iload 1 26)))) (mx_node 29 (mx_leaf 26 (mx_callv 143 3 11 29)) (mx_node 32 (mx_leaf 29 (mx_callv 136 2 11 32)) (mx_leaf 32 (mx_istore 3 33))))) (mx_node 38 (mx_node 34 (mx_leaf 33 (mx_iload 3 34)) (mx_node 37 (mx_leaf 34 (mx_if_ge 41 37)) (mx_leaf 37 (mx_iload 3 38)))) (mx_node 41 (mx_leaf 38 (mx_goto 42)) (mx_node 42 (mx_leaf 41 (mx_iload 2 42)) (mx_leaf 42 (mx_iret)))))))
set_option maxRecDepth 100000 in
noncomputable def tb_100 : Nat → mx_O := (mx_node 26 (mx_node 12 (mx_node 5 (mx_node 1 (mx_leaf 0 (mx_iload 1 1)) (mx_node 2 (mx_leaf 1 (mx_const (.int 1) 2)) (mx_leaf 2 (mx_icmp_lt 22 5)))) (mx_node 8 (mx_node 6 (mx_leaf 5 (mx_iload 1 6)) (mx_leaf 6 (mx_const (.int 10) 8))) (mx_node 11 (mx_leaf 8 (mx_icmp_gt 22 11)) (mx_leaf 11 (mx_iload 1 12))))) (mx_node 19 (mx_node 13 (mx_leaf 12 (mx_aload 0 13)) (mx_node 16 (mx_leaf 13 (mx_getf 11 14 16)) (mx_leaf 16 (mx_getf 6 1 19)))) (mx_node 24 (mx_node 22 (mx_leaf 19 (mx_icmp_le 25 22)) (mx_leaf 22 (mx_const (.int (-3)) 24))) (mx_node 25 (mx_leaf 24 (mx_iret)) (mx_leaf 25 (mx_aload 0 26)))))) (mx_node 41 (mx_node 33 (mx_node 29 (mx_leaf 26 (mx_getf 11 14 29)) (mx_node 30 (mx_leaf 29 (mx_aload 0 30)) (mx_leaf 30 (mx_getf 11 12 33)))) (mx_node 37 (mx_node 34 (mx_leaf 33 (mx_iload 1 34)) (mx_leaf 34 (mx_callv 36 3 6 37))) (mx_node 38 (mx_leaf 37 (mx_aload 0 38)) (mx_leaf 38 (mx_getf 11 6 41))))) (mx_node 51 (mx_node 45 (mx_node 42 (mx_leaf 41 (mx_aload 0 42)) (mx_leaf 42 (mx_getf 11 12 45))) (mx_node 48 (mx_leaf 45 (mx_getf 5 3 48)) (mx_leaf 48 (mx_callv 25 2 4 51)))) (mx_node 55 (mx_node 52 (mx_leaf 51 (mx_aload 0 52)) (mx_leaf 52 (mx_getf 11 14 55))) (mx_node 58 (mx_leaf 55 (mx_getf 6 1 58)) (mx_leaf 58 (mx_iret)))))))
set_option maxRecDepth 100000 in
noncomputable def tb_101 : Nat → mx_O := (mx_node 71 (mx_node 35 (mx_node 17 (mx_node 8 (mx_node 2 (mx_node 1 (mx_leaf 0 (mx_aload 0 1)) (mx_leaf 1 (mx_iload 1 2))) (mx_node 5 (mx_leaf 2 (mx_callv 144 2 11 5)) (mx_leaf 5 (mx_if_ne 17 8)))) (mx_node 12 (mx_node 9 (mx_leaf 8 (mx_iload 2 9)) (mx_leaf 9 (mx_if_lt 17 12))) (mx_node 13 (mx_leaf 12 (mx_iload 2 13)) (mx_node 14 (mx_leaf 13 (mx_const (.int 3) 14)) (mx_leaf 14 (mx_icmp_le 20 17)))))) (mx_node 25 (mx_node 20 (mx_node 19 (mx_leaf 17 (mx_const (.int (-2)) 19)) (mx_leaf 19 (mx_iret))) (mx_node 21 (mx_leaf 20 (mx_aload 0 21)) (mx_node 24 (mx_leaf 21 (mx_getf 11 10 24)) (mx_leaf 24 (mx_iload 1 25))))) (mx_node 29 (mx_node 26 (mx_leaf 25 (mx_aald 26)) (mx_leaf 26 (mx_getf 10 3 29))) (mx_node 32 (mx_leaf 29 (mx_if_eq 35 32)) (mx_node 34 (mx_leaf 32 (mx_const (.int (-6)) 34)) (mx_leaf 34 (mx_iret))))))) (mx_node 53 (mx_node 46 (mx_node 39 (mx_node 36 (mx_leaf 35 (mx_aload 0 36)) (mx_leaf 36 (mx_getf 11 13 39))) (mx_node 40 (mx_leaf 39 (mx_aload 0 40)) (mx_node 43 (mx_leaf 40 (mx_getf 11 12 43)) (mx_leaf 43 (mx_callv 33 2 5 46))))) (mx_node 48 (mx_node 47 (mx_leaf 46 (mx_aload 0 47)) (mx_leaf 47 (mx_aload 0 48))) (mx_node 51 (mx_leaf 48 (mx_getf 11 10 51)) (mx_node 52 (mx_leaf 51 (mx_iload 1 52)) (mx_leaf 52 (mx_aald 53)))))) (mx_node 62 (mx_node 57 (mx_node 56 (mx_leaf 53 (mx_callv 138 2 11 56)) (mx_leaf 56 (mx_istore 3 57))) (mx_node 58 (mx_leaf 57 (mx_iload 3 58)) (mx_node 59 (mx_leaf 58 (mx_aload 0 59)) (mx_leaf 59 (mx_getf 11 10 62))))) (mx_node 64 (mx_node 63 (mx_leaf 62 (mx_iload 1 63)) (mx_leaf 63 (mx_aald 64))) (mx_node 67 (mx_leaf 64 (mx_getf 10 2 67)) (mx_node 70 (mx_leaf 67 (mx_icmp_ge 91 70)) (mx_leaf 70 (mx_aload 0 71)))))))) (mx_node 109 (mx_node 88 (mx_node 79 (mx_node 75 (mx_node 72 (mx_leaf 71 (mx_aload 0 72)) (mx_leaf 72 (mx_getf 11 13 75))) (mx_node 76 (mx_leaf 75 (mx_aload 0 76)) (mx_leaf 76 (mx_getf 11 10 79)))) (mx_node 81 (mx_node 80 (mx_leaf 79 (mx_iload 1 80)) (mx_leaf 80 (mx_aald 81))) (mx_node 82 (mx_leaf 81 (mx_iload 3 82)) (mx_node 85 (mx_leaf 82 (mx_callv 85 2 10 85)) (mx_leaf 85 (mx_callv 139 3 11 88)))))) (mx_node 98 (mx_node 92 (mx_node 91 (mx_leaf 88 (mx_goto 92)) (mx_leaf 91 (mx_const (.int 0) 92))) (mx_node 94 (mx_leaf 92 (mx_istore 4 94)) (mx_node 95 (mx_leaf 94 (mx_aload 0 95)) (mx_leaf 95 (mx_getf 11 6 98))))) (mx_node 102 (mx_node 99 (mx_leaf 98 (mx_aload 0 99)) (mx_leaf 99 (mx_getf 11 12 102))) (mx_node 105 (mx_leaf 102 (mx_getf 5 3 105)) (mx_node 108 (mx_leaf 105 (mx_callv 25 2 4 108)) (mx_leaf 108 (mx_iload 2 109))))))) (mx_node 151 (mx_node 145 (mx_node 138 (mx_node 136 (mx_leaf 109 (mx_tsw 0 2 [136, 147, 150] 165)) (mx_leaf 136 (mx_iload 4 138))) (mx_node 141 (mx_leaf 138 (mx_if_ne 145 141)) (mx_node 142 (mx_leaf 141 (mx_const (.int (-1)) 142)) (mx_leaf 142 (mx_goto 146))))) (mx_node 147 (mx_node 146 (mx_leaf 145 (mx_iload 3 146)) (mx_leaf 146 (mx_iret))) (mx_node 149 (mx_leaf 147 (mx_iload 4 149)) (mx_node 150 (mx_leaf 149 (mx_iret)) (mx_leaf 150 (mx_aload 0 151)))))) (mx_node 164 (mx_node 155 (mx_node 154 (mx_leaf 151 (mx_getf 11 5 154)) (mx_leaf 154 (mx_aload 0 155))) (mx_node 158 (mx_leaf 155 (mx_getf 11 13 158)) (mx_node 161 (mx_leaf 158 (mx_getf 5 2 161)) (mx_leaf 161 (mx_callv 5 2 0 164))))) (mx_node 166 (mx_node 165 (mx_leaf 164 (mx_iret)) (mx_leaf 165 (mx_aload 0 166))) (mx_node 169 (mx_leaf 166 (mx_getf 11 13 169)) (mx_node 172 (mx_leaf 169 (mx_getf 5 2 172)) (mx_leaf 172 (mx_iret)))))))))
set_option maxRecDepth 100000 in
noncomputable def tb_102 : Nat → mx_O := (mx_node 30 (mx_node 15 (mx_node 8 (mx_node 2 (mx_node 1 (mx_leaf 0 (mx_aload 0 1)) (mx_leaf 1 (mx_iload 1 2))) (mx_node 5 (mx_leaf 2 (mx_callv 144 2 11 5)) (mx_leaf 5 (mx_if_eq 11 8)))) (mx_node 11 (mx_node 10 (mx_leaf 8 (mx_const (.int (-2)) 10)) (mx_leaf 10 (mx_iret))) (mx_node 12 (mx_leaf 11 (mx_aload 0 12)) (mx_leaf 12 (mx_getf 11 10 15))))) (mx_node 23 (mx_node 17 (mx_node 16 (mx_leaf 15 (mx_iload 1 16)) (mx_leaf 16 (mx_aald 17))) (mx_node 20 (mx_leaf 17 (mx_getf 10 3 20)) (mx_leaf 20 (mx_if_eq 26 23)))) (mx_node 26 (mx_node 25 (mx_leaf 23 (mx_const (.int (-6)) 25)) (mx_leaf 25 (mx_iret))) (mx_node 27 (mx_leaf 26 (mx_aload 0 27)) (mx_leaf 27 (mx_getf 11 13 30)))))) (mx_node 44 (mx_node 38 (mx_node 34 (mx_node 31 (mx_leaf 30 (mx_aload 0 31)) (mx_leaf 31 (mx_getf 11 12 34))) (mx_node 37 (mx_leaf 34 (mx_callv 33 2 5 37)) (mx_leaf 37 (mx_aload 0 38)))) (mx_node 42 (mx_node 39 (mx_leaf 38 (mx_aload 0 39)) (mx_leaf 39 (mx_getf 11 10 42))) (mx_node 43 (mx_leaf 42 (mx_iload 1 43)) (mx_leaf 43 (mx_aald 44))))) (mx_node 52 (mx_node 48 (mx_node 47 (mx_leaf 44 (mx_callv 138 2 11 47)) (mx_leaf 47 (mx_istore 2 48))) (mx_node 49 (mx_leaf 48 (mx_iload 2 49)) (mx_leaf 49 (mx_if_le 56 52)))) (mx_node 56 (mx_node 53 (mx_leaf 52 (mx_aload 0 53)) (mx_leaf 53 (mx_callv 137 1 11 56))) (mx_node 57 (mx_leaf 56 (mx_iload 2 57)) (mx_leaf 57 (mx_iret)))))))
set_option maxRecDepth 100000 in
noncomputable def tb_103 : Nat → mx_O := (mx_node 38 (mx_node 18 (mx_node 8 (mx_node 2 (mx_node 1 (mx_leaf 0 (mx_iload 2 1)) (mx_leaf 1 (mx_const (.int 1) 2))) (mx_node 5 (mx_leaf 2 (mx_icmp_lt 11 5)) (mx_node 6 (mx_leaf 5 (mx_iload 2 6)) (mx_leaf 6 (mx_const (.int 40) 8))))) (mx_node 13 (mx_node 11 (mx_leaf 8 (mx_icmp_le 14 11)) (mx_leaf 11 (mx_const (.int (-3)) 13))) (mx_node 14 (mx_leaf 13 (mx_iret)) (mx_node 15 (mx_leaf 14 (mx_aload 0 15)) (mx_leaf 15 (mx_getf 11 13 18)))))) (mx_node 29 (mx_node 22 (mx_node 19 (mx_leaf 18 (mx_aload 0 19)) (mx_leaf 19 (mx_getf 11 12 22))) (mx_node 25 (mx_leaf 22 (mx_callv 33 2 5 25)) (mx_node 28 (mx_leaf 25 (mx_new 1 1 [.int 0] 28)) (mx_leaf 28 (mx_dup 29))))) (mx_node 34 (mx_node 30 (mx_leaf 29 (mx_iload 1 30)) (mx_node 33 (mx_leaf 30 (mx_calli 11 2 33)) (mx_leaf 33 (mx_astore 3 34)))) (mx_node 35 (mx_leaf 34 (mx_const (.int 0) 35)) (mx_node 37 (mx_leaf 35 (mx_istore 4 37)) (mx_leaf 37 (mx_const (.int 0) 38))))))) (mx_node 56 (mx_node 47 (mx_node 42 (mx_node 40 (mx_leaf 38 (mx_istore 5 40)) (mx_leaf 40 (mx_iload 5 42))) (mx_node 43 (mx_leaf 42 (mx_iload 2 43)) (mx_node 46 (mx_leaf 43 (mx_icmp_ge 71 46)) (mx_leaf 46 (mx_aload 0 47))))) (mx_node 51 (mx_node 48 (mx_leaf 47 (mx_aload 0 48)) (mx_leaf 48 (mx_getf 11 13 51))) (mx_node 52 (mx_leaf 51 (mx_aload 3 52)) (mx_node 55 (mx_leaf 52 (mx_callv 13 1 1 55)) (mx_leaf 55 (mx_i2l 56)))))) (mx_node 71 (mx_node 62 (mx_node 59 (mx_leaf 56 (mx_callv 139 3 11 59)) (mx_leaf 59 (mx_if_ne 65 62))) (mx_node 65 (mx_leaf 62 (mx_iinc 4 1 65)) (mx_node 68 (mx_leaf 65 (mx_iinc 5 1 68)) (mx_leaf 68 (mx_goto 40))))) (mx_node 77 (mx_node 73 (mx_leaf 71 (mx_iload 4 73)) (mx_node 76 (mx_leaf 73 (mx_if_le 80 76)) (mx_leaf 76 (mx_aload 0 77)))) (mx_node 80 (mx_leaf 77 (mx_callv 137 1 11 80)) (mx_node 82 (mx_leaf 80 (mx_iload 4 82)) (mx_leaf 82 (mx_iret))))))))
set_option maxRecDepth 100000 in
noncomputable def tb_104 : Nat → mx_O := (mx_node 17 (mx_node 7 (mx_node 2 (mx_node 1 (mx_leaf 0 (mx_lload 1 1)) (mx_leaf 1 (mx_const (.long 0) 2))) (mx_node 3 (mx_leaf 2 (mx_lif_lt 14 6)) (mx_node 6 (mx_leaf 3 (mx_if_lt 14 6)) (mx_leaf 6 (mx_lload 1 7))))) (mx_node 11 (mx_node 10 (mx_leaf 7 (mx_const (.long 1000000000000000) 10)) (mx_leaf 10 (mx_lif_le 17 14))) (mx_node 14 (mx_leaf 11 (mx_if_le 17 14)) (mx_node 16 (mx_leaf 14 (mx_const (.int (-3)) 16)) (mx_leaf 16 (mx_iret)))))) (mx_node 28 (mx_node 21 (mx_node 18 (mx_leaf 17 (mx_aload 0 18)) (mx_leaf 18 (mx_getf 11 7 21))) (mx_node 22 (mx_leaf 21 (mx_aload 0 22)) (mx_node 25 (mx_leaf 22 (mx_getf 11 12 25)) (mx_leaf 25 (mx_getf 5 2 28))))) (mx_node 35 (mx_node 31 (mx_leaf 28 (mx_callv 15 2 2 31)) (mx_node 32 (mx_leaf 31 (mx_aload 0 32)) (mx_leaf 32 (mx_getf 11 7 35)))) (mx_node 36 (mx_leaf 35 (mx_lload 1 36)) (mx_node 39 (mx_leaf 36 (mx_callv 16 2 2 39)) (mx_leaf 39 (mx_iret)))))))
set_option maxRecDepth 100000 in
noncomputable def tb_105 : Nat → mx_O := (mx_node 20 (mx_node 9 (mx_node 4 (mx_node 1 (mx_leaf 0 (mx_iload 1 1)) (mx_leaf 1 (mx_if_lt 9 4))) (mx_node 5 (mx_leaf 4 (mx_iload 1 5)) (mx_node 6 (mx_leaf 5 (mx_const (.int 1) 6)) (mx_leaf 6 (mx_icmp_le 12 9))))) (mx_node 13 (mx_node 11 (mx_leaf 9 (mx_const (.int (-2)) 11)) (mx_node 12 (mx_leaf 11 (mx_iret)) (mx_leaf 12 (mx_aload 0 13)))) (mx_node 16 (mx_leaf 13 (mx_getf 11 7 16)) (mx_node 17 (mx_leaf 16 (mx_aload 0 17)) (mx_leaf 17 (mx_getf 11 12 20)))))) (mx_node 34 (mx_node 27 (mx_node 23 (mx_leaf 20 (mx_getf 5 2 23)) (mx_node 26 (mx_leaf 23 (mx_callv 15 2 2 26)) (mx_leaf 26 (mx_iload 1 27)))) (mx_node 30 (mx_leaf 27 (mx_if_ne 40 30)) (mx_node 31 (mx_leaf 30 (mx_aload 0 31)) (mx_leaf 31 (mx_getf 11 7 34))))) (mx_node 41 (mx_node 37 (mx_leaf 34 (mx_getf 2 6 37)) (mx_node 40 (mx_leaf 37 (mx_goto 47)) (mx_leaf 40 (mx_aload 0 41)))) (mx_node 44 (mx_leaf 41 (mx_getf 11 7 44)) (mx_node 47 (mx_leaf 44 (mx_getf 2 7 47)) (mx_leaf 47 (mx_iret)))))))
set_option maxRecDepth 100000 in
noncomputable def tb_106 : Nat → mx_O := (mx_node 68 (mx_node 17 (mx_node 9 (mx_node 4 (mx_node 1 (mx_leaf 0 (mx_iload 1 1)) (mx_leaf 1 (mx_if_lt 9 4))) (mx_node 5 (mx_leaf 4 (mx_iload 1 5)) (mx_node 6 (mx_leaf 5 (mx_const (.int 5) 6)) (mx_leaf 6 (mx_icmp_le 12 9))))) (mx_node 12 (mx_node 11 (mx_leaf 9 (mx_const (.int (-2)) 11)) (mx_leaf 11 (mx_iret))) (mx_node 13 (mx_leaf 12 (mx_iload 1 13)) (mx_node 16 (mx_leaf 13 (mx_if_ne 24 16)) (mx_leaf 16 (mx_aload 0 17)))))) (mx_node 28 (mx_node 23 (mx_node 20 (mx_leaf 17 (mx_getf 11 5 20)) (mx_leaf 20 (mx_getf 0 5 23))) (mx_node 24 (mx_leaf 23 (mx_iret)) (mx_node 25 (mx_leaf 24 (mx_aload 0 25)) (mx_leaf 25 (mx_getf 11 7 28))))) (mx_node 32 (mx_node 31 (mx_leaf 28 (mx_callv 18 1 2 31)) (mx_leaf 31 (mx_iload 1 32))) (mx_node 64 (mx_leaf 32 (mx_tsw 1 4 [64, 72, 80, 88] 96)) (mx_node 65 (mx_leaf 64 (mx_aload 0 65)) (mx_leaf 65 (mx_getf 11 7 68))))))) (mx_node 88 (mx_node 79 (mx_node 72 (mx_node 71 (mx_leaf 68 (mx_getf 2 8 71)) (mx_leaf 71 (mx_iret))) (mx_node 73 (mx_leaf 72 (mx_aload 0 73)) (mx_node 76 (mx_leaf 73 (mx_getf 11 7 76)) (mx_leaf 76 (mx_getf 2 9 79))))) (mx_node 81 (mx_node 80 (mx_leaf 79 (mx_iret)) (mx_leaf 80 (mx_aload 0 81))) (mx_node 84 (mx_leaf 81 (mx_getf 11 7 84)) (mx_node 87 (mx_leaf 84 (mx_getf 2 10 87)) (mx_leaf 87 (mx_iret)))))) (mx_node 97 (mx_node 92 (mx_node 89 (mx_leaf 88 (mx_aload 0 89)) (mx_leaf 89 (mx_getf 11 7 92))) (mx_node 95 (mx_leaf 92 (mx_getf 2 11 95)) (mx_node 96 (mx_leaf 95 (mx_iret)) (mx_leaf 96 (mx_aload 0 97))))) (mx_node 104 (mx_node 100 (mx_leaf 97 (mx_getf 11 7 100)) (mx_node 101 (mx_leaf 100 (mx_aload 0 101)) (mx_leaf 101 (mx_getf 11 12 104)))) (mx_node 107 (mx_leaf 104 (mx_getf 5 2 107)) (mx_node 110 (mx_leaf 107 (mx_callv 21 2 2 110)) (mx_leaf 110 (mx_iret))))))))
set_option maxRecDepth 100000 in
noncomputable def tb_107 : Nat → mx_O := (mx_node 13 (mx_node 5 (mx_node 1 (mx_leaf 0 (mx_iload 1 1)) (mx_node 4 (mx_leaf 1 (mx_if_lt 10 4)) (mx_leaf 4 (mx_iload 1 5)))) (mx_node 10 (mx_node 7 (mx_leaf 5 (mx_const (.int 9) 7)) (mx_leaf 7 (mx_icmp_le 13 10))) (mx_node 12 (mx_leaf 10 (mx_const (.int (-3)) 12)) (mx_leaf 12 (mx_iret))))) (mx_node 21 (mx_node 17 (mx_node 14 (mx_leaf 13 (mx_aload 0 14)) (mx_leaf 14 (mx_getf 11 7 17))) (mx_node 18 (mx_leaf 17 (mx_aload 0 18)) (mx_leaf 18 (mx_getf 11 12 21)))) (mx_node 25 (mx_node 24 (mx_leaf 21 (mx_getf 5 2 24)) (mx_leaf 24 (mx_iload 1 25))) (mx_node 28 (mx_leaf 25 (mx_callv 17 3 2 28)) (mx_leaf 28 (mx_iret))))))
set_option maxRecDepth 100000 in
noncomputable def tb_108 : Nat → mx_O := (mx_node 14 (mx_node 6 (mx_node 2 (mx_node 1 (mx_leaf 0 (mx_aload 0 1)) (mx_leaf 1 (mx_iload 1 2))) (mx_node 5 (mx_leaf 2 (mx_callv 145 2 11 5)) (mx_leaf 5 (mx_istore 2 6)))) (mx_node 10 (mx_node 7 (mx_leaf 6 (mx_iload 2 7)) (mx_leaf 7 (mx_if_ge 14 10))) (mx_node 11 (mx_leaf 10 (mx_iload 2 11)) (mx_leaf 11 (mx_goto 29))))) (mx_node 22 (mx_node 18 (mx_node 15 (mx_leaf 14 (mx_aload 0 15)) (mx_leaf 15 (mx_getf 11 8 18))) (mx_node 19 (mx_leaf 18 (mx_aload 0 19)) (mx_leaf 19 (mx_getf 11 12 22)))) (mx_node 26 (mx_node 25 (mx_leaf 22 (mx_getf 5 2 25)) (mx_leaf 25 (mx_iload 2 26))) (mx_node 29 (mx_leaf 26 (mx_callv 61 3 8 29)) (mx_leaf 29 (mx_iret))))))
set_option maxRecDepth 100000 in
noncomputable def tb_109 : Nat → mx_O := (mx_node 30 (mx_node 12 (mx_node 6 (mx_node 2 (mx_node 1 (mx_leaf 0 (mx_aload 0 1)) (mx_leaf 1 (mx_iload 1 2))) (mx_node 5 (mx_leaf 2 (mx_callv 145 2 11 5)) (mx_leaf 5 (mx_istore 3 6)))) (mx_node 10 (mx_node 7 (mx_leaf 6 (mx_iload 3 7)) (mx_leaf 7 (mx_if_ge 12 10))) (mx_node 11 (mx_leaf 10 (mx_iload 3 11)) (mx_leaf 11 (mx_iret))))) (mx_node 19 (mx_node 16 (mx_node 13 (mx_leaf 12 (mx_iload 2 13)) (mx_leaf 13 (mx_if_ge 19 16))) (mx_node 18 (mx_leaf 16 (mx_const (.int (-3)) 18)) (mx_leaf 18 (mx_iret)))) (mx_node 23 (mx_node 20 (mx_leaf 19 (mx_aload 0 20)) (mx_leaf 20 (mx_getf 11 8 23))) (mx_node 24 (mx_leaf 23 (mx_aload 0 24)) (mx_node 27 (mx_leaf 24 (mx_getf 11 12 27)) (mx_leaf 27 (mx_getf 5 2 30))))))) (mx_node 47 (mx_node 37 (mx_node 34 (mx_node 31 (mx_leaf 30 (mx_iload 3 31)) (mx_leaf 31 (mx_callv 61 3 8 34))) (mx_node 36 (mx_leaf 34 (mx_istore 4 36)) (mx_leaf 36 (mx_iload 2 37)))) (mx_node 42 (mx_node 39 (mx_leaf 37 (mx_iload 4 39)) (mx_leaf 39 (mx_icmp_ge 59 42))) (mx_node 43 (mx_leaf 42 (mx_aload 0 43)) (mx_node 46 (mx_leaf 43 (mx_getf 11 8 46)) (mx_leaf 46 (mx_iload 3 47)))))) (mx_node 52 (mx_node 50 (mx_node 49 (mx_leaf 47 (mx_iload 4 49)) (mx_leaf 49 (mx_const (.int 1) 50))) (mx_node 51 (mx_leaf 50 (mx_isub 51)) (mx_leaf 51 (mx_iload 2 52)))) (mx_node 56 (mx_node 53 (mx_leaf 52 (mx_isub 53)) (mx_leaf 53 (mx_callv 63 3 8 56))) (mx_node 59 (mx_leaf 56 (mx_goto 60)) (mx_node 60 (mx_leaf 59 (mx_const (.int (-1)) 60)) (mx_leaf 60 (mx_iret))))))))
set_option maxRecDepth 100000 in
noncomputable def tb_110 : Nat → mx_O := (mx_node 39 (mx_node 16 (mx_node 6 (mx_node 2 (mx_node 1 (mx_leaf 0 (mx_iload 1 1)) (mx_leaf 1 (mx_const (.int 1) 2))) (mx_node 5 (mx_leaf 2 (mx_icmp_lt 21 5)) (mx_leaf 5 (mx_iload 1 6)))) (mx_node 11 (mx_node 8 (mx_leaf 6 (mx_const (.int 18) 8)) (mx_leaf 8 (mx_icmp_gt 21 11))) (mx_node 12 (mx_leaf 11 (mx_iload 2 12)) (mx_node 15 (mx_leaf 12 (mx_if_lt 21 15)) (mx_leaf 15 (mx_iload 2 16)))))) (mx_node 26 (mx_node 21 (mx_node 18 (mx_leaf 16 (mx_const (.int 9) 18)) (mx_leaf 18 (mx_icmp_le 25 21))) (mx_node 24 (mx_leaf 21 (mx_const (.long (-3)) 24)) (mx_node 25 (mx_leaf 24 (mx_lret)) (mx_leaf 25 (mx_aload 0 26))))) (mx_node 30 (mx_node 29 (mx_leaf 26 (mx_getf 11 9 29)) (mx_leaf 29 (mx_aload 0 30))) (mx_node 33 (mx_leaf 30 (mx_getf 11 12 33)) (mx_node 36 (mx_leaf 33 (mx_getf 5 2 36)) (mx_leaf 36 (mx_callv 71 2 9 39))))))) (mx_node 52 (mx_node 43 (mx_node 41 (mx_node 40 (mx_leaf 39 (mx_const (.int 0) 40)) (mx_leaf 40 (mx_istore 3 41))) (mx_node 42 (mx_leaf 41 (mx_iload 3 42)) (mx_leaf 42 (mx_iload 2 43)))) (mx_node 47 (mx_node 46 (mx_leaf 43 (mx_icmp_ge 61 46)) (mx_leaf 46 (mx_aload 0 47))) (mx_node 50 (mx_leaf 47 (mx_getf 11 9 50)) (mx_node 51 (mx_leaf 50 (mx_iload 3 51)) (mx_leaf 51 (mx_const (.int (-1)) 52)))))) (mx_node 65 (mx_node 58 (mx_node 55 (mx_leaf 52 (mx_callv 73 3 9 55)) (mx_leaf 55 (mx_iinc 3 1 58))) (mx_node 61 (mx_leaf 58 (mx_goto 41)) (mx_node 62 (mx_leaf 61 (mx_aload 0 62)) (mx_leaf 62 (mx_getf 11 9 65))))) (mx_node 67 (mx_node 66 (mx_leaf 65 (mx_iload 2 66)) (mx_leaf 66 (mx_iload 1 67))) (mx_node 68 (mx_leaf 67 (mx_iload 1 68)) (mx_node 71 (mx_leaf 68 (mx_callv 75 4 9 71)) (mx_leaf 71 (mx_lret))))))))
set_option maxRecDepth 100000 in
noncomputable def tb_111 : Nat → mx_O := (mx_node 14 (mx_node 6 (mx_node 2 (mx_node 1 (mx_leaf 0 (mx_iload 1 1)) (mx_leaf 1 (mx_const (.int 1) 2))) (mx_node 5 (mx_leaf 2 (mx_icmp_lt 11 5)) (mx_leaf 5 (mx_iload 1 6)))) (mx_node 11 (mx_node 8 (mx_leaf 6 (mx_const (.int 18) 8)) (mx_leaf 8 (mx_icmp_le 14 11))) (mx_node 13 (mx_leaf 11 (mx_const (.int (-3)) 13)) (mx_leaf 13 (mx_iret))))) (mx_node 22 (mx_node 18 (mx_node 15 (mx_leaf 14 (mx_aload 0 15)) (mx_leaf 15 (mx_getf 11 8 18))) (mx_node 19 (mx_leaf 18 (mx_aload 0 19)) (mx_leaf 19 (mx_getf 11 12 22)))) (mx_node 26 (mx_node 25 (mx_leaf 22 (mx_getf 5 2 25)) (mx_leaf 25 (mx_iload 1 26))) (mx_node 29 (mx_leaf 26 (mx_callv 64 3 8 29)) (mx_leaf 29 (mx_iret))))))
set_option maxRecDepth 100000 in
noncomputable def tb_112 : Nat → mx_O := (mx_node 12 (mx_node 5 (mx_node 1 (mx_leaf 0 (mx_aload 0 1)) (mx_node 4 (mx_leaf 1 (mx_getf 11 8 4)) (mx_leaf 4 (mx_aload 0 5)))) (mx_node 8 (mx_leaf 5 (mx_getf 11 12 8)) (mx_node 11 (mx_leaf 8 (mx_getf 5 2 11)) (mx_leaf 11 (mx_const (.int (-1)) 12))))) (mx_node 17 (mx_node 15 (mx_leaf 12 (mx_callv 61 3 8 15)) (mx_node 16 (mx_leaf 15 (mx_pop 16)) (mx_leaf 16 (mx_aload 0 17)))) (mx_node 20 (mx_leaf 17 (mx_getf 11 8 20)) (mx_node 23 (mx_leaf 20 (mx_getf 8 8 23)) (mx_leaf 23 (mx_iret))))))
set_option maxRecDepth 100000 in
noncomputable def tb_113 : Nat → mx_O := (mx_node 2 (mx_node 1 (mx_leaf 0 (mx_aload 0 1)) (mx_leaf 1 (mx_iload 1 2))) (mx_node 5 (mx_leaf 2 (mx_callv 145 2 11 5)) (mx_leaf 5 (mx_iret))))
set_option maxRecDepth 100000 in
noncomputable def tb_114 : Nat → mx_O := (mx_node 33 (mx_node 17 (mx_node 8 (mx_node 2 (mx_node 1 (mx_leaf 0 (mx_iload 1 1)) (mx_leaf 1 (mx_const (.int 1) 2))) (mx_node 5 (mx_leaf 2 (mx_icmp_lt 22 5)) (mx_node 6 (mx_leaf 5 (mx_iload 1 6)) (mx_leaf 6 (mx_const (.int 18) 8))))) (mx_node 12 (mx_node 11 (mx_leaf 8 (mx_icmp_gt 22 11)) (mx_leaf 11 (mx_iload 2 12))) (mx_node 13 (mx_leaf 12 (mx_const (.int 1) 13)) (mx_node 16 (mx_leaf 13 (mx_icmp_lt 22 16)) (mx_leaf 16 (mx_iload 2 17)))))) (mx_node 26 (mx_node 22 (mx_node 19 (mx_leaf 17 (mx_const (.int 18) 19)) (mx_leaf 19 (mx_icmp_le 25 22))) (mx_node 24 (mx_leaf 22 (mx_const (.int (-3)) 24)) (mx_node 25 (mx_leaf 24 (mx_iret)) (mx_leaf 25 (mx_const (.int 0) 26))))) (mx_node 28 (mx_node 27 (mx_leaf 26 (mx_istore 3 27)) (mx_leaf 27 (mx_const (.int 0) 28))) (mx_node 30 (mx_leaf 28 (mx_istore 4 30)) (mx_node 32 (mx_leaf 30 (mx_iload 4 32)) (mx_leaf 32 (mx_aload 0 33))))))) (mx_node 56 (mx_node 46 (mx_node 39 (mx_node 36 (mx_leaf 33 (mx_getf 11 5 36)) (mx_leaf 36 (mx_getf 0 5 39))) (mx_node 42 (mx_leaf 39 (mx_icmp_ge 78 42)) (mx_node 43 (mx_leaf 42 (mx_aload 0 43)) (mx_leaf 43 (mx_getf 11 5 46))))) (mx_node 51 (mx_node 48 (mx_leaf 46 (mx_iload 4 48)) (mx_leaf 48 (mx_callv 5 2 0 51))) (mx_node 52 (mx_leaf 51 (mx_iload 1 52)) (mx_node 55 (mx_leaf 52 (mx_icmp_gt 72 55)) (mx_leaf 55 (mx_aload 0 56)))))) (mx_node 66 (mx_node 61 (mx_node 59 (mx_leaf 56 (mx_getf 11 5 59)) (mx_leaf 59 (mx_iload 4 61))) (mx_node 62 (mx_leaf 61 (mx_const (.int 0) 62)) (mx_node 65 (mx_leaf 62 (mx_callv 6 3 0 65)) (mx_leaf 65 (mx_iload 2 66))))) (mx_node 75 (mx_node 69 (mx_leaf 66 (mx_icmp_gt 72 69)) (mx_node 72 (mx_leaf 69 (mx_iinc 3 1 72)) (mx_leaf 72 (mx_iinc 4 1 75)))) (mx_node 78 (mx_leaf 75 (mx_goto 30)) (mx_node 79 (mx_leaf 78 (mx_iload 3 79)) (mx_leaf 79 (mx_iret))))))))
set_option maxRecDepth 100000 in
noncomputable def tb_115 : Nat → mx_O := (mx_node 52 (mx_node 26 (mx_node 13 (mx_node 5 (mx_node 1 (mx_leaf 0 (mx_aload 0 1)) (mx_node 4 (mx_leaf 1 (mx_getf 11 15 4)) (mx_leaf 4 (mx_const (.int 0) 5)))) (mx_node 9 (mx_node 8 (mx_leaf 5 (mx_calls 284 2 8)) (mx_leaf 8 (mx_aload 0 9))) (mx_node 12 (mx_leaf 9 (mx_getf 11 5 12)) (mx_leaf 12 (mx_aload 0 13))))) (mx_node 22 (mx_node 16 (mx_leaf 13 (mx_getf 11 12 16)) (mx_node 19 (mx_leaf 16 (mx_getf 5 2 19)) (mx_leaf 19 (mx_callv 5 2 0 22)))) (mx_node 24 (mx_node 23 (mx_leaf 22 (mx_istore 1 23)) (mx_leaf 23 (mx_const (.int 1) 24))) (mx_node 25 (mx_leaf 24 (mx_istore 2 25)) (mx_leaf 25 (mx_iload 2 26)))))) (mx_node 41 (mx_node 31 (mx_node 27 (mx_leaf 26 (mx_aload 0 27)) (mx_node 30 (mx_leaf 27 (mx_getf 11 5 30)) (mx_leaf 30 (mx_aload 0 31)))) (mx_node 37 (mx_node 34 (mx_leaf 31 (mx_getf 11 12 34)) (mx_leaf 34 (mx_getf 5 2 37))) (mx_node 38 (mx_leaf 37 (mx_const (.int 0) 38)) (mx_leaf 38 (mx_callv 6 3 0 41))))) (mx_node 46 (mx_node 44 (mx_leaf 41 (mx_icmp_gt 100 44)) (mx_node 45 (mx_leaf 44 (mx_const (.int 0) 45)) (mx_leaf 45 (mx_istore 3 46)))) (mx_node 49 (mx_node 47 (mx_leaf 46 (mx_const (.int 0) 47)) (mx_leaf 47 (mx_istore 4 49))) (mx_node 51 (mx_leaf 49 (mx_iload 4 51)) (mx_leaf 51 (mx_iload 1 52))))))) (mx_node 85 (mx_node 68 (mx_node 59 (mx_node 55 (mx_leaf 52 (mx_icmp_ge 84 55)) (mx_node 56 (mx_leaf 55 (mx_aload 0 56)) (mx_leaf 56 (mx_getf 11 5 59)))) (mx_node 63 (mx_node 60 (mx_leaf 59 (mx_aload 0 60)) (mx_leaf 60 (mx_getf 11 12 63))) (mx_node 66 (mx_leaf 63 (mx_getf 5 2 66)) (mx_leaf 66 (mx_iload 4 68))))) (mx_node 75 (mx_node 71 (mx_leaf 68 (mx_callv 6 3 0 71)) (mx_node 72 (mx_leaf 71 (mx_iload 2 72)) (mx_leaf 72 (mx_icmp_lt 78 75)))) (mx_node 81 (mx_node 78 (mx_leaf 75 (mx_iinc 3 1 78)) (mx_leaf 78 (mx_iinc 4 1 81))) (mx_node 84 (mx_leaf 81 (mx_goto 49)) (mx_leaf 84 (mx_aload 0 85)))))) (mx_node 94 (mx_node 90 (mx_node 88 (mx_leaf 85 (mx_getf 11 15 88)) (mx_node 89 (mx_leaf 88 (mx_iload 3 89)) (mx_leaf 89 (mx_dup2 90)))) (mx_node 92 (mx_node 91 (mx_leaf 90 (mx_iald 91)) (mx_leaf 91 (mx_const (.int 1) 92))) (mx_node 93 (mx_leaf 92 (mx_iadd 93)) (mx_leaf 93 (mx_iast 1 94))))) (mx_node 104 (mx_node 100 (mx_node 97 (mx_leaf 94 (mx_iinc 2 1 97)) (mx_leaf 97 (mx_goto 25))) (mx_node 101 (mx_leaf 100 (mx_aload 0 101)) (mx_leaf 101 (mx_getf 11 5 104)))) (mx_node 108 (mx_node 105 (mx_leaf 104 (mx_aload 0 105)) (mx_leaf 105 (mx_getf 11 15 108))) (mx_node 111 (mx_leaf 108 (mx_callv 9 2 0 111)) (mx_leaf 111 (mx_iret))))))))
set_option maxRecDepth 100000 in
noncomputable def tb_116 : Nat → mx_O := (mx_node 16 (mx_node 7 (mx_node 2 (mx_node 1 (mx_leaf 0 (mx_aload 0 1)) (mx_leaf 1 (mx_iload 1 2))) (mx_node 5 (mx_leaf 2 (mx_callv 145 2 11 5)) (mx_node 6 (mx_leaf 5 (mx_istore 2 6)) (mx_leaf 6 (mx_iload 2 7))))) (mx_node 11 (mx_node 10 (mx_leaf 7 (mx_if_ge 12 10)) (mx_leaf 10 (mx_iload 2 11))) (mx_node 12 (mx_leaf 11 (mx_iret)) (mx_node 13 (mx_leaf 12 (mx_aload 0 13)) (mx_leaf 13 (mx_getf 11 5 16)))))) (mx_node 27 (mx_node 20 (mx_node 17 (mx_leaf 16 (mx_aload 0 17)) (mx_leaf 17 (mx_getf 11 12 20))) (mx_node 23 (mx_leaf 20 (mx_getf 5 2 23)) (mx_node 24 (mx_leaf 23 (mx_iload 2 24)) (mx_leaf 24 (mx_callv 10 3 0 27))))) (mx_node 31 (mx_node 30 (mx_leaf 27 (mx_if_eq 34 30)) (mx_leaf 30 (mx_const (.int 1) 31))) (mx_node 34 (mx_leaf 31 (mx_goto 35)) (mx_node 35 (mx_leaf 34 (mx_const (.int 0) 35)) (mx_leaf 35 (mx_iret)))))))
set_option maxRecDepth 100000 in
noncomputable def tb_117 : Nat → mx_O := (mx_node 19 (mx_node 5 (mx_node 2 (mx_node 1 (mx_leaf 0 (mx_const (.int 0) 1)) (mx_leaf 1 (mx_istore 1 2))) (mx_node 3 (mx_leaf 2 (mx_const (.int 0) 3)) (mx_node 4 (mx_leaf 3 (mx_istore 2 4)) (mx_leaf 4 (mx_iload 2 5))))) (mx_node 12 (mx_node 6 (mx_leaf 5 (mx_aload 0 6)) (mx_node 9 (mx_leaf 6 (mx_getf 11 5 9)) (mx_leaf 9 (mx_getf 0 5 12)))) (mx_node 15 (mx_leaf 12 (mx_icmp_ge 42 15)) (mx_node 16 (mx_leaf 15 (mx_aload 0 16)) (mx_leaf 16 (mx_getf 11 5 19)))))) (mx_node 30 (mx_node 21 (mx_node 20 (mx_leaf 19 (mx_iload 2 20)) (mx_leaf 20 (mx_aload 0 21))) (mx_node 24 (mx_leaf 21 (mx_getf 11 12 24)) (mx_node 27 (mx_leaf 24 (mx_getf 5 2 27)) (mx_leaf 27 (mx_callv 10 3 0 30))))) (mx_node 39 (mx_node 33 (mx_leaf 30 (mx_if_eq 36 33)) (mx_node 36 (mx_leaf 33 (mx_iinc 1 1 36)) (mx_leaf 36 (mx_iinc 2 1 39)))) (mx_node 42 (mx_leaf 39 (mx_goto 4)) (mx_node 43 (mx_leaf 42 (mx_iload 1 43)) (mx_leaf 43 (mx_iret)))))))
set_option maxRecDepth 100000 in
noncomputable def tb_118 : Nat → mx_O := (mx_node 20 (mx_node 9 (mx_node 3 (mx_node 1 (mx_leaf 0 (mx_aload 0 1)) (mx_node 2 (mx_leaf 1 (mx_iload 1 2)) (mx_leaf 2 (mx_const (.int (-1)) 3)))) (mx_node 7 (mx_node 4 (mx_leaf 3 (mx_const (.int 0) 4)) (mx_leaf 4 (mx_callv 146 4 11 7))) (mx_node 8 (mx_leaf 7 (mx_istore 2 8)) (mx_leaf 8 (mx_iload 2 9))))) (mx_node 14 (mx_node 12 (mx_leaf 9 (mx_if_ge 15 12)) (mx_node 13 (mx_leaf 12 (mx_iload 2 13)) (mx_leaf 13 (mx_i2l 14)))) (mx_node 16 (mx_node 15 (mx_leaf 14 (mx_lret)) (mx_leaf 15 (mx_aload 0 16))) (mx_node 17 (mx_leaf 16 (mx_aload 0 17)) (mx_leaf 17 (mx_getf 11 10 20)))))) (mx_node 33 (mx_node 25 (mx_node 21 (mx_leaf 20 (mx_iload 1 21)) (mx_node 22 (mx_leaf 21 (mx_aald 22)) (mx_leaf 22 (mx_callv 147 2 11 25)))) (mx_node 29 (mx_node 26 (mx_leaf 25 (mx_aload 0 26)) (mx_leaf 26 (mx_getf 11 9 29))) (mx_node 30 (mx_leaf 29 (mx_aload 0 30)) (mx_leaf 30 (mx_getf 11 10 33))))) (mx_node 38 (mx_node 34 (mx_leaf 33 (mx_iload 1 34)) (mx_node 35 (mx_leaf 34 (mx_aald 35)) (mx_leaf 35 (mx_getf 10 2 38)))) (mx_node 41 (mx_node 39 (mx_leaf 38 (mx_const (.int 1) 39)) (mx_leaf 39 (mx_const (.int 18) 41))) (mx_node 44 (mx_leaf 41 (mx_callv 75 4 9 44)) (mx_leaf 44 (mx_lret)))))))
set_option maxRecDepth 100000 in
noncomputable def tb_119 : Nat → mx_O := (mx_node 30 (mx_node 14 (mx_node 7 (mx_node 2 (mx_node 1 (mx_leaf 0 (mx_aload 0 1)) (mx_leaf 1 (mx_iload 1 2))) (mx_node 3 (mx_leaf 2 (mx_const (.int (-1)) 3)) (mx_node 4 (mx_leaf 3 (mx_iload 2 4)) (mx_leaf 4 (mx_callv 146 4 11 7))))) (mx_node 9 (mx_node 8 (mx_leaf 7 (mx_istore 3 8)) (mx_leaf 8 (mx_iload 3 9))) (mx_node 12 (mx_leaf 9 (mx_if_ge 14 12)) (mx_node 13 (mx_leaf 12 (mx_iload 3 13)) (mx_leaf 13 (mx_iret)))))) (mx_node 21 (mx_node 16 (mx_node 15 (mx_leaf 14 (mx_iload 2 15)) (mx_leaf 15 (mx_aload 0 16))) (mx_node 19 (mx_leaf 16 (mx_getf 11 10 19)) (mx_node 20 (mx_leaf 19 (mx_iload 1 20)) (mx_leaf 20 (mx_aald 21))))) (mx_node 27 (mx_node 24 (mx_leaf 21 (mx_getf 10 2 24)) (mx_leaf 24 (mx_icmp_lt 29 27))) (mx_node 28 (mx_leaf 27 (mx_const (.int (-1)) 28)) (mx_node 29 (mx_leaf 28 (mx_iret)) (mx_leaf 29 (mx_aload 0 30))))))) (mx_node 48 (mx_node 39 (mx_node 34 (mx_node 31 (mx_leaf 30 (mx_aload 0 31)) (mx_leaf 31 (mx_getf 11 10 34))) (mx_node 35 (mx_leaf 34 (mx_iload 1 35)) (mx_node 36 (mx_leaf 35 (mx_aald 36)) (mx_leaf 36 (mx_callv 147 2 11 39))))) (mx_node 43 (mx_node 40 (mx_leaf 39 (mx_aload 0 40)) (mx_leaf 40 (mx_getf 11 9 43))) (mx_node 44 (mx_leaf 43 (mx_aload 0 44)) (mx_node 47 (mx_leaf 44 (mx_getf 11 10 47)) (mx_leaf 47 (mx_iload 1 48)))))) (mx_node 59 (mx_node 52 (mx_node 49 (mx_leaf 48 (mx_aald 49)) (mx_leaf 49 (mx_getf 10 2 52))) (mx_node 55 (mx_leaf 52 (mx_callv 77 2 9 55)) (mx_node 56 (mx_leaf 55 (mx_aload 0 56)) (mx_leaf 56 (mx_getf 11 9 59))))) (mx_node 66 (mx_node 60 (mx_leaf 59 (mx_aload 0 60)) (mx_node 63 (mx_leaf 60 (mx_getf 11 12 63)) (mx_leaf 63 (mx_getf 5 2 66)))) (mx_node 67 (mx_leaf 66 (mx_iload 2 67)) (mx_node 70 (mx_leaf 67 (mx_callv 80 3 9 70)) (mx_leaf 70 (mx_iret))))))))
set_option maxRecDepth 100000 in
noncomputable def tb_120 : Nat → mx_O := (mx_node 30 (mx_node 13 (mx_node 4 (mx_node 2 (mx_node 1 (mx_leaf 0 (mx_aload 0 1)) (mx_leaf 1 (mx_iload 1 2))) (mx_node 3 (mx_leaf 2 (mx_const (.int (-1)) 3)) (mx_leaf 3 (mx_iload 2 4)))) (mx_node 8 (mx_node 7 (mx_leaf 4 (mx_callv 146 4 11 7)) (mx_leaf 7 (mx_istore 3 8))) (mx_node 9 (mx_leaf 8 (mx_iload 3 9)) (mx_node 12 (mx_leaf 9 (mx_if_ge 14 12)) (mx_leaf 12 (mx_iload 3 13)))))) (mx_node 20 (mx_node 15 (mx_node 14 (mx_leaf 13 (mx_iret)) (mx_leaf 14 (mx_iload 2 15))) (mx_node 16 (mx_leaf 15 (mx_aload 0 16)) (mx_node 19 (mx_leaf 16 (mx_getf 11 10 19)) (mx_leaf 19 (mx_iload 1 20))))) (mx_node 24 (mx_node 21 (mx_leaf 20 (mx_aald 21)) (mx_leaf 21 (mx_getf 10 2 24))) (mx_node 27 (mx_leaf 24 (mx_icmp_lt 30 27)) (mx_node 29 (mx_leaf 27 (mx_const (.int (-7)) 29)) (mx_leaf 29 (mx_iret))))))) (mx_node 45 (mx_node 36 (mx_node 32 (mx_node 31 (mx_leaf 30 (mx_aload 0 31)) (mx_leaf 31 (mx_aload 0 32))) (mx_node 35 (mx_leaf 32 (mx_getf 11 10 35)) (mx_leaf 35 (mx_iload 1 36)))) (mx_node 40 (mx_node 37 (mx_leaf 36 (mx_aald 37)) (mx_leaf 37 (mx_callv 147 2 11 40))) (mx_node 41 (mx_leaf 40 (mx_aload 0 41)) (mx_node 44 (mx_leaf 41 (mx_getf 11 9 44)) (mx_leaf 44 (mx_aload 0 45)))))) (mx_node 56 (mx_node 49 (mx_node 48 (mx_leaf 45 (mx_getf 11 10 48)) (mx_leaf 48 (mx_iload 1 49))) (mx_node 50 (mx_leaf 49 (mx_aald 50)) (mx_node 53 (mx_leaf 50 (mx_getf 10 2 53)) (mx_leaf 53 (mx_callv 77 2 9 56))))) (mx_node 60 (mx_node 57 (mx_leaf 56 (mx_aload 0 57)) (mx_leaf 57 (mx_getf 11 9 60))) (mx_node 61 (mx_leaf 60 (mx_iload 2 61)) (mx_node 64 (mx_leaf 61 (mx_callv 81 2 9 64)) (mx_leaf 64 (mx_iret))))))))
set_option maxRecDepth 100000 in
noncomputable def tb_121 : Nat → mx_O := (mx_node 12 (mx_node 4 (mx_node 2 (mx_node 1 (mx_leaf 0 (mx_aload 0 1)) (mx_leaf 1 (mx_iload 1 2))) (mx_node 3 (mx_leaf 2 (mx_const (.int 1) 3)) (mx_leaf 3 (mx_const (.int 0) 4)))) (mx_node 8 (mx_node 7 (mx_leaf 4 (mx_callv 146 4 11 7)) (mx_leaf 7 (mx_istore 2 8))) (mx_node 9 (mx_leaf 8 (mx_iload 2 9)) (mx_leaf 9 (mx_if_ge 16 12))))) (mx_node 18 (mx_node 16 (mx_node 13 (mx_leaf 12 (mx_iload 2 13)) (mx_leaf 13 (mx_goto 26))) (mx_node 17 (mx_leaf 16 (mx_aload 0 17)) (mx_leaf 17 (mx_aload 0 18)))) (mx_node 22 (mx_node 21 (mx_leaf 18 (mx_getf 11 10 21)) (mx_leaf 21 (mx_iload 1 22))) (mx_node 23 (mx_leaf 22 (mx_aald 23)) (mx_node 26 (mx_leaf 23 (mx_callv 149 2 11 26)) (mx_leaf 26 (mx_iret)))))))
set_option maxRecDepth 100000 in
noncomputable def tb_122 : Nat → mx_O := (mx_node 34 (mx_node 15 (mx_node 7 (mx_node 2 (mx_node 1 (mx_leaf 0 (mx_aload 0 1)) (mx_leaf 1 (mx_iload 1 2))) (mx_node 3 (mx_leaf 2 (mx_const (.int 1) 3)) (mx_node 4 (mx_leaf 3 (mx_const (.int 0) 4)) (mx_leaf 4 (mx_callv 146 4 11 7))))) (mx_node 12 (mx_node 8 (mx_leaf 7 (mx_istore 2 8)) (mx_node 9 (mx_leaf 8 (mx_iload 2 9)) (mx_leaf 9 (mx_if_ge 14 12)))) (mx_node 13 (mx_leaf 12 (mx_iload 2 13)) (mx_node 14 (mx_leaf 13 (mx_iret)) (mx_leaf 14 (mx_aload 0 15)))))) (mx_node 25 (mx_node 20 (mx_node 16 (mx_leaf 15 (mx_aload 0 16)) (mx_node 19 (mx_leaf 16 (mx_getf 11 10 19)) (mx_leaf 19 (mx_iload 1 20)))) (mx_node 21 (mx_leaf 20 (mx_aald 21)) (mx_node 24 (mx_leaf 21 (mx_callv 149 2 11 24)) (mx_leaf 24 (mx_istore 3 25))))) (mx_node 30 (mx_node 26 (mx_leaf 25 (mx_iload 3 26)) (mx_node 29 (mx_leaf 26 (mx_if_ne 31 29)) (mx_leaf 29 (mx_const (.int (-1)) 30)))) (mx_node 31 (mx_leaf 30 (mx_iret)) (mx_node 32 (mx_leaf 31 (mx_const (.int (-1)) 32)) (mx_leaf 32 (mx_istore 4 34))))))) (mx_node 55 (mx_node 43 (mx_node 38 (mx_node 36 (mx_leaf 34 (mx_const (.int 11) 36)) (mx_leaf 36 (mx_istore 5 38))) (mx_node 39 (mx_leaf 38 (mx_const (.int 0) 39)) (mx_node 41 (mx_leaf 39 (mx_istore 6 41)) (mx_leaf 41 (mx_iload 6 43))))) (mx_node 49 (mx_node 45 (mx_leaf 43 (mx_const (.int 18) 45)) (mx_node 48 (mx_leaf 45 (mx_icmp_gt 78 48)) (mx_leaf 48 (mx_aload 0 49)))) (mx_node 50 (mx_leaf 49 (mx_iload 3 50)) (mx_node 52 (mx_leaf 50 (mx_iload 6 52)) (mx_leaf 52 (mx_callv 152 3 11 55)))))) (mx_node 68 (mx_node 61 (mx_node 57 (mx_leaf 55 (mx_istore 7 57)) (mx_node 59 (mx_leaf 57 (mx_iload 7 59)) (mx_leaf 59 (mx_iload 5 61)))) (mx_node 64 (mx_leaf 61 (mx_icmp_ge 72 64)) (mx_node 66 (mx_leaf 64 (mx_iload 7 66)) (mx_leaf 66 (mx_istore 5 68))))) (mx_node 75 (mx_node 70 (mx_leaf 68 (mx_iload 6 70)) (mx_node 72 (mx_leaf 70 (mx_istore 4 72)) (mx_leaf 72 (mx_iinc 6 1 75)))) (mx_node 78 (mx_leaf 75 (mx_goto 41)) (mx_node 80 (mx_leaf 78 (mx_iload 4 80)) (mx_leaf 80 (mx_iret))))))))
set_option maxRecDepth 100000 in
noncomputable def tb_123 : Nat → mx_O := (mx_node 14 (mx_node 6 (mx_node 2 (mx_node 1 (mx_leaf 0 (mx_iload 1 1)) (mx_leaf 1 (mx_const (.int 1) 2))) (mx_node 5 (mx_leaf 2 (mx_icmp_lt 11 5)) (mx_leaf 5 (mx_iload 1 6)))) (mx_node 11 (mx_node 8 (mx_leaf 6 (mx_const (.int 18) 8)) (mx_leaf 8 (mx_icmp_le 14 11))) (mx_node 13 (mx_leaf 11 (mx_const (.int (-3)) 13)) (mx_leaf 13 (mx_iret))))) (mx_node 22 (mx_node 18 (mx_node 15 (mx_leaf 14 (mx_aload 0 15)) (mx_leaf 15 (mx_getf 11 8 18))) (mx_node 19 (mx_leaf 18 (mx_aload 0 19)) (mx_leaf 19 (mx_getf 11 12 22)))) (mx_node 26 (mx_node 25 (mx_leaf 22 (mx_getf 5 2 25)) (mx_leaf 25 (mx_iload 1 26))) (mx_node 29 (mx_leaf 26 (mx_callv 67 3 8 29)) (mx_leaf 29 (mx_iret))))))
set_option maxRecDepth 100000 in
noncomputable def tb_124 : Nat → mx_O := (mx_node 26 (mx_node 13 (mx_node 5 (mx_node 1 (mx_leaf 0 (mx_iload 1 1)) (mx_node 2 (mx_leaf 1 (mx_const (.int 1) 2)) (mx_leaf 2 (mx_icmp_lt 11 5)))) (mx_node 8 (mx_node 6 (mx_leaf 5 (mx_iload 1 6)) (mx_leaf 6 (mx_const (.int 18) 8))) (mx_node 11 (mx_leaf 8 (mx_icmp_le 14 11)) (mx_leaf 11 (mx_const (.int (-3)) 13))))) (mx_node 18 (mx_node 14 (mx_leaf 13 (mx_iret)) (mx_node 15 (mx_leaf 14 (mx_aload 0 15)) (mx_leaf 15 (mx_getf 11 8 18)))) (mx_node 22 (mx_node 19 (mx_leaf 18 (mx_aload 0 19)) (mx_leaf 19 (mx_getf 11 12 22))) (mx_node 25 (mx_leaf 22 (mx_getf 5 2 25)) (mx_leaf 25 (mx_iload 1 26)))))) (mx_node 39 (mx_node 31 (mx_node 29 (mx_leaf 26 (mx_callv 67 3 8 29)) (mx_node 30 (mx_leaf 29 (mx_istore 2 30)) (mx_leaf 30 (mx_iload 2 31)))) (mx_node 35 (mx_node 32 (mx_leaf 31 (mx_const (.int 1) 32)) (mx_leaf 32 (mx_icmp_ge 39 35))) (mx_node 36 (mx_leaf 35 (mx_const (.int (-1)) 36)) (mx_leaf 36 (mx_goto 54))))) (mx_node 47 (mx_node 43 (mx_node 40 (mx_leaf 39 (mx_aload 0 40)) (mx_leaf 40 (mx_getf 11 8 43))) (mx_node 44 (mx_leaf 43 (mx_aload 0 44)) (mx_leaf 44 (mx_getf 11 12 47)))) (mx_node 51 (mx_node 50 (mx_leaf 47 (mx_getf 5 2 50)) (mx_leaf 50 (mx_iload 2 51))) (mx_node 54 (mx_leaf 51 (mx_callv 68 3 8 54)) (mx_leaf 54 (mx_iret)))))))
set_option maxRecDepth 100000 in
noncomputable def tb_125 : Nat → mx_O := (mx_node 60 (mx_node 29 (mx_node 13 (mx_node 6 (mx_node 4 (mx_node 1 (mx_leaf 0 (mx_iload 1 1)) (mx_leaf 1 (mx_if_lt 9 4))) (mx_node 5 (mx_leaf 4 (mx_iload 1 5)) (mx_leaf 5 (mx_const (.int 1) 6)))) (mx_node 11 (mx_node 9 (mx_leaf 6 (mx_icmp_le 12 9)) (mx_leaf 9 (mx_const (.int (-2)) 11))) (mx_node 12 (mx_leaf 11 (mx_iret)) (mx_leaf 12 (mx_aload 0 13))))) (mx_node 23 (mx_node 17 (mx_node 16 (mx_leaf 13 (mx_getf 11 5 16)) (mx_leaf 16 (mx_aload 0 17))) (mx_node 20 (mx_leaf 17 (mx_getf 11 12 20)) (mx_leaf 20 (mx_getf 5 2 23)))) (mx_node 27 (mx_node 26 (mx_leaf 23 (mx_callv 5 2 0 26)) (mx_leaf 26 (mx_istore 2 27))) (mx_node 28 (mx_leaf 27 (mx_const (.int 0) 28)) (mx_leaf 28 (mx_istore 3 29)))))) (mx_node 43 (mx_node 35 (mx_node 32 (mx_node 30 (mx_leaf 29 (mx_const (.int 0) 30)) (mx_leaf 30 (mx_istore 4 32))) (mx_node 34 (mx_leaf 32 (mx_iload 4 34)) (mx_leaf 34 (mx_iload 2 35)))) (mx_node 39 (mx_node 38 (mx_leaf 35 (mx_icmp_ge 63 38)) (mx_leaf 38 (mx_iload 3 39))) (mx_node 40 (mx_leaf 39 (mx_aload 0 40)) (mx_leaf 40 (mx_getf 11 5 43))))) (mx_node 52 (mx_node 47 (mx_node 44 (mx_leaf 43 (mx_aload 0 44)) (mx_leaf 44 (mx_getf 11 12 47))) (mx_node 50 (mx_leaf 47 (mx_getf 5 2 50)) (mx_leaf 50 (mx_iload 4 52)))) (mx_node 56 (mx_node 55 (mx_leaf 52 (mx_callv 6 3 0 55)) (mx_leaf 55 (mx_ixor 56))) (mx_node 57 (mx_leaf 56 (mx_istore 3 57)) (mx_leaf 57 (mx_iinc 4 1 60))))))) (mx_node 93 (mx_node 76 (mx_node 68 (mx_node 64 (mx_node 63 (mx_leaf 60 (mx_goto 32)) (mx_leaf 63 (mx_const (.int 0) 64))) (mx_node 66 (mx_leaf 64 (mx_istore 4 66)) (mx_leaf 66 (mx_iload 4 68)))) (mx_node 72 (mx_node 69 (mx_leaf 68 (mx_iload 2 69)) (mx_leaf 69 (mx_icmp_ge 122 72))) (mx_node 73 (mx_leaf 72 (mx_aload 0 73)) (mx_leaf 73 (mx_getf 11 5 76))))) (mx_node 85 (mx_node 80 (mx_node 77 (mx_leaf 76 (mx_aload 0 77)) (mx_leaf 77 (mx_getf 11 12 80))) (mx_node 83 (mx_leaf 80 (mx_getf 5 2 83)) (mx_leaf 83 (mx_iload 4 85)))) (mx_node 90 (mx_node 88 (mx_leaf 85 (mx_callv 6 3 0 88)) (mx_leaf 88 (mx_istore 5 90))) (mx_node 92 (mx_leaf 90 (mx_iload 5 92)) (mx_leaf 92 (mx_iload 3 93)))))) (mx_node 110 (mx_node 100 (mx_node 96 (mx_node 94 (mx_leaf 93 (mx_ixor 94)) (mx_leaf 94 (mx_iload 5 96))) (mx_node 99 (mx_leaf 96 (mx_icmp_ge 116 99)) (mx_leaf 99 (mx_iload 1 100)))) (mx_node 105 (mx_node 103 (mx_leaf 100 (mx_if_ne 108 103)) (mx_leaf 103 (mx_iload 4 105))) (mx_node 108 (mx_leaf 105 (mx_goto 115)) (mx_leaf 108 (mx_iload 5 110))))) (mx_node 115 (mx_node 113 (mx_node 112 (mx_leaf 110 (mx_iload 5 112)) (mx_leaf 112 (mx_iload 3 113))) (mx_node 114 (mx_leaf 113 (mx_ixor 114)) (mx_leaf 114 (mx_isub 115)))) (mx_node 119 (mx_node 116 (mx_leaf 115 (mx_iret)) (mx_leaf 116 (mx_iinc 4 1 119))) (mx_node 122 (mx_leaf 119 (mx_goto 66)) (mx_node 123 (mx_leaf 122 (mx_const (.int (-1)) 123)) (mx_leaf 123 (mx_iret)))))))))
set_option maxRecDepth 100000 in
noncomputable def tb_126 : Nat → mx_O := (mx_node 28 (mx_node 13 (mx_node 6 (mx_node 4 (mx_node 1 (mx_leaf 0 (mx_iload 3 1)) (mx_leaf 1 (mx_if_lt 9 4))) (mx_node 5 (mx_leaf 4 (mx_iload 3 5)) (mx_leaf 5 (mx_const (.int 1) 6)))) (mx_node 11 (mx_node 9 (mx_leaf 6 (mx_icmp_le 12 9)) (mx_leaf 9 (mx_const (.int (-2)) 11))) (mx_node 12 (mx_leaf 11 (mx_iret)) (mx_leaf 12 (mx_iload 1 13))))) (mx_node 20 (mx_node 17 (mx_node 14 (mx_leaf 13 (mx_const (.int 1) 14)) (mx_leaf 14 (mx_icmp_lt 33 17))) (mx_node 18 (mx_leaf 17 (mx_iload 1 18)) (mx_leaf 18 (mx_const (.int 18) 20)))) (mx_node 24 (mx_node 23 (mx_leaf 20 (mx_icmp_gt 33 23)) (mx_leaf 23 (mx_iload 2 24))) (mx_node 27 (mx_leaf 24 (mx_if_lt 33 27)) (mx_leaf 27 (mx_iload 2 28)))))) (mx_node 42 (mx_node 36 (mx_node 33 (mx_node 30 (mx_leaf 28 (mx_const (.int 7) 30)) (mx_leaf 30 (mx_icmp_le 36 33))) (mx_node 35 (mx_leaf 33 (mx_const (.int (-3)) 35)) (mx_leaf 35 (mx_iret)))) (mx_node 38 (mx_node 37 (mx_leaf 36 (mx_aload 0 37)) (mx_leaf 37 (mx_iload 2 38))) (mx_node 41 (mx_leaf 38 (mx_callv 148 2 11 41)) (mx_leaf 41 (mx_aload 0 42))))) (mx_node 48 (mx_node 46 (mx_node 45 (mx_leaf 42 (mx_getf 11 9 45)) (mx_leaf 45 (mx_iload 2 46))) (mx_node 47 (mx_leaf 46 (mx_const (.int 1) 47)) (mx_leaf 47 (mx_iload 1 48)))) (mx_node 52 (mx_node 51 (mx_leaf 48 (mx_callv 75 4 9 51)) (mx_leaf 51 (mx_iload 2 52))) (mx_node 53 (mx_leaf 52 (mx_iload 3 53)) (mx_node 56 (mx_leaf 53 (mx_calls 153 3 56)) (mx_leaf 56 (mx_iret))))))))
set_option maxRecDepth 100000 in
noncomputable def tb_127 : Nat → mx_O := (mx_node 22 (mx_node 11 (mx_node 5 (mx_node 1 (mx_leaf 0 (mx_iload 2 1)) (mx_node 4 (mx_leaf 1 (mx_if_lt 9 4)) (mx_leaf 4 (mx_iload 2 5)))) (mx_node 6 (mx_leaf 5 (mx_const (.int 1) 6)) (mx_node 9 (mx_leaf 6 (mx_icmp_le 12 9)) (mx_leaf 9 (mx_const (.int (-2)) 11))))) (mx_node 16 (mx_node 12 (mx_leaf 11 (mx_iret)) (mx_node 13 (mx_leaf 12 (mx_iload 1 13)) (mx_leaf 13 (mx_if_lt 22 16)))) (mx_node 17 (mx_leaf 16 (mx_iload 1 17)) (mx_node 19 (mx_leaf 17 (mx_const (.int 7) 19)) (mx_leaf 19 (mx_icmp_le 25 22)))))) (mx_node 31 (mx_node 26 (mx_node 24 (mx_leaf 22 (mx_const (.int (-3)) 24)) (mx_node 25 (mx_leaf 24 (mx_iret)) (mx_leaf 25 (mx_aload 0 26)))) (mx_node 27 (mx_leaf 26 (mx_iload 1 27)) (mx_node 30 (mx_leaf 27 (mx_callv 148 2 11 30)) (mx_leaf 30 (mx_aload 0 31))))) (mx_node 38 (mx_node 34 (mx_leaf 31 (mx_getf 11 9 34)) (mx_node 35 (mx_leaf 34 (mx_iload 1 35)) (mx_leaf 35 (mx_callv 76 2 9 38)))) (mx_node 40 (mx_node 39 (mx_leaf 38 (mx_iload 1 39)) (mx_leaf 39 (mx_iload 2 40))) (mx_node 43 (mx_leaf 40 (mx_calls 153 3 43)) (mx_leaf 43 (mx_iret)))))))
set_option maxRecDepth 100000 in
noncomputable def tb_128 : Nat → mx_O := (mx_node 24 (mx_node 12 (mx_node 5 (mx_node 1 (mx_leaf 0 (mx_aload 0 1)) (mx_node 2 (mx_leaf 1 (mx_iload 1 2)) (mx_leaf 2 (mx_callv 144 2 11 5)))) (mx_node 8 (mx_leaf 5 (mx_if_ne 17 8)) (mx_node 9 (mx_leaf 8 (mx_iload 2 9)) (mx_leaf 9 (mx_if_lt 17 12))))) (mx_node 17 (mx_node 13 (mx_leaf 12 (mx_iload 2 13)) (mx_node 14 (mx_leaf 13 (mx_const (.int 3) 14)) (mx_leaf 14 (mx_icmp_le 20 17)))) (mx_node 20 (mx_node 19 (mx_leaf 17 (mx_const (.int (-2)) 19)) (mx_leaf 19 (mx_iret))) (mx_node 21 (mx_leaf 20 (mx_iload 3 21)) (mx_leaf 21 (mx_if_lt 30 24)))))) (mx_node 37 (mx_node 30 (mx_node 25 (mx_leaf 24 (mx_iload 3 25)) (mx_node 27 (mx_leaf 25 (mx_const (.int 40) 27)) (mx_leaf 27 (mx_icmp_le 33 30)))) (mx_node 33 (mx_node 32 (mx_leaf 30 (mx_const (.int (-3)) 32)) (mx_leaf 32 (mx_iret))) (mx_node 34 (mx_leaf 33 (mx_aload 0 34)) (mx_leaf 34 (mx_getf 11 10 37))))) (mx_node 40 (mx_node 38 (mx_leaf 37 (mx_iload 1 38)) (mx_node 39 (mx_leaf 38 (mx_aald 39)) (mx_leaf 39 (mx_iload 2 40)))) (mx_node 44 (mx_node 41 (mx_leaf 40 (mx_iload 3 41)) (mx_leaf 41 (mx_callv 83 3 10 44))) (mx_node 45 (mx_leaf 44 (mx_const (.int 0) 45)) (mx_leaf 45 (mx_iret)))))))
set_option maxRecDepth 100000 in
noncomputable def tb_129 : Nat → mx_O := (mx_node 37 (mx_node 17 (mx_node 8 (mx_node 2 (mx_node 1 (mx_leaf 0 (mx_aload 0 1)) (mx_leaf 1 (mx_iload 1 2))) (mx_node 5 (mx_leaf 2 (mx_callv 144 2 11 5)) (mx_leaf 5 (mx_if_eq 12 8)))) (mx_node 12 (mx_node 11 (mx_leaf 8 (mx_const (.long (-2)) 11)) (mx_leaf 11 (mx_lret))) (mx_node 13 (mx_leaf 12 (mx_aload 0 13)) (mx_node 16 (mx_leaf 13 (mx_getf 11 10 16)) (mx_leaf 16 (mx_iload 1 17)))))) (mx_node 28 (mx_node 21 (mx_node 18 (mx_leaf 17 (mx_aald 18)) (mx_leaf 18 (mx_getf 10 3 21))) (mx_node 24 (mx_leaf 21 (mx_if_eq 28 24)) (mx_node 27 (mx_leaf 24 (mx_const (.long (-6)) 27)) (mx_leaf 27 (mx_lret))))) (mx_node 32 (mx_node 29 (mx_leaf 28 (mx_iload 2 29)) (mx_leaf 29 (mx_if_lt 45 32))) (mx_node 33 (mx_leaf 32 (mx_iload 2 33)) (mx_node 34 (mx_leaf 33 (mx_aload 0 34)) (mx_leaf 34 (mx_getf 11 10 37))))))) (mx_node 55 (mx_node 48 (mx_node 39 (mx_node 38 (mx_leaf 37 (mx_iload 1 38)) (mx_leaf 38 (mx_aald 39))) (mx_node 42 (mx_leaf 39 (mx_getf 10 2 42)) (mx_node 45 (mx_leaf 42 (mx_icmp_lt 49 45)) (mx_leaf 45 (mx_const (.long (-7)) 48))))) (mx_node 50 (mx_node 49 (mx_leaf 48 (mx_lret)) (mx_leaf 49 (mx_aload 0 50))) (mx_node 53 (mx_leaf 50 (mx_getf 11 10 53)) (mx_node 54 (mx_leaf 53 (mx_iload 1 54)) (mx_leaf 54 (mx_aald 55)))))) (mx_node 64 (mx_node 57 (mx_node 56 (mx_leaf 55 (mx_iload 2 56)) (mx_leaf 56 (mx_lload 3 57))) (mx_node 60 (mx_leaf 57 (mx_callv 84 3 10 60)) (mx_node 61 (mx_leaf 60 (mx_aload 0 61)) (mx_leaf 61 (mx_getf 11 10 64))))) (mx_node 66 (mx_node 65 (mx_leaf 64 (mx_iload 1 65)) (mx_leaf 65 (mx_aald 66))) (mx_node 67 (mx_leaf 66 (mx_iload 2 67)) (mx_node 70 (mx_leaf 67 (mx_callv 85 2 10 70)) (mx_leaf 70 (mx_lret))))))))
set_option maxRecDepth 100000 in
noncomputable def tb_130 : Nat → mx_O := (mx_node 52 (mx_node 25 (mx_node 11 (mx_node 5 (mx_node 1 (mx_leaf 0 (mx_aload 0 1)) (mx_node 2 (mx_leaf 1 (mx_iload 1 2)) (mx_leaf 2 (mx_callv 144 2 11 5)))) (mx_node 8 (mx_leaf 5 (mx_if_eq 11 8)) (mx_node 10 (mx_leaf 8 (mx_const (.int (-2)) 10)) (mx_leaf 10 (mx_iret))))) (mx_node 16 (mx_node 12 (mx_leaf 11 (mx_aload 0 12)) (mx_node 15 (mx_leaf 12 (mx_getf 11 10 15)) (mx_leaf 15 (mx_iload 1 16)))) (mx_node 20 (mx_node 17 (mx_leaf 16 (mx_aald 17)) (mx_leaf 17 (mx_getf 10 3 20))) (mx_node 23 (mx_leaf 20 (mx_if_eq 26 23)) (mx_leaf 23 (mx_const (.int (-6)) 25)))))) (mx_node 38 (mx_node 30 (mx_node 26 (mx_leaf 25 (mx_iret)) (mx_node 27 (mx_leaf 26 (mx_iload 2 27)) (mx_leaf 27 (mx_if_lt 41 30)))) (mx_node 32 (mx_node 31 (mx_leaf 30 (mx_iload 2 31)) (mx_leaf 31 (mx_aload 0 32))) (mx_node 35 (mx_leaf 32 (mx_getf 11 5 35)) (mx_leaf 35 (mx_getf 0 5 38))))) (mx_node 44 (mx_node 41 (mx_leaf 38 (mx_icmp_lt 44 41)) (mx_node 43 (mx_leaf 41 (mx_const (.int (-3)) 43)) (mx_leaf 43 (mx_iret)))) (mx_node 48 (mx_node 45 (mx_leaf 44 (mx_aload 0 45)) (mx_leaf 45 (mx_getf 11 5 48))) (mx_node 49 (mx_leaf 48 (mx_iload 2 49)) (mx_leaf 49 (mx_callv 5 2 0 52))))))) (mx_node 78 (mx_node 65 (mx_node 57 (mx_node 53 (mx_leaf 52 (mx_aload 0 53)) (mx_node 56 (mx_leaf 53 (mx_getf 11 10 56)) (mx_leaf 56 (mx_iload 1 57)))) (mx_node 61 (mx_node 58 (mx_leaf 57 (mx_aald 58)) (mx_leaf 58 (mx_getf 10 2 61))) (mx_node 64 (mx_leaf 61 (mx_mmin 64)) (mx_leaf 64 (mx_istore 3 65))))) (mx_node 70 (mx_node 66 (mx_leaf 65 (mx_const (.int 0) 66)) (mx_node 68 (mx_leaf 66 (mx_istore 4 68)) (mx_leaf 68 (mx_iload 4 70)))) (mx_node 74 (mx_node 71 (mx_leaf 70 (mx_iload 3 71)) (mx_leaf 71 (mx_icmp_ge 102 74))) (mx_node 75 (mx_leaf 74 (mx_aload 0 75)) (mx_leaf 75 (mx_getf 11 10 78)))))) (mx_node 89 (mx_node 82 (mx_node 79 (mx_leaf 78 (mx_iload 1 79)) (mx_node 80 (mx_leaf 79 (mx_aald 80)) (mx_leaf 80 (mx_iload 4 82)))) (mx_node 86 (mx_node 83 (mx_leaf 82 (mx_aload 0 83)) (mx_leaf 83 (mx_getf 11 5 86))) (mx_node 87 (mx_leaf 86 (mx_iload 2 87)) (mx_leaf 87 (mx_iload 4 89))))) (mx_node 96 (mx_node 92 (mx_leaf 89 (mx_callv 6 3 0 92)) (mx_node 93 (mx_leaf 92 (mx_i2l 93)) (mx_leaf 93 (mx_callv 84 3 10 96)))) (mx_node 102 (mx_node 99 (mx_leaf 96 (mx_iinc 4 1 99)) (mx_leaf 99 (mx_goto 68))) (mx_node 103 (mx_leaf 102 (mx_iload 3 103)) (mx_leaf 103 (mx_iret))))))))
set_option maxRecDepth 100000 in
noncomputable def tb_131 : Nat → mx_O := (mx_node 18 (mx_node 9 (mx_node 4 (mx_node 1 (mx_leaf 0 (mx_iload 1 1)) (mx_leaf 1 (mx_if_lt 9 4))) (mx_node 5 (mx_leaf 4 (mx_iload 1 5)) (mx_node 6 (mx_leaf 5 (mx_const (.int 2) 6)) (mx_leaf 6 (mx_icmp_lt 12 9))))) (mx_node 13 (mx_node 11 (mx_leaf 9 (mx_const (.int (-2)) 11)) (mx_node 12 (mx_leaf 11 (mx_iret)) (mx_leaf 12 (mx_aload 0 13)))) (mx_node 16 (mx_leaf 13 (mx_getf 11 11 16)) (mx_node 17 (mx_leaf 16 (mx_iload 1 17)) (mx_leaf 17 (mx_aald 18)))))) (mx_node 29 (mx_node 22 (mx_node 19 (mx_leaf 18 (mx_aload 0 19)) (mx_leaf 19 (mx_getf 11 12 22))) (mx_node 25 (mx_leaf 22 (mx_callv 33 2 5 25)) (mx_node 26 (mx_leaf 25 (mx_aload 0 26)) (mx_leaf 26 (mx_getf 11 11 29))))) (mx_node 32 (mx_node 30 (mx_leaf 29 (mx_iload 1 30)) (mx_node 31 (mx_leaf 30 (mx_aald 31)) (mx_leaf 31 (mx_const (.int 1) 32)))) (mx_node 35 (mx_leaf 32 (mx_putf 1 5 5 (.boolean) 35)) (mx_node 36 (mx_leaf 35 (mx_const (.int 0) 36)) (mx_leaf 36 (mx_iret)))))))
set_option maxRecDepth 100000 in
noncomputable def tb_132 : Nat → mx_O := (mx_node 24 (mx_node 11 (mx_node 5 (mx_node 1 (mx_leaf 0 (mx_iload 1 1)) (mx_node 4 (mx_leaf 1 (mx_if_lt 9 4)) (mx_leaf 4 (mx_iload 1 5)))) (mx_node 6 (mx_leaf 5 (mx_const (.int 2) 6)) (mx_node 9 (mx_leaf 6 (mx_icmp_lt 12 9)) (mx_leaf 9 (mx_const (.int (-2)) 11))))) (mx_node 16 (mx_node 12 (mx_leaf 11 (mx_iret)) (mx_node 13 (mx_leaf 12 (mx_aload 0 13)) (mx_leaf 13 (mx_getf 11 11 16)))) (mx_node 18 (mx_node 17 (mx_leaf 16 (mx_iload 1 17)) (mx_leaf 17 (mx_aald 18))) (mx_node 21 (mx_leaf 18 (mx_getf 5 5 21)) (mx_leaf 21 (mx_if_ne 27 24)))))) (mx_node 35 (mx_node 28 (mx_node 26 (mx_leaf 24 (mx_const (.int (-5)) 26)) (mx_node 27 (mx_leaf 26 (mx_iret)) (mx_leaf 27 (mx_aload 0 28)))) (mx_node 31 (mx_leaf 28 (mx_getf 11 12 31)) (mx_node 32 (mx_leaf 31 (mx_aload 0 32)) (mx_leaf 32 (mx_getf 11 11 35))))) (mx_node 40 (mx_node 36 (mx_leaf 35 (mx_iload 1 36)) (mx_node 37 (mx_leaf 36 (mx_aald 37)) (mx_leaf 37 (mx_callv 33 2 5 40)))) (mx_node 44 (mx_node 41 (mx_leaf 40 (mx_aload 0 41)) (mx_leaf 41 (mx_callv 135 1 11 44))) (mx_node 45 (mx_leaf 44 (mx_const (.int 0) 45)) (mx_leaf 45 (mx_iret)))))))
set_option maxRecDepth 100000 in
noncomputable def tb_133 : Nat → mx_O := (mx_node 83 (mx_node 61 (mx_node 52 (mx_node 48 (mx_node 1 (mx_leaf 0 (mx_iload 1 1)) (mx_leaf 1 (mx_tsw 0 7 [48, 56, 71, 79, 87, 95, 103, 108] 119))) (mx_node 49 (mx_leaf 48 (mx_aload 0 49)) (mx_leaf 49 (mx_getf 11 12 52)))) (mx_node 56 (mx_node 55 (mx_leaf 52 (mx_getf 5 1 55)) (mx_leaf 55 (mx_iret))) (mx_node 57 (mx_leaf 56 (mx_aload 0 57)) (mx_node 60 (mx_leaf 57 (mx_getf 11 5 60)) (mx_leaf 60 (mx_aload 0 61)))))) (mx_node 72 (mx_node 67 (mx_node 64 (mx_leaf 61 (mx_getf 11 12 64)) (mx_leaf 64 (mx_getf 5 2 67))) (mx_node 70 (mx_leaf 67 (mx_callv 5 2 0 70)) (mx_node 71 (mx_leaf 70 (mx_iret)) (mx_leaf 71 (mx_aload 0 72))))) (mx_node 78 (mx_node 75 (mx_leaf 72 (mx_getf 11 12 75)) (mx_leaf 75 (mx_getf 5 2 78))) (mx_node 79 (mx_leaf 78 (mx_iret)) (mx_node 80 (mx_leaf 79 (mx_aload 0 80)) (mx_leaf 80 (mx_getf 11 12 83))))))) (mx_node 103 (mx_node 94 (mx_node 87 (mx_node 86 (mx_leaf 83 (mx_getf 5 3 86)) (mx_leaf 86 (mx_iret))) (mx_node 88 (mx_leaf 87 (mx_aload 0 88)) (mx_node 91 (mx_leaf 88 (mx_getf 11 12 91)) (mx_leaf 91 (mx_getf 5 4 94))))) (mx_node 96 (mx_node 95 (mx_leaf 94 (mx_iret)) (mx_leaf 95 (mx_aload 0 96))) (mx_node 99 (mx_leaf 96 (mx_getf 11 14 99)) (mx_node 102 (mx_leaf 99 (mx_getf 6 1 102)) (mx_leaf 102 (mx_iret)))))) (mx_node 112 (mx_node 107 (mx_node 104 (mx_leaf 103 (mx_aload 0 104)) (mx_leaf 104 (mx_getf 11 1 107))) (mx_node 108 (mx_leaf 107 (mx_iret)) (mx_node 109 (mx_leaf 108 (mx_aload 0 109)) (mx_leaf 109 (mx_getf 11 12 112))))) (mx_node 118 (mx_node 115 (mx_leaf 112 (mx_getf 5 0 115)) (mx_leaf 115 (mx_getf 3 2 118))) (mx_node 119 (mx_leaf 118 (mx_iret)) (mx_node 120 (mx_leaf 119 (mx_const (.int (-1)) 120)) (mx_leaf 120 (mx_iret))))))))
set_option maxRecDepth 100000 in
noncomputable def tb_134 : Nat → mx_O := (mx_node 26 (mx_node 11 (mx_node 4 (mx_node 2 (mx_leaf 0 (mx_const (.int 24) 2)) (mx_node 3 (mx_leaf 2 (mx_istore 2 3)) (mx_leaf 3 (mx_iload 2 4)))) (mx_node 7 (mx_leaf 4 (mx_if_lt 46 7)) (mx_node 8 (mx_leaf 7 (mx_aload 0 8)) (mx_leaf 8 (mx_getf 11 1 11))))) (mx_node 18 (mx_node 14 (mx_leaf 11 (mx_const (.int 900) 14)) (mx_node 17 (mx_leaf 14 (mx_icmp_ge 46 17)) (mx_leaf 17 (mx_aload 0 18)))) (mx_node 22 (mx_node 21 (mx_leaf 18 (mx_getf 11 0 21)) (mx_leaf 21 (mx_aload 0 22))) (mx_node 25 (mx_leaf 22 (mx_getf 11 1 25)) (mx_leaf 25 (mx_iload 1 26)))))) (mx_node 32 (mx_node 29 (mx_node 27 (mx_leaf 26 (mx_iload 2 27)) (mx_node 28 (mx_leaf 27 (mx_iushr 28)) (mx_leaf 28 (mx_i2b 29)))) (mx_node 30 (mx_leaf 29 (mx_bast 1 30)) (mx_node 31 (mx_leaf 30 (mx_aload 0 31)) (mx_leaf 31 (mx_dup 32))))) (mx_node 37 (mx_node 35 (mx_leaf 32 (mx_getf 11 1 35)) (mx_node 36 (mx_leaf 35 (mx_const (.int 1) 36)) (mx_leaf 36 (mx_iadd 37)))) (mx_node 43 (mx_node 40 (mx_leaf 37 (mx_putf 1 11 1 (.int) 40)) (mx_leaf 40 (mx_iinc 2 (-8) 43))) (mx_node 46 (mx_leaf 43 (mx_goto 3)) (mx_leaf 46 (mx_vret)))))))
set_option maxRecDepth 100000 in
noncomputable def tb_135 : Nat → mx_O := (mx_node 25 (mx_node 11 (mx_node 4 (mx_node 1 (mx_leaf 0 (mx_aload 0 1)) (mx_leaf 1 (mx_getf 11 5 4))) (mx_node 5 (mx_leaf 4 (mx_aload 0 5)) (mx_node 8 (mx_leaf 5 (mx_getf 11 12 8)) (mx_leaf 8 (mx_getf 5 1 11))))) (mx_node 18 (mx_node 14 (mx_leaf 11 (mx_callv 3 2 0 14)) (mx_node 15 (mx_leaf 14 (mx_aload 0 15)) (mx_leaf 15 (mx_getf 11 6 18)))) (mx_node 19 (mx_leaf 18 (mx_aload 0 19)) (mx_node 22 (mx_leaf 19 (mx_getf 11 12 22)) (mx_leaf 22 (mx_getf 5 0 25)))))) (mx_node 39 (mx_node 32 (mx_node 26 (mx_leaf 25 (mx_aload 0 26)) (mx_node 29 (mx_leaf 26 (mx_getf 11 12 29)) (mx_leaf 29 (mx_getf 5 1 32)))) (mx_node 33 (mx_leaf 32 (mx_aload 0 33)) (mx_node 36 (mx_leaf 33 (mx_getf 11 12 36)) (mx_leaf 36 (mx_getf 5 3 39))))) (mx_node 46 (mx_node 42 (mx_leaf 39 (mx_callv 24 4 4 42)) (mx_node 43 (mx_leaf 42 (mx_aload 0 43)) (mx_leaf 43 (mx_getf 11 14 46)))) (mx_node 47 (mx_leaf 46 (mx_const (.int 0) 47)) (mx_node 50 (mx_leaf 47 (mx_putf 1 6 1 (.int) 50)) (mx_leaf 50 (mx_vret)))))))
set_option maxRecDepth 100000 in
noncomputable def tb_136 : Nat → mx_O := (mx_node 10 (mx_node 6 (mx_node 1 (mx_leaf 0 (mx_iload 1 1)) (mx_node 4 (mx_leaf 1 (mx_if_eq 9 4)) (mx_leaf 4 (mx_const (.int (-10)) 6)))) (mx_node 8 (mx_node 7 (mx_leaf 6 (mx_iload 1 7)) (mx_leaf 7 (mx_isub 8))) (mx_node 9 (mx_leaf 8 (mx_iret)) (mx_leaf 9 (mx_aload 0 10))))) (mx_node 18 (mx_node 14 (mx_node 13 (mx_leaf 10 (mx_callv 137 1 11 13)) (mx_leaf 13 (mx_aload 0 14))) (mx_node 17 (mx_leaf 14 (mx_getf 11 5 17)) (mx_leaf 17 (mx_aload 0 18)))) (mx_node 24 (mx_node 21 (mx_leaf 18 (mx_getf 11 12 21)) (mx_leaf 21 (mx_getf 5 2 24))) (mx_node 27 (mx_leaf 24 (mx_callv 5 2 0 27)) (mx_leaf 27 (mx_iret))))))
set_option maxRecDepth 100000 in
noncomputable def tb_137 : Nat → mx_O := (mx_node 16 (mx_node 8 (mx_node 4 (mx_node 1 (mx_leaf 0 (mx_aload 0 1)) (mx_leaf 1 (mx_getf 11 14 4))) (mx_node 5 (mx_leaf 4 (mx_aload 0 5)) (mx_leaf 5 (mx_getf 11 12 8)))) (mx_node 12 (mx_node 11 (mx_leaf 8 (mx_callv 35 2 6 11)) (mx_leaf 11 (mx_aload 0 12))) (mx_node 15 (mx_leaf 12 (mx_getf 11 12 15)) (mx_leaf 15 (mx_aload 0 16))))) (mx_node 26 (mx_node 22 (mx_node 19 (mx_leaf 16 (mx_getf 11 13 19)) (mx_leaf 19 (mx_callv 33 2 5 22))) (mx_node 23 (mx_leaf 22 (mx_aload 0 23)) (mx_leaf 23 (mx_getf 11 6 26)))) (mx_node 30 (mx_node 27 (mx_leaf 26 (mx_aload 0 27)) (mx_leaf 27 (mx_getf 11 12 30))) (mx_node 33 (mx_leaf 30 (mx_getf 5 3 33)) (mx_node 36 (mx_leaf 33 (mx_callv 25 2 4 36)) (mx_leaf 36 (mx_vret)))))))
set_option maxRecDepth 100000 in
noncomputable def tb_138 : Nat → mx_O := (mx_node 16 (mx_node 7 (mx_node 2 (mx_node 1 (mx_leaf 0 (mx_const (.int 0) 1)) (mx_leaf 1 (mx_istore 2 2))) (mx_node 3 (mx_leaf 2 (mx_iload 2 3)) (mx_node 4 (mx_leaf 3 (mx_aload 1 4)) (mx_leaf 4 (mx_getf 10 2 7))))) (mx_node 11 (mx_node 10 (mx_leaf 7 (mx_icmp_ge 34 10)) (mx_leaf 10 (mx_aload 0 11))) (mx_node 12 (mx_leaf 11 (mx_aload 0 12)) (mx_node 15 (mx_leaf 12 (mx_getf 11 13 15)) (mx_leaf 15 (mx_aload 1 16)))))) (mx_node 27 (mx_node 20 (mx_node 17 (mx_leaf 16 (mx_iload 2 17)) (mx_leaf 17 (mx_callv 85 2 10 20))) (mx_node 23 (mx_leaf 20 (mx_callv 139 3 11 23)) (mx_node 26 (mx_leaf 23 (mx_if_eq 28 26)) (mx_leaf 26 (mx_iload 2 27))))) (mx_node 34 (mx_node 28 (mx_leaf 27 (mx_iret)) (mx_node 31 (mx_leaf 28 (mx_iinc 2 1 31)) (mx_leaf 31 (mx_goto 2)))) (mx_node 35 (mx_leaf 34 (mx_aload 1 35)) (mx_node 38 (mx_leaf 35 (mx_getf 10 2 38)) (mx_leaf 38 (mx_iret)))))))
set_option maxRecDepth 100000 in
noncomputable def tb_139 : Nat → mx_O := (mx_node 51 (mx_node 22 (mx_node 11 (mx_node 3 (mx_node 1 (mx_leaf 0 (mx_lload 2 1)) (mx_node 2 (mx_leaf 1 (mx_const (.long 0) 2)) (mx_leaf 2 (mx_lif_lt 14 6)))) (mx_node 7 (mx_node 6 (mx_leaf 3 (mx_if_lt 14 6)) (mx_leaf 6 (mx_lload 2 7))) (mx_node 10 (mx_leaf 7 (mx_const (.long 4999) 10)) (mx_leaf 10 (mx_lif_le 16 14))))) (mx_node 16 (mx_node 14 (mx_leaf 11 (mx_if_le 16 14)) (mx_node 15 (mx_leaf 14 (mx_const (.int 1) 15)) (mx_leaf 15 (mx_iret)))) (mx_node 18 (mx_node 17 (mx_leaf 16 (mx_lload 2 17)) (mx_leaf 17 (mx_l2i 18))) (mx_node 20 (mx_leaf 18 (mx_istore 4 20)) (mx_leaf 20 (mx_iload 4 22)))))) (mx_node 35 (mx_node 28 (mx_node 24 (mx_leaf 22 (mx_const (.int 18) 24)) (mx_node 27 (mx_leaf 24 (mx_icmp_gt 35 27)) (mx_leaf 27 (mx_aload 0 28)))) (mx_node 31 (mx_node 29 (mx_leaf 28 (mx_aload 1 29)) (mx_leaf 29 (mx_iload 4 31))) (mx_node 34 (mx_leaf 31 (mx_callv 140 3 11 34)) (mx_leaf 34 (mx_iret))))) (mx_node 44 (mx_node 40 (mx_node 37 (mx_leaf 35 (mx_iload 4 37)) (mx_leaf 37 (mx_const (.int 3000) 40))) (mx_node 43 (mx_leaf 40 (mx_icmp_lt 63 43)) (mx_leaf 43 (mx_aload 0 44)))) (mx_node 47 (mx_node 45 (mx_leaf 44 (mx_aload 1 45)) (mx_leaf 45 (mx_iload 4 47))) (mx_node 50 (mx_leaf 47 (mx_const (.int 3000) 50)) (mx_leaf 50 (mx_isub 51))))))) (mx_node 78 (mx_node 63 (mx_node 56 (mx_node 53 (mx_leaf 51 (mx_const (.int 100) 53)) (mx_node 54 (mx_leaf 53 (mx_idiv 54)) (mx_leaf 54 (mx_iload 4 56)))) (mx_node 59 (mx_node 58 (mx_leaf 56 (mx_const (.int 100) 58)) (mx_leaf 58 (mx_irem 59))) (mx_node 62 (mx_leaf 59 (mx_callv 142 4 11 62)) (mx_leaf 62 (mx_iret))))) (mx_node 71 (mx_node 65 (mx_leaf 63 (mx_iload 4 65)) (mx_node 68 (mx_leaf 65 (mx_const (.int 1000) 68)) (mx_leaf 68 (mx_icmp_lt 91 71)))) (mx_node 73 (mx_node 72 (mx_leaf 71 (mx_aload 0 72)) (mx_leaf 72 (mx_aload 1 73))) (mx_node 75 (mx_leaf 73 (mx_iload 4 75)) (mx_leaf 75 (mx_const (.int 1000) 78)))))) (mx_node 90 (mx_node 82 (mx_node 79 (mx_leaf 78 (mx_isub 79)) (mx_node 81 (mx_leaf 79 (mx_const (.int 100) 81)) (mx_leaf 81 (mx_idiv 82)))) (mx_node 86 (mx_node 84 (mx_leaf 82 (mx_iload 4 84)) (mx_leaf 84 (mx_const (.int 100) 86))) (mx_node 87 (mx_leaf 86 (mx_irem 87)) (mx_leaf 87 (mx_callv 141 4 11 90))))) (mx_node 95 (mx_node 92 (mx_node 91 (mx_leaf 90 (mx_iret)) (mx_leaf 91 (mx_aload 0 92))) (mx_node 93 (mx_leaf 92 (mx_aload 1 93)) (mx_leaf 93 (mx_iload 4 95)))) (mx_node 98 (mx_node 97 (mx_leaf 95 (mx_const (.int 20) 97)) (mx_leaf 97 (mx_isub 98))) (mx_node 101 (mx_leaf 98 (mx_callv 143 3 11 101)) (mx_leaf 101 (mx_iret))))))))
set_option maxRecDepth 100000 in
noncomputable def tb_140 : Nat → mx_O := (mx_node 32 (mx_node 13 (mx_node 7 (mx_node 4 (mx_node 1 (mx_leaf 0 (mx_iload 2 1)) (mx_leaf 1 (mx_if_lt 10 4))) (mx_node 5 (mx_leaf 4 (mx_iload 2 5)) (mx_leaf 5 (mx_const (.int 18) 7)))) (mx_node 11 (mx_node 10 (mx_leaf 7 (mx_icmp_le 12 10)) (mx_leaf 10 (mx_const (.int 1) 11))) (mx_node 12 (mx_leaf 11 (mx_iret)) (mx_leaf 12 (mx_aload 0 13))))) (mx_node 23 (mx_node 17 (mx_node 16 (mx_leaf 13 (mx_getf 11 6 16)) (mx_leaf 16 (mx_aload 1 17))) (mx_node 20 (mx_leaf 17 (mx_getf 5 3 20)) (mx_leaf 20 (mx_callv 25 2 4 23)))) (mx_node 27 (mx_node 24 (mx_leaf 23 (mx_aload 0 24)) (mx_leaf 24 (mx_getf 11 6 27))) (mx_node 28 (mx_leaf 27 (mx_aload 1 28)) (mx_node 31 (mx_leaf 28 (mx_getf 5 2 31)) (mx_leaf 31 (mx_iload 2 32))))))) (mx_node 44 (mx_node 40 (mx_node 36 (mx_node 35 (mx_leaf 32 (mx_callv 26 3 4 35)) (mx_leaf 35 (mx_istore 3 36))) (mx_node 37 (mx_leaf 36 (mx_iload 3 37)) (mx_leaf 37 (mx_if_ge 42 40)))) (mx_node 42 (mx_node 41 (mx_leaf 40 (mx_const (.int 2) 41)) (mx_leaf 41 (mx_iret))) (mx_node 43 (mx_leaf 42 (mx_aload 1 43)) (mx_leaf 43 (mx_iload 3 44))))) (mx_node 52 (mx_node 48 (mx_node 47 (mx_leaf 44 (mx_putf 1 5 2 (.int) 47)) (mx_leaf 47 (mx_aload 1 48))) (mx_node 49 (mx_leaf 48 (mx_dup 49)) (mx_leaf 49 (mx_getf 5 4 52)))) (mx_node 54 (mx_node 53 (mx_leaf 52 (mx_const (.int 1) 53)) (mx_leaf 53 (mx_iadd 54))) (mx_node 57 (mx_leaf 54 (mx_putf 1 5 4 (.int) 57)) (mx_node 58 (mx_leaf 57 (mx_const (.int 0) 58)) (mx_leaf 58 (mx_iret))))))))
set_option maxRecDepth 100000 in
noncomputable def tb_141 : Nat → mx_O := (mx_node 55 (mx_node 27 (mx_node 13 (mx_node 6 (mx_node 2 (mx_node 1 (mx_leaf 0 (mx_iload 2 1)) (mx_leaf 1 (mx_const (.int 1) 2))) (mx_node 5 (mx_leaf 2 (mx_icmp_lt 21 5)) (mx_leaf 5 (mx_iload 2 6)))) (mx_node 11 (mx_node 8 (mx_leaf 6 (mx_const (.int 18) 8)) (mx_leaf 8 (mx_icmp_gt 21 11))) (mx_node 12 (mx_leaf 11 (mx_iload 3 12)) (mx_leaf 12 (mx_const (.int 1) 13))))) (mx_node 21 (mx_node 17 (mx_node 16 (mx_leaf 13 (mx_icmp_lt 21 16)) (mx_leaf 16 (mx_iload 3 17))) (mx_node 18 (mx_leaf 17 (mx_iload 2 18)) (mx_leaf 18 (mx_icmp_lt 23 21)))) (mx_node 23 (mx_node 22 (mx_leaf 21 (mx_const (.int 1) 22)) (mx_leaf 22 (mx_iret))) (mx_node 24 (mx_leaf 23 (mx_aload 0 24)) (mx_leaf 24 (mx_getf 11 5 27)))))) (mx_node 43 (mx_node 35 (mx_node 31 (mx_node 28 (mx_leaf 27 (mx_aload 1 28)) (mx_leaf 28 (mx_getf 5 2 31))) (mx_node 32 (mx_leaf 31 (mx_aload 0 32)) (mx_leaf 32 (mx_getf 11 15 35)))) (mx_node 39 (mx_node 38 (mx_leaf 35 (mx_callv 8 3 0 38)) (mx_leaf 38 (mx_aload 0 39))) (mx_node 42 (mx_leaf 39 (mx_getf 11 15 42)) (mx_leaf 42 (mx_iload 2 43))))) (mx_node 49 (mx_node 45 (mx_node 44 (mx_leaf 43 (mx_iald 44)) (mx_leaf 44 (mx_const (.int 1) 45))) (mx_node 48 (mx_leaf 45 (mx_icmp_ge 50 48)) (mx_leaf 48 (mx_const (.int 2) 49)))) (mx_node 51 (mx_node 50 (mx_leaf 49 (mx_iret)) (mx_leaf 50 (mx_aload 0 51))) (mx_node 54 (mx_leaf 51 (mx_getf 11 15 54)) (mx_leaf 54 (mx_iload 2 55))))))) (mx_node 75 (mx_node 65 (mx_node 59 (mx_node 57 (mx_node 56 (mx_leaf 55 (mx_dup2 56)) (mx_leaf 56 (mx_iald 57))) (mx_node 58 (mx_leaf 57 (mx_const (.int 1) 58)) (mx_leaf 58 (mx_isub 59)))) (mx_node 61 (mx_node 60 (mx_leaf 59 (mx_iast 1 60)) (mx_leaf 60 (mx_aload 0 61))) (mx_node 64 (mx_leaf 61 (mx_getf 11 15 64)) (mx_leaf 64 (mx_iload 3 65))))) (mx_node 69 (mx_node 67 (mx_node 66 (mx_leaf 65 (mx_dup2 66)) (mx_leaf 66 (mx_iald 67))) (mx_node 68 (mx_leaf 67 (mx_const (.int 1) 68)) (mx_leaf 68 (mx_iadd 69)))) (mx_node 71 (mx_node 70 (mx_leaf 69 (mx_iast 1 70)) (mx_leaf 70 (mx_aload 0 71))) (mx_node 74 (mx_leaf 71 (mx_getf 11 15 74)) (mx_leaf 74 (mx_iload 2 75)))))) (mx_node 83 (mx_node 79 (mx_node 77 (mx_node 76 (mx_leaf 75 (mx_iload 3 76)) (mx_leaf 76 (mx_isub 77))) (mx_node 78 (mx_leaf 77 (mx_dup2 78)) (mx_leaf 78 (mx_iald 79)))) (mx_node 81 (mx_node 80 (mx_leaf 79 (mx_const (.int 1) 80)) (mx_leaf 80 (mx_iadd 81))) (mx_node 82 (mx_leaf 81 (mx_iast 1 82)) (mx_leaf 82 (mx_aload 1 83))))) (mx_node 91 (mx_node 87 (mx_node 84 (mx_leaf 83 (mx_aload 0 84)) (mx_leaf 84 (mx_getf 11 5 87))) (mx_node 88 (mx_leaf 87 (mx_aload 0 88)) (mx_leaf 88 (mx_getf 11 15 91)))) (mx_node 97 (mx_node 94 (mx_leaf 91 (mx_callv 9 2 0 94)) (mx_leaf 94 (mx_putf 1 5 2 (.int) 97))) (mx_node 98 (mx_leaf 97 (mx_const (.int 0) 98)) (mx_leaf 98 (mx_iret))))))))
set_option maxRecDepth 100000 in
noncomputable def tb_142 : Nat → mx_O := (mx_node 58 (mx_node 32 (mx_node 16 (mx_node 6 (mx_node 2 (mx_node 1 (mx_leaf 0 (mx_iload 2 1)) (mx_leaf 1 (mx_const (.int 1) 2))) (mx_node 5 (mx_leaf 2 (mx_icmp_lt 22 5)) (mx_leaf 5 (mx_iload 2 6)))) (mx_node 11 (mx_node 8 (mx_leaf 6 (mx_const (.int 18) 8)) (mx_leaf 8 (mx_icmp_gt 22 11))) (mx_node 12 (mx_leaf 11 (mx_iload 3 12)) (mx_node 13 (mx_leaf 12 (mx_const (.int 1) 13)) (mx_leaf 13 (mx_icmp_lt 22 16)))))) (mx_node 23 (mx_node 19 (mx_node 17 (mx_leaf 16 (mx_iload 3 17)) (mx_leaf 17 (mx_const (.int 18) 19))) (mx_node 22 (mx_leaf 19 (mx_icmp_le 24 22)) (mx_leaf 22 (mx_const (.int 1) 23)))) (mx_node 25 (mx_node 24 (mx_leaf 23 (mx_iret)) (mx_leaf 24 (mx_aload 0 25))) (mx_node 28 (mx_leaf 25 (mx_getf 11 5 28)) (mx_node 29 (mx_leaf 28 (mx_aload 1 29)) (mx_leaf 29 (mx_getf 5 2 32))))))) (mx_node 47 (mx_node 40 (mx_node 36 (mx_node 33 (mx_leaf 32 (mx_aload 0 33)) (mx_leaf 33 (mx_getf 11 15 36))) (mx_node 39 (mx_leaf 36 (mx_callv 8 3 0 39)) (mx_leaf 39 (mx_aload 0 40)))) (mx_node 44 (mx_node 43 (mx_leaf 40 (mx_getf 11 15 43)) (mx_leaf 43 (mx_iload 2 44))) (mx_node 45 (mx_leaf 44 (mx_dup2 45)) (mx_node 46 (mx_leaf 45 (mx_iald 46)) (mx_leaf 46 (mx_const (.int 1) 47)))))) (mx_node 53 (mx_node 49 (mx_node 48 (mx_leaf 47 (mx_isub 48)) (mx_leaf 48 (mx_iast 1 49))) (mx_node 50 (mx_leaf 49 (mx_aload 0 50)) (mx_leaf 50 (mx_getf 11 15 53)))) (mx_node 55 (mx_node 54 (mx_leaf 53 (mx_iload 3 54)) (mx_leaf 54 (mx_dup2 55))) (mx_node 56 (mx_leaf 55 (mx_iald 56)) (mx_node 57 (mx_leaf 56 (mx_const (.int 1) 57)) (mx_leaf 57 (mx_isub 58)))))))) (mx_node 87 (mx_node 73 (mx_node 64 (mx_node 60 (mx_node 59 (mx_leaf 58 (mx_iast 1 59)) (mx_leaf 59 (mx_aload 0 60))) (mx_node 63 (mx_leaf 60 (mx_getf 11 15 63)) (mx_leaf 63 (mx_iload 2 64)))) (mx_node 68 (mx_node 65 (mx_leaf 64 (mx_iald 65)) (mx_leaf 65 (mx_if_lt 85 68))) (mx_node 69 (mx_leaf 68 (mx_aload 0 69)) (mx_node 72 (mx_leaf 69 (mx_getf 11 15 72)) (mx_leaf 72 (mx_iload 3 73)))))) (mx_node 79 (mx_node 77 (mx_node 74 (mx_leaf 73 (mx_iald 74)) (mx_leaf 74 (mx_if_lt 85 77))) (mx_node 78 (mx_leaf 77 (mx_iload 2 78)) (mx_leaf 78 (mx_iload 3 79)))) (mx_node 82 (mx_node 80 (mx_leaf 79 (mx_iadd 80)) (mx_leaf 80 (mx_const (.int 18) 82))) (mx_node 85 (mx_leaf 82 (mx_icmp_le 87 85)) (mx_node 86 (mx_leaf 85 (mx_const (.int 2) 86)) (mx_leaf 86 (mx_iret))))))) (mx_node 98 (mx_node 93 (mx_node 91 (mx_node 88 (mx_leaf 87 (mx_aload 0 88)) (mx_leaf 88 (mx_getf 11 15 91))) (mx_node 92 (mx_leaf 91 (mx_iload 2 92)) (mx_leaf 92 (mx_iload 3 93)))) (mx_node 95 (mx_node 94 (mx_leaf 93 (mx_iadd 94)) (mx_leaf 94 (mx_dup2 95))) (mx_node 96 (mx_leaf 95 (mx_iald 96)) (mx_node 97 (mx_leaf 96 (mx_const (.int 1) 97)) (mx_leaf 97 (mx_iadd 98)))))) (mx_node 105 (mx_node 100 (mx_node 99 (mx_leaf 98 (mx_iast 1 99)) (mx_leaf 99 (mx_aload 1 100))) (mx_node 101 (mx_leaf 100 (mx_aload 0 101)) (mx_node 104 (mx_leaf 101 (mx_getf 11 5 104)) (mx_leaf 104 (mx_aload 0 105))))) (mx_node 111 (mx_node 108 (mx_leaf 105 (mx_getf 11 15 108)) (mx_leaf 108 (mx_callv 9 2 0 111))) (mx_node 114 (mx_leaf 111 (mx_putf 1 5 2 (.int) 114)) (mx_node 115 (mx_leaf 114 (mx_const (.int 0) 115)) (mx_leaf 115 (mx_iret)))))))))
set_option maxRecDepth 100000 in
noncomputable def tb_143 : Nat → mx_O := (mx_node 11 (mx_node 5 (mx_node 1 (mx_leaf 0 (mx_iload 2 1)) (mx_node 4 (mx_leaf 1 (mx_if_lt 10 4)) (mx_leaf 4 (mx_iload 2 5)))) (mx_node 7 (mx_leaf 5 (mx_const (.int 10) 7)) (mx_node 10 (mx_leaf 7 (mx_icmp_lt 12 10)) (mx_leaf 10 (mx_const (.int 1) 11))))) (mx_node 14 (mx_node 12 (mx_leaf 11 (mx_iret)) (mx_node 13 (mx_leaf 12 (mx_aload 1 13)) (mx_leaf 13 (mx_iload 2 14)))) (mx_node 17 (mx_leaf 14 (mx_putf 1 5 3 (.int) 17)) (mx_node 18 (mx_leaf 17 (mx_const (.int 0) 18)) (mx_leaf 18 (mx_iret))))))
set_option maxRecDepth 100000 in
noncomputable def tb_144 : Nat → mx_O := (mx_node 6 (mx_node 4 (mx_node 1 (mx_leaf 0 (mx_iload 1 1)) (mx_leaf 1 (mx_if_lt 9 4))) (mx_node 5 (mx_leaf 4 (mx_iload 1 5)) (mx_leaf 5 (mx_const (.int 4) 6)))) (mx_node 10 (mx_node 9 (mx_leaf 6 (mx_icmp_lt 13 9)) (mx_leaf 9 (mx_const (.int 1) 10))) (mx_node 13 (mx_leaf 10 (mx_goto 14)) (mx_node 14 (mx_leaf 13 (mx_const (.int 0) 14)) (mx_leaf 14 (mx_zret))))))
set_option maxRecDepth 100000 in
noncomputable def tb_145 : Nat → mx_O := (mx_node 69 (mx_node 33 (mx_node 16 (mx_node 8 (mx_node 2 (mx_node 1 (mx_leaf 0 (mx_aload 0 1)) (mx_leaf 1 (mx_iload 1 2))) (mx_node 5 (mx_leaf 2 (mx_callv 144 2 11 5)) (mx_leaf 5 (mx_if_eq 11 8)))) (mx_node 11 (mx_node 10 (mx_leaf 8 (mx_const (.int (-2)) 10)) (mx_leaf 10 (mx_iret))) (mx_node 12 (mx_leaf 11 (mx_aload 0 12)) (mx_node 15 (mx_leaf 12 (mx_getf 11 10 15)) (mx_leaf 15 (mx_iload 1 16)))))) (mx_node 25 (mx_node 18 (mx_node 17 (mx_leaf 16 (mx_aald 17)) (mx_leaf 17 (mx_astore 2 18))) (mx_node 19 (mx_leaf 18 (mx_aload 2 19)) (mx_node 22 (mx_leaf 19 (mx_getf 10 3 22)) (mx_leaf 22 (mx_if_eq 28 25))))) (mx_node 28 (mx_node 27 (mx_leaf 25 (mx_const (.int (-6)) 27)) (mx_leaf 27 (mx_iret))) (mx_node 29 (mx_leaf 28 (mx_aload 2 29)) (mx_node 32 (mx_leaf 29 (mx_getf 10 2 32)) (mx_leaf 32 (mx_const (.int 1) 33))))))) (mx_node 50 (mx_node 42 (mx_node 37 (mx_node 36 (mx_leaf 33 (mx_icmp_lt 45 36)) (mx_leaf 36 (mx_aload 2 37))) (mx_node 40 (mx_leaf 37 (mx_getf 10 2 40)) (mx_leaf 40 (mx_const (.int 18) 42)))) (mx_node 47 (mx_node 45 (mx_leaf 42 (mx_icmp_le 48 45)) (mx_leaf 45 (mx_const (.int (-4)) 47))) (mx_node 48 (mx_leaf 47 (mx_iret)) (mx_node 49 (mx_leaf 48 (mx_aload 2 49)) (mx_leaf 49 (mx_const (.long 1) 50)))))) (mx_node 62 (mx_node 56 (mx_node 53 (mx_leaf 50 (mx_const (.long 18) 53)) (mx_leaf 53 (mx_callv 86 3 10 56))) (mx_node 59 (mx_leaf 56 (mx_if_ne 62 59)) (mx_node 61 (mx_leaf 59 (mx_const (.int (-3)) 61)) (mx_leaf 61 (mx_iret))))) (mx_node 64 (mx_node 63 (mx_leaf 62 (mx_const (.int 0) 63)) (mx_leaf 63 (mx_istore 3 64))) (mx_node 65 (mx_leaf 64 (mx_aload 0 65)) (mx_node 68 (mx_leaf 65 (mx_getf 11 15 68)) (mx_leaf 68 (mx_const (.int 0) 69)))))))) (mx_node 103 (mx_node 87 (mx_node 77 (mx_node 73 (mx_node 72 (mx_leaf 69 (mx_calls 284 2 72)) (mx_leaf 72 (mx_const (.int 0) 73))) (mx_node 75 (mx_leaf 73 (mx_istore 4 75)) (mx_leaf 75 (mx_iload 4 77)))) (mx_node 81 (mx_node 78 (mx_leaf 77 (mx_aload 2 78)) (mx_leaf 78 (mx_getf 10 2 81))) (mx_node 84 (mx_leaf 81 (mx_icmp_ge 115 84)) (mx_node 85 (mx_leaf 84 (mx_aload 2 85)) (mx_leaf 85 (mx_iload 4 87)))))) (mx_node 97 (mx_node 91 (mx_node 90 (mx_leaf 87 (mx_callv 85 2 10 90)) (mx_leaf 90 (mx_l2i 91))) (mx_node 93 (mx_leaf 91 (mx_istore 5 93)) (mx_node 94 (mx_leaf 93 (mx_aload 0 94)) (mx_leaf 94 (mx_getf 11 15 97))))) (mx_node 100 (mx_node 99 (mx_leaf 97 (mx_iload 5 99)) (mx_leaf 99 (mx_dup2 100))) (mx_node 101 (mx_leaf 100 (mx_iald 101)) (mx_node 102 (mx_leaf 101 (mx_const (.int 1) 102)) (mx_leaf 102 (mx_iadd 103))))))) (mx_node 120 (mx_node 109 (mx_node 105 (mx_node 104 (mx_leaf 103 (mx_iast 1 104)) (mx_leaf 104 (mx_iload 3 105))) (mx_node 107 (mx_leaf 105 (mx_iload 5 107)) (mx_node 108 (mx_leaf 107 (mx_iadd 108)) (mx_leaf 108 (mx_istore 3 109))))) (mx_node 115 (mx_node 112 (mx_leaf 109 (mx_iinc 4 1 112)) (mx_leaf 112 (mx_goto 75))) (mx_node 116 (mx_leaf 115 (mx_iload 3 116)) (mx_node 117 (mx_leaf 116 (mx_aload 0 117)) (mx_leaf 117 (mx_getf 11 12 120)))))) (mx_node 131 (mx_node 126 (mx_node 123 (mx_leaf 120 (mx_getf 5 1 123)) (mx_leaf 123 (mx_icmp_ne 140 126))) (mx_node 127 (mx_leaf 126 (mx_aload 0 127)) (mx_node 130 (mx_leaf 127 (mx_getf 11 5 130)) (mx_leaf 130 (mx_aload 0 131))))) (mx_node 137 (mx_node 134 (mx_leaf 131 (mx_getf 11 15 134)) (mx_leaf 134 (mx_callv 9 2 0 137))) (mx_node 140 (mx_leaf 137 (mx_goto 142)) (mx_node 142 (mx_leaf 140 (mx_const (.int (-5)) 142)) (mx_leaf 142 (mx_iret)))))))))
set_option maxRecDepth 100000 in
noncomputable def tb_146 : Nat → mx_O := (mx_node 41 (mx_node 17 (mx_node 10 (mx_node 2 (mx_node 1 (mx_leaf 0 (mx_aload 0 1)) (mx_leaf 1 (mx_iload 1 2))) (mx_node 5 (mx_leaf 2 (mx_callv 144 2 11 5)) (mx_node 8 (mx_leaf 5 (mx_if_eq 11 8)) (mx_leaf 8 (mx_const (.int (-2)) 10))))) (mx_node 12 (mx_node 11 (mx_leaf 10 (mx_iret)) (mx_leaf 11 (mx_aload 0 12))) (mx_node 15 (mx_leaf 12 (mx_getf 11 10 15)) (mx_node 16 (mx_leaf 15 (mx_iload 1 16)) (mx_leaf 16 (mx_aald 17)))))) (mx_node 29 (mx_node 21 (mx_node 19 (mx_leaf 17 (mx_astore 4 19)) (mx_leaf 19 (mx_aload 4 21))) (mx_node 24 (mx_leaf 21 (mx_getf 10 3 24)) (mx_node 27 (mx_leaf 24 (mx_if_eq 30 27)) (mx_leaf 27 (mx_const (.int (-6)) 29))))) (mx_node 35 (mx_node 30 (mx_leaf 29 (mx_iret)) (mx_node 32 (mx_leaf 30 (mx_aload 4 32)) (mx_leaf 32 (mx_getf 10 2 35)))) (mx_node 36 (mx_leaf 35 (mx_const (.int 1) 36)) (mx_node 39 (mx_leaf 36 (mx_icmp_lt 49 39)) (mx_leaf 39 (mx_aload 4 41))))))) (mx_node 60 (mx_node 52 (mx_node 46 (mx_node 44 (mx_leaf 41 (mx_getf 10 2 44)) (mx_leaf 44 (mx_const (.int 8) 46))) (mx_node 49 (mx_leaf 46 (mx_icmp_le 52 49)) (mx_node 51 (mx_leaf 49 (mx_const (.int (-4)) 51)) (mx_leaf 51 (mx_iret))))) (mx_node 56 (mx_node 53 (mx_leaf 52 (mx_iload 3 53)) (mx_leaf 53 (mx_if_lt 78 56))) (mx_node 58 (mx_leaf 56 (mx_aload 4 58)) (mx_node 59 (mx_leaf 58 (mx_iload 2 59)) (mx_leaf 59 (mx_i2l 60)))))) (mx_node 72 (mx_node 66 (mx_node 63 (mx_leaf 60 (mx_const (.long 18) 63)) (mx_leaf 63 (mx_callv 86 3 10 66))) (mx_node 69 (mx_leaf 66 (mx_if_eq 78 69)) (mx_node 71 (mx_leaf 69 (mx_aload 4 71)) (mx_leaf 71 (mx_const (.long 0) 72))))) (mx_node 80 (mx_node 75 (mx_leaf 72 (mx_callv 87 2 10 75)) (mx_node 78 (mx_leaf 75 (mx_if_eq 81 78)) (mx_leaf 78 (mx_const (.int (-3)) 80)))) (mx_node 81 (mx_leaf 80 (mx_iret)) (mx_node 82 (mx_leaf 81 (mx_const (.int 0) 82)) (mx_leaf 82 (mx_iret))))))))
set_option maxRecDepth 100000 in
noncomputable def tb_147 : Nat → mx_O := (mx_node 21 (mx_node 11 (mx_node 4 (mx_node 1 (mx_leaf 0 (mx_aload 0 1)) (mx_leaf 1 (mx_getf 11 9 4))) (mx_node 5 (mx_leaf 4 (mx_aload 0 5)) (mx_node 8 (mx_leaf 5 (mx_getf 11 12 8)) (mx_leaf 8 (mx_getf 5 2 11))))) (mx_node 16 (mx_node 14 (mx_leaf 11 (mx_callv 71 2 9 14)) (mx_node 15 (mx_leaf 14 (mx_const (.int 0) 15)) (mx_leaf 15 (mx_istore 2 16)))) (mx_node 17 (mx_leaf 16 (mx_iload 2 17)) (mx_node 18 (mx_leaf 17 (mx_aload 1 18)) (mx_leaf 18 (mx_getf 10 2 21)))))) (mx_node 31 (mx_node 28 (mx_node 24 (mx_leaf 21 (mx_icmp_ge 44 24)) (mx_node 25 (mx_leaf 24 (mx_aload 0 25)) (mx_leaf 25 (mx_getf 11 9 28)))) (mx_node 29 (mx_leaf 28 (mx_iload 2 29)) (mx_node 30 (mx_leaf 29 (mx_aload 1 30)) (mx_leaf 30 (mx_iload 2 31))))) (mx_node 38 (mx_node 34 (mx_leaf 31 (mx_callv 85 2 10 34)) (mx_node 35 (mx_leaf 34 (mx_l2i 35)) (mx_leaf 35 (mx_callv 73 3 9 38)))) (mx_node 41 (mx_leaf 38 (mx_iinc 2 1 41)) (mx_node 44 (mx_leaf 41 (mx_goto 16)) (mx_leaf 44 (mx_vret)))))))
set_option maxRecDepth 100000 in
noncomputable def tb_148 : Nat → mx_O := (mx_node 17 (mx_node 8 (mx_node 4 (mx_node 1 (mx_leaf 0 (mx_aload 0 1)) (mx_leaf 1 (mx_getf 11 9 4))) (mx_node 5 (mx_leaf 4 (mx_aload 0 5)) (mx_leaf 5 (mx_getf 11 12 8)))) (mx_node 14 (mx_node 11 (mx_leaf 8 (mx_getf 5 2 11)) (mx_leaf 11 (mx_callv 71 2 9 14))) (mx_node 15 (mx_leaf 14 (mx_const (.int 0) 15)) (mx_node 16 (mx_leaf 15 (mx_istore 2 16)) (mx_leaf 16 (mx_iload 2 17)))))) (mx_node 25 (mx_node 21 (mx_node 18 (mx_leaf 17 (mx_iload 1 18)) (mx_leaf 18 (mx_icmp_ge 35 21))) (mx_node 22 (mx_leaf 21 (mx_aload 0 22)) (mx_leaf 22 (mx_getf 11 9 25)))) (mx_node 29 (mx_node 26 (mx_leaf 25 (mx_iload 2 26)) (mx_leaf 26 (mx_callv 74 2 9 29))) (mx_node 32 (mx_leaf 29 (mx_iinc 2 1 32)) (mx_node 35 (mx_leaf 32 (mx_goto 16)) (mx_leaf 35 (mx_vret)))))))
set_option maxRecDepth 100000 in
noncomputable def tb_149 : Nat → mx_O := (mx_node 31 (mx_node 14 (mx_node 4 (mx_node 2 (mx_node 1 (mx_leaf 0 (mx_const (.int 0) 1)) (mx_leaf 1 (mx_istore 2 2))) (mx_node 3 (mx_leaf 2 (mx_const (.int 0) 3)) (mx_leaf 3 (mx_istore 3 4)))) (mx_node 7 (mx_node 5 (mx_leaf 4 (mx_iload 3 5)) (mx_leaf 5 (mx_const (.int 10) 7))) (mx_node 10 (mx_leaf 7 (mx_icmp_ge 49 10)) (mx_node 11 (mx_leaf 10 (mx_aload 0 11)) (mx_leaf 11 (mx_getf 11 6 14)))))) (mx_node 20 (mx_node 18 (mx_node 15 (mx_leaf 14 (mx_iload 3 15)) (mx_leaf 15 (mx_callv 25 2 4 18))) (mx_node 19 (mx_leaf 18 (mx_aload 0 19)) (mx_leaf 19 (mx_aload 1 20)))) (mx_node 25 (mx_node 23 (mx_leaf 20 (mx_callv 150 2 11 23)) (mx_leaf 23 (mx_istore 4 25))) (mx_node 27 (mx_leaf 25 (mx_iload 4 27)) (mx_node 30 (mx_leaf 27 (mx_if_lt 43 30)) (mx_leaf 30 (mx_iload 2 31))))))) (mx_node 43 (mx_node 35 (mx_node 33 (mx_node 32 (mx_leaf 31 (mx_const (.int 1) 32)) (mx_leaf 32 (mx_iload 3 33))) (mx_node 34 (mx_leaf 33 (mx_ishl 34)) (mx_leaf 34 (mx_ior 35)))) (mx_node 37 (mx_node 36 (mx_leaf 35 (mx_istore 2 36)) (mx_leaf 36 (mx_aload 0 37))) (mx_node 38 (mx_leaf 37 (mx_iload 3 38)) (mx_node 40 (mx_leaf 38 (mx_iload 4 40)) (mx_leaf 40 (mx_callv 151 3 11 43)))))) (mx_node 54 (mx_node 49 (mx_node 46 (mx_leaf 43 (mx_iinc 3 1 46)) (mx_leaf 46 (mx_goto 4))) (mx_node 50 (mx_leaf 49 (mx_aload 0 50)) (mx_node 53 (mx_leaf 50 (mx_getf 11 6 53)) (mx_leaf 53 (mx_aload 0 54))))) (mx_node 60 (mx_node 57 (mx_leaf 54 (mx_getf 11 12 57)) (mx_leaf 57 (mx_getf 5 3 60))) (mx_node 63 (mx_leaf 60 (mx_callv 25 2 4 63)) (mx_node 64 (mx_leaf 63 (mx_iload 2 64)) (mx_leaf 64 (mx_iret))))))))
set_option maxRecDepth 100000 in
noncomputable def tb_150 : Nat → mx_O := (mx_node 28 (mx_node 12 (mx_node 8 (mx_node 4 (mx_node 1 (mx_leaf 0 (mx_aload 0 1)) (mx_leaf 1 (mx_getf 11 12 4))) (mx_node 7 (mx_leaf 4 (mx_getf 5 2 7)) (mx_leaf 7 (mx_istore 2 8)))) (mx_node 10 (mx_node 9 (mx_leaf 8 (mx_const (.int 0) 9)) (mx_leaf 9 (mx_istore 3 10))) (mx_node 11 (mx_leaf 10 (mx_iload 3 11)) (mx_leaf 11 (mx_aload 1 12))))) (mx_node 22 (mx_node 18 (mx_node 15 (mx_leaf 12 (mx_getf 10 2 15)) (mx_leaf 15 (mx_icmp_ge 54 18))) (mx_node 19 (mx_leaf 18 (mx_aload 0 19)) (mx_leaf 19 (mx_getf 11 6 22)))) (mx_node 24 (mx_node 23 (mx_leaf 22 (mx_iload 2 23)) (mx_leaf 23 (mx_const (.int 0) 24))) (mx_node 27 (mx_leaf 24 (mx_callv 26 3 4 27)) (mx_leaf 27 (mx_istore 2 28)))))) (mx_node 42 (mx_node 36 (mx_node 32 (mx_node 29 (mx_leaf 28 (mx_aload 0 29)) (mx_leaf 29 (mx_getf 11 5 32))) (mx_node 33 (mx_leaf 32 (mx_iload 2 33)) (mx_leaf 33 (mx_callv 5 2 0 36)))) (mx_node 38 (mx_node 37 (mx_leaf 36 (mx_i2l 37)) (mx_leaf 37 (mx_aload 1 38))) (mx_node 39 (mx_leaf 38 (mx_iload 3 39)) (mx_leaf 39 (mx_callv 85 2 10 42))))) (mx_node 48 (mx_node 46 (mx_node 43 (mx_leaf 42 (mx_lif_eq 48 46)) (mx_leaf 43 (mx_if_eq 48 46))) (mx_node 47 (mx_leaf 46 (mx_const (.int (-1)) 47)) (mx_leaf 47 (mx_iret)))) (mx_node 54 (mx_node 51 (mx_leaf 48 (mx_iinc 3 1 51)) (mx_leaf 51 (mx_goto 10))) (mx_node 55 (mx_leaf 54 (mx_iload 2 55)) (mx_leaf 55 (mx_iret)))))))
set_option maxRecDepth 100000 in
noncomputable def tb_151 : Nat → mx_O := (mx_node 26 (mx_node 12 (mx_node 3 (mx_node 1 (mx_leaf 0 (mx_const (.int 0) 1)) (mx_node 2 (mx_leaf 1 (mx_istore 3 2)) (mx_leaf 2 (mx_iload 3 3)))) (mx_node 8 (mx_node 5 (mx_leaf 3 (mx_const (.int 18) 5)) (mx_leaf 5 (mx_icmp_gt 54 8))) (mx_node 9 (mx_leaf 8 (mx_aload 0 9)) (mx_leaf 9 (mx_getf 11 6 12))))) (mx_node 19 (mx_node 14 (mx_node 13 (mx_leaf 12 (mx_iload 2 13)) (mx_leaf 13 (mx_iload 3 14))) (mx_node 17 (mx_leaf 14 (mx_callv 26 3 4 17)) (mx_leaf 17 (mx_istore 4 19)))) (mx_node 23 (mx_node 20 (mx_leaf 19 (mx_aload 0 20)) (mx_leaf 20 (mx_getf 11 16 23))) (mx_node 24 (mx_leaf 23 (mx_iload 1 24)) (mx_leaf 24 (mx_const (.int 19) 26)))))) (mx_node 38 (mx_node 29 (mx_node 27 (mx_leaf 26 (mx_imul 27)) (mx_node 28 (mx_leaf 27 (mx_iload 3 28)) (mx_leaf 28 (mx_iadd 29)))) (mx_node 34 (mx_node 31 (mx_leaf 29 (mx_iload 4 31)) (mx_leaf 31 (mx_if_ge 38 34))) (mx_node 35 (mx_leaf 34 (mx_const (.int 0) 35)) (mx_leaf 35 (mx_goto 47))))) (mx_node 47 (mx_node 42 (mx_node 39 (mx_leaf 38 (mx_aload 0 39)) (mx_leaf 39 (mx_getf 11 5 42))) (mx_node 44 (mx_leaf 42 (mx_iload 4 44)) (mx_leaf 44 (mx_callv 5 2 0 47)))) (mx_node 51 (mx_node 48 (mx_leaf 47 (mx_iast 1 48)) (mx_leaf 48 (mx_iinc 3 1 51))) (mx_node 54 (mx_leaf 51 (mx_goto 2)) (mx_leaf 54 (mx_vret)))))))
set_option maxRecDepth 100000 in
noncomputable def tb_152 : Nat → mx_O := (mx_node 38 (mx_node 20 (mx_node 9 (mx_node 4 (mx_node 1 (mx_leaf 0 (mx_aload 0 1)) (mx_leaf 1 (mx_getf 11 15 4))) (mx_node 5 (mx_leaf 4 (mx_const (.int 0) 5)) (mx_node 8 (mx_leaf 5 (mx_calls 284 2 8)) (mx_leaf 8 (mx_const (.int 0) 9))))) (mx_node 13 (mx_node 10 (mx_leaf 9 (mx_istore 3 10)) (mx_node 11 (mx_leaf 10 (mx_const (.int 0) 11)) (mx_leaf 11 (mx_istore 4 13)))) (mx_node 15 (mx_leaf 13 (mx_iload 4 15)) (mx_node 17 (mx_leaf 15 (mx_const (.int 10) 17)) (mx_leaf 17 (mx_icmp_ge 72 20)))))) (mx_node 26 (mx_node 23 (mx_node 21 (mx_leaf 20 (mx_iload 1 21)) (mx_leaf 21 (mx_iload 4 23))) (mx_node 24 (mx_leaf 23 (mx_ishr 24)) (mx_node 25 (mx_leaf 24 (mx_const (.int 1) 25)) (mx_leaf 25 (mx_iand 26))))) (mx_node 33 (mx_node 29 (mx_leaf 26 (mx_if_eq 66 29)) (mx_node 30 (mx_leaf 29 (mx_aload 0 30)) (mx_leaf 30 (mx_getf 11 16 33)))) (mx_node 35 (mx_leaf 33 (mx_iload 4 35)) (mx_node 37 (mx_leaf 35 (mx_const (.int 19) 37)) (mx_leaf 37 (mx_imul 38))))))) (mx_node 53 (mx_node 44 (mx_node 40 (mx_node 39 (mx_leaf 38 (mx_iload 2 39)) (mx_leaf 39 (mx_iadd 40))) (mx_node 41 (mx_leaf 40 (mx_iald 41)) (mx_node 43 (mx_leaf 41 (mx_istore 5 43)) (mx_leaf 43 (mx_aload 0 44))))) (mx_node 50 (mx_node 47 (mx_leaf 44 (mx_getf 11 15 47)) (mx_node 49 (mx_leaf 47 (mx_iload 5 49)) (mx_leaf 49 (mx_dup2 50)))) (mx_node 51 (mx_leaf 50 (mx_iald 51)) (mx_node 52 (mx_leaf 51 (mx_const (.int 1) 52)) (mx_leaf 52 (mx_iadd 53)))))) (mx_node 62 (mx_node 56 (mx_node 54 (mx_leaf 53 (mx_iast 1 54)) (mx_node 55 (mx_leaf 54 (mx_iload 3 55)) (mx_leaf 55 (mx_aload 0 56)))) (mx_node 59 (mx_leaf 56 (mx_getf 11 15 59)) (mx_node 61 (mx_leaf 59 (mx_iload 5 61)) (mx_leaf 61 (mx_iald 62))))) (mx_node 69 (mx_node 65 (mx_leaf 62 (mx_mmax 65)) (mx_node 66 (mx_leaf 65 (mx_istore 3 66)) (mx_leaf 66 (mx_iinc 4 1 69)))) (mx_node 72 (mx_leaf 69 (mx_goto 13)) (mx_node 73 (mx_leaf 72 (mx_iload 3 73)) (mx_leaf 73 (mx_iret))))))))
set_option maxRecDepth 100000 in
noncomputable def tb_153 : Nat → mx_O := (mx_node 47 (mx_node 23 (mx_node 9 (mx_node 4 (mx_node 1 (mx_leaf 0 (mx_const (.long 1) 1)) (mx_node 3 (mx_leaf 1 (mx_lstore 4 3)) (mx_leaf 3 (mx_const (.int 0) 4)))) (mx_node 6 (mx_leaf 4 (mx_istore 6 6)) (mx_node 8 (mx_leaf 6 (mx_iload 6 8)) (mx_leaf 8 (mx_iload 2 9))))) (mx_node 17 (mx_node 12 (mx_leaf 9 (mx_icmp_ge 26 12)) (mx_node 14 (mx_leaf 12 (mx_lload 4 14)) (mx_leaf 14 (mx_const (.long 10) 17)))) (mx_node 18 (mx_leaf 17 (mx_lmul 18)) (mx_node 20 (mx_leaf 18 (mx_lstore 4 20)) (mx_leaf 20 (mx_iinc 6 1 23)))))) (mx_node 34 (mx_node 30 (mx_node 26 (mx_leaf 23 (mx_goto 6)) (mx_node 28 (mx_leaf 26 (mx_lload 4 28)) (mx_leaf 28 (mx_lstore 6 30)))) (mx_node 31 (mx_leaf 30 (mx_lload 0 31)) (mx_node 33 (mx_leaf 31 (mx_lstore 8 33)) (mx_leaf 33 (mx_const (.int 0) 34))))) (mx_node 40 (mx_node 36 (mx_leaf 34 (mx_istore 10 36)) (mx_node 38 (mx_leaf 36 (mx_iload 10 38)) (mx_leaf 38 (mx_const (.int 100) 40)))) (mx_node 45 (mx_node 43 (mx_leaf 40 (mx_icmp_ge 71 43)) (mx_leaf 43 (mx_lload 8 45))) (mx_node 46 (mx_leaf 45 (mx_const (.long 0) 46)) (mx_leaf 46 (mx_lif_eq 71 50))))))) (mx_node 74 (mx_node 59 (mx_node 54 (mx_node 50 (mx_leaf 47 (mx_if_eq 71 50)) (mx_node 52 (mx_leaf 50 (mx_lload 6 52)) (mx_leaf 52 (mx_lload 8 54)))) (mx_node 55 (mx_leaf 54 (mx_lrem 55)) (mx_node 57 (mx_leaf 55 (mx_lstore 11 57)) (mx_leaf 57 (mx_lload 8 59))))) (mx_node 65 (mx_node 61 (mx_leaf 59 (mx_lstore 6 61)) (mx_node 63 (mx_leaf 61 (mx_lload 11 63)) (mx_leaf 63 (mx_lstore 8 65)))) (mx_node 71 (mx_node 68 (mx_leaf 65 (mx_iinc 10 1 68)) (mx_leaf 68 (mx_goto 36))) (mx_node 73 (mx_leaf 71 (mx_lload 6 73)) (mx_leaf 73 (mx_const (.long 1) 74)))))) (mx_node 84 (mx_node 79 (mx_node 75 (mx_leaf 74 (mx_lif_ge 80 78)) (mx_node 78 (mx_leaf 75 (mx_if_ge 80 78)) (mx_leaf 78 (mx_const (.int 0) 79)))) (mx_node 80 (mx_leaf 79 (mx_iret)) (mx_node 81 (mx_leaf 80 (mx_iload 3 81)) (mx_leaf 81 (mx_if_ne 88 84))))) (mx_node 90 (mx_node 85 (mx_leaf 84 (mx_lload 0 85)) (mx_node 88 (mx_leaf 85 (mx_goto 90)) (mx_leaf 88 (mx_lload 4 90)))) (mx_node 93 (mx_node 92 (mx_leaf 90 (mx_lload 6 92)) (mx_leaf 92 (mx_ldiv 93))) (mx_node 94 (mx_leaf 93 (mx_l2i 94)) (mx_leaf 94 (mx_iret))))))))
set_option maxRecDepth 100000 in
noncomputable def tb_154 : Nat → mx_O := (mx_node 9 (mx_node 3 (mx_node 1 (mx_leaf 0 (mx_lload 0 1)) (mx_node 2 (mx_leaf 1 (mx_lload 2 2)) (mx_leaf 2 (mx_lif_lt 17 6)))) (mx_node 6 (mx_leaf 3 (mx_if_lt 17 6)) (mx_node 7 (mx_leaf 6 (mx_lload 0 7)) (mx_leaf 7 (mx_lload 4 9))))) (mx_node 14 (mx_node 10 (mx_leaf 9 (mx_lif_gt 17 13)) (mx_node 13 (mx_leaf 10 (mx_if_gt 17 13)) (mx_leaf 13 (mx_const (.int 1) 14)))) (mx_node 17 (mx_leaf 14 (mx_goto 18)) (mx_node 18 (mx_leaf 17 (mx_const (.int 0) 18)) (mx_leaf 18 (mx_zret))))))
set_option maxRecDepth 100000 in
noncomputable def tb_155 : Nat → mx_O := (mx_node 142 (mx_node 69 (mx_node 35 (mx_node 15 (mx_node 8 (mx_node 4 (mx_node 1 (mx_leaf 0 (mx_aload 0 1)) (mx_leaf 1 (mx_objinit 4))) (mx_node 5 (mx_leaf 4 (mx_aload 0 5)) (mx_leaf 5 (mx_const (.int 2886) 8)))) (mx_node 13 (mx_node 10 (mx_leaf 8 (mx_newa .int (.int 0) 10)) (mx_leaf 10 (mx_putf 1 12 1 (.array .int) 13))) (mx_node 14 (mx_leaf 13 (mx_aload 0 14)) (mx_leaf 14 (mx_const (.int 2) 15))))) (mx_node 24 (mx_node 20 (mx_node 17 (mx_leaf 15 (mx_newa .boolean (.int 0) 17)) (mx_leaf 17 (mx_putf 1 12 2 (.array .boolean) 20))) (mx_node 21 (mx_leaf 20 (mx_aload 0 21)) (mx_leaf 21 (mx_const (.int 900) 24)))) (mx_node 29 (mx_node 26 (mx_leaf 24 (mx_newa .int (.int 0) 26)) (mx_leaf 26 (mx_putf 1 12 3 (.array .int) 29))) (mx_node 30 (mx_leaf 29 (mx_aload 0 30)) (mx_node 33 (mx_leaf 30 (mx_const (.int 962) 33)) (mx_leaf 33 (mx_newa .int (.int 0) 35))))))) (mx_node 52 (mx_node 43 (mx_node 39 (mx_node 38 (mx_leaf 35 (mx_putf 1 12 4 (.array .int) 38)) (mx_leaf 38 (mx_aload 0 39))) (mx_node 40 (mx_leaf 39 (mx_const (.int (-1)) 40)) (mx_leaf 40 (mx_putf 1 12 14 (.int) 43)))) (mx_node 47 (mx_node 44 (mx_leaf 43 (mx_aload 0 44)) (mx_leaf 44 (mx_const (.int 6930) 47))) (mx_node 49 (mx_leaf 47 (mx_newa .int (.int 0) 49)) (mx_leaf 49 (mx_putf 1 12 15 (.array .int) 52))))) (mx_node 60 (mx_node 55 (mx_node 53 (mx_leaf 52 (mx_aload 0 53)) (mx_leaf 53 (mx_const (.int 20) 55))) (mx_node 57 (mx_leaf 55 (mx_newa .int (.int 0) 57)) (mx_leaf 57 (mx_putf 1 12 16 (.array .int) 60)))) (mx_node 63 (mx_node 61 (mx_leaf 60 (mx_aload 0 61)) (mx_leaf 61 (mx_const (.int 18) 63))) (mx_node 65 (mx_leaf 63 (mx_newa .int (.int 0) 65)) (mx_node 68 (mx_leaf 65 (mx_putf 1 12 17 (.array .int) 68)) (mx_leaf 68 (mx_aload 0 69)))))))) (mx_node 104 (mx_node 85 (mx_node 78 (mx_node 74 (mx_node 72 (mx_leaf 69 (mx_const (.int 900) 72)) (mx_leaf 72 (mx_newa .int (.int 0) 74))) (mx_node 77 (mx_leaf 74 (mx_putf 1 12 19 (.array .int) 77)) (mx_leaf 77 (mx_aload 0 78)))) (mx_node 81 (mx_node 79 (mx_leaf 78 (mx_const (.int 5) 79)) (mx_leaf 79 (mx_newa .int (.int 0) 81))) (mx_node 84 (mx_leaf 81 (mx_putf 1 12 20 (.array .int) 84)) (mx_leaf 84 (mx_aload 0 85))))) (mx_node 92 (mx_node 88 (mx_node 86 (mx_leaf 85 (mx_const (.int 3) 86)) (mx_leaf 86 (mx_newa .int (.int 0) 88))) (mx_node 91 (mx_leaf 88 (mx_putf 1 12 21 (.array .int) 91)) (mx_leaf 91 (mx_aload 0 92)))) (mx_node 97 (mx_node 95 (mx_leaf 92 (mx_const (.int 385) 95)) (mx_leaf 95 (mx_newa .int (.int 0) 97))) (mx_node 100 (mx_leaf 97 (mx_putf 1 12 24 (.array .int) 100)) (mx_node 101 (mx_leaf 100 (mx_aload 0 101)) (mx_leaf 101 (mx_const (.int 385) 104))))))) (mx_node 122 (mx_node 113 (mx_node 109 (mx_node 106 (mx_leaf 104 (mx_newa .int (.int 0) 106)) (mx_leaf 106 (mx_putf 1 12 25 (.array .int) 109))) (mx_node 110 (mx_leaf 109 (mx_aload 0 110)) (mx_leaf 110 (mx_const (.int 386) 113)))) (mx_node 118 (mx_node 115 (mx_leaf 113 (mx_newa .int (.int 0) 115)) (mx_leaf 115 (mx_putf 1 12 26 (.array .int) 118))) (mx_node 119 (mx_leaf 118 (mx_aload 0 119)) (mx_leaf 119 (mx_const (.int 385) 122))))) (mx_node 131 (mx_node 127 (mx_node 124 (mx_leaf 122 (mx_newa .boolean (.int 0) 124)) (mx_leaf 124 (mx_putf 1 12 27 (.array .boolean) 127))) (mx_node 128 (mx_leaf 127 (mx_aload 0 128)) (mx_leaf 128 (mx_const (.int 385) 131)))) (mx_node 136 (mx_node 133 (mx_leaf 131 (mx_newa .boolean (.int 0) 133)) (mx_leaf 133 (mx_putf 1 12 28 (.array .boolean) 136))) (mx_node 137 (mx_leaf 136 (mx_aload 0 137)) (mx_node 140 (mx_leaf 137 (mx_const (.int 385) 140)) (mx_leaf 140 (mx_newa .boolean (.int 0) 142))))))))) (mx_node 213 (mx_node 181 (mx_node 160 (mx_node 151 (mx_node 146 (mx_node 145 (mx_leaf 142 (mx_putf 1 12 29 (.array .boolean) 145)) (mx_leaf 145 (mx_aload 0 146))) (mx_node 149 (mx_leaf 146 (mx_const (.int 7315) 149)) (mx_leaf 149 (mx_newa .int (.int 0) 151)))) (mx_node 155 (mx_node 154 (mx_leaf 151 (mx_putf 1 12 32 (.array .int) 154)) (mx_leaf 154 (mx_aload 0 155))) (mx_node 158 (mx_leaf 155 (mx_const (.int 385) 158)) (mx_leaf 158 (mx_newa .int (.int 0) 160))))) (mx_node 169 (mx_node 164 (mx_node 163 (mx_leaf 160 (mx_putf 1 12 33 (.array .int) 163)) (mx_leaf 163 (mx_aload 0 164))) (mx_node 167 (mx_leaf 164 (mx_const (.int 385) 167)) (mx_leaf 167 (mx_newa .int (.int 0) 169)))) (mx_node 173 (mx_node 172 (mx_leaf 169 (mx_putf 1 12 34 (.array .int) 172)) (mx_leaf 172 (mx_aload 0 173))) (mx_node 176 (mx_leaf 173 (mx_const (.int 385) 176)) (mx_node 178 (mx_leaf 176 (mx_newa .long (.long 0) 178)) (mx_leaf 178 (mx_putf 1 12 35 (.array .long) 181))))))) (mx_node 199 (mx_node 190 (mx_node 185 (mx_node 182 (mx_leaf 181 (mx_aload 0 182)) (mx_leaf 182 (mx_const (.int 385) 185))) (mx_node 187 (mx_leaf 185 (mx_newa .long (.long 0) 187)) (mx_leaf 187 (mx_putf 1 12 36 (.array .long) 190)))) (mx_node 194 (mx_node 191 (mx_leaf 190 (mx_aload 0 191)) (mx_leaf 191 (mx_const (.int 3465) 194))) (mx_node 196 (mx_leaf 194 (mx_newa .long (.long 0) 196)) (mx_leaf 196 (mx_putf 1 12 37 (.array .long) 199))))) (mx_node 207 (mx_node 202 (mx_node 200 (mx_leaf 199 (mx_aload 0 200)) (mx_leaf 200 (mx_const (.int 19) 202))) (mx_node 204 (mx_leaf 202 (mx_newa .int (.int 0) 204)) (mx_leaf 204 (mx_putf 1 12 38 (.array .int) 207)))) (mx_node 209 (mx_node 208 (mx_leaf 207 (mx_aload 0 208)) (mx_leaf 208 (mx_const (.int 4) 209))) (mx_node 211 (mx_leaf 209 (mx_newa .int (.int 0) 211)) (mx_node 212 (mx_leaf 211 (mx_dup 212)) (mx_leaf 212 (mx_const (.int 0) 213)))))))) (mx_node 232 (mx_node 221 (mx_node 217 (mx_node 215 (mx_node 214 (mx_leaf 213 (mx_const (.int (-1)) 214)) (mx_leaf 214 (mx_iast 1 215))) (mx_node 216 (mx_leaf 215 (mx_dup 216)) (mx_leaf 216 (mx_const (.int 1) 217)))) (mx_node 219 (mx_node 218 (mx_leaf 217 (mx_const (.int (-1)) 218)) (mx_leaf 218 (mx_iast 1 219))) (mx_node 220 (mx_leaf 219 (mx_dup 220)) (mx_leaf 220 (mx_const (.int 2) 221))))) (mx_node 225 (mx_node 223 (mx_node 222 (mx_leaf 221 (mx_const (.int (-1)) 222)) (mx_leaf 222 (mx_iast 1 223))) (mx_node 224 (mx_leaf 223 (mx_dup 224)) (mx_leaf 224 (mx_const (.int 3) 225)))) (mx_node 227 (mx_node 226 (mx_leaf 225 (mx_const (.int (-1)) 226)) (mx_leaf 226 (mx_iast 1 227))) (mx_node 230 (mx_leaf 227 (mx_putf 1 12 39 (.array .int) 230)) (mx_node 231 (mx_leaf 230 (mx_aload 0 231)) (mx_leaf 231 (mx_const (.int 4) 232))))))) (mx_node 250 (mx_node 241 (mx_node 237 (mx_node 234 (mx_leaf 232 (mx_newa .int (.int 0) 234)) (mx_leaf 234 (mx_putf 1 12 40 (.array .int) 237))) (mx_node 238 (mx_leaf 237 (mx_aload 0 238)) (mx_leaf 238 (mx_const (.int 160) 241)))) (mx_node 246 (mx_node 243 (mx_leaf 241 (mx_newa .long (.long 0) 243)) (mx_leaf 243 (mx_putf 1 12 41 (.array .long) 246))) (mx_node 247 (mx_leaf 246 (mx_aload 0 247)) (mx_leaf 247 (mx_getf 12 1 250))))) (mx_node 258 (mx_node 254 (mx_node 253 (mx_leaf 250 (mx_calls 156 1 253)) (mx_leaf 253 (mx_aload 0 254))) (mx_node 257 (mx_leaf 254 (mx_getf 12 1 257)) (mx_leaf 257 (mx_const (.int 1) 258)))) (mx_node 260 (mx_node 259 (mx_leaf 258 (mx_const (.int 1) 259)) (mx_leaf 259 (mx_iast 1 260))) (mx_node 261 (mx_leaf 260 (mx_aload 0 261)) (mx_node 264 (mx_leaf 261 (mx_callv 184 1 12 264)) (mx_leaf 264 (mx_vret))))))))))
set_option maxRecDepth 100000 in
noncomputable def tb_156 : Nat → mx_O := (mx_node 10 (mx_node 3 (mx_node 1 (mx_leaf 0 (mx_const (.int 0) 1)) (mx_node 2 (mx_leaf 1 (mx_istore 1 2)) (mx_leaf 2 (mx_iload 1 3)))) (mx_node 6 (mx_leaf 3 (mx_const (.int 962) 6)) (mx_node 9 (mx_leaf 6 (mx_icmp_ge 19 9)) (mx_leaf 9 (mx_aload 0 10))))) (mx_node 13 (mx_node 11 (mx_leaf 10 (mx_iload 1 11)) (mx_node 12 (mx_leaf 11 (mx_const (.int 0) 12)) (mx_leaf 12 (mx_iast 1 13)))) (mx_node 16 (mx_leaf 13 (mx_iinc 1 1 16)) (mx_node 19 (mx_leaf 16 (mx_goto 2)) (mx_leaf 19 (mx_vret))))))
set_option maxRecDepth 100000 in
noncomputable def tb_157 : Nat → mx_O := (mx_node 65 (mx_node 31 (mx_node 15 (mx_node 6 (mx_node 2 (mx_node 1 (mx_leaf 0 (mx_aload 0 1)) (mx_leaf 1 (mx_const (.int 0) 2))) (mx_node 5 (mx_leaf 2 (mx_putf 1 12 0 (.int) 5)) (mx_leaf 5 (mx_aload 0 6)))) (mx_node 11 (mx_node 9 (mx_leaf 6 (mx_getf 12 5 9)) (mx_leaf 9 (mx_const (.int 20) 11))) (mx_node 12 (mx_leaf 11 (mx_iadd 12)) (mx_leaf 12 (mx_const (.int 900) 15))))) (mx_node 22 (mx_node 20 (mx_node 18 (mx_leaf 15 (mx_icmp_le 21 18)) (mx_leaf 18 (mx_const (.int (-5)) 20))) (mx_node 21 (mx_leaf 20 (mx_iret)) (mx_leaf 21 (mx_const (.int 0) 22)))) (mx_node 26 (mx_node 24 (mx_leaf 22 (mx_istore 6 24)) (mx_leaf 24 (mx_iload 6 26))) (mx_node 28 (mx_leaf 26 (mx_const (.int 20) 28)) (mx_leaf 28 (mx_icmp_ge 121 31)))))) (mx_node 48 (mx_node 38 (mx_node 34 (mx_node 33 (mx_leaf 31 (mx_iload 6 33)) (mx_leaf 33 (mx_const (.int 4) 34))) (mx_node 37 (mx_leaf 34 (mx_icmp_ge 41 37)) (mx_leaf 37 (mx_iload 1 38)))) (mx_node 43 (mx_node 41 (mx_leaf 38 (mx_goto 77)) (mx_leaf 41 (mx_iload 6 43))) (mx_node 45 (mx_leaf 43 (mx_const (.int 8) 45)) (mx_leaf 45 (mx_icmp_ge 52 48))))) (mx_node 56 (mx_node 52 (mx_node 49 (mx_leaf 48 (mx_iload 2 49)) (mx_leaf 49 (mx_goto 77))) (mx_node 54 (mx_leaf 52 (mx_iload 6 54)) (mx_leaf 54 (mx_const (.int 12) 56)))) (mx_node 60 (mx_node 59 (mx_leaf 56 (mx_icmp_ge 63 59)) (mx_leaf 59 (mx_iload 3 60))) (mx_node 63 (mx_leaf 60 (mx_goto 77)) (mx_leaf 63 (mx_iload 6 65))))))) (mx_node 97 (mx_node 83 (mx_node 75 (mx_node 70 (mx_node 67 (mx_leaf 65 (mx_const (.int 16) 67)) (mx_leaf 67 (mx_icmp_ge 75 70))) (mx_node 72 (mx_leaf 70 (mx_iload 4 72)) (mx_leaf 72 (mx_goto 77)))) (mx_node 79 (mx_node 77 (mx_leaf 75 (mx_iload 5 77)) (mx_leaf 77 (mx_istore 7 79))) (mx_node 80 (mx_leaf 79 (mx_aload 0 80)) (mx_leaf 80 (mx_getf 12 3 83))))) (mx_node 91 (mx_node 87 (mx_node 84 (mx_leaf 83 (mx_aload 0 84)) (mx_leaf 84 (mx_getf 12 5 87))) (mx_node 89 (mx_leaf 87 (mx_iload 7 89)) (mx_leaf 89 (mx_const (.int 24) 91)))) (mx_node 95 (mx_node 93 (mx_leaf 91 (mx_const (.int 8) 93)) (mx_leaf 93 (mx_iload 6 95))) (mx_node 96 (mx_leaf 95 (mx_const (.int 4) 96)) (mx_leaf 96 (mx_irem 97)))))) (mx_node 107 (mx_node 103 (mx_node 99 (mx_node 98 (mx_leaf 97 (mx_imul 98)) (mx_leaf 98 (mx_isub 99))) (mx_node 100 (mx_leaf 99 (mx_ishr 100)) (mx_leaf 100 (mx_const (.int 255) 103)))) (mx_node 105 (mx_node 104 (mx_leaf 103 (mx_iand 104)) (mx_leaf 104 (mx_iast 1 105))) (mx_node 106 (mx_leaf 105 (mx_aload 0 106)) (mx_leaf 106 (mx_dup 107))))) (mx_node 115 (mx_node 111 (mx_node 110 (mx_leaf 107 (mx_getf 12 5 110)) (mx_leaf 110 (mx_const (.int 1) 111))) (mx_node 112 (mx_leaf 111 (mx_iadd 112)) (mx_leaf 112 (mx_putf 1 12 5 (.int) 115)))) (mx_node 121 (mx_node 118 (mx_leaf 115 (mx_iinc 6 1 118)) (mx_leaf 118 (mx_goto 24))) (mx_node 122 (mx_leaf 121 (mx_aload 0 122)) (mx_node 125 (mx_leaf 122 (mx_getf 12 5 125)) (mx_leaf 125 (mx_iret)))))))))
set_option maxRecDepth 100000 in
noncomputable def tb_158 : Nat → mx_O := (mx_node 9 (mx_node 2 (mx_node 1 (mx_leaf 0 (mx_iload 1 1)) (mx_leaf 1 (mx_aload 0 2))) (mx_node 5 (mx_leaf 2 (mx_getf 12 8 5)) (mx_node 8 (mx_leaf 5 (mx_icmp_ge 17 8)) (mx_leaf 8 (mx_aload 0 9))))) (mx_node 14 (mx_node 12 (mx_leaf 9 (mx_getf 12 3 12)) (mx_node 13 (mx_leaf 12 (mx_iload 1 13)) (mx_leaf 13 (mx_iald 14)))) (mx_node 17 (mx_leaf 14 (mx_goto 18)) (mx_node 18 (mx_leaf 17 (mx_const (.int (-1)) 18)) (mx_leaf 18 (mx_iret))))))
set_option maxRecDepth 100000 in
noncomputable def tb_159 : Nat → mx_O := (mx_node 9 (mx_node 3 (mx_node 1 (mx_leaf 0 (mx_iload 0 1)) (mx_leaf 1 (mx_const (.int 97) 3))) (mx_node 6 (mx_leaf 3 (mx_icmp_lt 16 6)) (mx_node 7 (mx_leaf 6 (mx_iload 0 7)) (mx_leaf 7 (mx_const (.int 122) 9))))) (mx_node 13 (mx_node 12 (mx_leaf 9 (mx_icmp_gt 16 12)) (mx_leaf 12 (mx_const (.int 1) 13))) (mx_node 16 (mx_leaf 13 (mx_goto 17)) (mx_node 17 (mx_leaf 16 (mx_const (.int 0) 17)) (mx_leaf 17 (mx_zret))))))
set_option maxRecDepth 100000 in
noncomputable def tb_160 : Nat → mx_O := (mx_node 9 (mx_node 3 (mx_node 1 (mx_leaf 0 (mx_iload 0 1)) (mx_leaf 1 (mx_const (.int 48) 3))) (mx_node 6 (mx_leaf 3 (mx_icmp_lt 16 6)) (mx_node 7 (mx_leaf 6 (mx_iload 0 7)) (mx_leaf 7 (mx_const (.int 57) 9))))) (mx_node 13 (mx_node 12 (mx_leaf 9 (mx_icmp_gt 16 12)) (mx_leaf 12 (mx_const (.int 1) 13))) (mx_node 16 (mx_leaf 13 (mx_goto 17)) (mx_node 17 (mx_leaf 16 (mx_const (.int 0) 17)) (mx_leaf 17 (mx_zret))))))
set_option maxRecDepth 100000 in
noncomputable def tb_161 : Nat → mx_O := (mx_node 55 (mx_node 25 (mx_node 13 (mx_node 4 (mx_node 2 (mx_node 1 (mx_leaf 0 (mx_const (.int 0) 1)) (mx_leaf 1 (mx_istore 1 2))) (mx_node 3 (mx_leaf 2 (mx_const (.int 1) 3)) (mx_leaf 3 (mx_istore 2 4)))) (mx_node 7 (mx_node 5 (mx_leaf 4 (mx_iload 2 5)) (mx_leaf 5 (mx_stuck))) (mx_node 10 (mx_leaf 7 (mx_stuck)) (mx_leaf 10 (mx_icmp_ge 123 13))))) (mx_node 18 (mx_node 15 (mx_node 14 (mx_leaf 13 (mx_const (.int 0) 14)) (mx_leaf 14 (mx_istore 3 15))) (mx_node 17 (mx_leaf 15 (mx_stuck)) (mx_leaf 17 (mx_iload 2 18)))) (mx_node 20 (mx_node 19 (mx_leaf 18 (mx_iload 3 19)) (mx_leaf 19 (mx_iadd 20))) (mx_node 23 (mx_leaf 20 (mx_stuck)) (mx_leaf 23 (mx_const (.int 32) 25)))))) (mx_node 41 (mx_node 33 (mx_node 29 (mx_node 28 (mx_leaf 25 (mx_icmp_eq 69 28)) (mx_leaf 28 (mx_aload 0 29))) (mx_node 32 (mx_leaf 29 (mx_getf 12 6 32)) (mx_leaf 32 (mx_iload 3 33)))) (mx_node 35 (mx_node 34 (mx_leaf 33 (mx_iadd 34)) (mx_leaf 34 (mx_aload 0 35))) (mx_node 38 (mx_leaf 35 (mx_getf 12 7 38)) (mx_leaf 38 (mx_icmp_ge 69 41))))) (mx_node 49 (mx_node 45 (mx_node 42 (mx_leaf 41 (mx_aload 0 42)) (mx_leaf 42 (mx_getf 12 3 45))) (mx_node 46 (mx_leaf 45 (mx_aload 0 46)) (mx_leaf 46 (mx_getf 12 6 49)))) (mx_node 51 (mx_node 50 (mx_leaf 49 (mx_iload 3 50)) (mx_leaf 50 (mx_iadd 51))) (mx_node 52 (mx_leaf 51 (mx_iald 52)) (mx_node 54 (mx_leaf 52 (mx_stuck)) (mx_leaf 54 (mx_iload 2 55)))))))) (mx_node 88 (mx_node 72 (mx_node 63 (mx_node 57 (mx_node 56 (mx_leaf 55 (mx_iload 3 56)) (mx_leaf 56 (mx_iadd 57))) (mx_node 60 (mx_leaf 57 (mx_stuck)) (mx_leaf 60 (mx_icmp_ne 69 63)))) (mx_node 69 (mx_node 66 (mx_leaf 63 (mx_iinc 3 1 66)) (mx_leaf 66 (mx_goto 15))) (mx_node 71 (mx_leaf 69 (mx_stuck)) (mx_leaf 71 (mx_iload 2 72))))) (mx_node 79 (mx_node 74 (mx_node 73 (mx_leaf 72 (mx_iload 3 73)) (mx_leaf 73 (mx_iadd 74))) (mx_node 77 (mx_leaf 74 (mx_stuck)) (mx_leaf 77 (mx_const (.int 32) 79)))) (mx_node 83 (mx_node 82 (mx_leaf 79 (mx_icmp_ne 97 82)) (mx_leaf 82 (mx_aload 0 83))) (mx_node 86 (mx_leaf 83 (mx_getf 12 6 86)) (mx_node 87 (mx_leaf 86 (mx_iload 3 87)) (mx_leaf 87 (mx_iadd 88))))))) (mx_node 103 (mx_node 96 (mx_node 92 (mx_node 89 (mx_leaf 88 (mx_aload 0 89)) (mx_leaf 89 (mx_getf 12 7 92))) (mx_node 95 (mx_leaf 92 (mx_icmp_ne 97 95)) (mx_leaf 95 (mx_iload 1 96)))) (mx_node 99 (mx_node 97 (mx_leaf 96 (mx_iret)) (mx_leaf 97 (mx_stuck))) (mx_node 100 (mx_leaf 99 (mx_iload 2 100)) (mx_leaf 100 (mx_stuck))))) (mx_node 114 (mx_node 108 (mx_node 105 (mx_leaf 103 (mx_const (.int 32) 105)) (mx_leaf 105 (mx_icmp_eq 114 108))) (mx_node 111 (mx_leaf 108 (mx_iinc 2 1 111)) (mx_leaf 111 (mx_goto 97)))) (mx_node 120 (mx_node 117 (mx_leaf 114 (mx_iinc 2 1 117)) (mx_leaf 117 (mx_iinc 1 1 120))) (mx_node 123 (mx_leaf 120 (mx_goto 4)) (mx_node 125 (mx_leaf 123 (mx_const (.int 22) 125)) (mx_leaf 125 (mx_iret)))))))))
set_option maxRecDepth 100000 in
noncomputable def tb_162 : Nat → mx_O := (mx_node 154 (mx_node 75 (mx_node 36 (mx_node 18 (mx_node 8 (mx_node 2 (mx_node 1 (mx_leaf 0 (mx_aload 0 1)) (mx_leaf 1 (mx_aload 0 2))) (mx_node 5 (mx_leaf 2 (mx_getf 12 7 5)) (mx_leaf 5 (mx_putf 1 12 6 (.int) 8)))) (mx_node 10 (mx_node 9 (mx_leaf 8 (mx_aload 0 9)) (mx_leaf 9 (mx_aload 0 10))) (mx_node 13 (mx_leaf 10 (mx_getf 12 6 13)) (mx_node 16 (mx_leaf 13 (mx_callv 158 2 12 16)) (mx_leaf 16 (mx_const (.int 10) 18)))))) (mx_node 26 (mx_node 22 (mx_node 21 (mx_leaf 18 (mx_icmp_eq 34 21)) (mx_leaf 21 (mx_aload 0 22))) (mx_node 23 (mx_leaf 22 (mx_aload 0 23)) (mx_leaf 23 (mx_getf 12 6 26)))) (mx_node 31 (mx_node 29 (mx_leaf 26 (mx_callv 158 2 12 29)) (mx_leaf 29 (mx_const (.int 32) 31))) (mx_node 34 (mx_leaf 31 (mx_icmp_ne 47 34)) (mx_node 35 (mx_leaf 34 (mx_aload 0 35)) (mx_leaf 35 (mx_dup 36))))))) (mx_node 55 (mx_node 44 (mx_node 40 (mx_node 39 (mx_leaf 36 (mx_getf 12 6 39)) (mx_leaf 39 (mx_const (.int 1) 40))) (mx_node 41 (mx_leaf 40 (mx_iadd 41)) (mx_leaf 41 (mx_putf 1 12 6 (.int) 44)))) (mx_node 48 (mx_node 47 (mx_leaf 44 (mx_goto 8)) (mx_leaf 47 (mx_aload 0 48))) (mx_node 49 (mx_leaf 48 (mx_aload 0 49)) (mx_node 52 (mx_leaf 49 (mx_getf 12 6 52)) (mx_leaf 52 (mx_putf 1 12 7 (.int) 55)))))) (mx_node 63 (mx_node 59 (mx_node 56 (mx_leaf 55 (mx_aload 0 56)) (mx_leaf 56 (mx_getf 12 6 59))) (mx_node 60 (mx_leaf 59 (mx_aload 0 60)) (mx_leaf 60 (mx_getf 12 8 63)))) (mx_node 67 (mx_node 66 (mx_leaf 63 (mx_icmp_lt 75 66)) (mx_leaf 66 (mx_aload 0 67))) (mx_node 69 (mx_leaf 67 (mx_const (.int 24) 69)) (mx_node 72 (mx_leaf 69 (mx_putf 1 12 9 (.int) 72)) (mx_leaf 72 (mx_goto 294)))))))) (mx_node 113 (mx_node 94 (mx_node 83 (mx_node 77 (mx_node 76 (mx_leaf 75 (mx_aload 0 76)) (mx_leaf 76 (mx_aload 0 77))) (mx_node 80 (mx_leaf 77 (mx_getf 12 6 80)) (mx_leaf 80 (mx_callv 158 2 12 83)))) (mx_node 89 (mx_node 86 (mx_leaf 83 (mx_calls 159 1 86)) (mx_leaf 86 (mx_if_eq 127 89))) (mx_node 90 (mx_leaf 89 (mx_aload 0 90)) (mx_node 91 (mx_leaf 90 (mx_aload 0 91)) (mx_leaf 91 (mx_getf 12 7 94)))))) (mx_node 104 (mx_node 100 (mx_node 97 (mx_leaf 94 (mx_callv 158 2 12 97)) (mx_leaf 97 (mx_calls 159 1 100))) (mx_node 103 (mx_leaf 100 (mx_if_eq 116 103)) (mx_leaf 103 (mx_aload 0 104)))) (mx_node 108 (mx_node 105 (mx_leaf 104 (mx_dup 105)) (mx_leaf 105 (mx_getf 12 7 108))) (mx_node 109 (mx_leaf 108 (mx_const (.int 1) 109)) (mx_node 110 (mx_leaf 109 (mx_iadd 110)) (mx_leaf 110 (mx_putf 1 12 7 (.int) 113))))))) (mx_node 132 (mx_node 121 (mx_node 117 (mx_node 116 (mx_leaf 113 (mx_goto 89)) (mx_leaf 116 (mx_aload 0 117))) (mx_node 118 (mx_leaf 117 (mx_aload 0 118)) (mx_leaf 118 (mx_callv 161 1 12 121)))) (mx_node 127 (mx_node 124 (mx_leaf 121 (mx_putf 1 12 9 (.int) 124)) (mx_leaf 124 (mx_goto 294))) (mx_node 128 (mx_leaf 127 (mx_aload 0 128)) (mx_node 129 (mx_leaf 128 (mx_aload 0 129)) (mx_leaf 129 (mx_getf 12 6 132)))))) (mx_node 143 (mx_node 138 (mx_node 135 (mx_leaf 132 (mx_callv 158 2 12 135)) (mx_leaf 135 (mx_calls 160 1 138))) (mx_node 141 (mx_leaf 138 (mx_if_eq 236 141)) (mx_node 142 (mx_leaf 141 (mx_aload 0 142)) (mx_leaf 142 (mx_const (.int 0) 143))))) (mx_node 147 (mx_node 146 (mx_leaf 143 (mx_putf 1 12 10 (.int) 146)) (mx_leaf 146 (mx_aload 0 147))) (mx_node 148 (mx_leaf 147 (mx_aload 0 148)) (mx_node 151 (mx_leaf 148 (mx_getf 12 7 151)) (mx_leaf 151 (mx_callv 158 2 12 154))))))))) (mx_node 220 (mx_node 189 (mx_node 173 (mx_node 164 (mx_node 160 (mx_node 157 (mx_leaf 154 (mx_calls 160 1 157)) (mx_leaf 157 (mx_if_eq 209 160))) (mx_node 161 (mx_leaf 160 (mx_aload 0 161)) (mx_leaf 161 (mx_getf 12 7 164)))) (mx_node 168 (mx_node 165 (mx_leaf 164 (mx_aload 0 165)) (mx_leaf 165 (mx_getf 12 6 168))) (mx_node 169 (mx_leaf 168 (mx_isub 169)) (mx_node 170 (mx_leaf 169 (mx_const (.int 3) 170)) (mx_leaf 170 (mx_icmp_ge 196 173)))))) (mx_node 180 (mx_node 176 (mx_node 174 (mx_leaf 173 (mx_aload 0 174)) (mx_leaf 174 (mx_const (.int 10) 176))) (mx_node 177 (mx_leaf 176 (mx_aload 0 177)) (mx_leaf 177 (mx_getf 12 10 180)))) (mx_node 182 (mx_node 181 (mx_leaf 180 (mx_imul 181)) (mx_leaf 181 (mx_aload 0 182))) (mx_node 183 (mx_leaf 182 (mx_aload 0 183)) (mx_node 186 (mx_leaf 183 (mx_getf 12 7 186)) (mx_leaf 186 (mx_callv 158 2 12 189))))))) (mx_node 203 (mx_node 196 (mx_node 192 (mx_node 190 (mx_leaf 189 (mx_iadd 190)) (mx_leaf 190 (mx_const (.int 48) 192))) (mx_node 193 (mx_leaf 192 (mx_isub 193)) (mx_leaf 193 (mx_putf 1 12 10 (.int) 196)))) (mx_node 198 (mx_node 197 (mx_leaf 196 (mx_aload 0 197)) (mx_leaf 197 (mx_dup 198))) (mx_node 201 (mx_leaf 198 (mx_getf 12 7 201)) (mx_node 202 (mx_leaf 201 (mx_const (.int 1) 202)) (mx_leaf 202 (mx_iadd 203)))))) (mx_node 211 (mx_node 209 (mx_node 206 (mx_leaf 203 (mx_putf 1 12 7 (.int) 206)) (mx_leaf 206 (mx_goto 146))) (mx_node 210 (mx_leaf 209 (mx_aload 0 210)) (mx_leaf 210 (mx_aload 0 211)))) (mx_node 215 (mx_node 214 (mx_leaf 211 (mx_getf 12 7 214)) (mx_leaf 214 (mx_aload 0 215))) (mx_node 218 (mx_leaf 215 (mx_getf 12 6 218)) (mx_node 219 (mx_leaf 218 (mx_isub 219)) (mx_leaf 219 (mx_const (.int 3) 220)))))))) (mx_node 255 (mx_node 241 (mx_node 230 (mx_node 225 (mx_node 223 (mx_leaf 220 (mx_icmp_le 228 223)) (mx_leaf 223 (mx_const (.int 25) 225))) (mx_node 228 (mx_leaf 225 (mx_goto 230)) (mx_leaf 228 (mx_const (.int 23) 230)))) (mx_node 236 (mx_node 233 (mx_leaf 230 (mx_putf 1 12 9 (.int) 233)) (mx_leaf 233 (mx_goto 294))) (mx_node 237 (mx_leaf 236 (mx_aload 0 237)) (mx_node 238 (mx_leaf 237 (mx_dup 238)) (mx_leaf 238 (mx_getf 12 7 241)))))) (mx_node 247 (mx_node 243 (mx_node 242 (mx_leaf 241 (mx_const (.int 1) 242)) (mx_leaf 242 (mx_iadd 243))) (mx_node 246 (mx_leaf 243 (mx_putf 1 12 7 (.int) 246)) (mx_leaf 246 (mx_aload 0 247)))) (mx_node 252 (mx_node 249 (mx_leaf 247 (mx_const (.int 25) 249)) (mx_leaf 249 (mx_putf 1 12 9 (.int) 252))) (mx_node 253 (mx_leaf 252 (mx_const (.int 0) 253)) (mx_node 254 (mx_leaf 253 (mx_istore 1 254)) (mx_leaf 254 (mx_iload 1 255))))))) (mx_node 274 (mx_node 264 (mx_node 260 (mx_node 257 (mx_leaf 255 (mx_stuck)) (mx_leaf 257 (mx_stuck))) (mx_node 263 (mx_leaf 260 (mx_icmp_ge 294 263)) (mx_leaf 263 (mx_aload 0 264)))) (mx_node 268 (mx_node 265 (mx_leaf 264 (mx_aload 0 265)) (mx_leaf 265 (mx_getf 12 6 268))) (mx_node 271 (mx_leaf 268 (mx_callv 158 2 12 271)) (mx_node 273 (mx_leaf 271 (mx_stuck)) (mx_leaf 273 (mx_iload 1 274)))))) (mx_node 284 (mx_node 280 (mx_node 277 (mx_leaf 274 (mx_stuck)) (mx_leaf 277 (mx_icmp_ne 288 280))) (mx_node 281 (mx_leaf 280 (mx_aload 0 281)) (mx_node 283 (mx_leaf 281 (mx_const (.int 30) 283)) (mx_leaf 283 (mx_iload 1 284))))) (mx_node 288 (mx_node 285 (mx_leaf 284 (mx_iadd 285)) (mx_leaf 285 (mx_putf 1 12 9 (.int) 288))) (mx_node 291 (mx_leaf 288 (mx_iinc 1 1 291)) (mx_node 294 (mx_leaf 291 (mx_goto 254)) (mx_leaf 294 (mx_vret))))))))))
set_option maxRecDepth 100000 in
noncomputable def tb_163 : Nat → mx_O := (mx_node 18 (mx_node 8 (mx_node 4 (mx_node 1 (mx_leaf 0 (mx_aload 0 1)) (mx_leaf 1 (mx_getf 12 11 4))) (mx_node 7 (mx_leaf 4 (mx_if_eq 8 7)) (mx_leaf 7 (mx_vret)))) (mx_node 10 (mx_node 9 (mx_leaf 8 (mx_aload 0 9)) (mx_leaf 9 (mx_aload 0 10))) (mx_node 13 (mx_leaf 10 (mx_getf 12 9 13)) (mx_node 15 (mx_leaf 13 (mx_const (.int 25) 15)) (mx_leaf 15 (mx_icmp_ne 22 18)))))) (mx_node 26 (mx_node 22 (mx_node 19 (mx_leaf 18 (mx_const (.int 1) 19)) (mx_leaf 19 (mx_goto 23))) (mx_node 23 (mx_leaf 22 (mx_iload 1 23)) (mx_leaf 23 (mx_putf 1 12 11 (.int) 26)))) (mx_node 28 (mx_node 27 (mx_leaf 26 (mx_aload 0 27)) (mx_leaf 27 (mx_aload 0 28))) (mx_node 31 (mx_leaf 28 (mx_getf 12 6 31)) (mx_node 34 (mx_leaf 31 (mx_putf 1 12 12 (.int) 34)) (mx_leaf 34 (mx_vret)))))))
set_option maxRecDepth 100000 in
noncomputable def tb_164 : Nat → mx_O := (mx_node 11 (mx_node 4 (mx_node 1 (mx_leaf 0 (mx_aload 0 1)) (mx_leaf 1 (mx_getf 12 11 4))) (mx_node 7 (mx_leaf 4 (mx_if_ne 19 7)) (mx_node 8 (mx_leaf 7 (mx_aload 0 8)) (mx_leaf 8 (mx_getf 12 9 11))))) (mx_node 16 (mx_node 12 (mx_leaf 11 (mx_iload 1 12)) (mx_node 15 (mx_leaf 12 (mx_icmp_ne 19 15)) (mx_leaf 15 (mx_const (.int 1) 16)))) (mx_node 19 (mx_leaf 16 (mx_goto 20)) (mx_node 20 (mx_leaf 19 (mx_const (.int 0) 20)) (mx_leaf 20 (mx_zret))))))
set_option maxRecDepth 100000 in
noncomputable def tb_165 : Nat → mx_O := (mx_node 9 (mx_node 2 (mx_node 1 (mx_leaf 0 (mx_aload 0 1)) (mx_leaf 1 (mx_iload 1 2))) (mx_node 5 (mx_leaf 2 (mx_callv 164 2 12 5)) (mx_node 8 (mx_leaf 5 (mx_if_ne 10 8)) (mx_leaf 8 (mx_const (.int 0) 9))))) (mx_node 11 (mx_node 10 (mx_leaf 9 (mx_zret)) (mx_leaf 10 (mx_aload 0 11))) (mx_node 14 (mx_leaf 11 (mx_callv 162 1 12 14)) (mx_node 15 (mx_leaf 14 (mx_const (.int 1) 15)) (mx_leaf 15 (mx_zret))))))
set_option maxRecDepth 100000 in
noncomputable def tb_166 : Nat → mx_O := (mx_node 26 (mx_node 14 (mx_node 6 (mx_node 1 (mx_leaf 0 (mx_aload 0 1)) (mx_node 3 (mx_leaf 1 (mx_const (.int 23) 3)) (mx_leaf 3 (mx_callv 164 2 12 6)))) (mx_node 10 (mx_node 9 (mx_leaf 6 (mx_if_ne 17 9)) (mx_leaf 9 (mx_aload 0 10))) (mx_node 11 (mx_leaf 10 (mx_const (.int 2) 11)) (mx_leaf 11 (mx_callv 163 2 12 14))))) (mx_node 22 (mx_node 18 (mx_node 17 (mx_leaf 14 (mx_goto 37)) (mx_leaf 17 (mx_aload 0 18))) (mx_node 21 (mx_leaf 18 (mx_getf 12 10 21)) (mx_leaf 21 (mx_i2l 22)))) (mx_node 24 (mx_node 23 (mx_leaf 22 (mx_iload 1 23)) (mx_leaf 23 (mx_i2l 24))) (mx_node 25 (mx_leaf 24 (mx_iload 2 25)) (mx_leaf 25 (mx_i2l 26)))))) (mx_node 41 (mx_node 33 (mx_node 29 (mx_leaf 26 (mx_calls 154 3 29)) (mx_node 32 (mx_leaf 29 (mx_if_ne 37 32)) (mx_leaf 32 (mx_aload 0 33)))) (mx_node 37 (mx_node 34 (mx_leaf 33 (mx_const (.int 3) 34)) (mx_leaf 34 (mx_callv 163 2 12 37))) (mx_node 38 (mx_leaf 37 (mx_aload 0 38)) (mx_leaf 38 (mx_getf 12 10 41))))) (mx_node 49 (mx_node 43 (mx_node 42 (mx_leaf 41 (mx_istore 3 42)) (mx_leaf 42 (mx_aload 0 43))) (mx_node 46 (mx_leaf 43 (mx_getf 12 11 46)) (mx_leaf 46 (mx_if_ne 53 49)))) (mx_node 53 (mx_node 50 (mx_leaf 49 (mx_aload 0 50)) (mx_leaf 50 (mx_callv 162 1 12 53))) (mx_node 54 (mx_leaf 53 (mx_iload 3 54)) (mx_leaf 54 (mx_iret)))))))
set_option maxRecDepth 100000 in
noncomputable def tb_167 : Nat → mx_O := (mx_node 6 (mx_node 3 (mx_node 1 (mx_leaf 0 (mx_lload 0 1)) (mx_node 2 (mx_leaf 1 (mx_iload 2 2)) (mx_leaf 2 (mx_lshr 3)))) (mx_node 4 (mx_leaf 3 (mx_const (.long 1) 4)) (mx_node 5 (mx_leaf 4 (mx_land 5)) (mx_leaf 5 (mx_const (.long 1) 6))))) (mx_node 11 (mx_node 7 (mx_leaf 6 (mx_lif_ne 14 10)) (mx_node 10 (mx_leaf 7 (mx_if_ne 14 10)) (mx_leaf 10 (mx_const (.int 1) 11)))) (mx_node 14 (mx_leaf 11 (mx_goto 15)) (mx_node 15 (mx_leaf 14 (mx_const (.int 0) 15)) (mx_leaf 15 (mx_zret))))))
set_option maxRecDepth 100000 in
noncomputable def tb_168 : Nat → mx_O := (mx_node 13 (mx_node 6 (mx_node 2 (mx_node 1 (mx_leaf 0 (mx_iload 1 1)) (mx_leaf 1 (mx_const (.int 1) 2))) (mx_node 5 (mx_leaf 2 (mx_icmp_ne 7 5)) (mx_leaf 5 (mx_const (.int 4) 6)))) (mx_node 8 (mx_node 7 (mx_leaf 6 (mx_iret)) (mx_leaf 7 (mx_iload 1 8))) (mx_node 10 (mx_leaf 8 (mx_const (.int 9) 10)) (mx_leaf 10 (mx_icmp_lt 26 13))))) (mx_node 20 (mx_node 16 (mx_node 14 (mx_leaf 13 (mx_iload 1 14)) (mx_leaf 14 (mx_const (.int 12) 16))) (mx_node 19 (mx_leaf 16 (mx_icmp_gt 26 19)) (mx_leaf 19 (mx_iload 1 20)))) (mx_node 23 (mx_node 22 (mx_leaf 20 (mx_const (.int 9) 22)) (mx_leaf 22 (mx_isub 23))) (mx_node 26 (mx_leaf 23 (mx_goto 27)) (mx_node 27 (mx_leaf 26 (mx_const (.int (-1)) 27)) (mx_leaf 27 (mx_iret)))))))
set_option maxRecDepth 100000 in
noncomputable def tb_169 : Nat → mx_O := (mx_node 21 (mx_node 9 (mx_node 4 (mx_node 1 (mx_leaf 0 (mx_aload 0 1)) (mx_leaf 1 (mx_getf 12 11 4))) (mx_node 7 (mx_leaf 4 (mx_if_eq 8 7)) (mx_node 8 (mx_leaf 7 (mx_vret)) (mx_leaf 8 (mx_aload 0 9))))) (mx_node 15 (mx_node 12 (mx_leaf 9 (mx_getf 12 4 12)) (mx_node 14 (mx_leaf 12 (mx_const (.int 62) 14)) (mx_leaf 14 (mx_aload 0 15)))) (mx_node 18 (mx_leaf 15 (mx_getf 12 4 18)) (mx_node 20 (mx_leaf 18 (mx_const (.int 61) 20)) (mx_leaf 20 (mx_iald 21)))))) (mx_node 30 (mx_node 24 (mx_node 22 (mx_leaf 21 (mx_iadd 22)) (mx_node 23 (mx_leaf 22 (mx_iload 1 23)) (mx_leaf 23 (mx_iast 1 24)))) (mx_node 25 (mx_leaf 24 (mx_aload 0 25)) (mx_node 28 (mx_leaf 25 (mx_getf 12 4 28)) (mx_leaf 28 (mx_const (.int 61) 30))))) (mx_node 33 (mx_node 31 (mx_leaf 30 (mx_dup2 31)) (mx_node 32 (mx_leaf 31 (mx_iald 32)) (mx_leaf 32 (mx_const (.int 1) 33)))) (mx_node 34 (mx_leaf 33 (mx_iadd 34)) (mx_node 35 (mx_leaf 34 (mx_iast 1 35)) (mx_leaf 35 (mx_vret)))))))
set_option maxRecDepth 100000 in
noncomputable def tb_170 : Nat → mx_O := (mx_node 18 (mx_node 7 (mx_node 3 (mx_node 1 (mx_leaf 0 (mx_iload 1 1)) (mx_leaf 1 (mx_const (.int 6) 3))) (mx_node 6 (mx_leaf 3 (mx_icmp_ne 11 6)) (mx_leaf 6 (mx_aload 0 7)))) (mx_node 11 (mx_node 8 (mx_leaf 7 (mx_const (.int 4) 8)) (mx_leaf 8 (mx_callv 163 2 12 11))) (mx_node 12 (mx_leaf 11 (mx_aload 0 12)) (mx_node 15 (mx_leaf 12 (mx_getf 12 11 15)) (mx_leaf 15 (mx_if_ne 22 18)))))) (mx_node 26 (mx_node 22 (mx_node 19 (mx_leaf 18 (mx_aload 0 19)) (mx_leaf 19 (mx_callv 162 1 12 22))) (mx_node 23 (mx_leaf 22 (mx_aload 0 23)) (mx_leaf 23 (mx_getf 12 11 26)))) (mx_node 30 (mx_node 29 (mx_leaf 26 (mx_if_ne 33 29)) (mx_leaf 29 (mx_const (.int 1) 30))) (mx_node 33 (mx_leaf 30 (mx_goto 34)) (mx_node 34 (mx_leaf 33 (mx_const (.int 0) 34)) (mx_leaf 34 (mx_zret)))))))
set_option maxRecDepth 100000 in
noncomputable def tb_171 : Nat → mx_O := (mx_node 67 (mx_node 33 (mx_node 17 (mx_node 9 (mx_node 3 (mx_node 1 (mx_leaf 0 (mx_aload 0 1)) (mx_leaf 1 (mx_const (.int 23) 3))) (mx_node 6 (mx_leaf 3 (mx_callv 164 2 12 6)) (mx_leaf 6 (mx_if_eq 24 9)))) (mx_node 11 (mx_node 10 (mx_leaf 9 (mx_aload 0 10)) (mx_leaf 10 (mx_aload 0 11))) (mx_node 14 (mx_leaf 11 (mx_getf 12 10 14)) (mx_leaf 14 (mx_callv 169 2 12 17))))) (mx_node 25 (mx_node 21 (mx_node 18 (mx_leaf 17 (mx_aload 0 18)) (mx_leaf 18 (mx_callv 162 1 12 21))) (mx_node 24 (mx_leaf 21 (mx_goto 129)) (mx_leaf 24 (mx_aload 0 25)))) (mx_node 31 (mx_node 28 (mx_leaf 25 (mx_getf 12 11 28)) (mx_leaf 28 (mx_if_ne 66 31))) (mx_node 32 (mx_leaf 31 (mx_aload 0 32)) (mx_leaf 32 (mx_aload 0 33)))))) (mx_node 49 (mx_node 43 (mx_node 39 (mx_node 36 (mx_leaf 33 (mx_getf 12 9 36)) (mx_leaf 36 (mx_callv 168 2 12 39))) (mx_node 40 (mx_leaf 39 (mx_const (.int (-1)) 40)) (mx_leaf 40 (mx_icmp_eq 66 43)))) (mx_node 47 (mx_node 44 (mx_leaf 43 (mx_aload 0 44)) (mx_leaf 44 (mx_const (.int 1000) 47))) (mx_node 48 (mx_leaf 47 (mx_aload 0 48)) (mx_leaf 48 (mx_aload 0 49))))) (mx_node 59 (mx_node 55 (mx_node 52 (mx_leaf 49 (mx_getf 12 9 52)) (mx_leaf 52 (mx_callv 168 2 12 55))) (mx_node 56 (mx_leaf 55 (mx_iadd 56)) (mx_leaf 56 (mx_callv 169 2 12 59)))) (mx_node 63 (mx_node 60 (mx_leaf 59 (mx_aload 0 60)) (mx_leaf 60 (mx_callv 162 1 12 63))) (mx_node 66 (mx_leaf 63 (mx_goto 129)) (mx_leaf 66 (mx_aload 0 67))))))) (mx_node 97 (mx_node 84 (mx_node 76 (mx_node 72 (mx_node 69 (mx_leaf 67 (mx_const (.int 35) 69)) (mx_leaf 69 (mx_callv 164 2 12 72))) (mx_node 75 (mx_leaf 72 (mx_if_eq 108 75)) (mx_leaf 75 (mx_aload 0 76)))) (mx_node 80 (mx_node 77 (mx_leaf 76 (mx_iload 1 77)) (mx_leaf 77 (mx_callv 170 2 12 80))) (mx_node 83 (mx_leaf 80 (mx_if_ne 84 83)) (mx_leaf 83 (mx_vret))))) (mx_node 88 (mx_node 86 (mx_node 85 (mx_leaf 84 (mx_aload 0 85)) (mx_leaf 85 (mx_iload 1 86))) (mx_node 87 (mx_leaf 86 (mx_const (.int 1) 87)) (mx_leaf 87 (mx_iadd 88)))) (mx_node 92 (mx_node 91 (mx_leaf 88 (mx_callv 174 2 12 91)) (mx_leaf 91 (mx_aload 0 92))) (mx_node 94 (mx_leaf 92 (mx_const (.int 36) 94)) (mx_leaf 94 (mx_callv 165 2 12 97)))))) (mx_node 113 (mx_node 105 (mx_node 101 (mx_node 100 (mx_leaf 97 (mx_if_ne 129 100)) (mx_leaf 100 (mx_aload 0 101))) (mx_node 102 (mx_leaf 101 (mx_const (.int 2) 102)) (mx_leaf 102 (mx_callv 163 2 12 105)))) (mx_node 109 (mx_node 108 (mx_leaf 105 (mx_goto 129)) (mx_leaf 108 (mx_aload 0 109))) (mx_node 110 (mx_leaf 109 (mx_const (.int 5) 110)) (mx_leaf 110 (mx_callv 164 2 12 113))))) (mx_node 121 (mx_node 117 (mx_node 116 (mx_leaf 113 (mx_if_eq 124 116)) (mx_leaf 116 (mx_aload 0 117))) (mx_node 118 (mx_leaf 117 (mx_iload 1 118)) (mx_leaf 118 (mx_callv 172 2 12 121)))) (mx_node 125 (mx_node 124 (mx_leaf 121 (mx_goto 129)) (mx_leaf 124 (mx_aload 0 125))) (mx_node 126 (mx_leaf 125 (mx_const (.int 2) 126)) (mx_node 129 (mx_leaf 126 (mx_callv 163 2 12 129)) (mx_leaf 129 (mx_vret)))))))))
set_option maxRecDepth 100000 in
noncomputable def tb_172 : Nat → mx_O := (mx_node 37 (mx_node 17 (mx_node 9 (mx_node 2 (mx_node 1 (mx_leaf 0 (mx_aload 0 1)) (mx_leaf 1 (mx_iload 1 2))) (mx_node 5 (mx_leaf 2 (mx_callv 170 2 12 5)) (mx_node 8 (mx_leaf 5 (mx_if_ne 9 8)) (mx_leaf 8 (mx_vret))))) (mx_node 12 (mx_node 10 (mx_leaf 9 (mx_aload 0 10)) (mx_node 11 (mx_leaf 10 (mx_iload 1 11)) (mx_leaf 11 (mx_const (.int 1) 12)))) (mx_node 13 (mx_leaf 12 (mx_iadd 13)) (mx_node 16 (mx_leaf 13 (mx_callv 177 2 12 16)) (mx_leaf 16 (mx_aload 0 17)))))) (mx_node 27 (mx_node 22 (mx_node 19 (mx_leaf 17 (mx_const (.int 6) 19)) (mx_leaf 19 (mx_callv 165 2 12 22))) (mx_node 25 (mx_leaf 22 (mx_if_ne 30 25)) (mx_node 26 (mx_leaf 25 (mx_aload 0 26)) (mx_leaf 26 (mx_const (.int 2) 27))))) (mx_node 32 (mx_node 30 (mx_leaf 27 (mx_callv 163 2 12 30)) (mx_node 31 (mx_leaf 30 (mx_aload 0 31)) (mx_leaf 31 (mx_iload 1 32)))) (mx_node 33 (mx_leaf 32 (mx_const (.int 1) 33)) (mx_node 34 (mx_leaf 33 (mx_iadd 34)) (mx_leaf 34 (mx_callv 174 2 12 37))))))) (mx_node 55 (mx_node 47 (mx_node 40 (mx_node 38 (mx_leaf 37 (mx_aload 0 38)) (mx_leaf 38 (mx_const (.int 7) 40))) (mx_node 43 (mx_leaf 40 (mx_callv 165 2 12 43)) (mx_node 46 (mx_leaf 43 (mx_if_ne 51 46)) (mx_leaf 46 (mx_aload 0 47))))) (mx_node 52 (mx_node 48 (mx_leaf 47 (mx_const (.int 2) 48)) (mx_node 51 (mx_leaf 48 (mx_callv 163 2 12 51)) (mx_leaf 51 (mx_aload 0 52)))) (mx_node 53 (mx_leaf 52 (mx_iload 1 53)) (mx_node 54 (mx_leaf 53 (mx_const (.int 1) 54)) (mx_leaf 54 (mx_iadd 55)))))) (mx_node 68 (mx_node 61 (mx_node 58 (mx_leaf 55 (mx_callv 174 2 12 58)) (mx_node 59 (mx_leaf 58 (mx_aload 0 59)) (mx_leaf 59 (mx_const (.int 8) 61)))) (mx_node 64 (mx_leaf 61 (mx_callv 165 2 12 64)) (mx_node 67 (mx_leaf 64 (mx_if_ne 72 67)) (mx_leaf 67 (mx_aload 0 68))))) (mx_node 73 (mx_node 69 (mx_leaf 68 (mx_const (.int 2) 69)) (mx_node 72 (mx_leaf 69 (mx_callv 163 2 12 72)) (mx_leaf 72 (mx_aload 0 73)))) (mx_node 76 (mx_leaf 73 (mx_const (.int 3009) 76)) (mx_node 79 (mx_leaf 76 (mx_callv 169 2 12 79)) (mx_leaf 79 (mx_vret))))))))
set_option maxRecDepth 100000 in
noncomputable def tb_173 : Nat → mx_O := (mx_node 14 (mx_node 5 (mx_node 1 (mx_leaf 0 (mx_aload 0 1)) (mx_node 2 (mx_leaf 1 (mx_iload 1 2)) (mx_leaf 2 (mx_callv 171 2 12 5)))) (mx_node 8 (mx_node 6 (mx_leaf 5 (mx_aload 0 6)) (mx_leaf 6 (mx_const (.int 34) 8))) (mx_node 11 (mx_leaf 8 (mx_callv 165 2 12 11)) (mx_leaf 11 (mx_if_eq 29 14))))) (mx_node 20 (mx_node 16 (mx_node 15 (mx_leaf 14 (mx_aload 0 15)) (mx_leaf 15 (mx_iload 1 16))) (mx_node 19 (mx_leaf 16 (mx_callv 171 2 12 19)) (mx_leaf 19 (mx_aload 0 20)))) (mx_node 26 (mx_node 23 (mx_leaf 20 (mx_const (.int 3002) 23)) (mx_leaf 23 (mx_callv 169 2 12 26))) (mx_node 29 (mx_leaf 26 (mx_goto 5)) (mx_leaf 29 (mx_vret))))))
set_option maxRecDepth 100000 in
noncomputable def tb_174 : Nat → mx_O := (mx_node 29 (mx_node 14 (mx_node 5 (mx_node 1 (mx_leaf 0 (mx_aload 0 1)) (mx_node 2 (mx_leaf 1 (mx_iload 1 2)) (mx_leaf 2 (mx_callv 173 2 12 5)))) (mx_node 8 (mx_node 6 (mx_leaf 5 (mx_aload 0 6)) (mx_leaf 6 (mx_const (.int 32) 8))) (mx_node 11 (mx_leaf 8 (mx_callv 164 2 12 11)) (mx_leaf 11 (mx_if_ne 23 14))))) (mx_node 20 (mx_node 15 (mx_leaf 14 (mx_aload 0 15)) (mx_node 17 (mx_leaf 15 (mx_const (.int 33) 17)) (mx_leaf 17 (mx_callv 164 2 12 20)))) (mx_node 24 (mx_node 23 (mx_leaf 20 (mx_if_eq 59 23)) (mx_leaf 23 (mx_aload 0 24))) (mx_node 27 (mx_leaf 24 (mx_getf 12 9 27)) (mx_leaf 27 (mx_const (.int 32) 29)))))) (mx_node 46 (mx_node 38 (mx_node 32 (mx_leaf 29 (mx_icmp_ne 38 32)) (mx_node 35 (mx_leaf 32 (mx_const (.int 3000) 35)) (mx_leaf 35 (mx_goto 41)))) (mx_node 42 (mx_node 41 (mx_leaf 38 (mx_const (.int 3001) 41)) (mx_leaf 41 (mx_istore 2 42))) (mx_node 43 (mx_leaf 42 (mx_aload 0 43)) (mx_leaf 43 (mx_callv 162 1 12 46))))) (mx_node 52 (mx_node 48 (mx_node 47 (mx_leaf 46 (mx_aload 0 47)) (mx_leaf 47 (mx_iload 1 48))) (mx_node 51 (mx_leaf 48 (mx_callv 173 2 12 51)) (mx_leaf 51 (mx_aload 0 52)))) (mx_node 56 (mx_node 53 (mx_leaf 52 (mx_iload 2 53)) (mx_leaf 53 (mx_callv 169 2 12 56))) (mx_node 59 (mx_leaf 56 (mx_goto 5)) (mx_leaf 59 (mx_vret)))))))
set_option maxRecDepth 100000 in
noncomputable def tb_175 : Nat → mx_O := (mx_node 74 (mx_node 36 (mx_node 19 (mx_node 10 (mx_node 3 (mx_node 1 (mx_leaf 0 (mx_aload 0 1)) (mx_leaf 1 (mx_const (.int 15) 3))) (mx_node 6 (mx_leaf 3 (mx_callv 164 2 12 6)) (mx_node 9 (mx_leaf 6 (mx_if_eq 33 9)) (mx_leaf 9 (mx_aload 0 10))))) (mx_node 14 (mx_node 11 (mx_leaf 10 (mx_iload 1 11)) (mx_leaf 11 (mx_callv 170 2 12 14))) (mx_node 17 (mx_leaf 14 (mx_if_ne 18 17)) (mx_node 18 (mx_leaf 17 (mx_vret)) (mx_leaf 18 (mx_aload 0 19)))))) (mx_node 26 (mx_node 21 (mx_node 20 (mx_leaf 19 (mx_iload 1 20)) (mx_leaf 20 (mx_const (.int 1) 21))) (mx_node 22 (mx_leaf 21 (mx_iadd 22)) (mx_node 25 (mx_leaf 22 (mx_callv 175 2 12 25)) (mx_leaf 25 (mx_aload 0 26))))) (mx_node 32 (mx_node 29 (mx_leaf 26 (mx_const (.int 3006) 29)) (mx_leaf 29 (mx_callv 169 2 12 32))) (mx_node 33 (mx_leaf 32 (mx_vret)) (mx_node 34 (mx_leaf 33 (mx_aload 0 34)) (mx_leaf 34 (mx_const (.int 37) 36))))))) (mx_node 54 (mx_node 47 (mx_node 42 (mx_node 39 (mx_leaf 36 (mx_callv 164 2 12 39)) (mx_leaf 39 (mx_if_eq 73 42))) (mx_node 43 (mx_leaf 42 (mx_aload 0 43)) (mx_node 44 (mx_leaf 43 (mx_iload 1 44)) (mx_leaf 44 (mx_callv 170 2 12 47))))) (mx_node 51 (mx_node 50 (mx_leaf 47 (mx_if_ne 51 50)) (mx_leaf 50 (mx_vret))) (mx_node 52 (mx_leaf 51 (mx_aload 0 52)) (mx_node 53 (mx_leaf 52 (mx_iload 1 53)) (mx_leaf 53 (mx_const (.int 1) 54)))))) (mx_node 64 (mx_node 58 (mx_node 55 (mx_leaf 54 (mx_iadd 55)) (mx_leaf 55 (mx_callv 177 2 12 58))) (mx_node 59 (mx_leaf 58 (mx_aload 0 59)) (mx_node 61 (mx_leaf 59 (mx_const (.int 38) 61)) (mx_leaf 61 (mx_callv 165 2 12 64))))) (mx_node 69 (mx_node 67 (mx_leaf 64 (mx_if_ne 72 67)) (mx_node 68 (mx_leaf 67 (mx_aload 0 68)) (mx_leaf 68 (mx_const (.int 2) 69)))) (mx_node 72 (mx_leaf 69 (mx_callv 163 2 12 72)) (mx_node 73 (mx_leaf 72 (mx_vret)) (mx_leaf 73 (mx_aload 0 74)))))))) (mx_node 121 (mx_node 96 (mx_node 84 (mx_node 78 (mx_node 75 (mx_leaf 74 (mx_iload 1 75)) (mx_leaf 75 (mx_callv 174 2 12 78))) (mx_node 79 (mx_leaf 78 (mx_aload 0 79)) (mx_node 81 (mx_leaf 79 (mx_const (.int 39) 81)) (mx_leaf 81 (mx_callv 164 2 12 84))))) (mx_node 90 (mx_node 87 (mx_leaf 84 (mx_if_eq 93 87)) (mx_leaf 87 (mx_const (.int 3003) 90))) (mx_node 93 (mx_leaf 90 (mx_goto 111)) (mx_node 94 (mx_leaf 93 (mx_aload 0 94)) (mx_leaf 94 (mx_const (.int 40) 96)))))) (mx_node 111 (mx_node 102 (mx_node 99 (mx_leaf 96 (mx_callv 164 2 12 99)) (mx_leaf 99 (mx_if_eq 108 102))) (mx_node 105 (mx_leaf 102 (mx_const (.int 3004) 105)) (mx_node 108 (mx_leaf 105 (mx_goto 111)) (mx_leaf 108 (mx_const (.int 3005) 111))))) (mx_node 113 (mx_node 112 (mx_leaf 111 (mx_istore 2 112)) (mx_leaf 112 (mx_aload 0 113))) (mx_node 115 (mx_leaf 113 (mx_const (.int 39) 115)) (mx_node 118 (mx_leaf 115 (mx_callv 164 2 12 118)) (mx_leaf 118 (mx_if_ne 139 121))))))) (mx_node 143 (mx_node 131 (mx_node 124 (mx_node 122 (mx_leaf 121 (mx_aload 0 122)) (mx_leaf 122 (mx_const (.int 40) 124))) (mx_node 127 (mx_leaf 124 (mx_callv 164 2 12 127)) (mx_node 130 (mx_leaf 127 (mx_if_ne 139 130)) (mx_leaf 130 (mx_aload 0 131))))) (mx_node 136 (mx_node 133 (mx_leaf 131 (mx_const (.int 41) 133)) (mx_leaf 133 (mx_callv 164 2 12 136))) (mx_node 139 (mx_leaf 136 (mx_if_eq 146 139)) (mx_node 140 (mx_leaf 139 (mx_aload 0 140)) (mx_leaf 140 (mx_callv 162 1 12 143)))))) (mx_node 152 (mx_node 147 (mx_node 146 (mx_leaf 143 (mx_goto 151)) (mx_leaf 146 (mx_aload 0 147))) (mx_node 148 (mx_leaf 147 (mx_const (.int 2) 148)) (mx_node 151 (mx_leaf 148 (mx_callv 163 2 12 151)) (mx_leaf 151 (mx_aload 0 152))))) (mx_node 157 (mx_node 153 (mx_leaf 152 (mx_iload 1 153)) (mx_node 156 (mx_leaf 153 (mx_callv 174 2 12 156)) (mx_leaf 156 (mx_aload 0 157)))) (mx_node 158 (mx_leaf 157 (mx_iload 2 158)) (mx_node 161 (mx_leaf 158 (mx_callv 169 2 12 161)) (mx_leaf 161 (mx_vret)))))))))
set_option maxRecDepth 100000 in
noncomputable def tb_176 : Nat → mx_O := (mx_node 14 (mx_node 5 (mx_node 1 (mx_leaf 0 (mx_aload 0 1)) (mx_node 2 (mx_leaf 1 (mx_iload 1 2)) (mx_leaf 2 (mx_callv 175 2 12 5)))) (mx_node 8 (mx_node 6 (mx_leaf 5 (mx_aload 0 6)) (mx_leaf 6 (mx_const (.int 13) 8))) (mx_node 11 (mx_leaf 8 (mx_callv 165 2 12 11)) (mx_leaf 11 (mx_if_eq 29 14))))) (mx_node 20 (mx_node 16 (mx_node 15 (mx_leaf 14 (mx_aload 0 15)) (mx_leaf 15 (mx_iload 1 16))) (mx_node 19 (mx_leaf 16 (mx_callv 175 2 12 19)) (mx_leaf 19 (mx_aload 0 20)))) (mx_node 26 (mx_node 23 (mx_leaf 20 (mx_const (.int 3007) 23)) (mx_leaf 23 (mx_callv 169 2 12 26))) (mx_node 29 (mx_leaf 26 (mx_goto 5)) (mx_leaf 29 (mx_vret))))))
set_option maxRecDepth 100000 in
noncomputable def tb_177 : Nat → mx_O := (mx_node 14 (mx_node 5 (mx_node 1 (mx_leaf 0 (mx_aload 0 1)) (mx_node 2 (mx_leaf 1 (mx_iload 1 2)) (mx_leaf 2 (mx_callv 176 2 12 5)))) (mx_node 8 (mx_node 6 (mx_leaf 5 (mx_aload 0 6)) (mx_leaf 6 (mx_const (.int 14) 8))) (mx_node 11 (mx_leaf 8 (mx_callv 165 2 12 11)) (mx_leaf 11 (mx_if_eq 29 14))))) (mx_node 20 (mx_node 16 (mx_node 15 (mx_leaf 14 (mx_aload 0 15)) (mx_leaf 15 (mx_iload 1 16))) (mx_node 19 (mx_leaf 16 (mx_callv 176 2 12 19)) (mx_leaf 19 (mx_aload 0 20)))) (mx_node 26 (mx_node 23 (mx_leaf 20 (mx_const (.int 3008) 23)) (mx_leaf 23 (mx_callv 169 2 12 26))) (mx_node 29 (mx_leaf 26 (mx_goto 5)) (mx_leaf 29 (mx_vret))))))
set_option maxRecDepth 100000 in
noncomputable def tb_178 : Nat → mx_O := (mx_node 36 (mx_node 15 (mx_node 8 (mx_node 4 (mx_node 1 (mx_leaf 0 (mx_aload 0 1)) (mx_leaf 1 (mx_callv 162 1 12 4))) (mx_node 5 (mx_leaf 4 (mx_aload 0 5)) (mx_node 6 (mx_leaf 5 (mx_const (.int 1) 6)) (mx_leaf 6 (mx_const (.int 18) 8))))) (mx_node 12 (mx_node 9 (mx_leaf 8 (mx_aload 0 9)) (mx_leaf 9 (mx_getf 12 4 12))) (mx_node 13 (mx_leaf 12 (mx_const (.int 1) 13)) (mx_node 14 (mx_leaf 13 (mx_iald 14)) (mx_leaf 14 (mx_isub 15)))))) (mx_node 26 (mx_node 19 (mx_node 18 (mx_leaf 15 (mx_callv 166 3 12 18)) (mx_leaf 18 (mx_istore 1 19))) (mx_node 20 (mx_leaf 19 (mx_aload 0 20)) (mx_node 23 (mx_leaf 20 (mx_getf 12 11 23)) (mx_leaf 23 (mx_if_eq 27 26))))) (mx_node 31 (mx_node 27 (mx_leaf 26 (mx_vret)) (mx_node 28 (mx_leaf 27 (mx_aload 0 28)) (mx_leaf 28 (mx_getf 12 4 31)))) (mx_node 32 (mx_leaf 31 (mx_const (.int 3) 32)) (mx_node 33 (mx_leaf 32 (mx_aload 0 33)) (mx_leaf 33 (mx_getf 12 4 36))))))) (mx_node 49 (mx_node 41 (mx_node 38 (mx_node 37 (mx_leaf 36 (mx_const (.int 2) 37)) (mx_leaf 37 (mx_iald 38))) (mx_node 39 (mx_leaf 38 (mx_iadd 39)) (mx_node 40 (mx_leaf 39 (mx_iload 1 40)) (mx_leaf 40 (mx_iast 1 41))))) (mx_node 46 (mx_node 42 (mx_leaf 41 (mx_aload 0 42)) (mx_node 45 (mx_leaf 42 (mx_getf 12 4 45)) (mx_leaf 45 (mx_const (.int 2) 46)))) (mx_node 47 (mx_leaf 46 (mx_dup2 47)) (mx_node 48 (mx_leaf 47 (mx_iald 48)) (mx_leaf 48 (mx_const (.int 1) 49)))))) (mx_node 56 (mx_node 51 (mx_node 50 (mx_leaf 49 (mx_iadd 50)) (mx_leaf 50 (mx_iast 1 51))) (mx_node 52 (mx_leaf 51 (mx_aload 0 52)) (mx_node 55 (mx_leaf 52 (mx_getf 12 4 55)) (mx_leaf 55 (mx_const (.int 1) 56))))) (mx_node 59 (mx_node 57 (mx_leaf 56 (mx_dup2 57)) (mx_node 58 (mx_leaf 57 (mx_iald 58)) (mx_leaf 58 (mx_iload 1 59)))) (mx_node 60 (mx_leaf 59 (mx_iadd 60)) (mx_node 61 (mx_leaf 60 (mx_iast 1 61)) (mx_leaf 61 (mx_vret))))))))
set_option maxRecDepth 100000 in
noncomputable def tb_179 : Nat → mx_O := (mx_node 51 (mx_node 25 (mx_node 13 (mx_node 5 (mx_node 1 (mx_leaf 0 (mx_aload 0 1)) (mx_node 4 (mx_leaf 1 (mx_callv 162 1 12 4)) (mx_leaf 4 (mx_aload 0 5)))) (mx_node 7 (mx_leaf 5 (mx_const (.int 31) 7)) (mx_node 10 (mx_leaf 7 (mx_callv 165 2 12 10)) (mx_leaf 10 (mx_if_ne 18 13))))) (mx_node 18 (mx_node 14 (mx_leaf 13 (mx_aload 0 14)) (mx_node 15 (mx_leaf 14 (mx_const (.int 2) 15)) (mx_leaf 15 (mx_callv 163 2 12 18)))) (mx_node 22 (mx_node 19 (mx_leaf 18 (mx_aload 0 19)) (mx_leaf 19 (mx_getf 12 4 22))) (mx_node 24 (mx_leaf 22 (mx_const (.int 61) 24)) (mx_leaf 24 (mx_iald 25)))))) (mx_node 38 (mx_node 30 (mx_node 26 (mx_leaf 25 (mx_istore 2 26)) (mx_node 27 (mx_leaf 26 (mx_iload 1 27)) (mx_leaf 27 (mx_if_ne 38 30)))) (mx_node 32 (mx_node 31 (mx_leaf 30 (mx_aload 0 31)) (mx_leaf 31 (mx_const (.int 0) 32))) (mx_node 35 (mx_leaf 32 (mx_callv 174 2 12 35)) (mx_leaf 35 (mx_goto 43))))) (mx_node 43 (mx_node 39 (mx_leaf 38 (mx_aload 0 39)) (mx_node 40 (mx_leaf 39 (mx_const (.int 0) 40)) (mx_leaf 40 (mx_callv 177 2 12 43)))) (mx_node 47 (mx_node 44 (mx_leaf 43 (mx_aload 0 44)) (mx_leaf 44 (mx_getf 12 11 47))) (mx_node 50 (mx_leaf 47 (mx_if_eq 51 50)) (mx_leaf 50 (mx_vret))))))) (mx_node 70 (mx_node 60 (mx_node 57 (mx_node 52 (mx_leaf 51 (mx_aload 0 52)) (mx_node 55 (mx_leaf 52 (mx_getf 12 4 55)) (mx_leaf 55 (mx_const (.int 21) 57)))) (mx_node 58 (mx_leaf 57 (mx_iload 1 58)) (mx_node 59 (mx_leaf 58 (mx_iadd 59)) (mx_leaf 59 (mx_const (.int 1) 60))))) (mx_node 65 (mx_node 61 (mx_leaf 60 (mx_iast 1 61)) (mx_node 62 (mx_leaf 61 (mx_aload 0 62)) (mx_leaf 62 (mx_getf 12 4 65)))) (mx_node 68 (mx_node 67 (mx_leaf 65 (mx_const (.int 23) 67)) (mx_leaf 67 (mx_iload 1 68))) (mx_node 69 (mx_leaf 68 (mx_iadd 69)) (mx_leaf 69 (mx_iload 2 70)))))) (mx_node 80 (mx_node 75 (mx_node 71 (mx_leaf 70 (mx_iast 1 71)) (mx_node 72 (mx_leaf 71 (mx_aload 0 72)) (mx_leaf 72 (mx_getf 12 4 75)))) (mx_node 78 (mx_node 77 (mx_leaf 75 (mx_const (.int 25) 77)) (mx_leaf 77 (mx_iload 1 78))) (mx_node 79 (mx_leaf 78 (mx_iadd 79)) (mx_leaf 79 (mx_aload 0 80))))) (mx_node 86 (mx_node 83 (mx_leaf 80 (mx_getf 12 4 83)) (mx_node 85 (mx_leaf 83 (mx_const (.int 61) 85)) (mx_leaf 85 (mx_iald 86)))) (mx_node 88 (mx_node 87 (mx_leaf 86 (mx_iload 2 87)) (mx_leaf 87 (mx_isub 88))) (mx_node 89 (mx_leaf 88 (mx_iast 1 89)) (mx_leaf 89 (mx_vret))))))))
set_option maxRecDepth 100000 in
noncomputable def tb_180 : Nat → mx_O := (mx_node 31 (mx_node 13 (mx_node 7 (mx_node 1 (mx_leaf 0 (mx_aload 0 1)) (mx_node 4 (mx_leaf 1 (mx_getf 12 11 4)) (mx_leaf 4 (mx_if_eq 8 7)))) (mx_node 9 (mx_node 8 (mx_leaf 7 (mx_vret)) (mx_leaf 8 (mx_aload 0 9))) (mx_node 10 (mx_leaf 9 (mx_const (.int 2) 10)) (mx_leaf 10 (mx_callv 164 2 12 13))))) (mx_node 23 (mx_node 17 (mx_node 16 (mx_leaf 13 (mx_if_eq 23 16)) (mx_leaf 16 (mx_aload 0 17))) (mx_node 20 (mx_leaf 17 (mx_callv 178 1 12 20)) (mx_leaf 20 (mx_goto 57)))) (mx_node 25 (mx_node 24 (mx_leaf 23 (mx_aload 0 24)) (mx_leaf 24 (mx_const (.int 3) 25))) (mx_node 28 (mx_leaf 25 (mx_callv 164 2 12 28)) (mx_leaf 28 (mx_if_ne 39 31)))))) (mx_node 44 (mx_node 36 (mx_node 32 (mx_leaf 31 (mx_aload 0 32)) (mx_node 33 (mx_leaf 32 (mx_const (.int 4) 33)) (mx_leaf 33 (mx_callv 164 2 12 36)))) (mx_node 40 (mx_node 39 (mx_leaf 36 (mx_if_eq 52 39)) (mx_leaf 39 (mx_aload 0 40))) (mx_node 41 (mx_leaf 40 (mx_aload 0 41)) (mx_leaf 41 (mx_getf 12 9 44))))) (mx_node 52 (mx_node 46 (mx_node 45 (mx_leaf 44 (mx_const (.int 3) 45)) (mx_leaf 45 (mx_isub 46))) (mx_node 49 (mx_leaf 46 (mx_callv 179 2 12 49)) (mx_leaf 49 (mx_goto 57)))) (mx_node 54 (mx_node 53 (mx_leaf 52 (mx_aload 0 53)) (mx_leaf 53 (mx_const (.int 2) 54))) (mx_node 57 (mx_leaf 54 (mx_callv 163 2 12 57)) (mx_leaf 57 (mx_vret)))))))
set_option maxRecDepth 100000 in
noncomputable def tb_181 : Nat → mx_O := (mx_node 15 (mx_node 9 (mx_node 3 (mx_node 1 (mx_leaf 0 (mx_aload 0 1)) (mx_leaf 1 (mx_const (.int 30) 3))) (mx_node 6 (mx_leaf 3 (mx_callv 165 2 12 6)) (mx_leaf 6 (mx_if_ne 14 9)))) (mx_node 11 (mx_node 10 (mx_leaf 9 (mx_aload 0 10)) (mx_leaf 10 (mx_const (.int 2) 11))) (mx_node 14 (mx_leaf 11 (mx_callv 163 2 12 14)) (mx_leaf 14 (mx_aload 0 15))))) (mx_node 21 (mx_node 19 (mx_node 18 (mx_leaf 15 (mx_getf 12 4 18)) (mx_leaf 18 (mx_const (.int 0) 19))) (mx_node 20 (mx_leaf 19 (mx_dup2 20)) (mx_leaf 20 (mx_iald 21)))) (mx_node 23 (mx_node 22 (mx_leaf 21 (mx_const (.int 1) 22)) (mx_leaf 22 (mx_iadd 23))) (mx_node 24 (mx_leaf 23 (mx_iast 1 24)) (mx_leaf 24 (mx_vret))))))
set_option maxRecDepth 100000 in
noncomputable def tb_182 : Nat → mx_O := (mx_node 140 (mx_node 66 (mx_node 29 (mx_node 13 (mx_node 6 (mx_node 2 (mx_node 1 (mx_leaf 0 (mx_aload 0 1)) (mx_leaf 1 (mx_const (.int 0) 2))) (mx_node 5 (mx_leaf 2 (mx_putf 1 12 0 (.int) 5)) (mx_leaf 5 (mx_iload 1 6)))) (mx_node 8 (mx_node 7 (mx_leaf 6 (mx_i2l 7)) (mx_leaf 7 (mx_const (.long 0) 8))) (mx_node 9 (mx_leaf 8 (mx_aload 0 9)) (mx_node 12 (mx_leaf 9 (mx_getf 12 5 12)) (mx_leaf 12 (mx_i2l 13)))))) (mx_node 22 (mx_node 19 (mx_node 16 (mx_leaf 13 (mx_calls 154 3 16)) (mx_leaf 16 (mx_if_ne 22 19))) (mx_node 21 (mx_leaf 19 (mx_const (.int (-3)) 21)) (mx_leaf 21 (mx_iret)))) (mx_node 24 (mx_node 23 (mx_leaf 22 (mx_aload 0 23)) (mx_leaf 23 (mx_iload 1 24))) (mx_node 27 (mx_leaf 24 (mx_putf 1 12 8 (.int) 27)) (mx_node 28 (mx_leaf 27 (mx_aload 0 28)) (mx_leaf 28 (mx_const (.int 0) 29))))))) (mx_node 46 (mx_node 37 (mx_node 33 (mx_node 32 (mx_leaf 29 (mx_putf 1 12 5 (.int) 32)) (mx_leaf 32 (mx_aload 0 33))) (mx_node 34 (mx_leaf 33 (mx_const (.int 0) 34)) (mx_leaf 34 (mx_putf 1 12 7 (.int) 37)))) (mx_node 39 (mx_node 38 (mx_leaf 37 (mx_aload 0 38)) (mx_leaf 38 (mx_const (.int 0) 39))) (mx_node 42 (mx_leaf 39 (mx_putf 1 12 11 (.int) 42)) (mx_node 43 (mx_leaf 42 (mx_aload 0 43)) (mx_leaf 43 (mx_getf 12 4 46)))))) (mx_node 55 (mx_node 50 (mx_node 49 (mx_leaf 46 (mx_calls 156 1 49)) (mx_leaf 49 (mx_aload 0 50))) (mx_node 53 (mx_leaf 50 (mx_callv 162 1 12 53)) (mx_node 54 (mx_leaf 53 (mx_aload 0 54)) (mx_leaf 54 (mx_const (.int 0) 55))))) (mx_node 61 (mx_node 58 (mx_leaf 55 (mx_callv 165 2 12 58)) (mx_leaf 58 (mx_if_eq 69 61))) (mx_node 62 (mx_leaf 61 (mx_aload 0 62)) (mx_node 63 (mx_leaf 62 (mx_const (.int 1) 63)) (mx_leaf 63 (mx_callv 165 2 12 66)))))))) (mx_node 100 (mx_node 82 (mx_node 74 (mx_node 70 (mx_node 69 (mx_leaf 66 (mx_if_ne 74 69)) (mx_leaf 69 (mx_aload 0 70))) (mx_node 71 (mx_leaf 70 (mx_const (.int 2) 71)) (mx_leaf 71 (mx_callv 163 2 12 74)))) (mx_node 78 (mx_node 75 (mx_leaf 74 (mx_aload 0 75)) (mx_leaf 75 (mx_getf 12 4 78))) (mx_node 80 (mx_leaf 78 (mx_const (.int 28) 80)) (mx_node 81 (mx_leaf 80 (mx_aload 0 81)) (mx_leaf 81 (mx_const (.int 0) 82)))))) (mx_node 89 (mx_node 87 (mx_node 84 (mx_leaf 82 (mx_const (.int 9) 84)) (mx_leaf 84 (mx_callv 166 3 12 87))) (mx_node 88 (mx_leaf 87 (mx_iast 1 88)) (mx_leaf 88 (mx_aload 0 89)))) (mx_node 93 (mx_node 92 (mx_leaf 89 (mx_callv 181 1 12 92)) (mx_leaf 92 (mx_aload 0 93))) (mx_node 96 (mx_leaf 93 (mx_getf 12 11 96)) (mx_node 99 (mx_leaf 96 (mx_if_ne 119 99)) (mx_leaf 99 (mx_aload 0 100))))))) (mx_node 120 (mx_node 109 (mx_node 105 (mx_node 103 (mx_leaf 100 (mx_getf 12 9 103)) (mx_leaf 103 (mx_const (.int 24) 105))) (mx_node 108 (mx_leaf 105 (mx_icmp_eq 119 108)) (mx_leaf 108 (mx_aload 0 109)))) (mx_node 113 (mx_node 112 (mx_leaf 109 (mx_callv 180 1 12 112)) (mx_leaf 112 (mx_aload 0 113))) (mx_node 116 (mx_leaf 113 (mx_callv 181 1 12 116)) (mx_node 119 (mx_leaf 116 (mx_goto 92)) (mx_leaf 119 (mx_aload 0 120)))))) (mx_node 129 (mx_node 124 (mx_node 121 (mx_leaf 120 (mx_aload 0 121)) (mx_leaf 121 (mx_getf 12 11 124))) (mx_node 127 (mx_leaf 124 (mx_putf 1 12 13 (.int) 127)) (mx_node 128 (mx_leaf 127 (mx_aload 0 128)) (mx_leaf 128 (mx_aload 0 129))))) (mx_node 135 (mx_node 132 (mx_leaf 129 (mx_getf 12 11 132)) (mx_leaf 132 (mx_if_ne 139 135))) (mx_node 136 (mx_leaf 135 (mx_const (.int (-1)) 136)) (mx_node 139 (mx_leaf 136 (mx_goto 143)) (mx_leaf 139 (mx_aload 0 140))))))))) (mx_node 208 (mx_node 175 (mx_node 160 (mx_node 150 (mx_node 146 (mx_node 143 (mx_leaf 140 (mx_getf 12 12 143)) (mx_leaf 143 (mx_putf 1 12 14 (.int) 146))) (mx_node 147 (mx_leaf 146 (mx_aload 0 147)) (mx_leaf 147 (mx_getf 12 11 150)))) (mx_node 155 (mx_node 153 (mx_leaf 150 (mx_if_eq 161 153)) (mx_leaf 153 (mx_const (.int (-30)) 155))) (mx_node 156 (mx_leaf 155 (mx_aload 0 156)) (mx_node 159 (mx_leaf 156 (mx_getf 12 11 159)) (mx_leaf 159 (mx_isub 160)))))) (mx_node 164 (mx_node 162 (mx_node 161 (mx_leaf 160 (mx_iret)) (mx_leaf 161 (mx_const (.int 0) 162))) (mx_node 163 (mx_leaf 162 (mx_istore 2 163)) (mx_leaf 163 (mx_iload 2 164)))) (mx_node 170 (mx_node 167 (mx_leaf 164 (mx_const (.int 962) 167)) (mx_leaf 167 (mx_icmp_ge 188 170))) (mx_node 171 (mx_leaf 170 (mx_aload 0 171)) (mx_node 174 (mx_leaf 171 (mx_getf 12 1 174)) (mx_leaf 174 (mx_iload 2 175))))))) (mx_node 192 (mx_node 181 (mx_node 179 (mx_node 176 (mx_leaf 175 (mx_aload 0 176)) (mx_leaf 176 (mx_getf 12 4 179))) (mx_node 180 (mx_leaf 179 (mx_iload 2 180)) (mx_leaf 180 (mx_iald 181)))) (mx_node 185 (mx_node 182 (mx_leaf 181 (mx_iast 1 182)) (mx_leaf 182 (mx_iinc 2 1 185))) (mx_node 188 (mx_leaf 185 (mx_goto 163)) (mx_node 189 (mx_leaf 188 (mx_aload 0 189)) (mx_leaf 189 (mx_callv 186 1 12 192)))))) (mx_node 199 (mx_node 194 (mx_node 193 (mx_leaf 192 (mx_const (.int 0) 193)) (mx_leaf 193 (mx_istore 2 194))) (mx_node 195 (mx_leaf 194 (mx_iload 2 195)) (mx_node 196 (mx_leaf 195 (mx_aload 0 196)) (mx_leaf 196 (mx_getf 12 1 199))))) (mx_node 201 (mx_node 200 (mx_leaf 199 (mx_const (.int 2) 200)) (mx_leaf 200 (mx_iald 201))) (mx_node 204 (mx_leaf 201 (mx_icmp_ge 224 204)) (mx_node 205 (mx_leaf 204 (mx_aload 0 205)) (mx_leaf 205 (mx_getf 12 16 208)))))))) (mx_node 239 (mx_node 221 (mx_node 214 (mx_node 210 (mx_node 209 (mx_leaf 208 (mx_iload 2 209)) (mx_leaf 209 (mx_aload 0 210))) (mx_node 213 (mx_leaf 210 (mx_getf 12 1 213)) (mx_leaf 213 (mx_const (.int 3) 214)))) (mx_node 216 (mx_node 215 (mx_leaf 214 (mx_iload 2 215)) (mx_leaf 215 (mx_iadd 216))) (mx_node 217 (mx_leaf 216 (mx_iald 217)) (mx_node 218 (mx_leaf 217 (mx_iast 1 218)) (mx_leaf 218 (mx_iinc 2 1 221)))))) (mx_node 230 (mx_node 225 (mx_node 224 (mx_leaf 221 (mx_goto 194)) (mx_leaf 224 (mx_aload 0 225))) (mx_node 228 (mx_leaf 225 (mx_getf 12 1 228)) (mx_node 229 (mx_leaf 228 (mx_const (.int 2) 229)) (mx_leaf 229 (mx_iald 230))))) (mx_node 234 (mx_node 233 (mx_leaf 230 (mx_if_ne 247 233)) (mx_leaf 233 (mx_aload 0 234))) (mx_node 237 (mx_leaf 234 (mx_getf 12 1 237)) (mx_node 238 (mx_leaf 237 (mx_const (.int 1) 238)) (mx_leaf 238 (mx_const (.int 1) 239))))))) (mx_node 252 (mx_node 245 (mx_node 241 (mx_node 240 (mx_leaf 239 (mx_iast 1 240)) (mx_leaf 240 (mx_aload 0 241))) (mx_node 244 (mx_leaf 241 (mx_getf 12 16 244)) (mx_leaf 244 (mx_const (.int 0) 245)))) (mx_node 247 (mx_node 246 (mx_leaf 245 (mx_const (.int 1) 246)) (mx_leaf 246 (mx_iast 1 247))) (mx_node 248 (mx_leaf 247 (mx_aload 0 248)) (mx_node 251 (mx_leaf 248 (mx_callv 184 1 12 251)) (mx_leaf 251 (mx_aload 0 252)))))) (mx_node 262 (mx_node 257 (mx_node 255 (mx_leaf 252 (mx_getf 12 1 255)) (mx_leaf 255 (mx_const (.int 27) 257))) (mx_node 258 (mx_leaf 257 (mx_aload 0 258)) (mx_node 261 (mx_leaf 258 (mx_callv 188 1 12 261)) (mx_leaf 261 (mx_iast 1 262))))) (mx_node 266 (mx_node 263 (mx_leaf 262 (mx_aload 0 263)) (mx_leaf 263 (mx_getf 12 1 266))) (mx_node 267 (mx_leaf 266 (mx_const (.int 0) 267)) (mx_node 268 (mx_leaf 267 (mx_iald 268)) (mx_leaf 268 (mx_iret))))))))))
set_option maxRecDepth 100000 in
noncomputable def tb_183 : Nat → mx_O := (mx_node 16 (mx_node 6 (mx_node 2 (mx_node 1 (mx_leaf 0 (mx_aload 0 1)) (mx_leaf 1 (mx_const (.int 0) 2))) (mx_node 5 (mx_leaf 2 (mx_putf 1 12 0 (.int) 5)) (mx_leaf 5 (mx_iload 1 6)))) (mx_node 10 (mx_node 9 (mx_leaf 6 (mx_if_ne 16 9)) (mx_leaf 9 (mx_aload 0 10))) (mx_node 13 (mx_leaf 10 (mx_getf 12 13 13)) (mx_leaf 13 (mx_goto 29))))) (mx_node 22 (mx_node 18 (mx_node 17 (mx_leaf 16 (mx_iload 1 17)) (mx_leaf 17 (mx_const (.int 1) 18))) (mx_node 21 (mx_leaf 18 (mx_icmp_ne 28 21)) (mx_leaf 21 (mx_aload 0 22)))) (mx_node 28 (mx_node 25 (mx_leaf 22 (mx_getf 12 14 25)) (mx_leaf 25 (mx_goto 29))) (mx_node 29 (mx_leaf 28 (mx_const (.int (-1)) 29)) (mx_leaf 29 (mx_iret))))))
set_option maxRecDepth 100000 in
noncomputable def tb_184 : Nat → mx_O := (mx_node 11 (mx_node 5 (mx_node 1 (mx_leaf 0 (mx_aload 0 1)) (mx_node 2 (mx_leaf 1 (mx_const (.int 0) 2)) (mx_leaf 2 (mx_putf 1 12 18 (.int) 5)))) (mx_node 7 (mx_node 6 (mx_leaf 5 (mx_aload 0 6)) (mx_leaf 6 (mx_aload 0 7))) (mx_node 10 (mx_leaf 7 (mx_getf 12 1 10)) (mx_leaf 10 (mx_const (.int 1) 11))))) (mx_node 17 (mx_node 13 (mx_node 12 (mx_leaf 11 (mx_iald 12)) (mx_leaf 12 (mx_aload 0 13))) (mx_node 16 (mx_leaf 13 (mx_getf 12 1 16)) (mx_leaf 16 (mx_const (.int 1) 17)))) (mx_node 19 (mx_node 18 (mx_leaf 17 (mx_iald 18)) (mx_leaf 18 (mx_const (.int 0) 19))) (mx_node 22 (mx_leaf 19 (mx_callv 185 4 12 22)) (mx_leaf 22 (mx_vret))))))
set_option maxRecDepth 100000 in
noncomputable def tb_185 : Nat → mx_O := (mx_node 57 (mx_node 28 (mx_node 14 (mx_node 5 (mx_node 1 (mx_leaf 0 (mx_iload 1 1)) (mx_node 4 (mx_leaf 1 (mx_if_ne 63 4)) (mx_leaf 4 (mx_const (.int 0) 5)))) (mx_node 9 (mx_node 7 (mx_leaf 5 (mx_istore 4 7)) (mx_leaf 7 (mx_iload 4 9))) (mx_node 11 (mx_leaf 9 (mx_const (.int 18) 11)) (mx_leaf 11 (mx_icmp_ge 52 14))))) (mx_node 21 (mx_node 18 (mx_node 15 (mx_leaf 14 (mx_aload 0 15)) (mx_leaf 15 (mx_getf 12 15 18))) (mx_node 20 (mx_leaf 18 (mx_const (.int 18) 20)) (mx_leaf 20 (mx_aload 0 21)))) (mx_node 25 (mx_node 24 (mx_leaf 21 (mx_getf 12 18 24)) (mx_leaf 24 (mx_imul 25))) (mx_node 27 (mx_leaf 25 (mx_iload 4 27)) (mx_leaf 27 (mx_iadd 28)))))) (mx_node 41 (mx_node 34 (mx_node 30 (mx_leaf 28 (mx_iload 4 30)) (mx_node 31 (mx_leaf 30 (mx_iload 3 31)) (mx_leaf 31 (mx_icmp_ge 44 34)))) (mx_node 38 (mx_node 35 (mx_leaf 34 (mx_aload 0 35)) (mx_leaf 35 (mx_getf 12 17 38))) (mx_node 40 (mx_leaf 38 (mx_iload 4 40)) (mx_leaf 40 (mx_iald 41))))) (mx_node 49 (mx_node 45 (mx_node 44 (mx_leaf 41 (mx_goto 45)) (mx_leaf 44 (mx_const (.int 0) 45))) (mx_node 46 (mx_leaf 45 (mx_iast 1 46)) (mx_leaf 46 (mx_iinc 4 1 49)))) (mx_node 53 (mx_node 52 (mx_leaf 49 (mx_goto 7)) (mx_leaf 52 (mx_aload 0 53))) (mx_node 54 (mx_leaf 53 (mx_dup 54)) (mx_leaf 54 (mx_getf 12 18 57))))))) (mx_node 84 (mx_node 68 (mx_node 62 (mx_node 58 (mx_leaf 57 (mx_const (.int 1) 58)) (mx_node 59 (mx_leaf 58 (mx_iadd 59)) (mx_leaf 59 (mx_putf 1 12 18 (.int) 62)))) (mx_node 64 (mx_node 63 (mx_leaf 62 (mx_vret)) (mx_leaf 63 (mx_iload 2 64))) (mx_node 65 (mx_leaf 64 (mx_iload 1 65)) (mx_leaf 65 (mx_icmp_ge 72 68))))) (mx_node 75 (mx_node 72 (mx_node 69 (mx_leaf 68 (mx_iload 2 69)) (mx_leaf 69 (mx_goto 73))) (mx_node 73 (mx_leaf 72 (mx_iload 1 73)) (mx_leaf 73 (mx_istore 4 75)))) (mx_node 80 (mx_node 77 (mx_leaf 75 (mx_iload 4 77)) (mx_leaf 77 (mx_if_le 107 80))) (mx_node 81 (mx_leaf 80 (mx_aload 0 81)) (mx_leaf 81 (mx_getf 12 17 84)))))) (mx_node 93 (mx_node 88 (mx_node 85 (mx_leaf 84 (mx_iload 3 85)) (mx_node 87 (mx_leaf 85 (mx_iload 4 87)) (mx_leaf 87 (mx_iast 1 88)))) (mx_node 90 (mx_node 89 (mx_leaf 88 (mx_aload 0 89)) (mx_leaf 89 (mx_iload 1 90))) (mx_node 92 (mx_leaf 90 (mx_iload 4 92)) (mx_leaf 92 (mx_isub 93))))) (mx_node 98 (mx_node 96 (mx_node 95 (mx_leaf 93 (mx_iload 4 95)) (mx_leaf 95 (mx_iload 3 96))) (mx_node 97 (mx_leaf 96 (mx_const (.int 1) 97)) (mx_leaf 97 (mx_iadd 98)))) (mx_node 104 (mx_node 101 (mx_leaf 98 (mx_callv 185 4 12 101)) (mx_leaf 101 (mx_iinc 4 (-1) 104))) (mx_node 107 (mx_leaf 104 (mx_goto 75)) (mx_leaf 107 (mx_vret))))))))
set_option maxRecDepth 100000 in
noncomputable def tb_186 : Nat → mx_O := (mx_node 9 (mx_node 3 (mx_node 1 (mx_leaf 0 (mx_const (.int 0) 1)) (mx_node 2 (mx_leaf 1 (mx_istore 1 2)) (mx_leaf 2 (mx_iload 1 3)))) (mx_node 5 (mx_leaf 3 (mx_const (.int 20) 5)) (mx_node 8 (mx_leaf 5 (mx_icmp_ge 21 8)) (mx_leaf 8 (mx_aload 0 9))))) (mx_node 14 (mx_node 12 (mx_leaf 9 (mx_getf 12 16 12)) (mx_node 13 (mx_leaf 12 (mx_iload 1 13)) (mx_leaf 13 (mx_const (.int 0) 14)))) (mx_node 18 (mx_node 15 (mx_leaf 14 (mx_iast 1 15)) (mx_leaf 15 (mx_iinc 1 1 18))) (mx_node 21 (mx_leaf 18 (mx_goto 2)) (mx_leaf 21 (mx_vret))))))
set_option maxRecDepth 100000 in
noncomputable def tb_187 : Nat → mx_O := (mx_node 18 (mx_node 7 (mx_node 4 (mx_node 1 (mx_leaf 0 (mx_aload 0 1)) (mx_leaf 1 (mx_callv 186 1 12 4))) (mx_node 5 (mx_leaf 4 (mx_const (.int 0) 5)) (mx_node 6 (mx_leaf 5 (mx_istore 2 6)) (mx_leaf 6 (mx_iload 2 7))))) (mx_node 13 (mx_node 9 (mx_leaf 7 (mx_const (.int 18) 9)) (mx_node 12 (mx_leaf 9 (mx_icmp_ge 35 12)) (mx_leaf 12 (mx_aload 0 13)))) (mx_node 16 (mx_leaf 13 (mx_getf 12 16 16)) (mx_node 17 (mx_leaf 16 (mx_iload 2 17)) (mx_leaf 17 (mx_aload 0 18)))))) (mx_node 26 (mx_node 23 (mx_node 21 (mx_leaf 18 (mx_getf 12 15 21)) (mx_leaf 21 (mx_const (.int 18) 23))) (mx_node 24 (mx_leaf 23 (mx_iload 1 24)) (mx_node 25 (mx_leaf 24 (mx_imul 25)) (mx_leaf 25 (mx_iload 2 26))))) (mx_node 29 (mx_node 27 (mx_leaf 26 (mx_iadd 27)) (mx_node 28 (mx_leaf 27 (mx_iald 28)) (mx_leaf 28 (mx_iast 1 29)))) (mx_node 32 (mx_leaf 29 (mx_iinc 2 1 32)) (mx_node 35 (mx_leaf 32 (mx_goto 6)) (mx_leaf 35 (mx_vret)))))))
set_option maxRecDepth 100000 in
noncomputable def tb_188 : Nat → mx_O := (mx_node 54 (mx_node 26 (mx_node 13 (mx_node 5 (mx_node 2 (mx_node 1 (mx_leaf 0 (mx_const (.int 1) 1)) (mx_leaf 1 (mx_istore 1 2))) (mx_node 3 (mx_leaf 2 (mx_iload 1 3)) (mx_leaf 3 (mx_const (.int 20) 5)))) (mx_node 9 (mx_node 8 (mx_leaf 5 (mx_icmp_ge 66 8)) (mx_leaf 8 (mx_aload 0 9))) (mx_node 12 (mx_leaf 9 (mx_getf 12 16 12)) (mx_leaf 12 (mx_iload 1 13))))) (mx_node 17 (mx_node 15 (mx_node 14 (mx_leaf 13 (mx_iald 14)) (mx_leaf 14 (mx_istore 2 15))) (mx_node 16 (mx_leaf 15 (mx_iload 1 16)) (mx_leaf 16 (mx_istore 3 17)))) (mx_node 21 (mx_node 18 (mx_leaf 17 (mx_iload 3 18)) (mx_leaf 18 (mx_if_le 53 21))) (mx_node 22 (mx_leaf 21 (mx_aload 0 22)) (mx_node 25 (mx_leaf 22 (mx_getf 12 16 25)) (mx_leaf 25 (mx_iload 3 26))))))) (mx_node 39 (mx_node 30 (mx_node 28 (mx_node 27 (mx_leaf 26 (mx_const (.int 1) 27)) (mx_leaf 27 (mx_isub 28))) (mx_node 29 (mx_leaf 28 (mx_iald 29)) (mx_leaf 29 (mx_iload 2 30)))) (mx_node 34 (mx_node 33 (mx_leaf 30 (mx_icmp_ge 53 33)) (mx_leaf 33 (mx_aload 0 34))) (mx_node 37 (mx_leaf 34 (mx_getf 12 16 37)) (mx_node 38 (mx_leaf 37 (mx_iload 3 38)) (mx_leaf 38 (mx_aload 0 39)))))) (mx_node 45 (mx_node 43 (mx_node 42 (mx_leaf 39 (mx_getf 12 16 42)) (mx_leaf 42 (mx_iload 3 43))) (mx_node 44 (mx_leaf 43 (mx_const (.int 1) 44)) (mx_leaf 44 (mx_isub 45)))) (mx_node 47 (mx_node 46 (mx_leaf 45 (mx_iald 46)) (mx_leaf 46 (mx_iast 1 47))) (mx_node 50 (mx_leaf 47 (mx_iinc 3 (-1) 50)) (mx_node 53 (mx_leaf 50 (mx_goto 17)) (mx_leaf 53 (mx_aload 0 54)))))))) (mx_node 82 (mx_node 69 (mx_node 60 (mx_node 58 (mx_node 57 (mx_leaf 54 (mx_getf 12 16 57)) (mx_leaf 57 (mx_iload 3 58))) (mx_node 59 (mx_leaf 58 (mx_iload 2 59)) (mx_leaf 59 (mx_iast 1 60)))) (mx_node 66 (mx_node 63 (mx_leaf 60 (mx_iinc 1 1 63)) (mx_leaf 63 (mx_goto 2))) (mx_node 67 (mx_leaf 66 (mx_const (.int 0) 67)) (mx_node 68 (mx_leaf 67 (mx_istore 1 68)) (mx_leaf 68 (mx_aload 0 69)))))) (mx_node 75 (mx_node 73 (mx_node 72 (mx_leaf 69 (mx_getf 12 18 72)) (mx_leaf 72 (mx_const (.int 1) 73))) (mx_node 74 (mx_leaf 73 (mx_isub 74)) (mx_leaf 74 (mx_istore 2 75)))) (mx_node 77 (mx_node 76 (mx_leaf 75 (mx_iload 1 76)) (mx_leaf 76 (mx_iload 2 77))) (mx_node 80 (mx_leaf 77 (mx_icmp_ge 106 80)) (mx_node 81 (mx_leaf 80 (mx_iload 1 81)) (mx_leaf 81 (mx_iload 2 82))))))) (mx_node 95 (mx_node 86 (mx_node 84 (mx_node 83 (mx_leaf 82 (mx_iadd 83)) (mx_leaf 83 (mx_const (.int 2) 84))) (mx_node 85 (mx_leaf 84 (mx_idiv 85)) (mx_leaf 85 (mx_istore 3 86)))) (mx_node 88 (mx_node 87 (mx_leaf 86 (mx_aload 0 87)) (mx_leaf 87 (mx_iload 3 88))) (mx_node 91 (mx_leaf 88 (mx_callv 189 2 12 91)) (mx_node 94 (mx_leaf 91 (mx_if_eq 101 94)) (mx_leaf 94 (mx_iload 3 95)))))) (mx_node 101 (mx_node 97 (mx_node 96 (mx_leaf 95 (mx_const (.int 1) 96)) (mx_leaf 96 (mx_iadd 97))) (mx_node 98 (mx_leaf 97 (mx_istore 1 98)) (mx_leaf 98 (mx_goto 103)))) (mx_node 103 (mx_node 102 (mx_leaf 101 (mx_iload 3 102)) (mx_leaf 102 (mx_istore 2 103))) (mx_node 106 (mx_leaf 103 (mx_goto 75)) (mx_node 107 (mx_leaf 106 (mx_iload 1 107)) (mx_leaf 107 (mx_iret)))))))))
set_option maxRecDepth 100000 in
noncomputable def tb_189 : Nat → mx_O := (mx_node 29 (mx_node 14 (mx_node 5 (mx_node 2 (mx_node 1 (mx_leaf 0 (mx_const (.int 0) 1)) (mx_leaf 1 (mx_istore 2 2))) (mx_node 3 (mx_leaf 2 (mx_iload 2 3)) (mx_leaf 3 (mx_const (.int 18) 5)))) (mx_node 9 (mx_node 8 (mx_leaf 5 (mx_icmp_ge 60 8)) (mx_leaf 8 (mx_aload 0 9))) (mx_node 12 (mx_leaf 9 (mx_getf 12 16 12)) (mx_node 13 (mx_leaf 12 (mx_iload 2 13)) (mx_leaf 13 (mx_iald 14)))))) (mx_node 22 (mx_node 18 (mx_node 15 (mx_leaf 14 (mx_aload 0 15)) (mx_leaf 15 (mx_getf 12 15 18))) (mx_node 20 (mx_leaf 18 (mx_const (.int 18) 20)) (mx_node 21 (mx_leaf 20 (mx_iload 1 21)) (mx_leaf 21 (mx_imul 22))))) (mx_node 24 (mx_node 23 (mx_leaf 22 (mx_iload 2 23)) (mx_leaf 23 (mx_iadd 24))) (mx_node 25 (mx_leaf 24 (mx_iald 25)) (mx_node 28 (mx_leaf 25 (mx_icmp_eq 54 28)) (mx_leaf 28 (mx_aload 0 29))))))) (mx_node 44 (mx_node 38 (mx_node 33 (mx_node 32 (mx_leaf 29 (mx_getf 12 16 32)) (mx_leaf 32 (mx_iload 2 33))) (mx_node 34 (mx_leaf 33 (mx_iald 34)) (mx_node 35 (mx_leaf 34 (mx_aload 0 35)) (mx_leaf 35 (mx_getf 12 15 38))))) (mx_node 41 (mx_node 40 (mx_leaf 38 (mx_const (.int 18) 40)) (mx_leaf 40 (mx_iload 1 41))) (mx_node 42 (mx_leaf 41 (mx_imul 42)) (mx_node 43 (mx_leaf 42 (mx_iload 2 43)) (mx_leaf 43 (mx_iadd 44)))))) (mx_node 53 (mx_node 48 (mx_node 45 (mx_leaf 44 (mx_iald 45)) (mx_leaf 45 (mx_icmp_ge 52 48))) (mx_node 49 (mx_leaf 48 (mx_const (.int 1) 49)) (mx_node 52 (mx_leaf 49 (mx_goto 53)) (mx_leaf 52 (mx_const (.int 0) 53))))) (mx_node 57 (mx_node 54 (mx_leaf 53 (mx_zret)) (mx_leaf 54 (mx_iinc 2 1 57))) (mx_node 60 (mx_leaf 57 (mx_goto 2)) (mx_node 61 (mx_leaf 60 (mx_const (.int 0) 61)) (mx_leaf 61 (mx_zret))))))))
set_option maxRecDepth 100000 in
noncomputable def tb_190 : Nat → mx_O := (mx_node 7 (mx_node 4 (mx_node 1 (mx_leaf 0 (mx_aload 0 1)) (mx_leaf 1 (mx_getf 12 15 4))) (mx_node 6 (mx_leaf 4 (mx_const (.int 18) 6)) (mx_leaf 6 (mx_iload 1 7)))) (mx_node 9 (mx_node 8 (mx_leaf 7 (mx_imul 8)) (mx_leaf 8 (mx_iload 2 9))) (mx_node 10 (mx_leaf 9 (mx_iadd 10)) (mx_node 11 (mx_leaf 10 (mx_iald 11)) (mx_leaf 11 (mx_iret))))))
set_option maxRecDepth 100000 in
noncomputable def tb_191 : Nat → mx_O := (mx_node 10 (mx_node 3 (mx_node 1 (mx_leaf 0 (mx_const (.int 0) 1)) (mx_node 2 (mx_leaf 1 (mx_istore 2 2)) (mx_leaf 2 (mx_iload 2 3)))) (mx_node 8 (mx_node 5 (mx_leaf 3 (mx_const (.int 18) 5)) (mx_leaf 5 (mx_icmp_ge 23 8))) (mx_node 9 (mx_leaf 8 (mx_aload 0 9)) (mx_leaf 9 (mx_iload 1 10))))) (mx_node 17 (mx_node 11 (mx_leaf 10 (mx_iload 2 11)) (mx_node 14 (mx_leaf 11 (mx_callv 190 3 12 14)) (mx_leaf 14 (mx_if_le 23 17)))) (mx_node 23 (mx_node 20 (mx_leaf 17 (mx_iinc 2 1 20)) (mx_leaf 20 (mx_goto 2))) (mx_node 24 (mx_leaf 23 (mx_iload 2 24)) (mx_leaf 24 (mx_iret))))))
set_option maxRecDepth 100000 in
noncomputable def tb_192 : Nat → mx_O := (mx_node 14 (mx_node 5 (mx_node 2 (mx_node 1 (mx_leaf 0 (mx_const (.int 0) 1)) (mx_leaf 1 (mx_istore 3 2))) (mx_node 3 (mx_leaf 2 (mx_iload 3 3)) (mx_leaf 3 (mx_const (.int 18) 5)))) (mx_node 9 (mx_node 8 (mx_leaf 5 (mx_icmp_ge 30 8)) (mx_leaf 8 (mx_iload 2 9))) (mx_node 12 (mx_leaf 9 (mx_if_le 30 12)) (mx_node 13 (mx_leaf 12 (mx_aload 0 13)) (mx_leaf 13 (mx_iload 1 14)))))) (mx_node 23 (mx_node 18 (mx_node 15 (mx_leaf 14 (mx_iload 3 15)) (mx_leaf 15 (mx_callv 190 3 12 18))) (mx_node 19 (mx_leaf 18 (mx_iload 2 19)) (mx_node 22 (mx_leaf 19 (mx_icmp_ne 24 22)) (mx_leaf 22 (mx_iload 3 23))))) (mx_node 27 (mx_node 24 (mx_leaf 23 (mx_iret)) (mx_leaf 24 (mx_iinc 3 1 27))) (mx_node 30 (mx_leaf 27 (mx_goto 2)) (mx_node 31 (mx_leaf 30 (mx_const (.int (-1)) 31)) (mx_leaf 31 (mx_iret)))))))
set_option maxRecDepth 100000 in
noncomputable def tb_193 : Nat → mx_O := (mx_node 89 (mx_node 63 (mx_node 50 (mx_node 42 (mx_node 40 (mx_node 1 (mx_leaf 0 (mx_iload 0 1)) (mx_leaf 1 (mx_tsw 3003 3008 [40, 51, 62, 81, 73, 77] 81))) (mx_node 41 (mx_leaf 40 (mx_iload 1 41)) (mx_leaf 41 (mx_iload 2 42)))) (mx_node 46 (mx_node 45 (mx_leaf 42 (mx_icmp_ne 49 45)) (mx_leaf 45 (mx_const (.int 1) 46))) (mx_node 49 (mx_leaf 46 (mx_goto 50)) (mx_leaf 49 (mx_const (.int 0) 50))))) (mx_node 56 (mx_node 52 (mx_node 51 (mx_leaf 50 (mx_iret)) (mx_leaf 51 (mx_iload 1 52))) (mx_node 53 (mx_leaf 52 (mx_iload 2 53)) (mx_leaf 53 (mx_icmp_ge 60 56)))) (mx_node 60 (mx_node 57 (mx_leaf 56 (mx_const (.int 1) 57)) (mx_leaf 57 (mx_goto 61))) (mx_node 61 (mx_leaf 60 (mx_const (.int 0) 61)) (mx_node 62 (mx_leaf 61 (mx_iret)) (mx_leaf 62 (mx_iload 1 63))))))) (mx_node 76 (mx_node 71 (mx_node 67 (mx_node 64 (mx_leaf 63 (mx_iload 2 64)) (mx_leaf 64 (mx_icmp_le 71 67))) (mx_node 68 (mx_leaf 67 (mx_const (.int 1) 68)) (mx_leaf 68 (mx_goto 72)))) (mx_node 73 (mx_node 72 (mx_leaf 71 (mx_const (.int 0) 72)) (mx_leaf 72 (mx_iret))) (mx_node 74 (mx_leaf 73 (mx_iload 1 74)) (mx_node 75 (mx_leaf 74 (mx_iload 2 75)) (mx_leaf 75 (mx_iand 76)))))) (mx_node 80 (mx_node 78 (mx_node 77 (mx_leaf 76 (mx_iret)) (mx_leaf 77 (mx_iload 1 78))) (mx_node 79 (mx_leaf 78 (mx_iload 2 79)) (mx_leaf 79 (mx_ior 80)))) (mx_node 82 (mx_node 81 (mx_leaf 80 (mx_iret)) (mx_leaf 81 (mx_iload 0 82))) (mx_node 85 (mx_leaf 82 (mx_const (.int 3000) 85)) (mx_node 88 (mx_leaf 85 (mx_icmp_ne 96 88)) (mx_leaf 88 (mx_iload 1 89)))))))) (mx_node 114 (mx_node 103 (mx_node 93 (mx_node 91 (mx_node 90 (mx_leaf 89 (mx_i2l 90)) (mx_leaf 90 (mx_iload 2 91))) (mx_node 92 (mx_leaf 91 (mx_i2l 92)) (mx_leaf 92 (mx_ladd 93)))) (mx_node 97 (mx_node 96 (mx_leaf 93 (mx_goto 116)) (mx_leaf 96 (mx_iload 0 97))) (mx_node 100 (mx_leaf 97 (mx_const (.int 3001) 100)) (mx_leaf 100 (mx_icmp_ne 111 103))))) (mx_node 107 (mx_node 105 (mx_node 104 (mx_leaf 103 (mx_iload 1 104)) (mx_leaf 104 (mx_i2l 105))) (mx_node 106 (mx_leaf 105 (mx_iload 2 106)) (mx_leaf 106 (mx_i2l 107)))) (mx_node 111 (mx_node 108 (mx_leaf 107 (mx_lsub 108)) (mx_leaf 108 (mx_goto 116))) (mx_node 112 (mx_leaf 111 (mx_iload 1 112)) (mx_node 113 (mx_leaf 112 (mx_i2l 113)) (mx_leaf 113 (mx_iload 2 114))))))) (mx_node 131 (mx_node 118 (mx_node 116 (mx_node 115 (mx_leaf 114 (mx_i2l 115)) (mx_leaf 115 (mx_lmul 116))) (mx_node 117 (mx_leaf 116 (mx_lstore 3 117)) (mx_leaf 117 (mx_lload 3 118)))) (mx_node 122 (mx_node 121 (mx_leaf 118 (mx_const (.long 1000000) 121)) (mx_leaf 121 (mx_lif_le 131 125))) (mx_node 125 (mx_leaf 122 (mx_if_le 131 125)) (mx_node 128 (mx_leaf 125 (mx_const (.long 1000000) 128)) (mx_leaf 128 (mx_goto 146)))))) (mx_node 139 (mx_node 135 (mx_node 132 (mx_leaf 131 (mx_lload 3 132)) (mx_leaf 132 (mx_const (.long (-1000000)) 135))) (mx_node 136 (mx_leaf 135 (mx_lif_ge 145 139)) (mx_leaf 136 (mx_if_ge 145 139)))) (mx_node 145 (mx_node 142 (mx_leaf 139 (mx_const (.long (-1000000)) 142)) (mx_leaf 142 (mx_goto 146))) (mx_node 146 (mx_leaf 145 (mx_lload 3 146)) (mx_node 147 (mx_leaf 146 (mx_l2i 147)) (mx_leaf 147 (mx_iret)))))))))
set_option maxRecDepth 100000 in
noncomputable def tb_194 : Nat → mx_O := (mx_node 105 (mx_node 47 (mx_node 23 (mx_node 9 (mx_node 3 (mx_node 1 (mx_leaf 0 (mx_const (.int 0) 1)) (mx_node 2 (mx_leaf 1 (mx_istore 2 2)) (mx_leaf 2 (mx_const (.int 0) 3)))) (mx_node 5 (mx_node 4 (mx_leaf 3 (mx_istore 3 4)) (mx_leaf 4 (mx_iload 3 5))) (mx_node 6 (mx_leaf 5 (mx_aload 0 6)) (mx_leaf 6 (mx_getf 12 1 9))))) (mx_node 14 (mx_node 12 (mx_node 11 (mx_leaf 9 (mx_const (.int 25) 11)) (mx_leaf 11 (mx_iload 1 12))) (mx_node 13 (mx_leaf 12 (mx_iadd 13)) (mx_leaf 13 (mx_iald 14)))) (mx_node 18 (mx_node 17 (mx_leaf 14 (mx_icmp_ge 198 17)) (mx_leaf 17 (mx_aload 0 18))) (mx_node 21 (mx_leaf 18 (mx_getf 12 1 21)) (mx_leaf 21 (mx_const (.int 62) 23)))))) (mx_node 33 (mx_node 29 (mx_node 24 (mx_leaf 23 (mx_aload 0 24)) (mx_node 27 (mx_leaf 24 (mx_getf 12 1 27)) (mx_leaf 27 (mx_const (.int 23) 29)))) (mx_node 31 (mx_node 30 (mx_leaf 29 (mx_iload 1 30)) (mx_leaf 30 (mx_iadd 31))) (mx_node 32 (mx_leaf 31 (mx_iald 32)) (mx_leaf 32 (mx_iadd 33))))) (mx_node 38 (mx_node 35 (mx_node 34 (mx_leaf 33 (mx_iload 3 34)) (mx_leaf 34 (mx_iadd 35))) (mx_node 36 (mx_leaf 35 (mx_iald 36)) (mx_leaf 36 (mx_istore 4 38)))) (mx_node 43 (mx_node 40 (mx_leaf 38 (mx_iload 4 40)) (mx_leaf 40 (mx_const (.int 3000) 43))) (mx_node 46 (mx_leaf 43 (mx_icmp_ge 82 46)) (mx_leaf 46 (mx_aload 0 47))))))) (mx_node 79 (mx_node 64 (mx_node 53 (mx_node 50 (mx_leaf 47 (mx_getf 12 19 50)) (mx_node 51 (mx_leaf 50 (mx_iload 2 51)) (mx_leaf 51 (mx_iload 4 53)))) (mx_node 59 (mx_node 56 (mx_leaf 53 (mx_const (.int 1000) 56)) (mx_leaf 56 (mx_icmp_ge 64 59))) (mx_node 61 (mx_leaf 59 (mx_iload 4 61)) (mx_leaf 61 (mx_goto 75))))) (mx_node 73 (mx_node 68 (mx_node 65 (mx_leaf 64 (mx_aload 0 65)) (mx_leaf 65 (mx_getf 12 20 68))) (mx_node 70 (mx_leaf 68 (mx_iload 4 70)) (mx_leaf 70 (mx_const (.int 1000) 73)))) (mx_node 75 (mx_node 74 (mx_leaf 73 (mx_isub 74)) (mx_leaf 74 (mx_iald 75))) (mx_node 76 (mx_leaf 75 (mx_iast 1 76)) (mx_leaf 76 (mx_iinc 2 1 79)))))) (mx_node 95 (mx_node 87 (mx_node 82 (mx_leaf 79 (mx_goto 192)) (mx_node 84 (mx_leaf 82 (mx_iload 4 84)) (mx_leaf 84 (mx_const (.int 3006) 87)))) (mx_node 91 (mx_node 90 (mx_leaf 87 (mx_icmp_ne 111 90)) (mx_leaf 90 (mx_aload 0 91))) (mx_node 94 (mx_leaf 91 (mx_getf 12 19 94)) (mx_leaf 94 (mx_iload 2 95))))) (mx_node 99 (mx_node 97 (mx_node 96 (mx_leaf 95 (mx_const (.int 1) 96)) (mx_leaf 96 (mx_isub 97))) (mx_node 98 (mx_leaf 97 (mx_const (.int 1) 98)) (mx_leaf 98 (mx_aload 0 99)))) (mx_node 103 (mx_node 102 (mx_leaf 99 (mx_getf 12 19 102)) (mx_leaf 102 (mx_iload 2 103))) (mx_node 104 (mx_leaf 103 (mx_const (.int 1) 104)) (mx_leaf 104 (mx_isub 105)))))))) (mx_node 156 (mx_node 133 (mx_node 119 (mx_node 108 (mx_node 106 (mx_leaf 105 (mx_iald 106)) (mx_node 107 (mx_leaf 106 (mx_isub 107)) (mx_leaf 107 (mx_iast 1 108)))) (mx_node 113 (mx_node 111 (mx_leaf 108 (mx_goto 192)) (mx_leaf 111 (mx_iload 4 113))) (mx_node 116 (mx_leaf 113 (mx_const (.int 3009) 116)) (mx_leaf 116 (mx_icmp_ne 162 119))))) (mx_node 127 (mx_node 123 (mx_node 122 (mx_leaf 119 (mx_iinc 2 (-2) 122)) (mx_leaf 122 (mx_aload 0 123))) (mx_node 126 (mx_leaf 123 (mx_getf 12 19 126)) (mx_leaf 126 (mx_iload 2 127)))) (mx_node 129 (mx_node 128 (mx_leaf 127 (mx_const (.int 1) 128)) (mx_leaf 128 (mx_isub 129))) (mx_node 130 (mx_leaf 129 (mx_aload 0 130)) (mx_leaf 130 (mx_getf 12 19 133)))))) (mx_node 142 (mx_node 136 (mx_node 134 (mx_leaf 133 (mx_iload 2 134)) (mx_node 135 (mx_leaf 134 (mx_const (.int 1) 135)) (mx_leaf 135 (mx_isub 136)))) (mx_node 138 (mx_node 137 (mx_leaf 136 (mx_iald 137)) (mx_leaf 137 (mx_const (.int 1) 138))) (mx_node 141 (mx_leaf 138 (mx_icmp_ne 150 141)) (mx_leaf 141 (mx_aload 0 142))))) (mx_node 150 (mx_node 146 (mx_node 145 (mx_leaf 142 (mx_getf 12 19 145)) (mx_leaf 145 (mx_iload 2 146))) (mx_node 147 (mx_leaf 146 (mx_iald 147)) (mx_leaf 147 (mx_goto 158)))) (mx_node 154 (mx_node 151 (mx_leaf 150 (mx_aload 0 151)) (mx_leaf 151 (mx_getf 12 19 154))) (mx_node 155 (mx_leaf 154 (mx_iload 2 155)) (mx_leaf 155 (mx_const (.int 1) 156))))))) (mx_node 180 (mx_node 169 (mx_node 159 (mx_node 157 (mx_leaf 156 (mx_iadd 157)) (mx_node 158 (mx_leaf 157 (mx_iald 158)) (mx_leaf 158 (mx_iast 1 159)))) (mx_node 165 (mx_node 162 (mx_leaf 159 (mx_goto 192)) (mx_leaf 162 (mx_iinc 2 (-1) 165))) (mx_node 166 (mx_leaf 165 (mx_aload 0 166)) (mx_leaf 166 (mx_getf 12 19 169))))) (mx_node 174 (mx_node 171 (mx_node 170 (mx_leaf 169 (mx_iload 2 170)) (mx_leaf 170 (mx_const (.int 1) 171))) (mx_node 172 (mx_leaf 171 (mx_isub 172)) (mx_leaf 172 (mx_iload 4 174)))) (mx_node 178 (mx_node 175 (mx_leaf 174 (mx_aload 0 175)) (mx_leaf 175 (mx_getf 12 19 178))) (mx_node 179 (mx_leaf 178 (mx_iload 2 179)) (mx_leaf 179 (mx_const (.int 1) 180)))))) (mx_node 191 (mx_node 183 (mx_node 181 (mx_leaf 180 (mx_isub 181)) (mx_node 182 (mx_leaf 181 (mx_iald 182)) (mx_leaf 182 (mx_aload 0 183)))) (mx_node 187 (mx_node 186 (mx_leaf 183 (mx_getf 12 19 186)) (mx_leaf 186 (mx_iload 2 187))) (mx_node 188 (mx_leaf 187 (mx_iald 188)) (mx_leaf 188 (mx_calls 193 3 191))))) (mx_node 199 (mx_node 195 (mx_node 192 (mx_leaf 191 (mx_iast 1 192)) (mx_leaf 192 (mx_iinc 3 1 195))) (mx_node 198 (mx_leaf 195 (mx_goto 4)) (mx_leaf 198 (mx_aload 0 199)))) (mx_node 203 (mx_node 202 (mx_leaf 199 (mx_getf 12 19 202)) (mx_leaf 202 (mx_const (.int 0) 203))) (mx_node 204 (mx_leaf 203 (mx_iald 204)) (mx_leaf 204 (mx_iret)))))))))
set_option maxRecDepth 100000 in
noncomputable def tb_195 : Nat → mx_O := (mx_node 56 (mx_node 26 (mx_node 13 (mx_node 6 (mx_node 4 (mx_node 1 (mx_leaf 0 (mx_aload 0 1)) (mx_leaf 1 (mx_getf 12 20 4))) (mx_node 5 (mx_leaf 4 (mx_const (.int 0) 5)) (mx_leaf 5 (mx_aload 0 6)))) (mx_node 8 (mx_node 7 (mx_leaf 6 (mx_iload 1 7)) (mx_leaf 7 (mx_iload 2 8))) (mx_node 11 (mx_leaf 8 (mx_callv 190 3 12 11)) (mx_node 12 (mx_leaf 11 (mx_iast 1 12)) (mx_leaf 12 (mx_aload 0 13)))))) (mx_node 19 (mx_node 17 (mx_node 16 (mx_leaf 13 (mx_getf 12 20 16)) (mx_leaf 16 (mx_const (.int 1) 17))) (mx_node 18 (mx_leaf 17 (mx_iload 2 18)) (mx_leaf 18 (mx_iast 1 19)))) (mx_node 23 (mx_node 20 (mx_leaf 19 (mx_aload 0 20)) (mx_leaf 20 (mx_getf 12 20 23))) (mx_node 24 (mx_leaf 23 (mx_const (.int 2) 24)) (mx_node 25 (mx_leaf 24 (mx_aload 0 25)) (mx_leaf 25 (mx_iload 1 26))))))) (mx_node 41 (mx_node 34 (mx_node 30 (mx_node 29 (mx_leaf 26 (mx_callv 191 2 12 29)) (mx_leaf 29 (mx_iast 1 30))) (mx_node 31 (mx_leaf 30 (mx_aload 0 31)) (mx_leaf 31 (mx_getf 12 20 34)))) (mx_node 36 (mx_node 35 (mx_leaf 34 (mx_const (.int 3) 35)) (mx_leaf 35 (mx_aload 0 36))) (mx_node 39 (mx_leaf 36 (mx_getf 12 1 39)) (mx_node 40 (mx_leaf 39 (mx_const (.int 1) 40)) (mx_leaf 40 (mx_iald 41)))))) (mx_node 48 (mx_node 43 (mx_node 42 (mx_leaf 41 (mx_iast 1 42)) (mx_leaf 42 (mx_aload 0 43))) (mx_node 46 (mx_leaf 43 (mx_getf 12 20 46)) (mx_node 47 (mx_leaf 46 (mx_const (.int 4) 47)) (mx_leaf 47 (mx_iload 3 48))))) (mx_node 50 (mx_node 49 (mx_leaf 48 (mx_iast 1 49)) (mx_leaf 49 (mx_aload 0 50))) (mx_node 53 (mx_leaf 50 (mx_getf 12 1 53)) (mx_node 55 (mx_leaf 53 (mx_const (.int 22) 55)) (mx_leaf 55 (mx_iald 56)))))))) (mx_node 89 (mx_node 71 (mx_node 62 (mx_node 60 (mx_node 57 (mx_leaf 56 (mx_const (.int 1) 57)) (mx_leaf 57 (mx_icmp_ne 70 60))) (mx_node 61 (mx_leaf 60 (mx_aload 0 61)) (mx_leaf 61 (mx_const (.int 1) 62)))) (mx_node 68 (mx_node 65 (mx_leaf 62 (mx_callv 194 2 12 65)) (mx_leaf 65 (mx_if_ne 70 68))) (mx_node 69 (mx_leaf 68 (mx_const (.int 0) 69)) (mx_node 70 (mx_leaf 69 (mx_iret)) (mx_leaf 70 (mx_aload 0 71)))))) (mx_node 78 (mx_node 76 (mx_node 74 (mx_leaf 71 (mx_getf 12 1 74)) (mx_leaf 74 (mx_const (.int 21) 76))) (mx_node 77 (mx_leaf 76 (mx_iald 77)) (mx_leaf 77 (mx_const (.int 1) 78)))) (mx_node 82 (mx_node 81 (mx_leaf 78 (mx_icmp_ne 89 81)) (mx_leaf 81 (mx_aload 0 82))) (mx_node 83 (mx_leaf 82 (mx_const (.int 0) 83)) (mx_node 86 (mx_leaf 83 (mx_callv 194 2 12 86)) (mx_leaf 86 (mx_goto 90))))))) (mx_node 107 (mx_node 97 (mx_node 92 (mx_node 90 (mx_leaf 89 (mx_const (.int 1) 90)) (mx_leaf 90 (mx_istore 4 92))) (mx_node 94 (mx_leaf 92 (mx_iload 4 94)) (mx_leaf 94 (mx_if_ge 101 97)))) (mx_node 101 (mx_node 98 (mx_leaf 97 (mx_const (.int 0) 98)) (mx_leaf 98 (mx_goto 123))) (mx_node 103 (mx_leaf 101 (mx_iload 4 103)) (mx_node 104 (mx_leaf 103 (mx_aload 0 104)) (mx_leaf 104 (mx_getf 12 20 107)))))) (mx_node 116 (mx_node 109 (mx_node 108 (mx_leaf 107 (mx_const (.int 0) 108)) (mx_leaf 108 (mx_iald 109))) (mx_node 112 (mx_leaf 109 (mx_icmp_le 121 112)) (mx_node 113 (mx_leaf 112 (mx_aload 0 113)) (mx_leaf 113 (mx_getf 12 20 116))))) (mx_node 118 (mx_node 117 (mx_leaf 116 (mx_const (.int 0) 117)) (mx_leaf 117 (mx_iald 118))) (mx_node 121 (mx_leaf 118 (mx_goto 123)) (mx_node 123 (mx_leaf 121 (mx_iload 4 123)) (mx_leaf 123 (mx_iret)))))))))
set_option maxRecDepth 100000 in
noncomputable def tb_196 : Nat → mx_O := (mx_node 48 (mx_node 21 (mx_node 10 (mx_node 5 (mx_node 1 (mx_leaf 0 (mx_aload 0 1)) (mx_node 4 (mx_leaf 1 (mx_callv 186 1 12 4)) (mx_leaf 4 (mx_const (.int 0) 5)))) (mx_node 7 (mx_leaf 5 (mx_istore 4 7)) (mx_node 8 (mx_leaf 7 (mx_const (.int 0) 8)) (mx_leaf 8 (mx_istore 5 10))))) (mx_node 17 (mx_node 12 (mx_leaf 10 (mx_iload 5 12)) (mx_node 14 (mx_leaf 12 (mx_const (.int 18) 14)) (mx_leaf 14 (mx_icmp_ge 80 17)))) (mx_node 18 (mx_leaf 17 (mx_aload 0 18)) (mx_node 19 (mx_leaf 18 (mx_iload 1 19)) (mx_leaf 19 (mx_iload 5 21)))))) (mx_node 36 (mx_node 30 (mx_node 24 (mx_leaf 21 (mx_callv 190 3 12 24)) (mx_node 27 (mx_leaf 24 (mx_if_ne 30 27)) (mx_leaf 27 (mx_goto 74)))) (mx_node 32 (mx_leaf 30 (mx_iload 5 32)) (mx_node 33 (mx_leaf 32 (mx_iload 2 33)) (mx_leaf 33 (mx_icmp_ne 40 36))))) (mx_node 41 (mx_node 37 (mx_leaf 36 (mx_const (.int 0) 37)) (mx_node 40 (mx_leaf 37 (mx_goto 48)) (mx_leaf 40 (mx_aload 0 41)))) (mx_node 44 (mx_node 42 (mx_leaf 41 (mx_iload 1 42)) (mx_leaf 42 (mx_iload 5 44))) (mx_node 45 (mx_leaf 44 (mx_iload 3 45)) (mx_leaf 45 (mx_callv 195 4 12 48))))))) (mx_node 69 (mx_node 58 (mx_node 54 (mx_node 50 (mx_leaf 48 (mx_istore 6 50)) (mx_node 51 (mx_leaf 50 (mx_aload 0 51)) (mx_leaf 51 (mx_getf 12 16 54)))) (mx_node 56 (mx_leaf 54 (mx_iload 5 56)) (mx_node 57 (mx_leaf 56 (mx_aload 0 57)) (mx_leaf 57 (mx_iload 1 58))))) (mx_node 65 (mx_node 60 (mx_leaf 58 (mx_iload 5 60)) (mx_node 63 (mx_leaf 60 (mx_callv 190 3 12 63)) (mx_leaf 63 (mx_iload 6 65)))) (mx_node 66 (mx_leaf 65 (mx_isub 66)) (mx_node 67 (mx_leaf 66 (mx_iast 1 67)) (mx_leaf 67 (mx_iload 4 69)))))) (mx_node 81 (mx_node 74 (mx_node 71 (mx_leaf 69 (mx_iload 6 71)) (mx_node 72 (mx_leaf 71 (mx_iadd 72)) (mx_leaf 72 (mx_istore 4 74)))) (mx_node 77 (mx_leaf 74 (mx_iinc 5 1 77)) (mx_node 80 (mx_leaf 77 (mx_goto 10)) (mx_leaf 80 (mx_aload 0 81))))) (mx_node 88 (mx_node 84 (mx_leaf 81 (mx_getf 12 16 84)) (mx_node 86 (mx_leaf 84 (mx_const (.int 18) 86)) (mx_leaf 86 (mx_iload 4 88)))) (mx_node 90 (mx_node 89 (mx_leaf 88 (mx_iast 1 89)) (mx_leaf 89 (mx_aload 0 90))) (mx_node 93 (mx_leaf 90 (mx_callv 188 1 12 93)) (mx_leaf 93 (mx_iret))))))))
set_option maxRecDepth 100000 in
noncomputable def tb_197 : Nat → mx_O := (mx_node 17 (mx_node 6 (mx_node 4 (mx_node 1 (mx_leaf 0 (mx_iload 2 1)) (mx_leaf 1 (mx_if_eq 26 4))) (mx_node 5 (mx_leaf 4 (mx_iload 2 5)) (mx_leaf 5 (mx_i2l 6)))) (mx_node 10 (mx_node 7 (mx_leaf 6 (mx_const (.long 1) 7)) (mx_leaf 7 (mx_const (.long 18) 10))) (mx_node 13 (mx_leaf 10 (mx_calls 154 3 13)) (mx_node 16 (mx_leaf 13 (mx_if_eq 30 16)) (mx_leaf 16 (mx_aload 0 17)))))) (mx_node 23 (mx_node 19 (mx_node 18 (mx_leaf 17 (mx_iload 1 18)) (mx_leaf 18 (mx_iload 2 19))) (mx_node 22 (mx_leaf 19 (mx_callv 192 3 12 22)) (mx_leaf 22 (mx_const (.int (-1)) 23)))) (mx_node 27 (mx_node 26 (mx_leaf 23 (mx_icmp_eq 30 26)) (mx_leaf 26 (mx_const (.int 1) 27))) (mx_node 30 (mx_leaf 27 (mx_goto 31)) (mx_node 31 (mx_leaf 30 (mx_const (.int 0) 31)) (mx_leaf 31 (mx_zret)))))))
set_option maxRecDepth 100000 in
noncomputable def tb_198 : Nat → mx_O := (mx_node 10 (mx_node 3 (mx_node 1 (mx_leaf 0 (mx_aload 0 1)) (mx_node 2 (mx_leaf 1 (mx_iload 1 2)) (mx_leaf 2 (mx_iload 2 3)))) (mx_node 6 (mx_leaf 3 (mx_if_ne 10 6)) (mx_node 7 (mx_leaf 6 (mx_const (.int (-1)) 7)) (mx_leaf 7 (mx_goto 16))))) (mx_node 13 (mx_node 11 (mx_leaf 10 (mx_aload 0 11)) (mx_node 12 (mx_leaf 11 (mx_iload 1 12)) (mx_leaf 12 (mx_iload 2 13)))) (mx_node 17 (mx_node 16 (mx_leaf 13 (mx_callv 192 3 12 16)) (mx_leaf 16 (mx_iload 3 17))) (mx_node 20 (mx_leaf 17 (mx_callv 196 4 12 20)) (mx_leaf 20 (mx_iret))))))
set_option maxRecDepth 100000 in
noncomputable def tb_199 : Nat → mx_O := (mx_node 20 (mx_node 11 (mx_node 5 (mx_node 1 (mx_leaf 0 (mx_aload 0 1)) (mx_node 2 (mx_leaf 1 (mx_const (.int 0) 2)) (mx_leaf 2 (mx_putf 1 12 0 (.int) 5)))) (mx_node 6 (mx_leaf 5 (mx_iload 1 6)) (mx_node 9 (mx_leaf 6 (mx_if_ge 12 9)) (mx_leaf 9 (mx_const (.int (-3)) 11))))) (mx_node 14 (mx_node 12 (mx_leaf 11 (mx_iret)) (mx_node 13 (mx_leaf 12 (mx_iload 1 13)) (mx_leaf 13 (mx_aload 0 14)))) (mx_node 15 (mx_leaf 14 (mx_aload 0 15)) (mx_node 18 (mx_leaf 15 (mx_getf 12 1 18)) (mx_leaf 18 (mx_const (.int 27) 20)))))) (mx_node 32 (mx_node 27 (mx_node 21 (mx_leaf 20 (mx_iald 21)) (mx_node 24 (mx_leaf 21 (mx_callv 191 2 12 24)) (mx_leaf 24 (mx_icmp_ge 42 27)))) (mx_node 28 (mx_leaf 27 (mx_aload 0 28)) (mx_node 29 (mx_leaf 28 (mx_aload 0 29)) (mx_leaf 29 (mx_getf 12 1 32))))) (mx_node 36 (mx_node 34 (mx_leaf 32 (mx_const (.int 27) 34)) (mx_node 35 (mx_leaf 34 (mx_iald 35)) (mx_leaf 35 (mx_iload 1 36)))) (mx_node 42 (mx_node 39 (mx_leaf 36 (mx_callv 190 3 12 39)) (mx_leaf 39 (mx_goto 43))) (mx_node 43 (mx_leaf 42 (mx_const (.int (-1)) 43)) (mx_leaf 43 (mx_iret)))))))
set_option maxRecDepth 100000 in
noncomputable def tb_200 : Nat → mx_O := (mx_node 22 (mx_node 9 (mx_node 5 (mx_node 1 (mx_leaf 0 (mx_aload 0 1)) (mx_node 2 (mx_leaf 1 (mx_const (.int 0) 2)) (mx_leaf 2 (mx_putf 1 12 0 (.int) 5)))) (mx_node 7 (mx_node 6 (mx_leaf 5 (mx_iload 1 6)) (mx_leaf 6 (mx_i2l 7))) (mx_node 8 (mx_leaf 7 (mx_const (.long 0) 8)) (mx_leaf 8 (mx_aload 0 9))))) (mx_node 16 (mx_node 13 (mx_node 10 (mx_leaf 9 (mx_aload 0 10)) (mx_leaf 10 (mx_getf 12 1 13))) (mx_node 15 (mx_leaf 13 (mx_const (.int 27) 15)) (mx_leaf 15 (mx_iald 16)))) (mx_node 20 (mx_node 19 (mx_leaf 16 (mx_callv 191 2 12 19)) (mx_leaf 19 (mx_const (.int 1) 20))) (mx_node 21 (mx_leaf 20 (mx_isub 21)) (mx_leaf 21 (mx_i2l 22)))))) (mx_node 37 (mx_node 30 (mx_node 28 (mx_node 25 (mx_leaf 22 (mx_calls 154 3 25)) (mx_leaf 25 (mx_if_eq 50 28))) (mx_node 29 (mx_leaf 28 (mx_aload 0 29)) (mx_leaf 29 (mx_aload 0 30)))) (mx_node 35 (mx_node 33 (mx_leaf 30 (mx_getf 12 1 33)) (mx_leaf 33 (mx_const (.int 27) 35))) (mx_node 36 (mx_leaf 35 (mx_iald 36)) (mx_leaf 36 (mx_iload 1 37))))) (mx_node 44 (mx_node 41 (mx_node 38 (mx_leaf 37 (mx_aload 0 38)) (mx_leaf 38 (mx_getf 12 1 41))) (mx_node 43 (mx_leaf 41 (mx_const (.int 28) 43)) (mx_leaf 43 (mx_iald 44)))) (mx_node 50 (mx_node 47 (mx_leaf 44 (mx_callv 195 4 12 47)) (mx_leaf 47 (mx_goto 52))) (mx_node 52 (mx_leaf 50 (mx_const (.int (-2)) 52)) (mx_leaf 52 (mx_iret)))))))
set_option maxRecDepth 100000 in
noncomputable def tb_201 : Nat → mx_O := (mx_node 43 (mx_node 21 (mx_node 8 (mx_node 5 (mx_node 1 (mx_leaf 0 (mx_aload 0 1)) (mx_node 2 (mx_leaf 1 (mx_const (.int 0) 2)) (mx_leaf 2 (mx_putf 1 12 0 (.int) 5)))) (mx_node 6 (mx_leaf 5 (mx_iload 2 6)) (mx_node 7 (mx_leaf 6 (mx_i2l 7)) (mx_leaf 7 (mx_const (.long 0) 8))))) (mx_node 17 (mx_node 11 (mx_leaf 8 (mx_const (.long 2) 11)) (mx_node 14 (mx_leaf 11 (mx_calls 154 3 14)) (mx_leaf 14 (mx_if_ne 20 17)))) (mx_node 19 (mx_leaf 17 (mx_const (.int (-2)) 19)) (mx_node 20 (mx_leaf 19 (mx_iret)) (mx_leaf 20 (mx_aload 0 21)))))) (mx_node 32 (mx_node 27 (mx_node 22 (mx_leaf 21 (mx_aload 0 22)) (mx_node 25 (mx_leaf 22 (mx_getf 12 1 25)) (mx_leaf 25 (mx_const (.int 27) 27)))) (mx_node 28 (mx_leaf 27 (mx_iald 28)) (mx_node 29 (mx_leaf 28 (mx_iload 1 29)) (mx_leaf 29 (mx_callv 197 3 12 32))))) (mx_node 38 (mx_node 35 (mx_leaf 32 (mx_if_ne 38 35)) (mx_node 37 (mx_leaf 35 (mx_const (.int (-5)) 37)) (mx_leaf 37 (mx_iret)))) (mx_node 39 (mx_leaf 38 (mx_aload 0 39)) (mx_node 40 (mx_leaf 39 (mx_aload 0 40)) (mx_leaf 40 (mx_getf 12 1 43))))))) (mx_node 63 (mx_node 53 (mx_node 47 (mx_node 45 (mx_leaf 43 (mx_const (.int 27) 45)) (mx_node 46 (mx_leaf 45 (mx_iald 46)) (mx_leaf 46 (mx_iload 1 47)))) (mx_node 48 (mx_leaf 47 (mx_aload 0 48)) (mx_node 51 (mx_leaf 48 (mx_getf 12 1 51)) (mx_leaf 51 (mx_const (.int 28) 53))))) (mx_node 58 (mx_node 54 (mx_leaf 53 (mx_iald 54)) (mx_node 57 (mx_leaf 54 (mx_callv 198 4 12 57)) (mx_leaf 57 (mx_istore 3 58)))) (mx_node 59 (mx_leaf 58 (mx_iload 2 59)) (mx_node 62 (mx_leaf 59 (mx_if_ne 66 62)) (mx_leaf 62 (mx_iload 3 63)))))) (mx_node 73 (mx_node 68 (mx_node 66 (mx_leaf 63 (mx_goto 85)) (mx_node 67 (mx_leaf 66 (mx_iload 2 67)) (mx_leaf 67 (mx_const (.int 1) 68)))) (mx_node 71 (mx_leaf 68 (mx_icmp_ne 79 71)) (mx_node 72 (mx_leaf 71 (mx_aload 0 72)) (mx_leaf 72 (mx_iload 3 73))))) (mx_node 80 (mx_node 76 (mx_leaf 73 (mx_callv 191 2 12 76)) (mx_node 79 (mx_leaf 76 (mx_goto 85)) (mx_leaf 79 (mx_aload 0 80)))) (mx_node 82 (mx_node 81 (mx_leaf 80 (mx_iload 3 81)) (mx_leaf 81 (mx_const (.int 0) 82))) (mx_node 85 (mx_leaf 82 (mx_callv 190 3 12 85)) (mx_leaf 85 (mx_iret))))))))
set_option maxRecDepth 100000 in
noncomputable def tb_202 : Nat → mx_O := (mx_node 13 (mx_node 4 (mx_node 2 (mx_node 1 (mx_leaf 0 (mx_const (.int 0) 1)) (mx_leaf 1 (mx_istore 1 2))) (mx_node 3 (mx_leaf 2 (mx_iload 1 3)) (mx_leaf 3 (mx_const (.int 3) 4)))) (mx_node 8 (mx_node 7 (mx_leaf 4 (mx_icmp_ge 28 7)) (mx_leaf 7 (mx_aload 0 8))) (mx_node 11 (mx_leaf 8 (mx_getf 12 21 11)) (mx_node 12 (mx_leaf 11 (mx_iload 1 12)) (mx_leaf 12 (mx_aload 0 13)))))) (mx_node 20 (mx_node 18 (mx_node 16 (mx_leaf 13 (mx_getf 12 1 16)) (mx_leaf 16 (mx_const (.int 27) 18))) (mx_node 19 (mx_leaf 18 (mx_iload 1 19)) (mx_leaf 19 (mx_iadd 20)))) (mx_node 22 (mx_node 21 (mx_leaf 20 (mx_iald 21)) (mx_leaf 21 (mx_iast 1 22))) (mx_node 25 (mx_leaf 22 (mx_iinc 1 1 25)) (mx_node 28 (mx_leaf 25 (mx_goto 2)) (mx_leaf 28 (mx_vret)))))))
set_option maxRecDepth 100000 in
noncomputable def tb_203 : Nat → mx_O := (mx_node 14 (mx_node 4 (mx_node 2 (mx_node 1 (mx_leaf 0 (mx_const (.int 0) 1)) (mx_leaf 1 (mx_istore 1 2))) (mx_node 3 (mx_leaf 2 (mx_iload 1 3)) (mx_leaf 3 (mx_const (.int 3) 4)))) (mx_node 8 (mx_node 7 (mx_leaf 4 (mx_icmp_ge 28 7)) (mx_leaf 7 (mx_aload 0 8))) (mx_node 11 (mx_leaf 8 (mx_getf 12 1 11)) (mx_node 13 (mx_leaf 11 (mx_const (.int 27) 13)) (mx_leaf 13 (mx_iload 1 14)))))) (mx_node 20 (mx_node 16 (mx_node 15 (mx_leaf 14 (mx_iadd 15)) (mx_leaf 15 (mx_aload 0 16))) (mx_node 19 (mx_leaf 16 (mx_getf 12 21 19)) (mx_leaf 19 (mx_iload 1 20)))) (mx_node 22 (mx_node 21 (mx_leaf 20 (mx_iald 21)) (mx_leaf 21 (mx_iast 1 22))) (mx_node 25 (mx_leaf 22 (mx_iinc 1 1 25)) (mx_node 28 (mx_leaf 25 (mx_goto 2)) (mx_leaf 28 (mx_vret)))))))
set_option maxRecDepth 100000 in
noncomputable def tb_204 : Nat → mx_O := (mx_node 55 (mx_node 28 (mx_node 14 (mx_node 7 (mx_node 4 (mx_node 1 (mx_leaf 0 (mx_aload 0 1)) (mx_leaf 1 (mx_getf 12 1 4))) (mx_node 6 (mx_leaf 4 (mx_const (.int 30) 6)) (mx_leaf 6 (mx_iald 7)))) (mx_node 12 (mx_node 9 (mx_leaf 7 (mx_const (.int 10) 9)) (mx_leaf 9 (mx_icmp_ne 55 12))) (mx_node 13 (mx_leaf 12 (mx_const (.int 0) 13)) (mx_leaf 13 (mx_istore 1 14))))) (mx_node 21 (mx_node 17 (mx_node 15 (mx_leaf 14 (mx_iload 1 15)) (mx_leaf 15 (mx_const (.int 27) 17))) (mx_node 20 (mx_leaf 17 (mx_icmp_ge 44 20)) (mx_leaf 20 (mx_aload 0 21)))) (mx_node 26 (mx_node 24 (mx_leaf 21 (mx_getf 12 1 24)) (mx_leaf 24 (mx_const (.int 31) 26))) (mx_node 27 (mx_leaf 26 (mx_iload 1 27)) (mx_leaf 27 (mx_iadd 28)))))) (mx_node 41 (mx_node 35 (mx_node 32 (mx_node 29 (mx_leaf 28 (mx_aload 0 29)) (mx_leaf 29 (mx_getf 12 1 32))) (mx_node 34 (mx_leaf 32 (mx_const (.int 34) 34)) (mx_leaf 34 (mx_iload 1 35)))) (mx_node 37 (mx_node 36 (mx_leaf 35 (mx_iadd 36)) (mx_leaf 36 (mx_iald 37))) (mx_node 38 (mx_leaf 37 (mx_iast 1 38)) (mx_leaf 38 (mx_iinc 1 1 41))))) (mx_node 50 (mx_node 45 (mx_node 44 (mx_leaf 41 (mx_goto 14)) (mx_leaf 44 (mx_aload 0 45))) (mx_node 48 (mx_leaf 45 (mx_getf 12 1 48)) (mx_leaf 48 (mx_const (.int 30) 50)))) (mx_node 52 (mx_node 51 (mx_leaf 50 (mx_dup2 51)) (mx_leaf 51 (mx_iald 52))) (mx_node 53 (mx_leaf 52 (mx_const (.int 1) 53)) (mx_node 54 (mx_leaf 53 (mx_isub 54)) (mx_leaf 54 (mx_iast 1 55)))))))) (mx_node 79 (mx_node 68 (mx_node 59 (mx_node 57 (mx_node 56 (mx_leaf 55 (mx_const (.int 0) 56)) (mx_leaf 56 (mx_istore 1 57))) (mx_node 58 (mx_leaf 57 (mx_iload 1 58)) (mx_leaf 58 (mx_const (.int 3) 59)))) (mx_node 63 (mx_node 62 (mx_leaf 59 (mx_icmp_ge 93 62)) (mx_leaf 62 (mx_aload 0 63))) (mx_node 66 (mx_leaf 63 (mx_getf 12 1 66)) (mx_leaf 66 (mx_const (.int 31) 68))))) (mx_node 75 (mx_node 70 (mx_node 69 (mx_leaf 68 (mx_const (.int 3) 69)) (mx_leaf 69 (mx_aload 0 70))) (mx_node 73 (mx_leaf 70 (mx_getf 12 1 73)) (mx_leaf 73 (mx_const (.int 30) 75)))) (mx_node 77 (mx_node 76 (mx_leaf 75 (mx_iald 76)) (mx_leaf 76 (mx_imul 77))) (mx_node 78 (mx_leaf 77 (mx_iadd 78)) (mx_leaf 78 (mx_iload 1 79)))))) (mx_node 93 (mx_node 85 (mx_node 81 (mx_node 80 (mx_leaf 79 (mx_iadd 80)) (mx_leaf 80 (mx_aload 0 81))) (mx_node 84 (mx_leaf 81 (mx_getf 12 21 84)) (mx_leaf 84 (mx_iload 1 85)))) (mx_node 87 (mx_node 86 (mx_leaf 85 (mx_iald 86)) (mx_leaf 86 (mx_iast 1 87))) (mx_node 90 (mx_leaf 87 (mx_iinc 1 1 90)) (mx_leaf 90 (mx_goto 57))))) (mx_node 100 (mx_node 97 (mx_node 94 (mx_leaf 93 (mx_aload 0 94)) (mx_leaf 94 (mx_getf 12 1 97))) (mx_node 99 (mx_leaf 97 (mx_const (.int 30) 99)) (mx_leaf 99 (mx_dup2 100)))) (mx_node 102 (mx_node 101 (mx_leaf 100 (mx_iald 101)) (mx_leaf 101 (mx_const (.int 1) 102))) (mx_node 103 (mx_leaf 102 (mx_iadd 103)) (mx_node 104 (mx_leaf 103 (mx_iast 1 104)) (mx_leaf 104 (mx_vret)))))))))
set_option maxRecDepth 100000 in
noncomputable def tb_205 : Nat → mx_O := (mx_node 21 (mx_node 11 (mx_node 6 (mx_node 1 (mx_leaf 0 (mx_aload 0 1)) (mx_node 4 (mx_leaf 1 (mx_getf 12 1 4)) (mx_leaf 4 (mx_const (.int 27) 6)))) (mx_node 7 (mx_leaf 6 (mx_aload 0 7)) (mx_node 8 (mx_leaf 7 (mx_aload 0 8)) (mx_leaf 8 (mx_getf 12 1 11))))) (mx_node 15 (mx_node 13 (mx_leaf 11 (mx_const (.int 27) 13)) (mx_node 14 (mx_leaf 13 (mx_iald 14)) (mx_leaf 14 (mx_iload 1 15)))) (mx_node 16 (mx_leaf 15 (mx_aload 0 16)) (mx_node 19 (mx_leaf 16 (mx_getf 12 1 19)) (mx_leaf 19 (mx_const (.int 28) 21)))))) (mx_node 32 (mx_node 26 (mx_node 22 (mx_leaf 21 (mx_iald 22)) (mx_node 25 (mx_leaf 22 (mx_callv 198 4 12 25)) (mx_leaf 25 (mx_iast 1 26)))) (mx_node 27 (mx_leaf 26 (mx_aload 0 27)) (mx_node 30 (mx_leaf 27 (mx_getf 12 1 30)) (mx_leaf 30 (mx_const (.int 29) 32))))) (mx_node 35 (mx_node 33 (mx_leaf 32 (mx_dup2 33)) (mx_node 34 (mx_leaf 33 (mx_iald 34)) (mx_leaf 34 (mx_const (.int 1) 35)))) (mx_node 36 (mx_leaf 35 (mx_iadd 36)) (mx_node 37 (mx_leaf 36 (mx_iast 1 37)) (mx_leaf 37 (mx_vret)))))))
set_option maxRecDepth 100000 in
noncomputable def tb_206 : Nat → mx_O := (mx_node 29 (mx_node 14 (mx_node 6 (mx_node 2 (mx_node 1 (mx_leaf 0 (mx_aload 0 1)) (mx_leaf 1 (mx_const (.int 0) 2))) (mx_node 5 (mx_leaf 2 (mx_putf 1 12 0 (.int) 5)) (mx_leaf 5 (mx_iload 1 6)))) (mx_node 8 (mx_node 7 (mx_leaf 6 (mx_i2l 7)) (mx_leaf 7 (mx_const (.long 0) 8))) (mx_node 11 (mx_leaf 8 (mx_const (.long 18) 11)) (mx_leaf 11 (mx_calls 154 3 14))))) (mx_node 21 (mx_node 19 (mx_node 17 (mx_leaf 14 (mx_if_ne 20 17)) (mx_leaf 17 (mx_const (.int (-11)) 19))) (mx_node 20 (mx_leaf 19 (mx_iret)) (mx_leaf 20 (mx_aload 0 21)))) (mx_node 25 (mx_node 22 (mx_leaf 21 (mx_aload 0 22)) (mx_leaf 22 (mx_getf 12 1 25))) (mx_node 27 (mx_leaf 25 (mx_const (.int 27) 27)) (mx_node 28 (mx_leaf 27 (mx_iald 28)) (mx_leaf 28 (mx_iload 1 29))))))) (mx_node 47 (mx_node 38 (mx_node 35 (mx_node 32 (mx_leaf 29 (mx_callv 197 3 12 32)) (mx_leaf 32 (mx_if_ne 38 35))) (mx_node 37 (mx_leaf 35 (mx_const (.int (-12)) 37)) (mx_leaf 37 (mx_iret)))) (mx_node 42 (mx_node 39 (mx_leaf 38 (mx_aload 0 39)) (mx_leaf 39 (mx_callv 202 1 12 42))) (mx_node 43 (mx_leaf 42 (mx_aload 0 43)) (mx_node 44 (mx_leaf 43 (mx_iload 1 44)) (mx_leaf 44 (mx_callv 205 2 12 47)))))) (mx_node 53 (mx_node 51 (mx_node 48 (mx_leaf 47 (mx_aload 0 48)) (mx_leaf 48 (mx_callv 204 1 12 51))) (mx_node 52 (mx_leaf 51 (mx_aload 0 52)) (mx_leaf 52 (mx_aload 0 53)))) (mx_node 58 (mx_node 56 (mx_leaf 53 (mx_getf 12 1 56)) (mx_leaf 56 (mx_const (.int 27) 58))) (mx_node 59 (mx_leaf 58 (mx_iald 59)) (mx_node 62 (mx_leaf 59 (mx_callv 191 2 12 62)) (mx_leaf 62 (mx_iret))))))))
set_option maxRecDepth 100000 in
noncomputable def tb_207 : Nat → mx_O := (mx_node 27 (mx_node 14 (mx_node 6 (mx_node 2 (mx_node 1 (mx_leaf 0 (mx_aload 0 1)) (mx_leaf 1 (mx_const (.int 0) 2))) (mx_node 5 (mx_leaf 2 (mx_putf 1 12 0 (.int) 5)) (mx_leaf 5 (mx_iload 1 6)))) (mx_node 8 (mx_node 7 (mx_leaf 6 (mx_i2l 7)) (mx_leaf 7 (mx_const (.long 1) 8))) (mx_node 11 (mx_leaf 8 (mx_const (.long 99) 11)) (mx_leaf 11 (mx_calls 154 3 14))))) (mx_node 21 (mx_node 19 (mx_node 17 (mx_leaf 14 (mx_if_ne 20 17)) (mx_leaf 17 (mx_const (.int (-3)) 19))) (mx_node 20 (mx_leaf 19 (mx_iret)) (mx_leaf 20 (mx_aload 0 21)))) (mx_node 25 (mx_node 24 (mx_leaf 21 (mx_callv 202 1 12 24)) (mx_leaf 24 (mx_const (.int 0) 25))) (mx_node 26 (mx_leaf 25 (mx_istore 2 26)) (mx_leaf 26 (mx_iload 2 27)))))) (mx_node 43 (mx_node 33 (mx_node 31 (mx_node 28 (mx_leaf 27 (mx_iload 1 28)) (mx_leaf 28 (mx_icmp_ge 42 31))) (mx_node 32 (mx_leaf 31 (mx_aload 0 32)) (mx_leaf 32 (mx_const (.int 0) 33)))) (mx_node 39 (mx_node 36 (mx_leaf 33 (mx_callv 205 2 12 36)) (mx_leaf 36 (mx_iinc 2 1 39))) (mx_node 42 (mx_leaf 39 (mx_goto 26)) (mx_leaf 42 (mx_aload 0 43))))) (mx_node 51 (mx_node 47 (mx_node 46 (mx_leaf 43 (mx_callv 204 1 12 46)) (mx_leaf 46 (mx_aload 0 47))) (mx_node 48 (mx_leaf 47 (mx_aload 0 48)) (mx_leaf 48 (mx_getf 12 1 51)))) (mx_node 54 (mx_node 53 (mx_leaf 51 (mx_const (.int 27) 53)) (mx_leaf 53 (mx_iald 54))) (mx_node 57 (mx_leaf 54 (mx_callv 191 2 12 57)) (mx_leaf 57 (mx_iret)))))))
set_option maxRecDepth 100000 in
noncomputable def tb_208 : Nat → mx_O := (mx_node 2 (mx_node 1 (mx_leaf 0 (mx_lload 0 1)) (mx_leaf 1 (mx_const (.long 1) 2))) (mx_node 5 (mx_leaf 2 (mx_const (.long 18) 5)) (mx_node 8 (mx_leaf 5 (mx_calls 154 3 8)) (mx_leaf 8 (mx_zret)))))
set_option maxRecDepth 100000 in
noncomputable def tb_209 : Nat → mx_O := (mx_node 22 (mx_node 11 (mx_node 5 (mx_node 1 (mx_leaf 0 (mx_iload 1 1)) (mx_node 2 (mx_leaf 1 (mx_i2l 2)) (mx_leaf 2 (mx_calls 208 1 5)))) (mx_node 9 (mx_node 8 (mx_leaf 5 (mx_if_eq 21 8)) (mx_leaf 8 (mx_iload 2 9))) (mx_node 10 (mx_leaf 9 (mx_i2l 10)) (mx_leaf 10 (mx_const (.long 1) 11))))) (mx_node 14 (mx_node 12 (mx_leaf 11 (mx_iload 1 12)) (mx_node 13 (mx_leaf 12 (mx_i2l 13)) (mx_leaf 13 (mx_const (.long 1) 14)))) (mx_node 18 (mx_node 15 (mx_leaf 14 (mx_lsub 15)) (mx_leaf 15 (mx_calls 154 3 18))) (mx_node 21 (mx_leaf 18 (mx_if_ne 23 21)) (mx_leaf 21 (mx_const (.int 1) 22)))))) (mx_node 32 (mx_node 25 (mx_node 23 (mx_leaf 22 (mx_iret)) (mx_node 24 (mx_leaf 23 (mx_aload 0 24)) (mx_leaf 24 (mx_aload 0 25)))) (mx_node 30 (mx_node 28 (mx_leaf 25 (mx_getf 12 1 28)) (mx_leaf 28 (mx_const (.int 27) 30))) (mx_node 31 (mx_leaf 30 (mx_iald 31)) (mx_leaf 31 (mx_iload 1 32))))) (mx_node 39 (mx_node 35 (mx_leaf 32 (mx_callv 192 3 12 35)) (mx_node 36 (mx_leaf 35 (mx_const (.int (-1)) 36)) (mx_leaf 36 (mx_icmp_ne 43 39)))) (mx_node 43 (mx_node 40 (mx_leaf 39 (mx_const (.int 2) 40)) (mx_leaf 40 (mx_goto 44))) (mx_node 44 (mx_leaf 43 (mx_const (.int 0) 44)) (mx_leaf 44 (mx_iret)))))))
set_option maxRecDepth 100000 in
noncomputable def tb_210 : Nat → mx_O := (mx_node 27 (mx_node 12 (mx_node 5 (mx_node 1 (mx_leaf 0 (mx_aload 0 1)) (mx_node 2 (mx_leaf 1 (mx_aload 0 2)) (mx_leaf 2 (mx_getf 12 1 5)))) (mx_node 8 (mx_node 7 (mx_leaf 5 (mx_const (.int 27) 7)) (mx_leaf 7 (mx_iald 8))) (mx_node 11 (mx_leaf 8 (mx_callv 187 2 12 11)) (mx_leaf 11 (mx_aload 0 12))))) (mx_node 20 (mx_node 16 (mx_node 15 (mx_leaf 12 (mx_getf 12 16 15)) (mx_leaf 15 (mx_aload 0 16))) (mx_node 17 (mx_leaf 16 (mx_aload 0 17)) (mx_leaf 17 (mx_getf 12 1 20)))) (mx_node 23 (mx_node 22 (mx_leaf 20 (mx_const (.int 27) 22)) (mx_leaf 22 (mx_iald 23))) (mx_node 24 (mx_leaf 23 (mx_iload 1 24)) (mx_leaf 24 (mx_callv 192 3 12 27)))))) (mx_node 38 (mx_node 31 (mx_node 29 (mx_node 28 (mx_leaf 27 (mx_iload 1 28)) (mx_leaf 28 (mx_iload 2 29))) (mx_node 30 (mx_leaf 29 (mx_isub 30)) (mx_leaf 30 (mx_iast 1 31)))) (mx_node 35 (mx_node 32 (mx_leaf 31 (mx_aload 0 32)) (mx_leaf 32 (mx_getf 12 16 35))) (mx_node 37 (mx_leaf 35 (mx_const (.int 18) 37)) (mx_leaf 37 (mx_iload 2 38))))) (mx_node 45 (mx_node 40 (mx_node 39 (mx_leaf 38 (mx_iast 1 39)) (mx_leaf 39 (mx_aload 0 40))) (mx_node 43 (mx_leaf 40 (mx_getf 12 1 43)) (mx_leaf 43 (mx_const (.int 27) 45)))) (mx_node 49 (mx_node 46 (mx_leaf 45 (mx_aload 0 46)) (mx_leaf 46 (mx_callv 188 1 12 49))) (mx_node 50 (mx_leaf 49 (mx_iast 1 50)) (mx_leaf 50 (mx_vret)))))))
set_option maxRecDepth 100000 in
noncomputable def tb_211 : Nat → mx_O := (mx_node 21 (mx_node 11 (mx_node 5 (mx_node 1 (mx_leaf 0 (mx_aload 0 1)) (mx_node 2 (mx_leaf 1 (mx_const (.int 0) 2)) (mx_leaf 2 (mx_putf 1 12 0 (.int) 5)))) (mx_node 7 (mx_node 6 (mx_leaf 5 (mx_aload 0 6)) (mx_leaf 6 (mx_iload 1 7))) (mx_node 8 (mx_leaf 7 (mx_iload 2 8)) (mx_leaf 8 (mx_callv 209 3 12 11))))) (mx_node 16 (mx_node 12 (mx_leaf 11 (mx_istore 3 12)) (mx_node 13 (mx_leaf 12 (mx_iload 3 13)) (mx_leaf 13 (mx_if_eq 21 16)))) (mx_node 19 (mx_node 18 (mx_leaf 16 (mx_const (.int (-10)) 18)) (mx_leaf 18 (mx_iload 3 19))) (mx_node 20 (mx_leaf 19 (mx_isub 20)) (mx_leaf 20 (mx_iret)))))) (mx_node 32 (mx_node 26 (mx_node 22 (mx_leaf 21 (mx_aload 0 22)) (mx_node 25 (mx_leaf 22 (mx_callv 202 1 12 25)) (mx_leaf 25 (mx_aload 0 26)))) (mx_node 28 (mx_node 27 (mx_leaf 26 (mx_iload 1 27)) (mx_leaf 27 (mx_iload 2 28))) (mx_node 31 (mx_leaf 28 (mx_callv 210 3 12 31)) (mx_leaf 31 (mx_aload 0 32))))) (mx_node 40 (mx_node 36 (mx_node 35 (mx_leaf 32 (mx_callv 204 1 12 35)) (mx_leaf 35 (mx_aload 0 36))) (mx_node 37 (mx_leaf 36 (mx_aload 0 37)) (mx_leaf 37 (mx_getf 12 1 40)))) (mx_node 43 (mx_node 42 (mx_leaf 40 (mx_const (.int 27) 42)) (mx_leaf 42 (mx_iald 43))) (mx_node 46 (mx_leaf 43 (mx_callv 191 2 12 46)) (mx_leaf 46 (mx_iret)))))))
set_option maxRecDepth 100000 in
noncomputable def tb_212 : Nat → mx_O := (mx_node 44 (mx_node 23 (mx_node 10 (mx_node 5 (mx_node 1 (mx_leaf 0 (mx_iload 1 1)) (mx_node 2 (mx_leaf 1 (mx_i2l 2)) (mx_leaf 2 (mx_calls 208 1 5)))) (mx_node 8 (mx_leaf 5 (mx_if_eq 16 8)) (mx_node 9 (mx_leaf 8 (mx_iload 2 9)) (mx_leaf 9 (mx_i2l 10))))) (mx_node 17 (mx_node 13 (mx_leaf 10 (mx_calls 208 1 13)) (mx_node 16 (mx_leaf 13 (mx_if_ne 18 16)) (mx_leaf 16 (mx_const (.int 1) 17)))) (mx_node 19 (mx_node 18 (mx_leaf 17 (mx_iret)) (mx_leaf 18 (mx_aload 0 19))) (mx_node 20 (mx_leaf 19 (mx_aload 0 20)) (mx_leaf 20 (mx_getf 12 1 23)))))) (mx_node 32 (mx_node 27 (mx_node 25 (mx_leaf 23 (mx_const (.int 27) 25)) (mx_node 26 (mx_leaf 25 (mx_iald 26)) (mx_leaf 26 (mx_iload 1 27)))) (mx_node 30 (mx_leaf 27 (mx_callv 192 3 12 30)) (mx_node 31 (mx_leaf 30 (mx_istore 3 31)) (mx_leaf 31 (mx_iload 3 32))))) (mx_node 37 (mx_node 33 (mx_leaf 32 (mx_const (.int (-1)) 33)) (mx_node 36 (mx_leaf 33 (mx_icmp_eq 52 36)) (mx_leaf 36 (mx_aload 0 37)))) (mx_node 41 (mx_node 38 (mx_leaf 37 (mx_aload 0 38)) (mx_leaf 38 (mx_getf 12 1 41))) (mx_node 43 (mx_leaf 41 (mx_const (.int 27) 43)) (mx_leaf 43 (mx_iald 44))))))) (mx_node 66 (mx_node 54 (mx_node 49 (mx_node 45 (mx_leaf 44 (mx_iload 2 45)) (mx_node 48 (mx_leaf 45 (mx_callv 192 3 12 48)) (mx_leaf 48 (mx_const (.int (-1)) 49)))) (mx_node 52 (mx_leaf 49 (mx_icmp_ne 54 52)) (mx_node 53 (mx_leaf 52 (mx_const (.int 2) 53)) (mx_leaf 53 (mx_iret))))) (mx_node 59 (mx_node 55 (mx_leaf 54 (mx_iload 1 55)) (mx_node 56 (mx_leaf 55 (mx_iload 2 56)) (mx_leaf 56 (mx_icmp_ne 83 59)))) (mx_node 62 (mx_node 60 (mx_leaf 59 (mx_iload 3 60)) (mx_leaf 60 (mx_const (.int 17) 62))) (mx_node 65 (mx_leaf 62 (mx_icmp_ge 87 65)) (mx_leaf 65 (mx_aload 0 66)))))) (mx_node 76 (mx_node 72 (mx_node 67 (mx_leaf 66 (mx_aload 0 67)) (mx_node 70 (mx_leaf 67 (mx_getf 12 1 70)) (mx_leaf 70 (mx_const (.int 27) 72)))) (mx_node 74 (mx_node 73 (mx_leaf 72 (mx_iald 73)) (mx_leaf 73 (mx_iload 3 74))) (mx_node 75 (mx_leaf 74 (mx_const (.int 1) 75)) (mx_leaf 75 (mx_iadd 76))))) (mx_node 83 (mx_node 79 (mx_leaf 76 (mx_callv 190 3 12 79)) (mx_node 80 (mx_leaf 79 (mx_iload 1 80)) (mx_leaf 80 (mx_icmp_ne 87 83)))) (mx_node 87 (mx_node 84 (mx_leaf 83 (mx_const (.int 0) 84)) (mx_leaf 84 (mx_goto 88))) (mx_node 88 (mx_leaf 87 (mx_const (.int 2) 88)) (mx_leaf 88 (mx_iret))))))))
set_option maxRecDepth 100000 in
noncomputable def tb_213 : Nat → mx_O := (mx_node 39 (mx_node 19 (mx_node 9 (mx_node 5 (mx_node 1 (mx_leaf 0 (mx_aload 0 1)) (mx_node 2 (mx_leaf 1 (mx_aload 0 2)) (mx_leaf 2 (mx_getf 12 1 5)))) (mx_node 7 (mx_leaf 5 (mx_const (.int 27) 7)) (mx_node 8 (mx_leaf 7 (mx_iald 8)) (mx_leaf 8 (mx_iload 1 9))))) (mx_node 14 (mx_node 12 (mx_leaf 9 (mx_callv 192 3 12 12)) (mx_node 13 (mx_leaf 12 (mx_istore 3 13)) (mx_leaf 13 (mx_iload 1 14)))) (mx_node 15 (mx_leaf 14 (mx_iload 2 15)) (mx_node 18 (mx_leaf 15 (mx_icmp_ne 24 18)) (mx_leaf 18 (mx_iload 3 19)))))) (mx_node 29 (mx_node 24 (mx_node 20 (mx_leaf 19 (mx_const (.int 1) 20)) (mx_node 21 (mx_leaf 20 (mx_iadd 21)) (mx_leaf 21 (mx_goto 36)))) (mx_node 25 (mx_leaf 24 (mx_aload 0 25)) (mx_node 26 (mx_leaf 25 (mx_aload 0 26)) (mx_leaf 26 (mx_getf 12 1 29))))) (mx_node 33 (mx_node 31 (mx_leaf 29 (mx_const (.int 27) 31)) (mx_node 32 (mx_leaf 31 (mx_iald 32)) (mx_leaf 32 (mx_iload 2 33)))) (mx_node 36 (mx_leaf 33 (mx_callv 192 3 12 36)) (mx_node 38 (mx_leaf 36 (mx_istore 4 38)) (mx_leaf 38 (mx_aload 0 39))))))) (mx_node 58 (mx_node 50 (mx_node 45 (mx_node 40 (mx_leaf 39 (mx_aload 0 40)) (mx_node 43 (mx_leaf 40 (mx_getf 12 1 43)) (mx_leaf 43 (mx_const (.int 27) 45)))) (mx_node 46 (mx_leaf 45 (mx_iald 46)) (mx_node 49 (mx_leaf 46 (mx_callv 187 2 12 49)) (mx_leaf 49 (mx_aload 0 50))))) (mx_node 55 (mx_node 53 (mx_leaf 50 (mx_getf 12 16 53)) (mx_node 54 (mx_leaf 53 (mx_iload 3 54)) (mx_leaf 54 (mx_iload 1 55)))) (mx_node 56 (mx_leaf 55 (mx_iload 2 56)) (mx_node 57 (mx_leaf 56 (mx_iadd 57)) (mx_leaf 57 (mx_iast 1 58)))))) (mx_node 67 (mx_node 64 (mx_node 59 (mx_leaf 58 (mx_aload 0 59)) (mx_node 62 (mx_leaf 59 (mx_getf 12 16 62)) (mx_leaf 62 (mx_iload 4 64)))) (mx_node 65 (mx_leaf 64 (mx_const (.int 0) 65)) (mx_node 66 (mx_leaf 65 (mx_iast 1 66)) (mx_leaf 66 (mx_aload 0 67))))) (mx_node 73 (mx_node 70 (mx_leaf 67 (mx_getf 12 1 70)) (mx_node 72 (mx_leaf 70 (mx_const (.int 27) 72)) (mx_leaf 72 (mx_aload 0 73)))) (mx_node 76 (mx_leaf 73 (mx_callv 188 1 12 76)) (mx_node 77 (mx_leaf 76 (mx_iast 1 77)) (mx_leaf 77 (mx_vret))))))))
set_option maxRecDepth 100000 in
noncomputable def tb_214 : Nat → mx_O := (mx_node 21 (mx_node 11 (mx_node 5 (mx_node 1 (mx_leaf 0 (mx_aload 0 1)) (mx_node 2 (mx_leaf 1 (mx_const (.int 0) 2)) (mx_leaf 2 (mx_putf 1 12 0 (.int) 5)))) (mx_node 7 (mx_node 6 (mx_leaf 5 (mx_aload 0 6)) (mx_leaf 6 (mx_iload 1 7))) (mx_node 8 (mx_leaf 7 (mx_iload 2 8)) (mx_leaf 8 (mx_callv 212 3 12 11))))) (mx_node 16 (mx_node 12 (mx_leaf 11 (mx_istore 3 12)) (mx_node 13 (mx_leaf 12 (mx_iload 3 13)) (mx_leaf 13 (mx_if_eq 21 16)))) (mx_node 19 (mx_node 18 (mx_leaf 16 (mx_const (.int (-10)) 18)) (mx_leaf 18 (mx_iload 3 19))) (mx_node 20 (mx_leaf 19 (mx_isub 20)) (mx_leaf 20 (mx_iret)))))) (mx_node 32 (mx_node 26 (mx_node 22 (mx_leaf 21 (mx_aload 0 22)) (mx_node 25 (mx_leaf 22 (mx_callv 202 1 12 25)) (mx_leaf 25 (mx_aload 0 26)))) (mx_node 28 (mx_node 27 (mx_leaf 26 (mx_iload 1 27)) (mx_leaf 27 (mx_iload 2 28))) (mx_node 31 (mx_leaf 28 (mx_callv 213 3 12 31)) (mx_leaf 31 (mx_aload 0 32))))) (mx_node 40 (mx_node 36 (mx_node 35 (mx_leaf 32 (mx_callv 204 1 12 35)) (mx_leaf 35 (mx_aload 0 36))) (mx_node 37 (mx_leaf 36 (mx_aload 0 37)) (mx_leaf 37 (mx_getf 12 1 40)))) (mx_node 43 (mx_node 42 (mx_leaf 40 (mx_const (.int 27) 42)) (mx_leaf 42 (mx_iald 43))) (mx_node 46 (mx_leaf 43 (mx_callv 191 2 12 46)) (mx_leaf 46 (mx_iret)))))))
set_option maxRecDepth 100000 in
noncomputable def tb_215 : Nat → mx_O := (mx_node 21 (mx_node 8 (mx_node 5 (mx_node 1 (mx_leaf 0 (mx_aload 0 1)) (mx_node 2 (mx_leaf 1 (mx_const (.int 0) 2)) (mx_leaf 2 (mx_putf 1 12 0 (.int) 5)))) (mx_node 6 (mx_leaf 5 (mx_iload 1 6)) (mx_node 7 (mx_leaf 6 (mx_i2l 7)) (mx_leaf 7 (mx_const (.long 0) 8))))) (mx_node 17 (mx_node 11 (mx_leaf 8 (mx_const (.long 9) 11)) (mx_node 14 (mx_leaf 11 (mx_calls 154 3 14)) (mx_leaf 14 (mx_if_ne 20 17)))) (mx_node 19 (mx_leaf 17 (mx_const (.int (-11)) 19)) (mx_node 20 (mx_leaf 19 (mx_iret)) (mx_leaf 20 (mx_aload 0 21)))))) (mx_node 32 (mx_node 28 (mx_node 24 (mx_leaf 21 (mx_callv 202 1 12 24)) (mx_node 25 (mx_leaf 24 (mx_aload 0 25)) (mx_leaf 25 (mx_getf 12 1 28)))) (mx_node 30 (mx_leaf 28 (mx_const (.int 28) 30)) (mx_node 31 (mx_leaf 30 (mx_iload 1 31)) (mx_leaf 31 (mx_iast 1 32))))) (mx_node 37 (mx_node 33 (mx_leaf 32 (mx_aload 0 33)) (mx_node 36 (mx_leaf 33 (mx_callv 204 1 12 36)) (mx_leaf 36 (mx_aload 0 37)))) (mx_node 41 (mx_node 40 (mx_leaf 37 (mx_getf 12 21 40)) (mx_leaf 40 (mx_const (.int 1) 41))) (mx_node 42 (mx_leaf 41 (mx_iald 42)) (mx_leaf 42 (mx_iret)))))))
set_option maxRecDepth 100000 in
noncomputable def tb_216 : Nat → mx_O := (mx_node 45 (mx_node 25 (mx_node 11 (mx_node 5 (mx_node 1 (mx_leaf 0 (mx_aload 0 1)) (mx_node 2 (mx_leaf 1 (mx_const (.int 0) 2)) (mx_leaf 2 (mx_putf 1 12 0 (.int) 5)))) (mx_node 7 (mx_node 6 (mx_leaf 5 (mx_iload 1 6)) (mx_leaf 6 (mx_i2l 7))) (mx_node 8 (mx_leaf 7 (mx_const (.long 1) 8)) (mx_leaf 8 (mx_const (.long 10) 11))))) (mx_node 18 (mx_node 14 (mx_leaf 11 (mx_calls 154 3 14)) (mx_node 17 (mx_leaf 14 (mx_if_eq 28 17)) (mx_leaf 17 (mx_iload 1 18)))) (mx_node 22 (mx_node 19 (mx_leaf 18 (mx_aload 0 19)) (mx_leaf 19 (mx_getf 12 1 22))) (mx_node 24 (mx_leaf 22 (mx_const (.int 30) 24)) (mx_leaf 24 (mx_iald 25)))))) (mx_node 38 (mx_node 31 (mx_node 28 (mx_leaf 25 (mx_icmp_le 31 28)) (mx_node 30 (mx_leaf 28 (mx_const (.int (-3)) 30)) (mx_leaf 30 (mx_iret)))) (mx_node 35 (mx_node 32 (mx_leaf 31 (mx_aload 0 32)) (mx_leaf 32 (mx_getf 12 1 35))) (mx_node 37 (mx_leaf 35 (mx_const (.int 30) 37)) (mx_leaf 37 (mx_dup2 38))))) (mx_node 41 (mx_node 39 (mx_leaf 38 (mx_iald 39)) (mx_node 40 (mx_leaf 39 (mx_iload 1 40)) (mx_leaf 40 (mx_isub 41)))) (mx_node 43 (mx_node 42 (mx_leaf 41 (mx_iast 1 42)) (mx_leaf 42 (mx_const (.int 0) 43))) (mx_node 44 (mx_leaf 43 (mx_istore 2 44)) (mx_leaf 44 (mx_iload 2 45))))))) (mx_node 70 (mx_node 57 (mx_node 50 (mx_node 46 (mx_leaf 45 (mx_const (.int 3) 46)) (mx_node 49 (mx_leaf 46 (mx_icmp_ge 83 49)) (mx_leaf 49 (mx_aload 0 50)))) (mx_node 55 (mx_node 53 (mx_leaf 50 (mx_getf 12 1 53)) (mx_leaf 53 (mx_const (.int 27) 55))) (mx_node 56 (mx_leaf 55 (mx_iload 2 56)) (mx_leaf 56 (mx_iadd 57))))) (mx_node 63 (mx_node 58 (mx_leaf 57 (mx_aload 0 58)) (mx_node 61 (mx_leaf 58 (mx_getf 12 1 61)) (mx_leaf 61 (mx_const (.int 31) 63)))) (mx_node 65 (mx_node 64 (mx_leaf 63 (mx_const (.int 3) 64)) (mx_leaf 64 (mx_aload 0 65))) (mx_node 68 (mx_leaf 65 (mx_getf 12 1 68)) (mx_leaf 68 (mx_const (.int 30) 70)))))) (mx_node 77 (mx_node 73 (mx_node 71 (mx_leaf 70 (mx_iald 71)) (mx_node 72 (mx_leaf 71 (mx_imul 72)) (mx_leaf 72 (mx_iadd 73)))) (mx_node 75 (mx_node 74 (mx_leaf 73 (mx_iload 2 74)) (mx_leaf 74 (mx_iadd 75))) (mx_node 76 (mx_leaf 75 (mx_iald 76)) (mx_leaf 76 (mx_iast 1 77))))) (mx_node 84 (mx_node 80 (mx_leaf 77 (mx_iinc 2 1 80)) (mx_node 83 (mx_leaf 80 (mx_goto 44)) (mx_leaf 83 (mx_aload 0 84)))) (mx_node 89 (mx_node 87 (mx_leaf 84 (mx_getf 12 1 87)) (mx_leaf 87 (mx_const (.int 30) 89))) (mx_node 90 (mx_leaf 89 (mx_iald 90)) (mx_leaf 90 (mx_iret))))))))
set_option maxRecDepth 100000 in
noncomputable def tb_217 : Nat → mx_O := (mx_node 62 (mx_node 28 (mx_node 13 (mx_node 5 (mx_node 1 (mx_leaf 0 (mx_lload 1 1)) (mx_node 2 (mx_leaf 1 (mx_const (.long 0) 2)) (mx_leaf 2 (mx_const (.long 18) 5)))) (mx_node 11 (mx_node 8 (mx_leaf 5 (mx_calls 154 3 8)) (mx_leaf 8 (mx_if_eq 33 11))) (mx_node 12 (mx_leaf 11 (mx_aload 0 12)) (mx_leaf 12 (mx_aload 0 13))))) (mx_node 20 (mx_node 18 (mx_node 16 (mx_leaf 13 (mx_getf 12 1 16)) (mx_leaf 16 (mx_const (.int 27) 18))) (mx_node 19 (mx_leaf 18 (mx_iald 19)) (mx_leaf 19 (mx_lload 1 20)))) (mx_node 24 (mx_node 21 (mx_leaf 20 (mx_l2i 21)) (mx_leaf 21 (mx_callv 197 3 12 24))) (mx_node 27 (mx_leaf 24 (mx_if_eq 31 27)) (mx_leaf 27 (mx_const (.int 0) 28)))))) (mx_node 46 (mx_node 34 (mx_node 32 (mx_node 31 (mx_leaf 28 (mx_goto 32)) (mx_leaf 31 (mx_const (.int 2) 32))) (mx_node 33 (mx_leaf 32 (mx_iret)) (mx_leaf 33 (mx_lload 1 34)))) (mx_node 40 (mx_node 37 (mx_leaf 34 (mx_const (.long 20) 37)) (mx_leaf 37 (mx_const (.long 29) 40))) (mx_node 43 (mx_leaf 40 (mx_calls 154 3 43)) (mx_leaf 43 (mx_if_eq 48 46))))) (mx_node 52 (mx_node 48 (mx_node 47 (mx_leaf 46 (mx_const (.int 0) 47)) (mx_leaf 47 (mx_iret))) (mx_node 49 (mx_leaf 48 (mx_lload 1 49)) (mx_leaf 49 (mx_const (.long 1000) 52)))) (mx_node 58 (mx_node 55 (mx_leaf 52 (mx_const (.long 2999) 55)) (mx_leaf 55 (mx_calls 154 3 58))) (mx_node 61 (mx_leaf 58 (mx_if_eq 80 61)) (mx_leaf 61 (mx_aload 0 62))))))) (mx_node 90 (mx_node 73 (mx_node 68 (mx_node 66 (mx_node 63 (mx_leaf 62 (mx_lload 1 63)) (mx_leaf 63 (mx_const (.long 1000) 66))) (mx_node 67 (mx_leaf 66 (mx_lsub 67)) (mx_leaf 67 (mx_l2i 68)))) (mx_node 71 (mx_node 70 (mx_leaf 68 (mx_const (.int 100) 70)) (mx_leaf 70 (mx_idiv 71))) (mx_node 72 (mx_leaf 71 (mx_lload 1 72)) (mx_leaf 72 (mx_l2i 73))))) (mx_node 80 (mx_node 76 (mx_node 75 (mx_leaf 73 (mx_const (.int 100) 75)) (mx_leaf 75 (mx_irem 76))) (mx_node 79 (mx_leaf 76 (mx_callv 209 3 12 79)) (mx_leaf 79 (mx_iret)))) (mx_node 84 (mx_node 81 (mx_leaf 80 (mx_lload 1 81)) (mx_leaf 81 (mx_const (.long 3000) 84))) (mx_node 87 (mx_leaf 84 (mx_const (.long 4999) 87)) (mx_leaf 87 (mx_calls 154 3 90)))))) (mx_node 103 (mx_node 98 (mx_node 94 (mx_node 93 (mx_leaf 90 (mx_if_eq 114 93)) (mx_leaf 93 (mx_aload 0 94))) (mx_node 95 (mx_leaf 94 (mx_lload 1 95)) (mx_leaf 95 (mx_const (.long 3000) 98)))) (mx_node 100 (mx_node 99 (mx_leaf 98 (mx_lsub 99)) (mx_leaf 99 (mx_l2i 100))) (mx_node 102 (mx_leaf 100 (mx_const (.int 100) 102)) (mx_leaf 102 (mx_idiv 103))))) (mx_node 108 (mx_node 105 (mx_node 104 (mx_leaf 103 (mx_lload 1 104)) (mx_leaf 104 (mx_l2i 105))) (mx_node 107 (mx_leaf 105 (mx_const (.int 100) 107)) (mx_leaf 107 (mx_irem 108)))) (mx_node 114 (mx_node 111 (mx_leaf 108 (mx_callv 212 3 12 111)) (mx_leaf 111 (mx_goto 115))) (mx_node 115 (mx_leaf 114 (mx_const (.int 1) 115)) (mx_leaf 115 (mx_iret))))))))
set_option maxRecDepth 100000 in
noncomputable def tb_218 : Nat → mx_O := (mx_node 41 (mx_node 20 (mx_node 8 (mx_node 3 (mx_node 1 (mx_leaf 0 (mx_iload 1 1)) (mx_leaf 1 (mx_const (.int 18) 3))) (mx_node 6 (mx_leaf 3 (mx_icmp_gt 14 6)) (mx_node 7 (mx_leaf 6 (mx_aload 0 7)) (mx_leaf 7 (mx_iload 1 8))))) (mx_node 14 (mx_node 11 (mx_leaf 8 (mx_callv 205 2 12 11)) (mx_leaf 11 (mx_goto 76))) (mx_node 15 (mx_leaf 14 (mx_iload 1 15)) (mx_node 17 (mx_leaf 15 (mx_const (.int 30) 17)) (mx_leaf 17 (mx_icmp_ge 34 20)))))) (mx_node 29 (mx_node 24 (mx_node 21 (mx_leaf 20 (mx_aload 0 21)) (mx_leaf 21 (mx_getf 12 1 24))) (mx_node 26 (mx_leaf 24 (mx_const (.int 28) 26)) (mx_node 27 (mx_leaf 26 (mx_iload 1 27)) (mx_leaf 27 (mx_const (.int 20) 29))))) (mx_node 34 (mx_node 30 (mx_leaf 29 (mx_isub 30)) (mx_node 31 (mx_leaf 30 (mx_iast 1 31)) (mx_leaf 31 (mx_goto 76)))) (mx_node 35 (mx_leaf 34 (mx_iload 1 35)) (mx_node 38 (mx_leaf 35 (mx_const (.int 3000) 38)) (mx_leaf 38 (mx_icmp_ge 60 41))))))) (mx_node 60 (mx_node 49 (mx_node 43 (mx_node 42 (mx_leaf 41 (mx_aload 0 42)) (mx_leaf 42 (mx_iload 1 43))) (mx_node 46 (mx_leaf 43 (mx_const (.int 1000) 46)) (mx_node 47 (mx_leaf 46 (mx_isub 47)) (mx_leaf 47 (mx_const (.int 100) 49))))) (mx_node 53 (mx_node 50 (mx_leaf 49 (mx_idiv 50)) (mx_node 51 (mx_leaf 50 (mx_iload 1 51)) (mx_leaf 51 (mx_const (.int 100) 53)))) (mx_node 54 (mx_leaf 53 (mx_irem 54)) (mx_node 57 (mx_leaf 54 (mx_callv 210 3 12 57)) (mx_leaf 57 (mx_goto 76)))))) (mx_node 68 (mx_node 62 (mx_node 61 (mx_leaf 60 (mx_aload 0 61)) (mx_leaf 61 (mx_iload 1 62))) (mx_node 65 (mx_leaf 62 (mx_const (.int 3000) 65)) (mx_node 66 (mx_leaf 65 (mx_isub 66)) (mx_leaf 66 (mx_const (.int 100) 68))))) (mx_node 72 (mx_node 69 (mx_leaf 68 (mx_idiv 69)) (mx_node 70 (mx_leaf 69 (mx_iload 1 70)) (mx_leaf 70 (mx_const (.int 100) 72)))) (mx_node 73 (mx_leaf 72 (mx_irem 73)) (mx_node 76 (mx_leaf 73 (mx_callv 213 3 12 76)) (mx_leaf 76 (mx_vret))))))))
set_option maxRecDepth 100000 in
noncomputable def tb_219 : Nat → mx_O := (mx_node 36 (mx_node 17 (mx_node 7 (mx_node 2 (mx_node 1 (mx_leaf 0 (mx_aload 0 1)) (mx_leaf 1 (mx_const (.int 0) 2))) (mx_node 5 (mx_leaf 2 (mx_putf 1 12 22 (.int) 5)) (mx_node 6 (mx_leaf 5 (mx_const (.int 0) 6)) (mx_leaf 6 (mx_istore 2 7))))) (mx_node 12 (mx_node 8 (mx_leaf 7 (mx_iload 2 8)) (mx_node 9 (mx_leaf 8 (mx_aload 0 9)) (mx_leaf 9 (mx_getf 12 40 12)))) (mx_node 13 (mx_leaf 12 (mx_iload 1 13)) (mx_node 14 (mx_leaf 13 (mx_iald 14)) (mx_leaf 14 (mx_icmp_ge 67 17)))))) (mx_node 26 (mx_node 20 (mx_node 18 (mx_leaf 17 (mx_aload 0 18)) (mx_node 19 (mx_leaf 18 (mx_aload 0 19)) (mx_leaf 19 (mx_aload 0 20)))) (mx_node 23 (mx_leaf 20 (mx_getf 12 41 23)) (mx_node 25 (mx_leaf 23 (mx_const (.int 40) 25)) (mx_leaf 25 (mx_iload 1 26))))) (mx_node 29 (mx_node 27 (mx_leaf 26 (mx_imul 27)) (mx_node 28 (mx_leaf 27 (mx_iload 2 28)) (mx_leaf 28 (mx_iadd 29)))) (mx_node 30 (mx_leaf 29 (mx_lald 30)) (mx_node 33 (mx_leaf 30 (mx_callv 217 2 12 33)) (mx_leaf 33 (mx_putf 1 12 22 (.int) 36))))))) (mx_node 54 (mx_node 45 (mx_node 40 (mx_node 37 (mx_leaf 36 (mx_aload 0 37)) (mx_leaf 37 (mx_getf 12 22 40))) (mx_node 43 (mx_leaf 40 (mx_if_eq 45 43)) (mx_node 44 (mx_leaf 43 (mx_iload 2 44)) (mx_leaf 44 (mx_iret))))) (mx_node 50 (mx_node 46 (mx_leaf 45 (mx_aload 0 46)) (mx_node 47 (mx_leaf 46 (mx_aload 0 47)) (mx_leaf 47 (mx_getf 12 41 50)))) (mx_node 52 (mx_leaf 50 (mx_const (.int 40) 52)) (mx_node 53 (mx_leaf 52 (mx_iload 1 53)) (mx_leaf 53 (mx_imul 54)))))) (mx_node 64 (mx_node 57 (mx_node 55 (mx_leaf 54 (mx_iload 2 55)) (mx_node 56 (mx_leaf 55 (mx_iadd 56)) (mx_leaf 56 (mx_lald 57)))) (mx_node 58 (mx_leaf 57 (mx_l2i 58)) (mx_node 61 (mx_leaf 58 (mx_callv 218 2 12 61)) (mx_leaf 61 (mx_iinc 2 1 64))))) (mx_node 71 (mx_node 67 (mx_leaf 64 (mx_goto 7)) (mx_node 68 (mx_leaf 67 (mx_aload 0 68)) (mx_leaf 68 (mx_getf 12 40 71)))) (mx_node 72 (mx_leaf 71 (mx_iload 1 72)) (mx_node 73 (mx_leaf 72 (mx_iald 73)) (mx_leaf 73 (mx_iret))))))))
set_option maxRecDepth 100000 in
noncomputable def tb_220 : Nat → mx_O := (mx_node 18 (mx_node 6 (mx_node 2 (mx_node 1 (mx_leaf 0 (mx_iload 1 1)) (mx_leaf 1 (mx_i2l 2))) (mx_node 3 (mx_leaf 2 (mx_const (.long 0) 3)) (mx_leaf 3 (mx_const (.long 3) 6)))) (mx_node 12 (mx_node 9 (mx_leaf 6 (mx_calls 154 3 9)) (mx_leaf 9 (mx_if_ne 17 12))) (mx_node 14 (mx_leaf 12 (mx_const (.int (-2)) 14)) (mx_node 17 (mx_leaf 14 (mx_goto 33)) (mx_leaf 17 (mx_aload 0 18)))))) (mx_node 24 (mx_node 22 (mx_node 21 (mx_leaf 18 (mx_getf 12 39 21)) (mx_leaf 21 (mx_iload 1 22))) (mx_node 23 (mx_leaf 22 (mx_iald 23)) (mx_leaf 23 (mx_const (.int (-1)) 24)))) (mx_node 29 (mx_node 27 (mx_leaf 24 (mx_icmp_ne 32 27)) (mx_leaf 27 (mx_const (.int (-6)) 29))) (mx_node 32 (mx_leaf 29 (mx_goto 33)) (mx_node 33 (mx_leaf 32 (mx_const (.int 0) 33)) (mx_leaf 33 (mx_iret)))))))
set_option maxRecDepth 100000 in
noncomputable def tb_221 : Nat → mx_O := (mx_node 49 (mx_node 25 (mx_node 11 (mx_node 5 (mx_node 1 (mx_leaf 0 (mx_aload 0 1)) (mx_node 2 (mx_leaf 1 (mx_const (.int 0) 2)) (mx_leaf 2 (mx_putf 1 12 0 (.int) 5)))) (mx_node 7 (mx_node 6 (mx_leaf 5 (mx_iload 2 6)) (mx_leaf 6 (mx_i2l 7))) (mx_node 8 (mx_leaf 7 (mx_const (.long 0) 8)) (mx_leaf 8 (mx_const (.long 3) 11))))) (mx_node 19 (mx_node 14 (mx_leaf 11 (mx_calls 154 3 14)) (mx_node 17 (mx_leaf 14 (mx_if_ne 20 17)) (mx_leaf 17 (mx_const (.int (-2)) 19)))) (mx_node 21 (mx_node 20 (mx_leaf 19 (mx_iret)) (mx_leaf 20 (mx_aload 0 21))) (mx_node 22 (mx_leaf 21 (mx_iload 1 22)) (mx_leaf 22 (mx_callv 220 2 12 25)))))) (mx_node 36 (mx_node 30 (mx_node 26 (mx_leaf 25 (mx_istore 3 26)) (mx_node 27 (mx_leaf 26 (mx_iload 3 27)) (mx_leaf 27 (mx_if_eq 32 30)))) (mx_node 32 (mx_node 31 (mx_leaf 30 (mx_iload 3 31)) (mx_leaf 31 (mx_iret))) (mx_node 33 (mx_leaf 32 (mx_aload 0 33)) (mx_leaf 33 (mx_callv 202 1 12 36))))) (mx_node 41 (mx_node 37 (mx_leaf 36 (mx_aload 0 37)) (mx_node 38 (mx_leaf 37 (mx_iload 1 38)) (mx_leaf 38 (mx_callv 219 2 12 41)))) (mx_node 44 (mx_node 43 (mx_leaf 41 (mx_istore 4 43)) (mx_leaf 43 (mx_aload 0 44))) (mx_node 47 (mx_leaf 44 (mx_getf 12 1 47)) (mx_leaf 47 (mx_const (.int 27) 49))))))) (mx_node 77 (mx_node 61 (mx_node 53 (mx_node 50 (mx_leaf 49 (mx_iald 50)) (mx_node 52 (mx_leaf 50 (mx_istore 5 52)) (mx_leaf 52 (mx_aload 0 53)))) (mx_node 57 (mx_node 56 (mx_leaf 53 (mx_callv 203 1 12 56)) (mx_leaf 56 (mx_iload 2 57))) (mx_node 60 (mx_leaf 57 (mx_if_ne 76 60)) (mx_leaf 60 (mx_aload 0 61))))) (mx_node 68 (mx_node 64 (mx_leaf 61 (mx_getf 12 22 64)) (mx_node 67 (mx_leaf 64 (mx_if_ne 71 67)) (mx_leaf 67 (mx_const (.int (-1)) 68)))) (mx_node 73 (mx_node 71 (mx_leaf 68 (mx_goto 104)) (mx_leaf 71 (mx_iload 4 73))) (mx_node 76 (mx_leaf 73 (mx_goto 104)) (mx_leaf 76 (mx_iload 2 77)))))) (mx_node 90 (mx_node 82 (mx_node 78 (mx_leaf 77 (mx_const (.int 1) 78)) (mx_node 81 (mx_leaf 78 (mx_icmp_ne 88 81)) (mx_leaf 81 (mx_aload 0 82)))) (mx_node 88 (mx_node 85 (mx_leaf 82 (mx_getf 12 22 85)) (mx_leaf 85 (mx_goto 104))) (mx_node 89 (mx_leaf 88 (mx_iload 2 89)) (mx_leaf 89 (mx_const (.int 2) 90))))) (mx_node 96 (mx_node 93 (mx_leaf 90 (mx_icmp_ne 102 93)) (mx_node 94 (mx_leaf 93 (mx_aload 0 94)) (mx_leaf 94 (mx_iload 5 96)))) (mx_node 102 (mx_node 99 (mx_leaf 96 (mx_callv 191 2 12 99)) (mx_leaf 99 (mx_goto 104))) (mx_node 104 (mx_leaf 102 (mx_iload 5 104)) (mx_leaf 104 (mx_iret))))))))
set_option maxRecDepth 100000 in
noncomputable def tb_222 : Nat → mx_O := (mx_node 17 (mx_node 7 (mx_node 2 (mx_node 1 (mx_leaf 0 (mx_aload 0 1)) (mx_leaf 1 (mx_const (.int 0) 2))) (mx_node 5 (mx_leaf 2 (mx_putf 1 12 0 (.int) 5)) (mx_node 6 (mx_leaf 5 (mx_aload 0 6)) (mx_leaf 6 (mx_iload 1 7))))) (mx_node 12 (mx_node 10 (mx_leaf 7 (mx_callv 220 2 12 10)) (mx_node 11 (mx_leaf 10 (mx_istore 2 11)) (mx_leaf 11 (mx_iload 2 12)))) (mx_node 15 (mx_leaf 12 (mx_if_eq 17 15)) (mx_node 16 (mx_leaf 15 (mx_iload 2 16)) (mx_leaf 16 (mx_iret)))))) (mx_node 27 (mx_node 22 (mx_node 18 (mx_leaf 17 (mx_aload 0 18)) (mx_node 21 (mx_leaf 18 (mx_callv 202 1 12 21)) (mx_leaf 21 (mx_aload 0 22)))) (mx_node 23 (mx_leaf 22 (mx_iload 1 23)) (mx_node 26 (mx_leaf 23 (mx_callv 219 2 12 26)) (mx_leaf 26 (mx_istore 3 27))))) (mx_node 32 (mx_node 28 (mx_leaf 27 (mx_iload 3 28)) (mx_node 31 (mx_leaf 28 (mx_if_le 35 31)) (mx_leaf 31 (mx_aload 0 32)))) (mx_node 35 (mx_leaf 32 (mx_callv 204 1 12 35)) (mx_node 36 (mx_leaf 35 (mx_iload 3 36)) (mx_leaf 36 (mx_iret)))))))
set_option maxRecDepth 100000 in
noncomputable def tb_223 : Nat → mx_O := (mx_node 13 (mx_node 5 (mx_node 1 (mx_leaf 0 (mx_aload 0 1)) (mx_node 4 (mx_leaf 1 (mx_const (.int 1103515245) 4)) (mx_leaf 4 (mx_aload 0 5)))) (mx_node 9 (mx_node 8 (mx_leaf 5 (mx_getf 12 23 8)) (mx_leaf 8 (mx_imul 9))) (mx_node 12 (mx_leaf 9 (mx_const (.int 12345) 12)) (mx_leaf 12 (mx_iadd 13))))) (mx_node 22 (mx_node 17 (mx_node 16 (mx_leaf 13 (mx_putf 1 12 23 (.int) 16)) (mx_leaf 16 (mx_aload 0 17))) (mx_node 20 (mx_leaf 17 (mx_getf 12 23 20)) (mx_leaf 20 (mx_const (.int 16) 22)))) (mx_node 24 (mx_node 23 (mx_leaf 22 (mx_iushr 23)) (mx_leaf 23 (mx_iload 1 24))) (mx_node 25 (mx_leaf 24 (mx_irem 25)) (mx_leaf 25 (mx_iret))))))
set_option maxRecDepth 100000 in
noncomputable def tb_224 : Nat → mx_O := (mx_node 35 (mx_node 14 (mx_node 7 (mx_node 3 (mx_node 1 (mx_leaf 0 (mx_aload 0 1)) (mx_leaf 1 (mx_const (.int 6) 3))) (mx_node 6 (mx_leaf 3 (mx_callv 223 2 12 6)) (mx_leaf 6 (mx_istore 1 7)))) (mx_node 9 (mx_node 8 (mx_leaf 7 (mx_iload 1 8)) (mx_leaf 8 (mx_const (.int 5) 9))) (mx_node 12 (mx_leaf 9 (mx_icmp_ge 45 12)) (mx_node 13 (mx_leaf 12 (mx_iload 1 13)) (mx_leaf 13 (mx_const (.int 3) 14)))))) (mx_node 23 (mx_node 18 (mx_node 17 (mx_leaf 14 (mx_icmp_ge 21 17)) (mx_leaf 17 (mx_const (.int 0) 18))) (mx_node 21 (mx_leaf 18 (mx_goto 44)) (mx_node 22 (mx_leaf 21 (mx_iload 1 22)) (mx_leaf 22 (mx_const (.int 3) 23))))) (mx_node 27 (mx_node 26 (mx_leaf 23 (mx_icmp_ne 35 26)) (mx_leaf 26 (mx_aload 0 27))) (mx_node 29 (mx_leaf 27 (mx_const (.int 8) 29)) (mx_node 32 (mx_leaf 29 (mx_callv 223 2 12 32)) (mx_leaf 32 (mx_goto 44))))))) (mx_node 52 (mx_node 44 (mx_node 38 (mx_node 37 (mx_leaf 35 (mx_const (.int 20) 37)) (mx_leaf 37 (mx_aload 0 38))) (mx_node 40 (mx_leaf 38 (mx_const (.int 10) 40)) (mx_node 43 (mx_leaf 40 (mx_callv 223 2 12 43)) (mx_leaf 43 (mx_iadd 44))))) (mx_node 46 (mx_node 45 (mx_leaf 44 (mx_iret)) (mx_leaf 45 (mx_aload 0 46))) (mx_node 48 (mx_leaf 46 (mx_const (.int 6) 48)) (mx_node 51 (mx_leaf 48 (mx_callv 223 2 12 51)) (mx_leaf 51 (mx_istore 2 52)))))) (mx_node 60 (mx_node 57 (mx_node 55 (mx_leaf 52 (mx_const (.int 3000) 55)) (mx_leaf 55 (mx_const (.int 100) 57))) (mx_node 58 (mx_leaf 57 (mx_iload 2 58)) (mx_node 59 (mx_leaf 58 (mx_imul 59)) (mx_leaf 59 (mx_iadd 60))))) (mx_node 63 (mx_node 61 (mx_leaf 60 (mx_aload 0 61)) (mx_leaf 61 (mx_const (.int 6) 63))) (mx_node 66 (mx_leaf 63 (mx_callv 223 2 12 66)) (mx_node 67 (mx_leaf 66 (mx_iadd 67)) (mx_leaf 67 (mx_iret))))))))
set_option maxRecDepth 100000 in
noncomputable def tb_225 : Nat → mx_O := (mx_node 37 (mx_node 20 (mx_node 7 (mx_node 2 (mx_node 1 (mx_leaf 0 (mx_aload 0 1)) (mx_leaf 1 (mx_const (.int 0) 2))) (mx_node 5 (mx_leaf 2 (mx_putf 1 12 0 (.int) 5)) (mx_node 6 (mx_leaf 5 (mx_iload 2 6)) (mx_leaf 6 (mx_i2l 7))))) (mx_node 14 (mx_node 8 (mx_leaf 7 (mx_const (.long 1) 8)) (mx_node 11 (mx_leaf 8 (mx_const (.long 40) 11)) (mx_leaf 11 (mx_calls 154 3 14)))) (mx_node 17 (mx_leaf 14 (mx_if_ne 20 17)) (mx_node 19 (mx_leaf 17 (mx_const (.int (-3)) 19)) (mx_leaf 19 (mx_iret)))))) (mx_node 29 (mx_node 24 (mx_node 21 (mx_leaf 20 (mx_aload 0 21)) (mx_leaf 21 (mx_callv 202 1 12 24))) (mx_node 25 (mx_leaf 24 (mx_aload 0 25)) (mx_node 26 (mx_leaf 25 (mx_iload 1 26)) (mx_leaf 26 (mx_putf 1 12 23 (.int) 29))))) (mx_node 32 (mx_node 30 (mx_leaf 29 (mx_const (.int 0) 30)) (mx_node 31 (mx_leaf 30 (mx_istore 3 31)) (mx_leaf 31 (mx_const (.int 0) 32)))) (mx_node 34 (mx_leaf 32 (mx_istore 4 34)) (mx_node 36 (mx_leaf 34 (mx_iload 4 36)) (mx_leaf 36 (mx_iload 2 37))))))) (mx_node 60 (mx_node 47 (mx_node 41 (mx_node 40 (mx_leaf 37 (mx_icmp_ge 74 40)) (mx_leaf 40 (mx_aload 0 41))) (mx_node 44 (mx_leaf 41 (mx_callv 224 1 12 44)) (mx_node 46 (mx_leaf 44 (mx_istore 5 46)) (mx_leaf 46 (mx_aload 0 47))))) (mx_node 53 (mx_node 49 (mx_leaf 47 (mx_iload 5 49)) (mx_node 50 (mx_leaf 49 (mx_i2l 50)) (mx_leaf 50 (mx_callv 217 2 12 53)))) (mx_node 56 (mx_leaf 53 (mx_if_eq 59 56)) (mx_node 59 (mx_leaf 56 (mx_goto 68)) (mx_leaf 59 (mx_aload 0 60)))))) (mx_node 74 (mx_node 65 (mx_node 62 (mx_leaf 60 (mx_iload 5 62)) (mx_leaf 62 (mx_callv 218 2 12 65))) (mx_node 68 (mx_leaf 65 (mx_iinc 3 1 68)) (mx_node 71 (mx_leaf 68 (mx_iinc 4 1 71)) (mx_leaf 71 (mx_goto 34))))) (mx_node 79 (mx_node 75 (mx_leaf 74 (mx_iload 3 75)) (mx_node 78 (mx_leaf 75 (mx_if_le 82 78)) (mx_leaf 78 (mx_aload 0 79)))) (mx_node 82 (mx_leaf 79 (mx_callv 204 1 12 82)) (mx_node 83 (mx_leaf 82 (mx_iload 3 83)) (mx_leaf 83 (mx_iret))))))))
set_option maxRecDepth 100000 in
noncomputable def tb_226 : Nat → mx_O := (mx_node 16 (mx_node 7 (mx_node 2 (mx_node 1 (mx_leaf 0 (mx_const (.int 0) 1)) (mx_leaf 1 (mx_istore 1 2))) (mx_node 3 (mx_leaf 2 (mx_iload 1 3)) (mx_node 4 (mx_leaf 3 (mx_aload 0 4)) (mx_leaf 4 (mx_getf 12 18 7))))) (mx_node 11 (mx_node 10 (mx_leaf 7 (mx_icmp_ge 35 10)) (mx_leaf 10 (mx_aload 0 11))) (mx_node 14 (mx_leaf 11 (mx_getf 12 24 14)) (mx_node 15 (mx_leaf 14 (mx_iload 1 15)) (mx_leaf 15 (mx_aload 0 16)))))) (mx_node 24 (mx_node 18 (mx_node 17 (mx_leaf 16 (mx_iload 1 17)) (mx_leaf 17 (mx_const (.int 0) 18))) (mx_node 19 (mx_leaf 18 (mx_aload 0 19)) (mx_node 22 (mx_leaf 19 (mx_getf 12 1 22)) (mx_leaf 22 (mx_const (.int 28) 24))))) (mx_node 29 (mx_node 25 (mx_leaf 24 (mx_iald 25)) (mx_node 28 (mx_leaf 25 (mx_callv 198 4 12 28)) (mx_leaf 28 (mx_iast 1 29)))) (mx_node 32 (mx_leaf 29 (mx_iinc 1 1 32)) (mx_node 35 (mx_leaf 32 (mx_goto 2)) (mx_leaf 35 (mx_vret)))))))
set_option maxRecDepth 100000 in
noncomputable def tb_227 : Nat → mx_O := (mx_node 45 (mx_node 23 (mx_node 10 (mx_node 3 (mx_node 1 (mx_leaf 0 (mx_const (.int 0) 1)) (mx_node 2 (mx_leaf 1 (mx_istore 2 2)) (mx_leaf 2 (mx_iload 2 3)))) (mx_node 4 (mx_leaf 3 (mx_aload 0 4)) (mx_node 7 (mx_leaf 4 (mx_getf 12 18 7)) (mx_leaf 7 (mx_icmp_ge 23 10))))) (mx_node 15 (mx_node 11 (mx_leaf 10 (mx_aload 0 11)) (mx_node 14 (mx_leaf 11 (mx_getf 12 25 14)) (mx_leaf 14 (mx_iload 2 15)))) (mx_node 17 (mx_node 16 (mx_leaf 15 (mx_const (.int (-1)) 16)) (mx_leaf 16 (mx_iast 1 17))) (mx_node 20 (mx_leaf 17 (mx_iinc 2 1 20)) (mx_leaf 20 (mx_goto 2)))))) (mx_node 34 (mx_node 26 (mx_node 24 (mx_leaf 23 (mx_iload 1 24)) (mx_node 25 (mx_leaf 24 (mx_istore 2 25)) (mx_leaf 25 (mx_aload 0 26)))) (mx_node 30 (mx_node 27 (mx_leaf 26 (mx_const (.int 0) 27)) (mx_leaf 27 (mx_putf 1 12 30 (.int) 30))) (mx_node 31 (mx_leaf 30 (mx_aload 0 31)) (mx_leaf 31 (mx_getf 12 25 34))))) (mx_node 37 (mx_node 35 (mx_leaf 34 (mx_iload 2 35)) (mx_node 36 (mx_leaf 35 (mx_iald 36)) (mx_leaf 36 (mx_const (.int (-1)) 37)))) (mx_node 41 (mx_node 40 (mx_leaf 37 (mx_icmp_ne 80 40)) (mx_leaf 40 (mx_aload 0 41))) (mx_node 44 (mx_leaf 41 (mx_getf 12 25 44)) (mx_leaf 44 (mx_iload 2 45))))))) (mx_node 67 (mx_node 58 (mx_node 50 (mx_node 46 (mx_leaf 45 (mx_aload 0 46)) (mx_node 49 (mx_leaf 46 (mx_getf 12 30 49)) (mx_leaf 49 (mx_iast 1 50)))) (mx_node 54 (mx_node 51 (mx_leaf 50 (mx_aload 0 51)) (mx_leaf 51 (mx_getf 12 26 54))) (mx_node 55 (mx_leaf 54 (mx_aload 0 55)) (mx_leaf 55 (mx_getf 12 30 58))))) (mx_node 61 (mx_node 59 (mx_leaf 58 (mx_iload 2 59)) (mx_node 60 (mx_leaf 59 (mx_iast 1 60)) (mx_leaf 60 (mx_aload 0 61)))) (mx_node 65 (mx_node 62 (mx_leaf 61 (mx_dup 62)) (mx_leaf 62 (mx_getf 12 30 65))) (mx_node 66 (mx_leaf 65 (mx_const (.int 1) 66)) (mx_leaf 66 (mx_iadd 67)))))) (mx_node 80 (mx_node 74 (mx_node 70 (mx_leaf 67 (mx_putf 1 12 30 (.int) 70)) (mx_node 71 (mx_leaf 70 (mx_aload 0 71)) (mx_leaf 71 (mx_getf 12 24 74)))) (mx_node 76 (mx_node 75 (mx_leaf 74 (mx_iload 2 75)) (mx_leaf 75 (mx_iald 76))) (mx_node 77 (mx_leaf 76 (mx_istore 2 77)) (mx_leaf 77 (mx_goto 30))))) (mx_node 85 (mx_node 81 (mx_leaf 80 (mx_aload 0 81)) (mx_node 82 (mx_leaf 81 (mx_aload 0 82)) (mx_leaf 82 (mx_getf 12 25 85)))) (mx_node 87 (mx_node 86 (mx_leaf 85 (mx_iload 2 86)) (mx_leaf 86 (mx_iald 87))) (mx_node 90 (mx_leaf 87 (mx_putf 1 12 31 (.int) 90)) (mx_leaf 90 (mx_vret))))))))
set_option maxRecDepth 100000 in
noncomputable def tb_228 : Nat → mx_O := (mx_node 43 (mx_node 20 (mx_node 7 (mx_node 2 (mx_node 1 (mx_leaf 0 (mx_aload 0 1)) (mx_leaf 1 (mx_const (.int 0) 2))) (mx_node 5 (mx_leaf 2 (mx_putf 1 12 0 (.int) 5)) (mx_node 6 (mx_leaf 5 (mx_lload 1 6)) (mx_leaf 6 (mx_const (.long 0) 7))))) (mx_node 16 (mx_node 10 (mx_leaf 7 (mx_const (.long 1000000000000000) 10)) (mx_node 13 (mx_leaf 10 (mx_calls 154 3 13)) (mx_leaf 13 (mx_if_ne 19 16)))) (mx_node 18 (mx_leaf 16 (mx_const (.int (-3)) 18)) (mx_node 19 (mx_leaf 18 (mx_iret)) (mx_leaf 19 (mx_aload 0 20)))))) (mx_node 31 (mx_node 25 (mx_node 23 (mx_leaf 20 (mx_callv 226 1 12 23)) (mx_node 24 (mx_leaf 23 (mx_aload 0 24)) (mx_leaf 24 (mx_aload 0 25)))) (mx_node 28 (mx_leaf 25 (mx_getf 12 1 28)) (mx_node 30 (mx_leaf 28 (mx_const (.int 27) 30)) (mx_leaf 30 (mx_iald 31))))) (mx_node 38 (mx_node 34 (mx_leaf 31 (mx_callv 227 2 12 34)) (mx_node 35 (mx_leaf 34 (mx_aload 0 35)) (mx_leaf 35 (mx_getf 12 26 38)))) (mx_node 39 (mx_leaf 38 (mx_lload 1 39)) (mx_node 40 (mx_leaf 39 (mx_aload 0 40)) (mx_leaf 40 (mx_getf 12 30 43))))))) (mx_node 63 (mx_node 53 (mx_node 48 (mx_node 44 (mx_leaf 43 (mx_i2l 44)) (mx_node 45 (mx_leaf 44 (mx_lif_ge 53 48)) (mx_leaf 45 (mx_if_ge 53 48)))) (mx_node 49 (mx_leaf 48 (mx_lload 1 49)) (mx_node 50 (mx_leaf 49 (mx_l2i 50)) (mx_leaf 50 (mx_goto 77))))) (mx_node 58 (mx_node 54 (mx_leaf 53 (mx_aload 0 54)) (mx_node 57 (mx_leaf 54 (mx_getf 12 31 57)) (mx_leaf 57 (mx_lload 1 58)))) (mx_node 59 (mx_leaf 58 (mx_aload 0 59)) (mx_node 62 (mx_leaf 59 (mx_getf 12 31 62)) (mx_leaf 62 (mx_i2l 63)))))) (mx_node 73 (mx_node 68 (mx_node 64 (mx_leaf 63 (mx_lsub 64)) (mx_node 65 (mx_leaf 64 (mx_aload 0 65)) (mx_leaf 65 (mx_getf 12 30 68)))) (mx_node 69 (mx_leaf 68 (mx_aload 0 69)) (mx_node 72 (mx_leaf 69 (mx_getf 12 31 72)) (mx_leaf 72 (mx_isub 73))))) (mx_node 76 (mx_node 74 (mx_leaf 73 (mx_i2l 74)) (mx_node 75 (mx_leaf 74 (mx_lrem 75)) (mx_leaf 75 (mx_l2i 76)))) (mx_node 77 (mx_leaf 76 (mx_iadd 77)) (mx_node 78 (mx_leaf 77 (mx_iald 78)) (mx_leaf 78 (mx_iret))))))))
set_option maxRecDepth 100000 in
noncomputable def tb_229 : Nat → mx_O := (mx_node 24 (mx_node 9 (mx_node 5 (mx_node 1 (mx_leaf 0 (mx_aload 0 1)) (mx_node 2 (mx_leaf 1 (mx_const (.int 0) 2)) (mx_leaf 2 (mx_putf 1 12 0 (.int) 5)))) (mx_node 7 (mx_node 6 (mx_leaf 5 (mx_iload 1 6)) (mx_leaf 6 (mx_i2l 7))) (mx_node 8 (mx_leaf 7 (mx_const (.long 0) 8)) (mx_leaf 8 (mx_const (.long 1) 9))))) (mx_node 18 (mx_node 15 (mx_node 12 (mx_leaf 9 (mx_calls 154 3 12)) (mx_leaf 12 (mx_if_ne 18 15))) (mx_node 17 (mx_leaf 15 (mx_const (.int (-2)) 17)) (mx_leaf 17 (mx_iret)))) (mx_node 22 (mx_node 19 (mx_leaf 18 (mx_aload 0 19)) (mx_leaf 19 (mx_callv 226 1 12 22))) (mx_node 23 (mx_leaf 22 (mx_aload 0 23)) (mx_leaf 23 (mx_aload 0 24)))))) (mx_node 38 (mx_node 30 (mx_node 27 (mx_leaf 24 (mx_getf 12 1 27)) (mx_node 29 (mx_leaf 27 (mx_const (.int 27) 29)) (mx_leaf 29 (mx_iald 30)))) (mx_node 34 (mx_node 33 (mx_leaf 30 (mx_callv 227 2 12 33)) (mx_leaf 33 (mx_iload 1 34))) (mx_node 37 (mx_leaf 34 (mx_if_ne 44 37)) (mx_leaf 37 (mx_aload 0 38))))) (mx_node 48 (mx_node 44 (mx_node 41 (mx_leaf 38 (mx_getf 12 31 41)) (mx_leaf 41 (mx_goto 53))) (mx_node 45 (mx_leaf 44 (mx_aload 0 45)) (mx_leaf 45 (mx_getf 12 30 48)))) (mx_node 52 (mx_node 49 (mx_leaf 48 (mx_aload 0 49)) (mx_leaf 49 (mx_getf 12 31 52))) (mx_node 53 (mx_leaf 52 (mx_isub 53)) (mx_leaf 53 (mx_iret)))))))
set_option maxRecDepth 100000 in
noncomputable def tb_230 : Nat → mx_O := (mx_node 20 (mx_node 8 (mx_node 5 (mx_node 1 (mx_leaf 0 (mx_aload 0 1)) (mx_node 4 (mx_leaf 1 (mx_callv 226 1 12 4)) (mx_leaf 4 (mx_const (.int 0) 5)))) (mx_node 6 (mx_leaf 5 (mx_istore 1 6)) (mx_node 7 (mx_leaf 6 (mx_iload 1 7)) (mx_leaf 7 (mx_aload 0 8))))) (mx_node 15 (mx_node 11 (mx_leaf 8 (mx_getf 12 18 11)) (mx_node 14 (mx_leaf 11 (mx_icmp_ge 43 14)) (mx_leaf 14 (mx_aload 0 15)))) (mx_node 16 (mx_leaf 15 (mx_iload 1 16)) (mx_node 19 (mx_leaf 16 (mx_callv 227 2 12 19)) (mx_leaf 19 (mx_aload 0 20)))))) (mx_node 32 (mx_node 25 (mx_node 23 (mx_leaf 20 (mx_getf 12 27 23)) (mx_node 24 (mx_leaf 23 (mx_iload 1 24)) (mx_leaf 24 (mx_aload 0 25)))) (mx_node 28 (mx_leaf 25 (mx_getf 12 31 28)) (mx_node 31 (mx_leaf 28 (mx_if_ne 35 31)) (mx_leaf 31 (mx_const (.int 1) 32))))) (mx_node 37 (mx_node 35 (mx_leaf 32 (mx_goto 36)) (mx_node 36 (mx_leaf 35 (mx_const (.int 0) 36)) (mx_leaf 36 (mx_zast 1 37)))) (mx_node 40 (mx_leaf 37 (mx_iinc 1 1 40)) (mx_node 43 (mx_leaf 40 (mx_goto 6)) (mx_leaf 43 (mx_vret)))))))
set_option maxRecDepth 100000 in
noncomputable def tb_231 : Nat → mx_O := (mx_node 44 (mx_node 23 (mx_node 10 (mx_node 3 (mx_node 1 (mx_leaf 0 (mx_const (.int 0) 1)) (mx_node 2 (mx_leaf 1 (mx_istore 1 2)) (mx_leaf 2 (mx_iload 1 3)))) (mx_node 4 (mx_leaf 3 (mx_aload 0 4)) (mx_node 7 (mx_leaf 4 (mx_getf 12 18 7)) (mx_leaf 7 (mx_icmp_ge 23 10))))) (mx_node 15 (mx_node 11 (mx_leaf 10 (mx_aload 0 11)) (mx_node 14 (mx_leaf 11 (mx_getf 12 28 14)) (mx_leaf 14 (mx_iload 1 15)))) (mx_node 17 (mx_node 16 (mx_leaf 15 (mx_const (.int 0) 16)) (mx_leaf 16 (mx_zast 1 17))) (mx_node 20 (mx_leaf 17 (mx_iinc 1 1 20)) (mx_leaf 20 (mx_goto 2)))))) (mx_node 33 (mx_node 26 (mx_node 24 (mx_leaf 23 (mx_const (.int 0) 24)) (mx_node 25 (mx_leaf 24 (mx_istore 1 25)) (mx_leaf 25 (mx_iload 1 26)))) (mx_node 27 (mx_leaf 26 (mx_aload 0 27)) (mx_node 30 (mx_leaf 27 (mx_getf 12 18 30)) (mx_leaf 30 (mx_icmp_ge 51 33))))) (mx_node 38 (mx_node 34 (mx_leaf 33 (mx_aload 0 34)) (mx_node 37 (mx_leaf 34 (mx_getf 12 28 37)) (mx_leaf 37 (mx_aload 0 38)))) (mx_node 42 (mx_node 41 (mx_leaf 38 (mx_getf 12 24 41)) (mx_leaf 41 (mx_iload 1 42))) (mx_node 43 (mx_leaf 42 (mx_iald 43)) (mx_leaf 43 (mx_const (.int 1) 44))))))) (mx_node 65 (mx_node 54 (mx_node 51 (mx_node 45 (mx_leaf 44 (mx_zast 1 45)) (mx_node 48 (mx_leaf 45 (mx_iinc 1 1 48)) (mx_leaf 48 (mx_goto 25)))) (mx_node 52 (mx_leaf 51 (mx_const (.int 0) 52)) (mx_node 53 (mx_leaf 52 (mx_istore 1 53)) (mx_leaf 53 (mx_const (.int 0) 54))))) (mx_node 57 (mx_node 55 (mx_leaf 54 (mx_istore 2 55)) (mx_node 56 (mx_leaf 55 (mx_iload 2 56)) (mx_leaf 56 (mx_aload 0 57)))) (mx_node 63 (mx_node 60 (mx_leaf 57 (mx_getf 12 18 60)) (mx_leaf 60 (mx_icmp_ge 86 63))) (mx_node 64 (mx_leaf 63 (mx_iload 1 64)) (mx_leaf 64 (mx_aload 0 65)))))) (mx_node 77 (mx_node 70 (mx_node 68 (mx_leaf 65 (mx_getf 12 28 68)) (mx_node 69 (mx_leaf 68 (mx_iload 2 69)) (mx_leaf 69 (mx_zald 70)))) (mx_node 73 (mx_leaf 70 (mx_if_eq 77 73)) (mx_node 74 (mx_leaf 73 (mx_const (.int 0) 74)) (mx_leaf 74 (mx_goto 78))))) (mx_node 80 (mx_node 78 (mx_leaf 77 (mx_const (.int 1) 78)) (mx_node 79 (mx_leaf 78 (mx_iadd 79)) (mx_leaf 79 (mx_istore 1 80)))) (mx_node 86 (mx_node 83 (mx_leaf 80 (mx_iinc 2 1 83)) (mx_leaf 83 (mx_goto 55))) (mx_node 87 (mx_leaf 86 (mx_iload 1 87)) (mx_leaf 87 (mx_iret))))))))
set_option maxRecDepth 100000 in
noncomputable def tb_232 : Nat → mx_O := (mx_node 28 (mx_node 14 (mx_node 6 (mx_node 2 (mx_node 1 (mx_leaf 0 (mx_aload 0 1)) (mx_leaf 1 (mx_iload 1 2))) (mx_node 5 (mx_leaf 2 (mx_callv 227 2 12 5)) (mx_leaf 5 (mx_aload 0 6)))) (mx_node 10 (mx_node 9 (mx_leaf 6 (mx_getf 12 26 9)) (mx_leaf 9 (mx_aload 0 10))) (mx_node 13 (mx_leaf 10 (mx_getf 12 31 13)) (mx_leaf 13 (mx_iald 14))))) (mx_node 20 (mx_node 16 (mx_node 15 (mx_leaf 14 (mx_istore 2 15)) (mx_leaf 15 (mx_aload 0 16))) (mx_node 19 (mx_leaf 16 (mx_getf 12 31 19)) (mx_leaf 19 (mx_istore 3 20)))) (mx_node 22 (mx_node 21 (mx_leaf 20 (mx_iload 3 21)) (mx_leaf 21 (mx_aload 0 22))) (mx_node 25 (mx_leaf 22 (mx_getf 12 30 25)) (mx_leaf 25 (mx_icmp_ge 55 28)))))) (mx_node 42 (mx_node 34 (mx_node 32 (mx_node 29 (mx_leaf 28 (mx_aload 0 29)) (mx_leaf 29 (mx_getf 12 26 32))) (mx_node 33 (mx_leaf 32 (mx_iload 3 33)) (mx_leaf 33 (mx_iald 34)))) (mx_node 38 (mx_node 35 (mx_leaf 34 (mx_iload 2 35)) (mx_leaf 35 (mx_icmp_ge 47 38))) (mx_node 39 (mx_leaf 38 (mx_aload 0 39)) (mx_leaf 39 (mx_getf 12 26 42))))) (mx_node 48 (mx_node 44 (mx_node 43 (mx_leaf 42 (mx_iload 3 43)) (mx_leaf 43 (mx_iald 44))) (mx_node 47 (mx_leaf 44 (mx_goto 48)) (mx_leaf 47 (mx_iload 2 48)))) (mx_node 52 (mx_node 49 (mx_leaf 48 (mx_istore 2 49)) (mx_leaf 49 (mx_iinc 3 1 52))) (mx_node 55 (mx_leaf 52 (mx_goto 20)) (mx_node 56 (mx_leaf 55 (mx_iload 2 56)) (mx_leaf 56 (mx_iret))))))))
set_option maxRecDepth 100000 in
noncomputable def tb_233 : Nat → mx_O := (mx_node 84 (mx_node 43 (mx_node 21 (mx_node 8 (mx_node 5 (mx_node 1 (mx_leaf 0 (mx_aload 0 1)) (mx_node 2 (mx_leaf 1 (mx_const (.int 0) 2)) (mx_leaf 2 (mx_putf 1 12 0 (.int) 5)))) (mx_node 6 (mx_leaf 5 (mx_iload 1 6)) (mx_node 7 (mx_leaf 6 (mx_i2l 7)) (mx_leaf 7 (mx_const (.long 0) 8))))) (mx_node 17 (mx_node 11 (mx_leaf 8 (mx_const (.long 5) 11)) (mx_node 14 (mx_leaf 11 (mx_calls 154 3 14)) (mx_leaf 14 (mx_if_ne 20 17)))) (mx_node 19 (mx_leaf 17 (mx_const (.int (-2)) 19)) (mx_node 20 (mx_leaf 19 (mx_iret)) (mx_leaf 20 (mx_iload 1 21)))))) (mx_node 33 (mx_node 28 (mx_node 24 (mx_leaf 21 (mx_if_ne 29 24)) (mx_node 25 (mx_leaf 24 (mx_aload 0 25)) (mx_leaf 25 (mx_getf 12 18 28)))) (mx_node 29 (mx_leaf 28 (mx_iret)) (mx_node 30 (mx_leaf 29 (mx_aload 0 30)) (mx_leaf 30 (mx_callv 230 1 12 33))))) (mx_node 38 (mx_node 34 (mx_leaf 33 (mx_iload 1 34)) (mx_node 35 (mx_leaf 34 (mx_const (.int 1) 35)) (mx_leaf 35 (mx_icmp_ne 43 38)))) (mx_node 39 (mx_leaf 38 (mx_aload 0 39)) (mx_node 42 (mx_leaf 39 (mx_callv 231 1 12 42)) (mx_leaf 42 (mx_iret))))))) (mx_node 62 (mx_node 54 (mx_node 48 (mx_node 44 (mx_leaf 43 (mx_aload 0 44)) (mx_node 45 (mx_leaf 44 (mx_aload 0 45)) (mx_leaf 45 (mx_getf 12 1 48)))) (mx_node 50 (mx_leaf 48 (mx_const (.int 27) 50)) (mx_node 51 (mx_leaf 50 (mx_iald 51)) (mx_leaf 51 (mx_callv 232 2 12 54))))) (mx_node 57 (mx_node 55 (mx_leaf 54 (mx_istore 2 55)) (mx_node 56 (mx_leaf 55 (mx_const (.int 0) 56)) (mx_leaf 56 (mx_istore 3 57)))) (mx_node 58 (mx_leaf 57 (mx_const (.int 0) 58)) (mx_node 60 (mx_leaf 58 (mx_istore 4 60)) (mx_leaf 60 (mx_iload 4 62)))))) (mx_node 75 (mx_node 69 (mx_node 63 (mx_leaf 62 (mx_aload 0 63)) (mx_node 66 (mx_leaf 63 (mx_getf 12 18 66)) (mx_leaf 66 (mx_icmp_ge 171 69)))) (mx_node 70 (mx_leaf 69 (mx_aload 0 70)) (mx_node 72 (mx_leaf 70 (mx_iload 4 72)) (mx_leaf 72 (mx_callv 232 2 12 75))))) (mx_node 79 (mx_node 77 (mx_leaf 75 (mx_istore 5 77)) (mx_node 78 (mx_leaf 77 (mx_iload 1 78)) (mx_leaf 78 (mx_const (.int 2) 79)))) (mx_node 82 (mx_leaf 79 (mx_icmp_ne 103 82)) (mx_node 83 (mx_leaf 82 (mx_iload 3 83)) (mx_leaf 83 (mx_aload 0 84)))))))) (mx_node 127 (mx_node 105 (mx_node 97 (mx_node 90 (mx_node 87 (mx_leaf 84 (mx_getf 12 27 87)) (mx_node 89 (mx_leaf 87 (mx_iload 4 89)) (mx_leaf 89 (mx_zald 90)))) (mx_node 93 (mx_leaf 90 (mx_if_eq 97 93)) (mx_node 94 (mx_leaf 93 (mx_const (.int 1) 94)) (mx_leaf 94 (mx_goto 98))))) (mx_node 100 (mx_node 98 (mx_leaf 97 (mx_const (.int 0) 98)) (mx_node 99 (mx_leaf 98 (mx_iadd 99)) (mx_leaf 99 (mx_istore 3 100)))) (mx_node 103 (mx_leaf 100 (mx_goto 165)) (mx_node 104 (mx_leaf 103 (mx_iload 1 104)) (mx_leaf 104 (mx_const (.int 3) 105)))))) (mx_node 117 (mx_node 111 (mx_node 108 (mx_leaf 105 (mx_icmp_ne 126 108)) (mx_node 109 (mx_leaf 108 (mx_iload 3 109)) (mx_leaf 109 (mx_iload 5 111)))) (mx_node 113 (mx_leaf 111 (mx_iload 4 113)) (mx_node 116 (mx_leaf 113 (mx_icmp_ne 120 116)) (mx_leaf 116 (mx_const (.int 1) 117))))) (mx_node 122 (mx_node 120 (mx_leaf 117 (mx_goto 121)) (mx_node 121 (mx_leaf 120 (mx_const (.int 0) 121)) (mx_leaf 121 (mx_iadd 122)))) (mx_node 123 (mx_leaf 122 (mx_istore 3 123)) (mx_node 126 (mx_leaf 123 (mx_goto 165)) (mx_leaf 126 (mx_iload 1 127))))))) (mx_node 151 (mx_node 139 (mx_node 132 (mx_node 128 (mx_leaf 127 (mx_const (.int 4) 128)) (mx_node 131 (mx_leaf 128 (mx_icmp_ne 151 131)) (mx_leaf 131 (mx_aload 0 132)))) (mx_node 135 (mx_leaf 132 (mx_getf 12 31 135)) (mx_node 136 (mx_leaf 135 (mx_iload 3 136)) (mx_leaf 136 (mx_icmp_le 146 139))))) (mx_node 146 (mx_node 140 (mx_leaf 139 (mx_aload 0 140)) (mx_node 143 (mx_leaf 140 (mx_getf 12 31 143)) (mx_leaf 143 (mx_goto 147)))) (mx_node 147 (mx_leaf 146 (mx_iload 3 147)) (mx_node 148 (mx_leaf 147 (mx_istore 3 148)) (mx_leaf 148 (mx_goto 165)))))) (mx_node 162 (mx_node 155 (mx_node 152 (mx_leaf 151 (mx_iload 3 152)) (mx_node 154 (mx_leaf 152 (mx_iload 5 154)) (mx_leaf 154 (mx_iload 2 155)))) (mx_node 158 (mx_leaf 155 (mx_icmp_ne 162 158)) (mx_node 159 (mx_leaf 158 (mx_const (.int 1) 159)) (mx_leaf 159 (mx_goto 163))))) (mx_node 165 (mx_node 163 (mx_leaf 162 (mx_const (.int 0) 163)) (mx_node 164 (mx_leaf 163 (mx_iadd 164)) (mx_leaf 164 (mx_istore 3 165)))) (mx_node 171 (mx_node 168 (mx_leaf 165 (mx_iinc 4 1 168)) (mx_leaf 168 (mx_goto 60))) (mx_node 172 (mx_leaf 171 (mx_iload 3 172)) (mx_leaf 172 (mx_iret)))))))))
set_option maxRecDepth 100000 in
noncomputable def tb_234 : Nat → mx_O := (mx_node 85 (mx_node 41 (mx_node 21 (mx_node 8 (mx_node 5 (mx_node 1 (mx_leaf 0 (mx_aload 0 1)) (mx_node 2 (mx_leaf 1 (mx_const (.int 0) 2)) (mx_leaf 2 (mx_putf 1 12 0 (.int) 5)))) (mx_node 6 (mx_leaf 5 (mx_iload 1 6)) (mx_node 7 (mx_leaf 6 (mx_i2l 7)) (mx_leaf 7 (mx_const (.long 0) 8))))) (mx_node 17 (mx_node 11 (mx_leaf 8 (mx_const (.long 9) 11)) (mx_node 14 (mx_leaf 11 (mx_calls 154 3 14)) (mx_leaf 14 (mx_if_ne 20 17)))) (mx_node 19 (mx_leaf 17 (mx_const (.int (-3)) 19)) (mx_node 20 (mx_leaf 19 (mx_iret)) (mx_leaf 20 (mx_aload 0 21)))))) (mx_node 31 (mx_node 26 (mx_node 24 (mx_leaf 21 (mx_callv 226 1 12 24)) (mx_node 25 (mx_leaf 24 (mx_const (.int 0) 25)) (mx_leaf 25 (mx_istore 2 26)))) (mx_node 27 (mx_leaf 26 (mx_iload 2 27)) (mx_node 28 (mx_leaf 27 (mx_aload 0 28)) (mx_leaf 28 (mx_getf 12 18 31))))) (mx_node 38 (mx_node 34 (mx_leaf 31 (mx_icmp_ge 62 34)) (mx_node 35 (mx_leaf 34 (mx_aload 0 35)) (mx_leaf 35 (mx_getf 12 28 38)))) (mx_node 39 (mx_leaf 38 (mx_iload 2 39)) (mx_node 40 (mx_leaf 39 (mx_iload 2 40)) (mx_leaf 40 (mx_aload 0 41))))))) (mx_node 64 (mx_node 54 (mx_node 47 (mx_node 44 (mx_leaf 41 (mx_getf 12 1 44)) (mx_node 46 (mx_leaf 44 (mx_const (.int 27) 46)) (mx_leaf 46 (mx_iald 47)))) (mx_node 50 (mx_leaf 47 (mx_icmp_ne 54 50)) (mx_node 51 (mx_leaf 50 (mx_const (.int 1) 51)) (mx_leaf 51 (mx_goto 55))))) (mx_node 59 (mx_node 55 (mx_leaf 54 (mx_const (.int 0) 55)) (mx_node 56 (mx_leaf 55 (mx_zast 1 56)) (mx_leaf 56 (mx_iinc 2 1 59)))) (mx_node 62 (mx_leaf 59 (mx_goto 26)) (mx_node 63 (mx_leaf 62 (mx_const (.int 0) 63)) (mx_leaf 63 (mx_istore 2 64)))))) (mx_node 72 (mx_node 69 (mx_node 65 (mx_leaf 64 (mx_iload 2 65)) (mx_node 66 (mx_leaf 65 (mx_iload 1 66)) (mx_leaf 66 (mx_icmp_ge 136 69)))) (mx_node 70 (mx_leaf 69 (mx_const (.int 0) 70)) (mx_node 71 (mx_leaf 70 (mx_istore 3 71)) (mx_leaf 71 (mx_iload 3 72))))) (mx_node 79 (mx_node 73 (mx_leaf 72 (mx_aload 0 73)) (mx_node 76 (mx_leaf 73 (mx_getf 12 18 76)) (mx_leaf 76 (mx_icmp_ge 102 79)))) (mx_node 83 (mx_node 80 (mx_leaf 79 (mx_aload 0 80)) (mx_leaf 80 (mx_getf 12 29 83))) (mx_node 84 (mx_leaf 83 (mx_iload 3 84)) (mx_leaf 84 (mx_aload 0 85)))))))) (mx_node 130 (mx_node 105 (mx_node 95 (mx_node 92 (mx_node 88 (mx_leaf 85 (mx_getf 12 28 88)) (mx_node 89 (mx_leaf 88 (mx_aload 0 89)) (mx_leaf 89 (mx_getf 12 24 92)))) (mx_node 93 (mx_leaf 92 (mx_iload 3 93)) (mx_node 94 (mx_leaf 93 (mx_iald 94)) (mx_leaf 94 (mx_zald 95))))) (mx_node 102 (mx_node 96 (mx_leaf 95 (mx_zast 1 96)) (mx_node 99 (mx_leaf 96 (mx_iinc 3 1 99)) (mx_leaf 99 (mx_goto 71)))) (mx_node 103 (mx_leaf 102 (mx_const (.int 0) 103)) (mx_node 104 (mx_leaf 103 (mx_istore 3 104)) (mx_leaf 104 (mx_iload 3 105)))))) (mx_node 117 (mx_node 112 (mx_node 106 (mx_leaf 105 (mx_aload 0 106)) (mx_node 109 (mx_leaf 106 (mx_getf 12 18 109)) (mx_leaf 109 (mx_icmp_ge 130 112)))) (mx_node 113 (mx_leaf 112 (mx_aload 0 113)) (mx_node 116 (mx_leaf 113 (mx_getf 12 28 116)) (mx_leaf 116 (mx_iload 3 117))))) (mx_node 122 (mx_node 118 (mx_leaf 117 (mx_aload 0 118)) (mx_node 121 (mx_leaf 118 (mx_getf 12 29 121)) (mx_leaf 121 (mx_iload 3 122)))) (mx_node 124 (mx_node 123 (mx_leaf 122 (mx_zald 123)) (mx_leaf 123 (mx_zast 1 124))) (mx_node 127 (mx_leaf 124 (mx_iinc 3 1 127)) (mx_leaf 127 (mx_goto 104))))))) (mx_node 150 (mx_node 140 (mx_node 137 (mx_node 133 (mx_leaf 130 (mx_iinc 2 1 133)) (mx_node 136 (mx_leaf 133 (mx_goto 64)) (mx_leaf 136 (mx_const (.int 0) 137)))) (mx_node 138 (mx_leaf 137 (mx_istore 2 138)) (mx_node 139 (mx_leaf 138 (mx_const (.int 0) 139)) (mx_leaf 139 (mx_istore 3 140))))) (mx_node 145 (mx_node 141 (mx_leaf 140 (mx_iload 3 141)) (mx_node 142 (mx_leaf 141 (mx_aload 0 142)) (mx_leaf 142 (mx_getf 12 18 145)))) (mx_node 148 (mx_leaf 145 (mx_icmp_ge 171 148)) (mx_node 149 (mx_leaf 148 (mx_iload 2 149)) (mx_leaf 149 (mx_aload 0 150)))))) (mx_node 162 (mx_node 155 (mx_node 153 (mx_leaf 150 (mx_getf 12 28 153)) (mx_node 154 (mx_leaf 153 (mx_iload 3 154)) (mx_leaf 154 (mx_zald 155)))) (mx_node 158 (mx_leaf 155 (mx_if_eq 162 158)) (mx_node 159 (mx_leaf 158 (mx_const (.int 1) 159)) (mx_leaf 159 (mx_goto 163))))) (mx_node 165 (mx_node 163 (mx_leaf 162 (mx_const (.int 0) 163)) (mx_node 164 (mx_leaf 163 (mx_iadd 164)) (mx_leaf 164 (mx_istore 2 165)))) (mx_node 171 (mx_node 168 (mx_leaf 165 (mx_iinc 3 1 168)) (mx_leaf 168 (mx_goto 140))) (mx_node 172 (mx_leaf 171 (mx_iload 2 172)) (mx_leaf 172 (mx_iret)))))))))
set_option maxRecDepth 100000 in
noncomputable def tb_235 : Nat → mx_O := (mx_node 29 (mx_node 13 (mx_node 4 (mx_node 2 (mx_node 1 (mx_leaf 0 (mx_const (.int 0) 1)) (mx_leaf 1 (mx_istore 1 2))) (mx_node 3 (mx_leaf 2 (mx_iload 1 3)) (mx_leaf 3 (mx_aload 0 4)))) (mx_node 10 (mx_node 7 (mx_leaf 4 (mx_getf 12 18 7)) (mx_leaf 7 (mx_icmp_ge 67 10))) (mx_node 11 (mx_leaf 10 (mx_const (.int 0) 11)) (mx_node 12 (mx_leaf 11 (mx_istore 2 12)) (mx_leaf 12 (mx_iload 2 13)))))) (mx_node 24 (mx_node 18 (mx_node 15 (mx_leaf 13 (mx_const (.int 19) 15)) (mx_leaf 15 (mx_icmp_ge 61 18))) (mx_node 19 (mx_leaf 18 (mx_aload 0 19)) (mx_node 22 (mx_leaf 19 (mx_getf 12 32 22)) (mx_leaf 22 (mx_const (.int 19) 24))))) (mx_node 26 (mx_node 25 (mx_leaf 24 (mx_iload 1 25)) (mx_leaf 25 (mx_imul 26))) (mx_node 27 (mx_leaf 26 (mx_iload 2 27)) (mx_node 28 (mx_leaf 27 (mx_iadd 28)) (mx_leaf 28 (mx_aload 0 29))))))) (mx_node 46 (mx_node 38 (mx_node 31 (mx_node 30 (mx_leaf 29 (mx_iload 1 30)) (mx_leaf 30 (mx_iload 2 31))) (mx_node 34 (mx_leaf 31 (mx_callv 197 3 12 34)) (mx_node 37 (mx_leaf 34 (mx_if_eq 53 37)) (mx_leaf 37 (mx_aload 0 38))))) (mx_node 40 (mx_node 39 (mx_leaf 38 (mx_iload 1 39)) (mx_leaf 39 (mx_iload 2 40))) (mx_node 41 (mx_leaf 40 (mx_aload 0 41)) (mx_node 44 (mx_leaf 41 (mx_getf 12 1 44)) (mx_leaf 44 (mx_const (.int 28) 46)))))) (mx_node 55 (mx_node 50 (mx_node 47 (mx_leaf 46 (mx_iald 47)) (mx_leaf 47 (mx_callv 198 4 12 50))) (mx_node 53 (mx_leaf 50 (mx_goto 54)) (mx_node 54 (mx_leaf 53 (mx_const (.int (-1)) 54)) (mx_leaf 54 (mx_iast 1 55))))) (mx_node 61 (mx_node 58 (mx_leaf 55 (mx_iinc 2 1 58)) (mx_leaf 58 (mx_goto 12))) (mx_node 64 (mx_leaf 61 (mx_iinc 1 1 64)) (mx_node 67 (mx_leaf 64 (mx_goto 2)) (mx_leaf 67 (mx_vret))))))))
set_option maxRecDepth 100000 in
noncomputable def tb_236 : Nat → mx_O := (mx_node 18 (mx_node 9 (mx_node 6 (mx_node 1 (mx_leaf 0 (mx_aload 0 1)) (mx_node 4 (mx_leaf 1 (mx_getf 12 32 4)) (mx_leaf 4 (mx_const (.int 19) 6)))) (mx_node 7 (mx_leaf 6 (mx_iload 1 7)) (mx_node 8 (mx_leaf 7 (mx_imul 8)) (mx_leaf 8 (mx_iload 2 9))))) (mx_node 12 (mx_node 10 (mx_leaf 9 (mx_iadd 10)) (mx_node 11 (mx_leaf 10 (mx_iald 11)) (mx_leaf 11 (mx_istore 3 12)))) (mx_node 14 (mx_node 13 (mx_leaf 12 (mx_iload 3 13)) (mx_leaf 13 (mx_const (.int (-1)) 14))) (mx_node 17 (mx_leaf 14 (mx_icmp_eq 29 17)) (mx_leaf 17 (mx_aload 0 18)))))) (mx_node 35 (mx_node 23 (mx_node 21 (mx_leaf 18 (mx_getf 12 33 21)) (mx_node 22 (mx_leaf 21 (mx_iload 3 22)) (mx_leaf 22 (mx_iald 23)))) (mx_node 29 (mx_node 26 (mx_leaf 23 (mx_const (.int 268435456) 26)) (mx_leaf 26 (mx_icmp_ne 35 29))) (mx_node 32 (mx_leaf 29 (mx_const (.int 268435456) 32)) (mx_leaf 32 (mx_goto 43))))) (mx_node 40 (mx_node 36 (mx_leaf 35 (mx_aload 0 36)) (mx_node 39 (mx_leaf 36 (mx_getf 12 33 39)) (mx_leaf 39 (mx_iload 3 40)))) (mx_node 42 (mx_node 41 (mx_leaf 40 (mx_iald 41)) (mx_leaf 41 (mx_const (.int 1) 42))) (mx_node 43 (mx_leaf 42 (mx_iadd 43)) (mx_leaf 43 (mx_iret)))))))
set_option maxRecDepth 100000 in
noncomputable def tb_237 : Nat → mx_O := (mx_node 61 (mx_node 31 (mx_node 14 (mx_node 6 (mx_node 4 (mx_node 1 (mx_leaf 0 (mx_aload 0 1)) (mx_leaf 1 (mx_callv 235 1 12 4))) (mx_node 5 (mx_leaf 4 (mx_const (.int 0) 5)) (mx_leaf 5 (mx_istore 2 6)))) (mx_node 8 (mx_node 7 (mx_leaf 6 (mx_iload 2 7)) (mx_leaf 7 (mx_aload 0 8))) (mx_node 11 (mx_leaf 8 (mx_getf 12 18 11)) (mx_leaf 11 (mx_icmp_ge 38 14))))) (mx_node 20 (mx_node 18 (mx_node 15 (mx_leaf 14 (mx_aload 0 15)) (mx_leaf 15 (mx_getf 12 33 18))) (mx_node 19 (mx_leaf 18 (mx_iload 2 19)) (mx_leaf 19 (mx_iload 2 20)))) (mx_node 24 (mx_node 21 (mx_leaf 20 (mx_iload 1 21)) (mx_leaf 21 (mx_icmp_ne 28 24))) (mx_node 25 (mx_leaf 24 (mx_const (.int 0) 25)) (mx_node 28 (mx_leaf 25 (mx_goto 31)) (mx_leaf 28 (mx_const (.int 268435456) 31))))))) (mx_node 46 (mx_node 39 (mx_node 35 (mx_node 32 (mx_leaf 31 (mx_iast 1 32)) (mx_leaf 32 (mx_iinc 2 1 35))) (mx_node 38 (mx_leaf 35 (mx_goto 6)) (mx_leaf 38 (mx_const (.int 1) 39)))) (mx_node 41 (mx_node 40 (mx_leaf 39 (mx_istore 2 40)) (mx_leaf 40 (mx_iload 2 41))) (mx_node 44 (mx_leaf 41 (mx_if_eq 115 44)) (mx_node 45 (mx_leaf 44 (mx_const (.int 0) 45)) (mx_leaf 45 (mx_istore 2 46)))))) (mx_node 50 (mx_node 48 (mx_node 47 (mx_leaf 46 (mx_const (.int 0) 47)) (mx_leaf 47 (mx_istore 3 48))) (mx_node 49 (mx_leaf 48 (mx_iload 3 49)) (mx_leaf 49 (mx_aload 0 50)))) (mx_node 56 (mx_node 53 (mx_leaf 50 (mx_getf 12 18 53)) (mx_leaf 53 (mx_icmp_ge 112 56))) (mx_node 57 (mx_leaf 56 (mx_const (.int 0) 57)) (mx_node 59 (mx_leaf 57 (mx_istore 4 59)) (mx_leaf 59 (mx_iload 4 61)))))))) (mx_node 92 (mx_node 77 (mx_node 68 (mx_node 66 (mx_node 63 (mx_leaf 61 (mx_const (.int 19) 63)) (mx_leaf 63 (mx_icmp_ge 106 66))) (mx_node 67 (mx_leaf 66 (mx_aload 0 67)) (mx_leaf 67 (mx_iload 3 68)))) (mx_node 73 (mx_node 70 (mx_leaf 68 (mx_iload 4 70)) (mx_leaf 70 (mx_callv 236 3 12 73))) (mx_node 74 (mx_leaf 73 (mx_aload 0 74)) (mx_leaf 74 (mx_getf 12 33 77))))) (mx_node 85 (mx_node 79 (mx_node 78 (mx_leaf 77 (mx_iload 3 78)) (mx_leaf 78 (mx_iald 79))) (mx_node 82 (mx_leaf 79 (mx_icmp_lt 85 82)) (mx_leaf 82 (mx_goto 100)))) (mx_node 89 (mx_node 86 (mx_leaf 85 (mx_aload 0 86)) (mx_leaf 86 (mx_getf 12 33 89))) (mx_node 90 (mx_leaf 89 (mx_iload 3 90)) (mx_node 91 (mx_leaf 90 (mx_aload 0 91)) (mx_leaf 91 (mx_iload 3 92))))))) (mx_node 112 (mx_node 99 (mx_node 97 (mx_node 94 (mx_leaf 92 (mx_iload 4 94)) (mx_leaf 94 (mx_callv 236 3 12 97))) (mx_node 98 (mx_leaf 97 (mx_iast 1 98)) (mx_leaf 98 (mx_const (.int 1) 99)))) (mx_node 103 (mx_node 100 (mx_leaf 99 (mx_istore 2 100)) (mx_leaf 100 (mx_iinc 4 1 103))) (mx_node 106 (mx_leaf 103 (mx_goto 59)) (mx_node 109 (mx_leaf 106 (mx_iinc 3 1 109)) (mx_leaf 109 (mx_goto 48)))))) (mx_node 120 (mx_node 116 (mx_node 115 (mx_leaf 112 (mx_goto 40)) (mx_leaf 115 (mx_aload 0 116))) (mx_node 119 (mx_leaf 116 (mx_getf 12 33 119)) (mx_leaf 119 (mx_aload 0 120)))) (mx_node 125 (mx_node 123 (mx_leaf 120 (mx_getf 12 1 123)) (mx_leaf 123 (mx_const (.int 27) 125))) (mx_node 126 (mx_leaf 125 (mx_iald 126)) (mx_node 127 (mx_leaf 126 (mx_iald 127)) (mx_leaf 127 (mx_iret)))))))))
set_option maxRecDepth 100000 in
noncomputable def tb_238 : Nat → mx_O := (mx_node 7 (mx_node 1 (mx_leaf 0 (mx_iload 0 1)) (mx_node 4 (mx_leaf 1 (mx_const (.int 268435456) 4)) (mx_leaf 4 (mx_icmp_ne 11 7)))) (mx_node 11 (mx_node 8 (mx_leaf 7 (mx_const (.int (-1)) 8)) (mx_leaf 8 (mx_goto 12))) (mx_node 12 (mx_leaf 11 (mx_iload 0 12)) (mx_leaf 12 (mx_iret)))))
set_option maxRecDepth 100000 in
noncomputable def tb_239 : Nat → mx_O := (mx_node 54 (mx_node 26 (mx_node 12 (mx_node 6 (mx_node 2 (mx_node 1 (mx_leaf 0 (mx_aload 0 1)) (mx_leaf 1 (mx_iload 1 2))) (mx_node 5 (mx_leaf 2 (mx_callv 220 2 12 5)) (mx_leaf 5 (mx_istore 2 6)))) (mx_node 10 (mx_node 7 (mx_leaf 6 (mx_iload 2 7)) (mx_leaf 7 (mx_if_eq 12 10))) (mx_node 11 (mx_leaf 10 (mx_iload 2 11)) (mx_leaf 11 (mx_iret))))) (mx_node 18 (mx_node 16 (mx_node 13 (mx_leaf 12 (mx_aload 0 13)) (mx_leaf 13 (mx_getf 12 40 16))) (mx_node 17 (mx_leaf 16 (mx_iload 1 17)) (mx_leaf 17 (mx_iald 18)))) (mx_node 20 (mx_node 19 (mx_leaf 18 (mx_i2l 19)) (mx_leaf 19 (mx_const (.long 1) 20))) (mx_node 23 (mx_leaf 20 (mx_const (.long 18) 23)) (mx_leaf 23 (mx_calls 154 3 26)))))) (mx_node 39 (mx_node 33 (mx_node 31 (mx_node 29 (mx_leaf 26 (mx_if_ne 32 29)) (mx_leaf 29 (mx_const (.int (-4)) 31))) (mx_node 32 (mx_leaf 31 (mx_iret)) (mx_leaf 32 (mx_const (.int 0) 33)))) (mx_node 35 (mx_node 34 (mx_leaf 33 (mx_istore 3 34)) (mx_leaf 34 (mx_const (.int 0) 35))) (mx_node 37 (mx_leaf 35 (mx_istore 4 37)) (mx_leaf 37 (mx_iload 4 39))))) (mx_node 45 (mx_node 43 (mx_node 40 (mx_leaf 39 (mx_aload 0 40)) (mx_leaf 40 (mx_getf 12 40 43))) (mx_node 44 (mx_leaf 43 (mx_iload 1 44)) (mx_leaf 44 (mx_iald 45)))) (mx_node 49 (mx_node 48 (mx_leaf 45 (mx_icmp_ge 91 48)) (mx_leaf 48 (mx_aload 0 49))) (mx_node 52 (mx_leaf 49 (mx_getf 12 41 52)) (mx_leaf 52 (mx_const (.int 40) 54))))))) (mx_node 80 (mx_node 68 (mx_node 59 (mx_node 56 (mx_node 55 (mx_leaf 54 (mx_iload 1 55)) (mx_leaf 55 (mx_imul 56))) (mx_node 58 (mx_leaf 56 (mx_iload 4 58)) (mx_leaf 58 (mx_iadd 59)))) (mx_node 63 (mx_node 60 (mx_leaf 59 (mx_lald 60)) (mx_leaf 60 (mx_calls 208 1 63))) (mx_node 66 (mx_leaf 63 (mx_if_ne 69 66)) (mx_leaf 66 (mx_const (.int (-3)) 68))))) (mx_node 74 (mx_node 70 (mx_node 69 (mx_leaf 68 (mx_iret)) (mx_leaf 69 (mx_iload 3 70))) (mx_node 71 (mx_leaf 70 (mx_aload 0 71)) (mx_leaf 71 (mx_getf 12 41 74)))) (mx_node 77 (mx_node 76 (mx_leaf 74 (mx_const (.int 40) 76)) (mx_leaf 76 (mx_iload 1 77))) (mx_node 78 (mx_leaf 77 (mx_imul 78)) (mx_leaf 78 (mx_iload 4 80)))))) (mx_node 92 (mx_node 84 (mx_node 82 (mx_node 81 (mx_leaf 80 (mx_iadd 81)) (mx_leaf 81 (mx_lald 82))) (mx_node 83 (mx_leaf 82 (mx_l2i 83)) (mx_leaf 83 (mx_iadd 84)))) (mx_node 88 (mx_node 85 (mx_leaf 84 (mx_istore 3 85)) (mx_leaf 85 (mx_iinc 4 1 88))) (mx_node 91 (mx_leaf 88 (mx_goto 37)) (mx_leaf 91 (mx_iload 3 92))))) (mx_node 98 (mx_node 96 (mx_node 93 (mx_leaf 92 (mx_aload 0 93)) (mx_leaf 93 (mx_getf 12 1 96))) (mx_node 97 (mx_leaf 96 (mx_const (.int 1) 97)) (mx_leaf 97 (mx_iald 98)))) (mx_node 102 (mx_node 101 (mx_leaf 98 (mx_icmp_ne 105 101)) (mx_leaf 101 (mx_const (.int 0) 102))) (mx_node 105 (mx_leaf 102 (mx_goto 107)) (mx_node 107 (mx_leaf 105 (mx_const (.int (-5)) 107)) (mx_leaf 107 (mx_iret)))))))))
set_option maxRecDepth 100000 in
noncomputable def tb_240 : Nat → mx_O := (mx_node 22 (mx_node 11 (mx_node 5 (mx_node 1 (mx_leaf 0 (mx_aload 0 1)) (mx_node 4 (mx_leaf 1 (mx_callv 186 1 12 4)) (mx_leaf 4 (mx_const (.int 0) 5)))) (mx_node 7 (mx_node 6 (mx_leaf 5 (mx_istore 2 6)) (mx_leaf 6 (mx_iload 2 7))) (mx_node 8 (mx_leaf 7 (mx_aload 0 8)) (mx_leaf 8 (mx_getf 12 40 11))))) (mx_node 16 (mx_node 12 (mx_leaf 11 (mx_iload 1 12)) (mx_node 13 (mx_leaf 12 (mx_iald 13)) (mx_leaf 13 (mx_icmp_ge 40 16)))) (mx_node 20 (mx_node 17 (mx_leaf 16 (mx_aload 0 17)) (mx_leaf 17 (mx_getf 12 16 20))) (mx_node 21 (mx_leaf 20 (mx_iload 2 21)) (mx_leaf 21 (mx_aload 0 22)))))) (mx_node 32 (mx_node 28 (mx_node 25 (mx_leaf 22 (mx_getf 12 41 25)) (mx_node 27 (mx_leaf 25 (mx_const (.int 40) 27)) (mx_leaf 27 (mx_iload 1 28)))) (mx_node 30 (mx_node 29 (mx_leaf 28 (mx_imul 29)) (mx_leaf 29 (mx_iload 2 30))) (mx_node 31 (mx_leaf 30 (mx_iadd 31)) (mx_leaf 31 (mx_lald 32))))) (mx_node 37 (mx_node 33 (mx_leaf 32 (mx_l2i 33)) (mx_node 34 (mx_leaf 33 (mx_iast 1 34)) (mx_leaf 34 (mx_iinc 2 1 37)))) (mx_node 41 (mx_node 40 (mx_leaf 37 (mx_goto 6)) (mx_leaf 40 (mx_aload 0 41))) (mx_node 44 (mx_leaf 41 (mx_callv 188 1 12 44)) (mx_leaf 44 (mx_iret)))))))
set_option maxRecDepth 100000 in
noncomputable def tb_241 : Nat → mx_O := (mx_node 15 (mx_node 6 (mx_node 2 (mx_node 1 (mx_leaf 0 (mx_aload 0 1)) (mx_leaf 1 (mx_const (.int 0) 2))) (mx_node 5 (mx_leaf 2 (mx_putf 1 12 0 (.int) 5)) (mx_leaf 5 (mx_aload 0 6)))) (mx_node 10 (mx_node 7 (mx_leaf 6 (mx_iload 1 7)) (mx_leaf 7 (mx_callv 239 2 12 10))) (mx_node 11 (mx_leaf 10 (mx_istore 2 11)) (mx_node 12 (mx_leaf 11 (mx_iload 2 12)) (mx_leaf 12 (mx_if_eq 19 15)))))) (mx_node 21 (mx_node 19 (mx_node 16 (mx_leaf 15 (mx_iload 2 16)) (mx_leaf 16 (mx_goto 31))) (mx_node 20 (mx_leaf 19 (mx_aload 0 20)) (mx_leaf 20 (mx_aload 0 21)))) (mx_node 25 (mx_node 22 (mx_leaf 21 (mx_iload 1 22)) (mx_leaf 22 (mx_callv 240 2 12 25))) (mx_node 28 (mx_leaf 25 (mx_callv 237 2 12 28)) (mx_node 31 (mx_leaf 28 (mx_calls 238 1 31)) (mx_leaf 31 (mx_iret)))))))
set_option maxRecDepth 100000 in
noncomputable def tb_242 : Nat → mx_O := (mx_node 60 (mx_node 26 (mx_node 12 (mx_node 6 (mx_node 2 (mx_node 1 (mx_leaf 0 (mx_aload 0 1)) (mx_leaf 1 (mx_const (.int 0) 2))) (mx_node 5 (mx_leaf 2 (mx_putf 1 12 0 (.int) 5)) (mx_leaf 5 (mx_aload 0 6)))) (mx_node 10 (mx_node 7 (mx_leaf 6 (mx_iload 1 7)) (mx_leaf 7 (mx_callv 239 2 12 10))) (mx_node 11 (mx_leaf 10 (mx_istore 3 11)) (mx_leaf 11 (mx_iload 3 12))))) (mx_node 18 (mx_node 16 (mx_node 15 (mx_leaf 12 (mx_if_eq 17 15)) (mx_leaf 15 (mx_iload 3 16))) (mx_node 17 (mx_leaf 16 (mx_iret)) (mx_leaf 17 (mx_iload 2 18)))) (mx_node 23 (mx_node 21 (mx_leaf 18 (mx_if_ge 24 21)) (mx_leaf 21 (mx_const (.int (-3)) 23))) (mx_node 24 (mx_leaf 23 (mx_iret)) (mx_node 25 (mx_leaf 24 (mx_aload 0 25)) (mx_leaf 25 (mx_aload 0 26))))))) (mx_node 43 (mx_node 34 (mx_node 30 (mx_node 27 (mx_leaf 26 (mx_iload 1 27)) (mx_leaf 27 (mx_callv 240 2 12 30))) (mx_node 33 (mx_leaf 30 (mx_callv 237 2 12 33)) (mx_leaf 33 (mx_pop 34)))) (mx_node 38 (mx_node 35 (mx_leaf 34 (mx_aload 0 35)) (mx_leaf 35 (mx_getf 12 1 38))) (mx_node 40 (mx_leaf 38 (mx_const (.int 27) 40)) (mx_node 41 (mx_leaf 40 (mx_iald 41)) (mx_leaf 41 (mx_istore 4 43)))))) (mx_node 50 (mx_node 46 (mx_node 44 (mx_leaf 43 (mx_const (.int 0) 44)) (mx_leaf 44 (mx_istore 5 46))) (mx_node 47 (mx_leaf 46 (mx_aload 0 47)) (mx_leaf 47 (mx_getf 12 33 50)))) (mx_node 53 (mx_node 52 (mx_leaf 50 (mx_iload 4 52)) (mx_leaf 52 (mx_iald 53))) (mx_node 56 (mx_leaf 53 (mx_if_le 126 56)) (mx_node 57 (mx_leaf 56 (mx_aload 0 57)) (mx_leaf 57 (mx_getf 12 33 60)))))))) (mx_node 96 (mx_node 75 (mx_node 69 (mx_node 63 (mx_node 62 (mx_leaf 60 (mx_iload 4 62)) (mx_leaf 62 (mx_iald 63))) (mx_node 66 (mx_leaf 63 (mx_const (.int 268435456) 66)) (mx_leaf 66 (mx_icmp_ge 126 69)))) (mx_node 72 (mx_node 70 (mx_leaf 69 (mx_const (.int 0) 70)) (mx_leaf 70 (mx_istore 6 72))) (mx_node 73 (mx_leaf 72 (mx_aload 0 73)) (mx_leaf 73 (mx_iload 4 75))))) (mx_node 84 (mx_node 80 (mx_node 77 (mx_leaf 75 (mx_iload 6 77)) (mx_leaf 77 (mx_callv 236 3 12 80))) (mx_node 81 (mx_leaf 80 (mx_aload 0 81)) (mx_leaf 81 (mx_getf 12 33 84)))) (mx_node 87 (mx_node 86 (mx_leaf 84 (mx_iload 4 86)) (mx_leaf 86 (mx_iald 87))) (mx_node 90 (mx_leaf 87 (mx_icmp_eq 96 90)) (mx_node 93 (mx_leaf 90 (mx_iinc 6 1 93)) (mx_leaf 93 (mx_goto 72))))))) (mx_node 113 (mx_node 104 (mx_node 99 (mx_node 98 (mx_leaf 96 (mx_iload 5 98)) (mx_leaf 98 (mx_iload 2 99))) (mx_node 102 (mx_leaf 99 (mx_icmp_ne 105 102)) (mx_leaf 102 (mx_iload 6 104)))) (mx_node 106 (mx_node 105 (mx_leaf 104 (mx_iret)) (mx_leaf 105 (mx_aload 0 106))) (mx_node 109 (mx_leaf 106 (mx_getf 12 32 109)) (mx_node 111 (mx_leaf 109 (mx_const (.int 19) 111)) (mx_leaf 111 (mx_iload 4 113)))))) (mx_node 118 (mx_node 116 (mx_node 114 (mx_leaf 113 (mx_imul 114)) (mx_leaf 114 (mx_iload 6 116))) (mx_node 117 (mx_leaf 116 (mx_iadd 117)) (mx_leaf 117 (mx_iald 118)))) (mx_node 123 (mx_node 120 (mx_leaf 118 (mx_istore 4 120)) (mx_leaf 120 (mx_iinc 5 1 123))) (mx_node 126 (mx_leaf 123 (mx_goto 46)) (mx_node 127 (mx_leaf 126 (mx_const (.int (-1)) 127)) (mx_leaf 127 (mx_iret)))))))))
set_option maxRecDepth 100000 in
noncomputable def tb_243 : Nat → mx_O := (mx_node 22 (mx_node 10 (mx_node 3 (mx_node 1 (mx_leaf 0 (mx_const (.int 0) 1)) (mx_node 2 (mx_leaf 1 (mx_istore 1 2)) (mx_leaf 2 (mx_iload 1 3)))) (mx_node 6 (mx_leaf 3 (mx_const (.int 385) 6)) (mx_node 9 (mx_leaf 6 (mx_icmp_ge 44 9)) (mx_leaf 9 (mx_aload 0 10))))) (mx_node 15 (mx_node 13 (mx_leaf 10 (mx_getf 12 35 13)) (mx_node 14 (mx_leaf 13 (mx_iload 1 14)) (mx_leaf 14 (mx_iload 1 15)))) (mx_node 19 (mx_node 16 (mx_leaf 15 (mx_aload 0 16)) (mx_leaf 16 (mx_getf 12 1 19))) (mx_node 21 (mx_leaf 19 (mx_const (.int 27) 21)) (mx_leaf 21 (mx_iald 22)))))) (mx_node 32 (mx_node 29 (mx_node 25 (mx_leaf 22 (mx_icmp_ne 29 25)) (mx_node 26 (mx_leaf 25 (mx_const (.long 1) 26)) (mx_leaf 26 (mx_goto 30)))) (mx_node 30 (mx_leaf 29 (mx_const (.long 0) 30)) (mx_node 31 (mx_leaf 30 (mx_last 1 31)) (mx_leaf 31 (mx_aload 0 32))))) (mx_node 37 (mx_node 35 (mx_leaf 32 (mx_getf 12 36 35)) (mx_node 36 (mx_leaf 35 (mx_iload 1 36)) (mx_leaf 36 (mx_const (.long 0) 37)))) (mx_node 41 (mx_node 38 (mx_leaf 37 (mx_last 1 38)) (mx_leaf 38 (mx_iinc 1 1 41))) (mx_node 44 (mx_leaf 41 (mx_goto 2)) (mx_leaf 44 (mx_vret)))))))
set_option maxRecDepth 100000 in
noncomputable def tb_244 : Nat → mx_O := (mx_node 18 (mx_node 9 (mx_node 2 (mx_node 1 (mx_leaf 0 (mx_const (.int 0) 1)) (mx_leaf 1 (mx_istore 1 2))) (mx_node 3 (mx_leaf 2 (mx_iload 1 3)) (mx_node 6 (mx_leaf 3 (mx_const (.int 385) 6)) (mx_leaf 6 (mx_icmp_ge 34 9))))) (mx_node 13 (mx_node 10 (mx_leaf 9 (mx_aload 0 10)) (mx_leaf 10 (mx_getf 12 35 13))) (mx_node 14 (mx_leaf 13 (mx_iload 1 14)) (mx_node 15 (mx_leaf 14 (mx_aload 0 15)) (mx_leaf 15 (mx_getf 12 36 18)))))) (mx_node 25 (mx_node 20 (mx_node 19 (mx_leaf 18 (mx_iload 1 19)) (mx_leaf 19 (mx_lald 20))) (mx_node 21 (mx_leaf 20 (mx_last 1 21)) (mx_node 22 (mx_leaf 21 (mx_aload 0 22)) (mx_leaf 22 (mx_getf 12 36 25))))) (mx_node 28 (mx_node 26 (mx_leaf 25 (mx_iload 1 26)) (mx_node 27 (mx_leaf 26 (mx_const (.long 0) 27)) (mx_leaf 27 (mx_last 1 28)))) (mx_node 31 (mx_leaf 28 (mx_iinc 1 1 31)) (mx_node 34 (mx_leaf 31 (mx_goto 2)) (mx_leaf 34 (mx_vret)))))))
set_option maxRecDepth 100000 in
noncomputable def tb_245 : Nat → mx_O := (mx_node 95 (mx_node 47 (mx_node 25 (mx_node 10 (mx_node 5 (mx_node 1 (mx_leaf 0 (mx_aload 0 1)) (mx_node 2 (mx_leaf 1 (mx_const (.int 0) 2)) (mx_leaf 2 (mx_putf 1 12 0 (.int) 5)))) (mx_node 6 (mx_leaf 5 (mx_iload 1 6)) (mx_node 7 (mx_leaf 6 (mx_i2l 7)) (mx_leaf 7 (mx_calls 208 1 10))))) (mx_node 15 (mx_node 13 (mx_leaf 10 (mx_if_eq 25 13)) (mx_node 14 (mx_leaf 13 (mx_iload 2 14)) (mx_leaf 14 (mx_i2l 15)))) (mx_node 19 (mx_node 16 (mx_leaf 15 (mx_const (.long 0) 16)) (mx_leaf 16 (mx_const (.long 9) 19))) (mx_node 22 (mx_leaf 19 (mx_calls 154 3 22)) (mx_leaf 22 (mx_if_ne 29 25)))))) (mx_node 37 (mx_node 30 (mx_node 28 (mx_leaf 25 (mx_const (.long (-3)) 28)) (mx_node 29 (mx_leaf 28 (mx_lret)) (mx_leaf 29 (mx_aload 0 30)))) (mx_node 33 (mx_leaf 30 (mx_callv 235 1 12 33)) (mx_node 34 (mx_leaf 33 (mx_aload 0 34)) (mx_leaf 34 (mx_callv 243 1 12 37))))) (mx_node 40 (mx_node 38 (mx_leaf 37 (mx_const (.int 0) 38)) (mx_node 39 (mx_leaf 38 (mx_istore 3 39)) (mx_leaf 39 (mx_iload 3 40)))) (mx_node 44 (mx_node 41 (mx_leaf 40 (mx_iload 2 41)) (mx_leaf 41 (mx_icmp_ge 145 44))) (mx_node 45 (mx_leaf 44 (mx_const (.int 0) 45)) (mx_leaf 45 (mx_istore 4 47))))))) (mx_node 73 (mx_node 59 (mx_node 53 (mx_node 49 (mx_leaf 47 (mx_iload 4 49)) (mx_node 50 (mx_leaf 49 (mx_aload 0 50)) (mx_leaf 50 (mx_getf 12 18 53)))) (mx_node 56 (mx_leaf 53 (mx_icmp_ge 135 56)) (mx_node 57 (mx_leaf 56 (mx_const (.int 0) 57)) (mx_leaf 57 (mx_istore 5 59))))) (mx_node 66 (mx_node 61 (mx_leaf 59 (mx_iload 5 61)) (mx_node 63 (mx_leaf 61 (mx_const (.int 19) 63)) (mx_leaf 63 (mx_icmp_ge 129 66)))) (mx_node 70 (mx_node 67 (mx_leaf 66 (mx_aload 0 67)) (mx_leaf 67 (mx_getf 12 35 70))) (mx_node 72 (mx_leaf 70 (mx_iload 4 72)) (mx_leaf 72 (mx_lald 73)))))) (mx_node 84 (mx_node 78 (mx_node 74 (mx_leaf 73 (mx_const (.long 0) 74)) (mx_node 75 (mx_leaf 74 (mx_lif_le 129 78)) (mx_leaf 75 (mx_if_le 129 78)))) (mx_node 79 (mx_leaf 78 (mx_aload 0 79)) (mx_node 82 (mx_leaf 79 (mx_getf 12 32 82)) (mx_leaf 82 (mx_const (.int 19) 84))))) (mx_node 89 (mx_node 86 (mx_leaf 84 (mx_iload 4 86)) (mx_node 87 (mx_leaf 86 (mx_imul 87)) (mx_leaf 87 (mx_iload 5 89)))) (mx_node 91 (mx_node 90 (mx_leaf 89 (mx_iadd 90)) (mx_leaf 90 (mx_iald 91))) (mx_node 92 (mx_leaf 91 (mx_const (.int (-1)) 92)) (mx_leaf 92 (mx_icmp_eq 123 95)))))))) (mx_node 145 (mx_node 115 (mx_node 107 (mx_node 100 (mx_node 96 (mx_leaf 95 (mx_aload 0 96)) (mx_node 99 (mx_leaf 96 (mx_getf 12 36 99)) (mx_leaf 99 (mx_aload 0 100)))) (mx_node 103 (mx_leaf 100 (mx_getf 12 32 103)) (mx_node 105 (mx_leaf 103 (mx_const (.int 19) 105)) (mx_leaf 105 (mx_iload 4 107))))) (mx_node 111 (mx_node 108 (mx_leaf 107 (mx_imul 108)) (mx_node 110 (mx_leaf 108 (mx_iload 5 110)) (mx_leaf 110 (mx_iadd 111)))) (mx_node 113 (mx_node 112 (mx_leaf 111 (mx_iald 112)) (mx_leaf 112 (mx_dup2 113))) (mx_node 114 (mx_leaf 113 (mx_lald 114)) (mx_leaf 114 (mx_aload 0 115)))))) (mx_node 126 (mx_node 121 (mx_node 118 (mx_leaf 115 (mx_getf 12 35 118)) (mx_node 120 (mx_leaf 118 (mx_iload 4 120)) (mx_leaf 120 (mx_lald 121)))) (mx_node 122 (mx_leaf 121 (mx_ladd 122)) (mx_node 123 (mx_leaf 122 (mx_last 1 123)) (mx_leaf 123 (mx_iinc 5 1 126))))) (mx_node 135 (mx_node 129 (mx_leaf 126 (mx_goto 59)) (mx_node 132 (mx_leaf 129 (mx_iinc 4 1 132)) (mx_leaf 132 (mx_goto 47)))) (mx_node 139 (mx_node 136 (mx_leaf 135 (mx_aload 0 136)) (mx_leaf 136 (mx_callv 244 1 12 139))) (mx_node 142 (mx_leaf 139 (mx_iinc 3 1 142)) (mx_leaf 142 (mx_goto 39))))))) (mx_node 167 (mx_node 153 (mx_node 148 (mx_node 146 (mx_leaf 145 (mx_const (.long 0) 146)) (mx_node 147 (mx_leaf 146 (mx_lstore 3 147)) (mx_leaf 147 (mx_const (.int 0) 148)))) (mx_node 150 (mx_leaf 148 (mx_istore 5 150)) (mx_node 152 (mx_leaf 150 (mx_iload 5 152)) (mx_leaf 152 (mx_aload 0 153))))) (mx_node 160 (mx_node 156 (mx_leaf 153 (mx_getf 12 18 156)) (mx_node 159 (mx_leaf 156 (mx_icmp_ge 189 159)) (mx_leaf 159 (mx_lload 3 160)))) (mx_node 163 (mx_node 161 (mx_leaf 160 (mx_aload 0 161)) (mx_leaf 161 (mx_iload 5 163))) (mx_node 166 (mx_leaf 163 (mx_callv 191 2 12 166)) (mx_leaf 166 (mx_iload 1 167)))))) (mx_node 180 (mx_node 174 (mx_node 170 (mx_leaf 167 (mx_icmp_ne 180 170)) (mx_node 171 (mx_leaf 170 (mx_aload 0 171)) (mx_leaf 171 (mx_getf 12 35 174)))) (mx_node 176 (mx_leaf 174 (mx_iload 5 176)) (mx_node 177 (mx_leaf 176 (mx_lald 177)) (mx_leaf 177 (mx_goto 181))))) (mx_node 183 (mx_node 181 (mx_leaf 180 (mx_const (.long 0) 181)) (mx_node 182 (mx_leaf 181 (mx_ladd 182)) (mx_leaf 182 (mx_lstore 3 183)))) (mx_node 189 (mx_node 186 (mx_leaf 183 (mx_iinc 5 1 186)) (mx_leaf 186 (mx_goto 150))) (mx_node 190 (mx_leaf 189 (mx_lload 3 190)) (mx_leaf 190 (mx_lret)))))))))
set_option maxRecDepth 100000 in
noncomputable def tb_246 : Nat → mx_O := (mx_node 27 (mx_node 11 (mx_node 7 (mx_node 4 (mx_node 1 (mx_leaf 0 (mx_aload 0 1)) (mx_leaf 1 (mx_getf 12 32 4))) (mx_node 6 (mx_leaf 4 (mx_const (.int 19) 6)) (mx_leaf 6 (mx_iload 1 7)))) (mx_node 9 (mx_node 8 (mx_leaf 7 (mx_imul 8)) (mx_leaf 8 (mx_iload 2 9))) (mx_node 10 (mx_leaf 9 (mx_iadd 10)) (mx_leaf 10 (mx_iald 11))))) (mx_node 19 (mx_node 15 (mx_node 13 (mx_leaf 11 (mx_istore 4 13)) (mx_leaf 13 (mx_iload 4 15))) (mx_node 16 (mx_leaf 15 (mx_const (.int (-1)) 16)) (mx_leaf 16 (mx_icmp_eq 30 19)))) (mx_node 22 (mx_node 20 (mx_leaf 19 (mx_aload 0 20)) (mx_leaf 20 (mx_iload 4 22))) (mx_node 23 (mx_leaf 22 (mx_const (.int 0) 23)) (mx_node 26 (mx_leaf 23 (mx_callv 190 3 12 26)) (mx_leaf 26 (mx_iload 3 27))))))) (mx_node 47 (mx_node 35 (mx_node 31 (mx_node 30 (mx_leaf 27 (mx_icmp_le 34 30)) (mx_leaf 30 (mx_const (.int (-1)) 31))) (mx_node 34 (mx_leaf 31 (mx_goto 62)) (mx_leaf 34 (mx_aload 0 35)))) (mx_node 40 (mx_node 38 (mx_leaf 35 (mx_getf 12 33 38)) (mx_leaf 38 (mx_iload 4 40))) (mx_node 41 (mx_leaf 40 (mx_iald 41)) (mx_node 44 (mx_leaf 41 (mx_const (.int 268435456) 44)) (mx_leaf 44 (mx_icmp_ne 53 47)))))) (mx_node 57 (mx_node 53 (mx_node 50 (mx_leaf 47 (mx_const (.int 268435456) 50)) (mx_leaf 50 (mx_goto 62))) (mx_node 54 (mx_leaf 53 (mx_aload 0 54)) (mx_leaf 54 (mx_getf 12 33 57)))) (mx_node 60 (mx_node 59 (mx_leaf 57 (mx_iload 4 59)) (mx_leaf 59 (mx_iald 60))) (mx_node 61 (mx_leaf 60 (mx_const (.int 1) 61)) (mx_node 62 (mx_leaf 61 (mx_iadd 62)) (mx_leaf 62 (mx_iret))))))))
set_option maxRecDepth 100000 in
noncomputable def tb_247 : Nat → mx_O := (mx_node 82 (mx_node 42 (mx_node 20 (mx_node 7 (mx_node 2 (mx_node 1 (mx_leaf 0 (mx_aload 0 1)) (mx_leaf 1 (mx_const (.int 0) 2))) (mx_node 5 (mx_leaf 2 (mx_putf 1 12 0 (.int) 5)) (mx_node 6 (mx_leaf 5 (mx_iload 1 6)) (mx_leaf 6 (mx_i2l 7))))) (mx_node 15 (mx_node 10 (mx_leaf 7 (mx_calls 208 1 10)) (mx_node 13 (mx_leaf 10 (mx_if_ne 16 13)) (mx_leaf 13 (mx_const (.int (-3)) 15)))) (mx_node 16 (mx_leaf 15 (mx_iret)) (mx_node 17 (mx_leaf 16 (mx_aload 0 17)) (mx_leaf 17 (mx_callv 235 1 12 20)))))) (mx_node 30 (mx_node 23 (mx_node 21 (mx_leaf 20 (mx_const (.int 0) 21)) (mx_node 22 (mx_leaf 21 (mx_istore 2 22)) (mx_leaf 22 (mx_iload 2 23)))) (mx_node 24 (mx_leaf 23 (mx_aload 0 24)) (mx_node 27 (mx_leaf 24 (mx_getf 12 18 27)) (mx_leaf 27 (mx_icmp_ge 45 30))))) (mx_node 35 (mx_node 31 (mx_leaf 30 (mx_aload 0 31)) (mx_node 34 (mx_leaf 31 (mx_getf 12 33 34)) (mx_leaf 34 (mx_iload 2 35)))) (mx_node 38 (mx_leaf 35 (mx_const (.int 268435456) 38)) (mx_node 39 (mx_leaf 38 (mx_iast 1 39)) (mx_leaf 39 (mx_iinc 2 1 42))))))) (mx_node 60 (mx_node 52 (mx_node 47 (mx_node 45 (mx_leaf 42 (mx_goto 22)) (mx_node 46 (mx_leaf 45 (mx_const (.int 1) 46)) (mx_leaf 46 (mx_istore 2 47)))) (mx_node 48 (mx_leaf 47 (mx_iload 2 48)) (mx_node 51 (mx_leaf 48 (mx_if_eq 164 51)) (mx_leaf 51 (mx_const (.int 0) 52))))) (mx_node 55 (mx_node 53 (mx_leaf 52 (mx_istore 2 53)) (mx_node 54 (mx_leaf 53 (mx_const (.int 0) 54)) (mx_leaf 54 (mx_istore 3 55)))) (mx_node 56 (mx_leaf 55 (mx_iload 3 56)) (mx_node 57 (mx_leaf 56 (mx_aload 0 57)) (mx_leaf 57 (mx_getf 12 18 60)))))) (mx_node 71 (mx_node 66 (mx_node 63 (mx_leaf 60 (mx_icmp_ge 161 63)) (mx_node 64 (mx_leaf 63 (mx_const (.int 0) 64)) (mx_leaf 64 (mx_istore 4 66)))) (mx_node 67 (mx_leaf 66 (mx_const (.int 0) 67)) (mx_node 69 (mx_leaf 67 (mx_istore 5 69)) (mx_leaf 69 (mx_iload 5 71))))) (mx_node 77 (mx_node 73 (mx_leaf 71 (mx_const (.int 19) 73)) (mx_node 76 (mx_leaf 73 (mx_icmp_ge 122 76)) (mx_leaf 76 (mx_aload 0 77)))) (mx_node 80 (mx_leaf 77 (mx_getf 12 33 80)) (mx_node 81 (mx_leaf 80 (mx_iload 3 81)) (mx_leaf 81 (mx_iald 82)))))))) (mx_node 131 (mx_node 105 (mx_node 93 (mx_node 89 (mx_node 85 (mx_leaf 82 (mx_const (.int 268435456) 85)) (mx_node 88 (mx_leaf 85 (mx_icmp_ne 122 88)) (mx_leaf 88 (mx_aload 0 89)))) (mx_node 90 (mx_leaf 89 (mx_iload 3 90)) (mx_node 92 (mx_leaf 90 (mx_iload 5 92)) (mx_leaf 92 (mx_iload 1 93))))) (mx_node 101 (mx_node 96 (mx_leaf 93 (mx_callv 246 4 12 96)) (mx_node 98 (mx_leaf 96 (mx_iload 4 98)) (mx_leaf 98 (mx_icmp_le 112 101)))) (mx_node 102 (mx_leaf 101 (mx_aload 0 102)) (mx_node 103 (mx_leaf 102 (mx_iload 3 103)) (mx_leaf 103 (mx_iload 5 105)))))) (mx_node 119 (mx_node 112 (mx_node 106 (mx_leaf 105 (mx_iload 1 106)) (mx_node 109 (mx_leaf 106 (mx_callv 246 4 12 109)) (mx_leaf 109 (mx_goto 114)))) (mx_node 114 (mx_leaf 112 (mx_iload 4 114)) (mx_node 116 (mx_leaf 114 (mx_istore 4 116)) (mx_leaf 116 (mx_iinc 5 1 119))))) (mx_node 126 (mx_node 122 (mx_leaf 119 (mx_goto 69)) (mx_node 123 (mx_leaf 122 (mx_aload 0 123)) (mx_leaf 123 (mx_getf 12 33 126)))) (mx_node 127 (mx_leaf 126 (mx_iload 3 127)) (mx_node 128 (mx_leaf 127 (mx_iald 128)) (mx_leaf 128 (mx_const (.int 268435456) 131))))))) (mx_node 155 (mx_node 146 (mx_node 139 (mx_node 134 (mx_leaf 131 (mx_icmp_lt 155 134)) (mx_node 136 (mx_leaf 134 (mx_iload 4 136)) (mx_leaf 136 (mx_const (.int 268435456) 139)))) (mx_node 142 (mx_leaf 139 (mx_icmp_ne 145 142)) (mx_node 145 (mx_leaf 142 (mx_goto 155)) (mx_leaf 145 (mx_aload 0 146))))) (mx_node 152 (mx_node 149 (mx_leaf 146 (mx_getf 12 33 149)) (mx_node 150 (mx_leaf 149 (mx_iload 3 150)) (mx_leaf 150 (mx_iload 4 152)))) (mx_node 153 (mx_leaf 152 (mx_iast 1 153)) (mx_node 154 (mx_leaf 153 (mx_const (.int 1) 154)) (mx_leaf 154 (mx_istore 2 155)))))) (mx_node 169 (mx_node 164 (mx_node 158 (mx_leaf 155 (mx_iinc 3 1 158)) (mx_node 161 (mx_leaf 158 (mx_goto 55)) (mx_leaf 161 (mx_goto 47)))) (mx_node 165 (mx_leaf 164 (mx_aload 0 165)) (mx_node 168 (mx_leaf 165 (mx_getf 12 33 168)) (mx_leaf 168 (mx_aload 0 169))))) (mx_node 175 (mx_node 172 (mx_leaf 169 (mx_getf 12 1 172)) (mx_node 174 (mx_leaf 172 (mx_const (.int 27) 174)) (mx_leaf 174 (mx_iald 175)))) (mx_node 176 (mx_leaf 175 (mx_iald 176)) (mx_node 179 (mx_leaf 176 (mx_calls 238 1 179)) (mx_leaf 179 (mx_iret)))))))))
set_option maxRecDepth 100000 in
noncomputable def tb_248 : Nat → mx_O := (mx_node 76 (mx_node 39 (mx_node 19 (mx_node 9 (mx_node 2 (mx_node 1 (mx_leaf 0 (mx_aload 0 1)) (mx_leaf 1 (mx_const (.int 0) 2))) (mx_node 5 (mx_leaf 2 (mx_putf 1 12 0 (.int) 5)) (mx_node 6 (mx_leaf 5 (mx_aload 0 6)) (mx_leaf 6 (mx_callv 235 1 12 9))))) (mx_node 12 (mx_node 10 (mx_leaf 9 (mx_const (.int 0) 10)) (mx_node 11 (mx_leaf 10 (mx_istore 1 11)) (mx_leaf 11 (mx_iload 1 12)))) (mx_node 13 (mx_leaf 12 (mx_aload 0 13)) (mx_node 16 (mx_leaf 13 (mx_getf 12 18 16)) (mx_leaf 16 (mx_icmp_ge 47 19)))))) (mx_node 26 (mx_node 23 (mx_node 20 (mx_leaf 19 (mx_aload 0 20)) (mx_leaf 20 (mx_getf 12 28 23))) (mx_node 24 (mx_leaf 23 (mx_iload 1 24)) (mx_node 25 (mx_leaf 24 (mx_iload 1 25)) (mx_leaf 25 (mx_aload 0 26))))) (mx_node 32 (mx_node 29 (mx_leaf 26 (mx_getf 12 1 29)) (mx_node 31 (mx_leaf 29 (mx_const (.int 27) 31)) (mx_leaf 31 (mx_iald 32)))) (mx_node 35 (mx_leaf 32 (mx_icmp_ne 39 35)) (mx_node 36 (mx_leaf 35 (mx_const (.int 1) 36)) (mx_leaf 36 (mx_goto 40))))))) (mx_node 56 (mx_node 48 (mx_node 41 (mx_node 40 (mx_leaf 39 (mx_const (.int 0) 40)) (mx_leaf 40 (mx_zast 1 41))) (mx_node 44 (mx_leaf 41 (mx_iinc 1 1 44)) (mx_node 47 (mx_leaf 44 (mx_goto 11)) (mx_leaf 47 (mx_const (.int 1) 48))))) (mx_node 51 (mx_node 49 (mx_leaf 48 (mx_istore 1 49)) (mx_node 50 (mx_leaf 49 (mx_const (.int 1) 50)) (mx_leaf 50 (mx_istore 2 51)))) (mx_node 52 (mx_leaf 51 (mx_iload 2 52)) (mx_node 55 (mx_leaf 52 (mx_if_eq 160 55)) (mx_leaf 55 (mx_iload 1 56)))))) (mx_node 63 (mx_node 58 (mx_node 57 (mx_leaf 56 (mx_istore 3 57)) (mx_leaf 57 (mx_const (.int 0) 58))) (mx_node 60 (mx_leaf 58 (mx_istore 4 60)) (mx_node 62 (mx_leaf 60 (mx_iload 4 62)) (mx_leaf 62 (mx_aload 0 63))))) (mx_node 70 (mx_node 66 (mx_leaf 63 (mx_getf 12 18 66)) (mx_node 69 (mx_leaf 66 (mx_icmp_ge 146 69)) (mx_leaf 69 (mx_const (.int 0) 70)))) (mx_node 72 (mx_leaf 70 (mx_istore 5 72)) (mx_node 74 (mx_leaf 72 (mx_iload 5 74)) (mx_leaf 74 (mx_const (.int 19) 76)))))))) (mx_node 117 (mx_node 98 (mx_node 86 (mx_node 80 (mx_node 79 (mx_leaf 76 (mx_icmp_ge 140 79)) (mx_leaf 79 (mx_aload 0 80))) (mx_node 83 (mx_leaf 80 (mx_getf 12 28 83)) (mx_node 85 (mx_leaf 83 (mx_iload 4 85)) (mx_leaf 85 (mx_zald 86))))) (mx_node 93 (mx_node 89 (mx_leaf 86 (mx_if_eq 140 89)) (mx_node 90 (mx_leaf 89 (mx_aload 0 90)) (mx_leaf 90 (mx_getf 12 32 93)))) (mx_node 95 (mx_leaf 93 (mx_const (.int 19) 95)) (mx_node 97 (mx_leaf 95 (mx_iload 4 97)) (mx_leaf 97 (mx_imul 98)))))) (mx_node 106 (mx_node 101 (mx_node 100 (mx_leaf 98 (mx_iload 5 100)) (mx_leaf 100 (mx_iadd 101))) (mx_node 102 (mx_leaf 101 (mx_iald 102)) (mx_node 104 (mx_leaf 102 (mx_istore 6 104)) (mx_leaf 104 (mx_iload 6 106))))) (mx_node 111 (mx_node 107 (mx_leaf 106 (mx_const (.int (-1)) 107)) (mx_node 110 (mx_leaf 107 (mx_icmp_eq 134 110)) (mx_leaf 110 (mx_aload 0 111)))) (mx_node 114 (mx_leaf 111 (mx_getf 12 28 114)) (mx_node 116 (mx_leaf 114 (mx_iload 6 116)) (mx_leaf 116 (mx_zald 117))))))) (mx_node 143 (mx_node 129 (mx_node 123 (mx_node 120 (mx_leaf 117 (mx_if_eq 123 120)) (mx_leaf 120 (mx_goto 134))) (mx_node 124 (mx_leaf 123 (mx_aload 0 124)) (mx_node 127 (mx_leaf 124 (mx_getf 12 28 127)) (mx_leaf 127 (mx_iload 6 129))))) (mx_node 134 (mx_node 130 (mx_leaf 129 (mx_const (.int 1) 130)) (mx_node 131 (mx_leaf 130 (mx_zast 1 131)) (mx_leaf 131 (mx_iinc 1 1 134)))) (mx_node 137 (mx_leaf 134 (mx_iinc 5 1 137)) (mx_node 140 (mx_leaf 137 (mx_goto 72)) (mx_leaf 140 (mx_iinc 4 1 143)))))) (mx_node 152 (mx_node 147 (mx_node 146 (mx_leaf 143 (mx_goto 60)) (mx_leaf 146 (mx_iload 1 147))) (mx_node 148 (mx_leaf 147 (mx_iload 3 148)) (mx_node 151 (mx_leaf 148 (mx_icmp_eq 155 151)) (mx_leaf 151 (mx_const (.int 1) 152))))) (mx_node 157 (mx_node 155 (mx_leaf 152 (mx_goto 156)) (mx_node 156 (mx_leaf 155 (mx_const (.int 0) 156)) (mx_leaf 156 (mx_istore 2 157)))) (mx_node 160 (mx_leaf 157 (mx_goto 51)) (mx_node 161 (mx_leaf 160 (mx_iload 1 161)) (mx_leaf 161 (mx_iret)))))))))
set_option maxRecDepth 100000 in
noncomputable def tb_249 : Nat → mx_O := (mx_node 11 (mx_node 5 (mx_node 1 (mx_leaf 0 (mx_aload 0 1)) (mx_node 2 (mx_leaf 1 (mx_const (.int 0) 2)) (mx_leaf 2 (mx_putf 1 12 0 (.int) 5)))) (mx_node 7 (mx_node 6 (mx_leaf 5 (mx_aload 0 6)) (mx_leaf 6 (mx_iload 1 7))) (mx_node 10 (mx_leaf 7 (mx_callv 239 2 12 10)) (mx_leaf 10 (mx_istore 2 11))))) (mx_node 19 (mx_node 15 (mx_node 12 (mx_leaf 11 (mx_iload 2 12)) (mx_leaf 12 (mx_if_eq 19 15))) (mx_node 16 (mx_leaf 15 (mx_iload 2 16)) (mx_leaf 16 (mx_goto 24)))) (mx_node 21 (mx_node 20 (mx_leaf 19 (mx_aload 0 20)) (mx_leaf 20 (mx_iload 1 21))) (mx_node 24 (mx_leaf 21 (mx_callv 240 2 12 24)) (mx_leaf 24 (mx_iret))))))
set_option maxRecDepth 100000 in
noncomputable def tb_250 : Nat → mx_O := (mx_node 38 (mx_node 18 (mx_node 7 (mx_node 2 (mx_node 1 (mx_leaf 0 (mx_aload 0 1)) (mx_leaf 1 (mx_const (.int 0) 2))) (mx_node 5 (mx_leaf 2 (mx_putf 1 12 0 (.int) 5)) (mx_node 6 (mx_leaf 5 (mx_iload 1 6)) (mx_leaf 6 (mx_i2l 7))))) (mx_node 13 (mx_node 10 (mx_leaf 7 (mx_calls 208 1 10)) (mx_leaf 10 (mx_if_eq 21 13))) (mx_node 14 (mx_leaf 13 (mx_iload 2 14)) (mx_node 15 (mx_leaf 14 (mx_i2l 15)) (mx_leaf 15 (mx_calls 208 1 18)))))) (mx_node 26 (mx_node 23 (mx_node 21 (mx_leaf 18 (mx_if_ne 24 21)) (mx_leaf 21 (mx_const (.int (-3)) 23))) (mx_node 24 (mx_leaf 23 (mx_iret)) (mx_node 25 (mx_leaf 24 (mx_const (.int 0) 25)) (mx_leaf 25 (mx_istore 3 26))))) (mx_node 31 (mx_node 27 (mx_leaf 26 (mx_const (.int 0) 27)) (mx_node 29 (mx_leaf 27 (mx_istore 4 29)) (mx_leaf 29 (mx_iload 4 31)))) (mx_node 32 (mx_leaf 31 (mx_aload 0 32)) (mx_node 35 (mx_leaf 32 (mx_getf 12 18 35)) (mx_leaf 35 (mx_icmp_ge 73 38))))))) (mx_node 56 (mx_node 46 (mx_node 40 (mx_node 39 (mx_leaf 38 (mx_iload 3 39)) (mx_leaf 39 (mx_aload 0 40))) (mx_node 42 (mx_leaf 40 (mx_iload 4 42)) (mx_node 45 (mx_leaf 42 (mx_callv 191 2 12 45)) (mx_leaf 45 (mx_iload 1 46))))) (mx_node 50 (mx_node 49 (mx_leaf 46 (mx_icmp_gt 64 49)) (mx_leaf 49 (mx_aload 0 50))) (mx_node 52 (mx_leaf 50 (mx_iload 4 52)) (mx_node 53 (mx_leaf 52 (mx_const (.int 0) 53)) (mx_leaf 53 (mx_callv 190 3 12 56)))))) (mx_node 65 (mx_node 60 (mx_node 57 (mx_leaf 56 (mx_iload 2 57)) (mx_leaf 57 (mx_icmp_gt 64 60))) (mx_node 61 (mx_leaf 60 (mx_const (.int 1) 61)) (mx_node 64 (mx_leaf 61 (mx_goto 65)) (mx_leaf 64 (mx_const (.int 0) 65))))) (mx_node 70 (mx_node 66 (mx_leaf 65 (mx_iadd 66)) (mx_node 67 (mx_leaf 66 (mx_istore 3 67)) (mx_leaf 67 (mx_iinc 4 1 70)))) (mx_node 73 (mx_leaf 70 (mx_goto 29)) (mx_node 74 (mx_leaf 73 (mx_iload 3 74)) (mx_leaf 74 (mx_iret))))))))
set_option maxRecDepth 100000 in
noncomputable def tb_251 : Nat → mx_O := (mx_node 37 (mx_node 18 (mx_node 9 (mx_node 2 (mx_node 1 (mx_leaf 0 (mx_aload 0 1)) (mx_leaf 1 (mx_const (.int 0) 2))) (mx_node 5 (mx_leaf 2 (mx_putf 1 12 0 (.int) 5)) (mx_node 6 (mx_leaf 5 (mx_aload 0 6)) (mx_leaf 6 (mx_callv 186 1 12 9))))) (mx_node 15 (mx_node 10 (mx_leaf 9 (mx_aload 0 10)) (mx_node 13 (mx_leaf 10 (mx_getf 12 1 13)) (mx_leaf 13 (mx_const (.int 27) 15)))) (mx_node 16 (mx_leaf 15 (mx_iald 16)) (mx_node 17 (mx_leaf 16 (mx_istore 1 17)) (mx_leaf 17 (mx_const (.int 1) 18)))))) (mx_node 26 (mx_node 20 (mx_node 19 (mx_leaf 18 (mx_istore 2 19)) (mx_leaf 19 (mx_iload 2 20))) (mx_node 22 (mx_leaf 20 (mx_const (.int 18) 22)) (mx_node 25 (mx_leaf 22 (mx_icmp_gt 71 25)) (mx_leaf 25 (mx_const (.int 0) 26))))) (mx_node 30 (mx_node 27 (mx_leaf 26 (mx_istore 3 27)) (mx_node 28 (mx_leaf 27 (mx_iload 3 28)) (mx_leaf 28 (mx_const (.int 18) 30)))) (mx_node 33 (mx_leaf 30 (mx_icmp_ge 65 33)) (mx_node 34 (mx_leaf 33 (mx_aload 0 34)) (mx_leaf 34 (mx_getf 12 16 37))))))) (mx_node 52 (mx_node 42 (mx_node 39 (mx_node 38 (mx_leaf 37 (mx_iload 2 38)) (mx_leaf 38 (mx_const (.int 1) 39))) (mx_node 40 (mx_leaf 39 (mx_isub 40)) (mx_node 41 (mx_leaf 40 (mx_dup2 41)) (mx_leaf 41 (mx_iald 42))))) (mx_node 45 (mx_node 43 (mx_leaf 42 (mx_aload 0 43)) (mx_node 44 (mx_leaf 43 (mx_iload 1 44)) (mx_leaf 44 (mx_iload 3 45)))) (mx_node 48 (mx_leaf 45 (mx_callv 190 3 12 48)) (mx_node 49 (mx_leaf 48 (mx_iload 2 49)) (mx_leaf 49 (mx_icmp_lt 56 52)))))) (mx_node 62 (mx_node 57 (mx_node 53 (mx_leaf 52 (mx_const (.int 1) 53)) (mx_node 56 (mx_leaf 53 (mx_goto 57)) (mx_leaf 56 (mx_const (.int 0) 57)))) (mx_node 58 (mx_leaf 57 (mx_iadd 58)) (mx_node 59 (mx_leaf 58 (mx_iast 1 59)) (mx_leaf 59 (mx_iinc 3 1 62))))) (mx_node 71 (mx_node 65 (mx_leaf 62 (mx_goto 27)) (mx_node 68 (mx_leaf 65 (mx_iinc 2 1 68)) (mx_leaf 68 (mx_goto 19)))) (mx_node 72 (mx_leaf 71 (mx_aload 0 72)) (mx_node 75 (mx_leaf 72 (mx_callv 188 1 12 75)) (mx_leaf 75 (mx_iret))))))))
set_option maxRecDepth 100000 in
noncomputable def tb_252 : Nat → mx_O := (mx_node 21 (mx_node 9 (mx_node 3 (mx_node 1 (mx_leaf 0 (mx_const (.int 0) 1)) (mx_node 2 (mx_leaf 1 (mx_istore 3 2)) (mx_leaf 2 (mx_const (.int 0) 3)))) (mx_node 5 (mx_leaf 3 (mx_istore 4 5)) (mx_node 7 (mx_leaf 5 (mx_iload 4 7)) (mx_leaf 7 (mx_const (.int 18) 9))))) (mx_node 14 (mx_node 12 (mx_leaf 9 (mx_icmp_ge 42 12)) (mx_node 13 (mx_leaf 12 (mx_iload 3 13)) (mx_leaf 13 (mx_aload 0 14)))) (mx_node 17 (mx_node 15 (mx_leaf 14 (mx_iload 2 15)) (mx_leaf 15 (mx_iload 4 17))) (mx_node 20 (mx_leaf 17 (mx_callv 190 3 12 20)) (mx_leaf 20 (mx_aload 0 21)))))) (mx_node 31 (mx_node 27 (mx_node 22 (mx_leaf 21 (mx_iload 1 22)) (mx_node 24 (mx_leaf 22 (mx_iload 4 24)) (mx_leaf 24 (mx_callv 190 3 12 27)))) (mx_node 29 (mx_node 28 (mx_leaf 27 (mx_isub 28)) (mx_leaf 28 (mx_iadd 29))) (mx_node 30 (mx_leaf 29 (mx_istore 3 30)) (mx_leaf 30 (mx_iload 3 31))))) (mx_node 36 (mx_node 34 (mx_leaf 31 (mx_if_ge 36 34)) (mx_node 35 (mx_leaf 34 (mx_const (.int 0) 35)) (mx_leaf 35 (mx_zret)))) (mx_node 42 (mx_node 39 (mx_leaf 36 (mx_iinc 4 1 39)) (mx_leaf 39 (mx_goto 5))) (mx_node 43 (mx_leaf 42 (mx_const (.int 1) 43)) (mx_leaf 43 (mx_zret)))))))
set_option maxRecDepth 100000 in
noncomputable def tb_253 : Nat → mx_O := (mx_node 20 (mx_node 10 (mx_node 5 (mx_node 1 (mx_leaf 0 (mx_aload 0 1)) (mx_node 2 (mx_leaf 1 (mx_const (.int 0) 2)) (mx_leaf 2 (mx_putf 1 12 0 (.int) 5)))) (mx_node 6 (mx_leaf 5 (mx_aload 0 6)) (mx_node 7 (mx_leaf 6 (mx_iload 1 7)) (mx_leaf 7 (mx_callv 239 2 12 10))))) (mx_node 15 (mx_node 11 (mx_leaf 10 (mx_istore 2 11)) (mx_node 12 (mx_leaf 11 (mx_iload 2 12)) (mx_leaf 12 (mx_if_eq 19 15)))) (mx_node 16 (mx_leaf 15 (mx_iload 2 16)) (mx_node 19 (mx_leaf 16 (mx_goto 43)) (mx_leaf 19 (mx_aload 0 20)))))) (mx_node 29 (mx_node 26 (mx_node 21 (mx_leaf 20 (mx_aload 0 21)) (mx_node 24 (mx_leaf 21 (mx_getf 12 1 24)) (mx_leaf 24 (mx_const (.int 27) 26)))) (mx_node 27 (mx_leaf 26 (mx_iald 27)) (mx_node 28 (mx_leaf 27 (mx_aload 0 28)) (mx_leaf 28 (mx_iload 1 29))))) (mx_node 38 (mx_node 32 (mx_leaf 29 (mx_callv 240 2 12 32)) (mx_node 35 (mx_leaf 32 (mx_callv 252 3 12 35)) (mx_leaf 35 (mx_if_eq 42 38)))) (mx_node 42 (mx_node 39 (mx_leaf 38 (mx_const (.int 1) 39)) (mx_leaf 39 (mx_goto 43))) (mx_node 43 (mx_leaf 42 (mx_const (.int 0) 43)) (mx_leaf 43 (mx_iret)))))))
set_option maxRecDepth 100000 in
noncomputable def tb_254 : Nat → mx_O := (mx_node 20 (mx_node 9 (mx_node 5 (mx_node 1 (mx_leaf 0 (mx_aload 0 1)) (mx_node 2 (mx_leaf 1 (mx_const (.int 0) 2)) (mx_leaf 2 (mx_putf 1 12 0 (.int) 5)))) (mx_node 7 (mx_node 6 (mx_leaf 5 (mx_const (.int 0) 6)) (mx_leaf 6 (mx_istore 1 7))) (mx_node 8 (mx_leaf 7 (mx_const (.int 0) 8)) (mx_leaf 8 (mx_istore 2 9))))) (mx_node 14 (mx_node 10 (mx_leaf 9 (mx_iload 2 10)) (mx_node 11 (mx_leaf 10 (mx_aload 0 11)) (mx_leaf 11 (mx_getf 12 18 14)))) (mx_node 18 (mx_node 17 (mx_leaf 14 (mx_icmp_ge 46 17)) (mx_leaf 17 (mx_iload 1 18))) (mx_node 19 (mx_leaf 18 (mx_aload 0 19)) (mx_leaf 19 (mx_iload 2 20)))))) (mx_node 34 (mx_node 26 (mx_node 21 (mx_leaf 20 (mx_aload 0 21)) (mx_node 24 (mx_leaf 21 (mx_getf 12 1 24)) (mx_leaf 24 (mx_const (.int 27) 26)))) (mx_node 30 (mx_node 27 (mx_leaf 26 (mx_iald 27)) (mx_leaf 27 (mx_callv 252 3 12 30))) (mx_node 33 (mx_leaf 30 (mx_if_eq 37 33)) (mx_leaf 33 (mx_const (.int 1) 34))))) (mx_node 40 (mx_node 38 (mx_node 37 (mx_leaf 34 (mx_goto 38)) (mx_leaf 37 (mx_const (.int 0) 38))) (mx_node 39 (mx_leaf 38 (mx_iadd 39)) (mx_leaf 39 (mx_istore 1 40)))) (mx_node 46 (mx_node 43 (mx_leaf 40 (mx_iinc 2 1 43)) (mx_leaf 43 (mx_goto 9))) (mx_node 47 (mx_leaf 46 (mx_iload 1 47)) (mx_leaf 47 (mx_iret)))))))
set_option maxRecDepth 100000 in
noncomputable def tb_255 : Nat → mx_O := (mx_node 42 (mx_node 18 (mx_node 10 (mx_node 5 (mx_node 1 (mx_leaf 0 (mx_aload 0 1)) (mx_node 2 (mx_leaf 1 (mx_iload 1 2)) (mx_leaf 2 (mx_callv 220 2 12 5)))) (mx_node 6 (mx_leaf 5 (mx_istore 3 6)) (mx_node 7 (mx_leaf 6 (mx_iload 3 7)) (mx_leaf 7 (mx_if_eq 12 10))))) (mx_node 13 (mx_node 11 (mx_leaf 10 (mx_iload 3 11)) (mx_node 12 (mx_leaf 11 (mx_iret)) (mx_leaf 12 (mx_aload 0 13)))) (mx_node 16 (mx_leaf 13 (mx_getf 12 40 16)) (mx_node 17 (mx_leaf 16 (mx_iload 1 17)) (mx_leaf 17 (mx_iald 18)))))) (mx_node 31 (mx_node 23 (mx_node 19 (mx_leaf 18 (mx_i2l 19)) (mx_node 20 (mx_leaf 19 (mx_const (.long 1) 20)) (mx_leaf 20 (mx_const (.long 8) 23)))) (mx_node 26 (mx_leaf 23 (mx_calls 154 3 26)) (mx_node 29 (mx_leaf 26 (mx_if_ne 32 29)) (mx_leaf 29 (mx_const (.int (-4)) 31))))) (mx_node 35 (mx_node 32 (mx_leaf 31 (mx_iret)) (mx_node 33 (mx_leaf 32 (mx_const (.int 0) 33)) (mx_leaf 33 (mx_istore 4 35)))) (mx_node 38 (mx_node 37 (mx_leaf 35 (mx_iload 4 37)) (mx_leaf 37 (mx_aload 0 38))) (mx_node 41 (mx_leaf 38 (mx_getf 12 40 41)) (mx_leaf 41 (mx_iload 1 42))))))) (mx_node 65 (mx_node 53 (mx_node 47 (mx_node 43 (mx_leaf 42 (mx_iald 43)) (mx_node 46 (mx_leaf 43 (mx_icmp_ge 90 46)) (mx_leaf 46 (mx_aload 0 47)))) (mx_node 50 (mx_leaf 47 (mx_getf 12 41 50)) (mx_node 52 (mx_leaf 50 (mx_const (.int 40) 52)) (mx_leaf 52 (mx_iload 1 53))))) (mx_node 57 (mx_node 54 (mx_leaf 53 (mx_imul 54)) (mx_node 56 (mx_leaf 54 (mx_iload 4 56)) (mx_leaf 56 (mx_iadd 57)))) (mx_node 60 (mx_node 58 (mx_leaf 57 (mx_lald 58)) (mx_leaf 58 (mx_lstore 5 60))) (mx_node 62 (mx_leaf 60 (mx_lload 5 62)) (mx_leaf 62 (mx_calls 208 1 65)))))) (mx_node 78 (mx_node 72 (mx_node 68 (mx_leaf 65 (mx_if_ne 84 68)) (mx_node 69 (mx_leaf 68 (mx_iload 2 69)) (mx_leaf 69 (mx_if_eq 81 72)))) (mx_node 74 (mx_leaf 72 (mx_lload 5 74)) (mx_node 77 (mx_leaf 74 (mx_const (.long (-1)) 77)) (mx_leaf 77 (mx_lif_eq 84 81))))) (mx_node 84 (mx_node 81 (mx_leaf 78 (mx_if_eq 84 81)) (mx_node 83 (mx_leaf 81 (mx_const (.int (-3)) 83)) (mx_leaf 83 (mx_iret)))) (mx_node 90 (mx_node 87 (mx_leaf 84 (mx_iinc 4 1 87)) (mx_leaf 87 (mx_goto 35))) (mx_node 91 (mx_leaf 90 (mx_const (.int 0) 91)) (mx_leaf 91 (mx_iret))))))))
set_option maxRecDepth 100000 in
noncomputable def tb_256 : Nat → mx_O := (mx_node 27 (mx_node 13 (mx_node 6 (mx_node 2 (mx_node 1 (mx_leaf 0 (mx_iload 3 1)) (mx_leaf 1 (mx_const (.int (-1)) 2))) (mx_node 5 (mx_leaf 2 (mx_icmp_eq 48 5)) (mx_leaf 5 (mx_aload 0 6)))) (mx_node 11 (mx_node 9 (mx_leaf 6 (mx_getf 12 41 9)) (mx_leaf 9 (mx_const (.int 40) 11))) (mx_node 12 (mx_leaf 11 (mx_iload 1 12)) (mx_leaf 12 (mx_imul 13))))) (mx_node 19 (mx_node 15 (mx_node 14 (mx_leaf 13 (mx_iload 2 14)) (mx_leaf 14 (mx_iadd 15))) (mx_node 16 (mx_leaf 15 (mx_lald 16)) (mx_leaf 16 (mx_const (.long (-1)) 19)))) (mx_node 23 (mx_node 20 (mx_leaf 19 (mx_lif_eq 44 23)) (mx_leaf 20 (mx_if_eq 44 23))) (mx_node 24 (mx_leaf 23 (mx_aload 0 24)) (mx_leaf 24 (mx_getf 12 41 27)))))) (mx_node 36 (mx_node 32 (mx_node 30 (mx_node 29 (mx_leaf 27 (mx_const (.int 40) 29)) (mx_leaf 29 (mx_iload 1 30))) (mx_node 31 (mx_leaf 30 (mx_imul 31)) (mx_leaf 31 (mx_iload 2 32)))) (mx_node 34 (mx_node 33 (mx_leaf 32 (mx_iadd 33)) (mx_leaf 33 (mx_lald 34))) (mx_node 35 (mx_leaf 34 (mx_aload 0 35)) (mx_leaf 35 (mx_iload 3 36))))) (mx_node 44 (mx_node 40 (mx_node 39 (mx_leaf 36 (mx_callv 191 2 12 39)) (mx_leaf 39 (mx_i2l 40))) (mx_node 41 (mx_leaf 40 (mx_lif_ne 48 44)) (mx_leaf 41 (mx_if_ne 48 44)))) (mx_node 48 (mx_node 45 (mx_leaf 44 (mx_const (.int 1) 45)) (mx_leaf 45 (mx_goto 49))) (mx_node 49 (mx_leaf 48 (mx_const (.int 0) 49)) (mx_leaf 49 (mx_zret)))))))
set_option maxRecDepth 100000 in
noncomputable def tb_257 : Nat → mx_O := (mx_node 81 (mx_node 37 (mx_node 15 (mx_node 9 (mx_node 4 (mx_node 1 (mx_leaf 0 (mx_aload 0 1)) (mx_leaf 1 (mx_callv 235 1 12 4))) (mx_node 5 (mx_leaf 4 (mx_aload 0 5)) (mx_node 8 (mx_leaf 5 (mx_getf 12 40 8)) (mx_leaf 8 (mx_iload 1 9))))) (mx_node 12 (mx_node 10 (mx_leaf 9 (mx_iald 10)) (mx_node 11 (mx_leaf 10 (mx_istore 2 11)) (mx_leaf 11 (mx_const (.int 0) 12)))) (mx_node 13 (mx_leaf 12 (mx_istore 3 13)) (mx_node 14 (mx_leaf 13 (mx_iload 3 14)) (mx_leaf 14 (mx_aload 0 15)))))) (mx_node 29 (mx_node 22 (mx_node 18 (mx_leaf 15 (mx_getf 12 18 18)) (mx_node 21 (mx_leaf 18 (mx_icmp_ge 40 21)) (mx_leaf 21 (mx_aload 0 22)))) (mx_node 25 (mx_leaf 22 (mx_getf 12 37 25)) (mx_node 28 (mx_leaf 25 (mx_const (.int 385) 28)) (mx_leaf 28 (mx_iload 2 29))))) (mx_node 32 (mx_node 30 (mx_leaf 29 (mx_imul 30)) (mx_node 31 (mx_leaf 30 (mx_iload 3 31)) (mx_leaf 31 (mx_iadd 32)))) (mx_node 33 (mx_leaf 32 (mx_const (.long 1) 33)) (mx_node 34 (mx_leaf 33 (mx_last 1 34)) (mx_leaf 34 (mx_iinc 3 1 37))))))) (mx_node 57 (mx_node 45 (mx_node 42 (mx_node 40 (mx_leaf 37 (mx_goto 13)) (mx_node 41 (mx_leaf 40 (mx_iload 2 41)) (mx_leaf 41 (mx_const (.int 1) 42)))) (mx_node 43 (mx_leaf 42 (mx_isub 43)) (mx_node 44 (mx_leaf 43 (mx_istore 3 44)) (mx_leaf 44 (mx_iload 3 45))))) (mx_node 51 (mx_node 48 (mx_leaf 45 (mx_if_lt 152 48)) (mx_node 49 (mx_leaf 48 (mx_const (.int 0) 49)) (mx_leaf 49 (mx_istore 4 51)))) (mx_node 53 (mx_leaf 51 (mx_iload 4 53)) (mx_node 54 (mx_leaf 53 (mx_aload 0 54)) (mx_leaf 54 (mx_getf 12 18 57)))))) (mx_node 68 (mx_node 63 (mx_node 60 (mx_leaf 57 (mx_icmp_ge 146 60)) (mx_node 61 (mx_leaf 60 (mx_const (.long 0) 61)) (mx_leaf 61 (mx_lstore 5 63)))) (mx_node 64 (mx_leaf 63 (mx_const (.int 0) 64)) (mx_node 66 (mx_leaf 64 (mx_istore 7 66)) (mx_leaf 66 (mx_iload 7 68))))) (mx_node 74 (mx_node 70 (mx_leaf 68 (mx_const (.int 19) 70)) (mx_node 73 (mx_leaf 70 (mx_icmp_ge 125 73)) (mx_leaf 73 (mx_aload 0 74)))) (mx_node 77 (mx_leaf 74 (mx_getf 12 32 77)) (mx_node 79 (mx_leaf 77 (mx_const (.int 19) 79)) (mx_leaf 79 (mx_iload 4 81)))))))) (mx_node 117 (mx_node 99 (mx_node 88 (mx_node 84 (mx_node 82 (mx_leaf 81 (mx_imul 82)) (mx_leaf 82 (mx_iload 7 84))) (mx_node 85 (mx_leaf 84 (mx_iadd 85)) (mx_node 86 (mx_leaf 85 (mx_iald 86)) (mx_leaf 86 (mx_istore 8 88))))) (mx_node 91 (mx_node 89 (mx_leaf 88 (mx_aload 0 89)) (mx_node 90 (mx_leaf 89 (mx_iload 1 90)) (mx_leaf 90 (mx_iload 3 91)))) (mx_node 93 (mx_leaf 91 (mx_iload 8 93)) (mx_node 96 (mx_leaf 93 (mx_callv 256 4 12 96)) (mx_leaf 96 (mx_if_eq 119 99)))))) (mx_node 110 (mx_node 105 (mx_node 101 (mx_leaf 99 (mx_lload 5 101)) (mx_node 102 (mx_leaf 101 (mx_aload 0 102)) (mx_leaf 102 (mx_getf 12 37 105)))) (mx_node 108 (mx_leaf 105 (mx_const (.int 385) 108)) (mx_node 109 (mx_leaf 108 (mx_iload 3 109)) (mx_leaf 109 (mx_const (.int 1) 110))))) (mx_node 114 (mx_node 111 (mx_leaf 110 (mx_iadd 111)) (mx_node 112 (mx_leaf 111 (mx_imul 112)) (mx_leaf 112 (mx_iload 8 114)))) (mx_node 115 (mx_leaf 114 (mx_iadd 115)) (mx_node 116 (mx_leaf 115 (mx_lald 116)) (mx_leaf 116 (mx_ladd 117))))))) (mx_node 140 (mx_node 132 (mx_node 125 (mx_node 119 (mx_leaf 117 (mx_lstore 5 119)) (mx_node 122 (mx_leaf 119 (mx_iinc 7 1 122)) (mx_leaf 122 (mx_goto 66)))) (mx_node 126 (mx_leaf 125 (mx_aload 0 126)) (mx_node 129 (mx_leaf 126 (mx_getf 12 37 129)) (mx_leaf 129 (mx_const (.int 385) 132))))) (mx_node 136 (mx_node 133 (mx_leaf 132 (mx_iload 3 133)) (mx_node 134 (mx_leaf 133 (mx_imul 134)) (mx_leaf 134 (mx_iload 4 136)))) (mx_node 137 (mx_leaf 136 (mx_iadd 137)) (mx_node 139 (mx_leaf 137 (mx_lload 5 139)) (mx_leaf 139 (mx_last 1 140)))))) (mx_node 156 (mx_node 149 (mx_node 143 (mx_leaf 140 (mx_iinc 4 1 143)) (mx_node 146 (mx_leaf 143 (mx_goto 51)) (mx_leaf 146 (mx_iinc 3 (-1) 149)))) (mx_node 152 (mx_leaf 149 (mx_goto 44)) (mx_node 153 (mx_leaf 152 (mx_aload 0 153)) (mx_leaf 153 (mx_getf 12 37 156))))) (mx_node 162 (mx_node 157 (mx_leaf 156 (mx_aload 0 157)) (mx_node 160 (mx_leaf 157 (mx_getf 12 1 160)) (mx_leaf 160 (mx_const (.int 27) 162)))) (mx_node 163 (mx_leaf 162 (mx_iald 163)) (mx_node 164 (mx_leaf 163 (mx_lald 164)) (mx_leaf 164 (mx_lret)))))))))
set_option maxRecDepth 100000 in
noncomputable def tb_258 : Nat → mx_O := (mx_node 12 (mx_node 6 (mx_node 2 (mx_node 1 (mx_leaf 0 (mx_aload 0 1)) (mx_leaf 1 (mx_const (.int 0) 2))) (mx_node 5 (mx_leaf 2 (mx_putf 1 12 0 (.int) 5)) (mx_leaf 5 (mx_aload 0 6)))) (mx_node 8 (mx_node 7 (mx_leaf 6 (mx_iload 1 7)) (mx_leaf 7 (mx_const (.int 1) 8))) (mx_node 11 (mx_leaf 8 (mx_callv 255 3 12 11)) (mx_leaf 11 (mx_istore 2 12))))) (mx_node 18 (mx_node 16 (mx_node 13 (mx_leaf 12 (mx_iload 2 13)) (mx_leaf 13 (mx_if_eq 21 16))) (mx_node 17 (mx_leaf 16 (mx_iload 2 17)) (mx_leaf 17 (mx_i2l 18)))) (mx_node 22 (mx_node 21 (mx_leaf 18 (mx_goto 26)) (mx_leaf 21 (mx_aload 0 22))) (mx_node 23 (mx_leaf 22 (mx_iload 1 23)) (mx_node 26 (mx_leaf 23 (mx_callv 257 2 12 26)) (mx_leaf 26 (mx_lret)))))))
set_option maxRecDepth 100000 in
noncomputable def tb_259 : Nat → mx_O := (mx_node 72 (mx_node 35 (mx_node 17 (mx_node 7 (mx_node 2 (mx_node 1 (mx_leaf 0 (mx_aload 0 1)) (mx_leaf 1 (mx_const (.int 0) 2))) (mx_node 5 (mx_leaf 2 (mx_putf 1 12 0 (.int) 5)) (mx_node 6 (mx_leaf 5 (mx_aload 0 6)) (mx_leaf 6 (mx_iload 1 7))))) (mx_node 12 (mx_node 8 (mx_leaf 7 (mx_const (.int 1) 8)) (mx_node 11 (mx_leaf 8 (mx_callv 255 3 12 11)) (mx_leaf 11 (mx_istore 3 12)))) (mx_node 13 (mx_leaf 12 (mx_iload 3 13)) (mx_node 16 (mx_leaf 13 (mx_if_eq 18 16)) (mx_leaf 16 (mx_iload 3 17)))))) (mx_node 25 (mx_node 19 (mx_node 18 (mx_leaf 17 (mx_iret)) (mx_leaf 18 (mx_iload 2 19))) (mx_node 22 (mx_leaf 19 (mx_if_ge 25 22)) (mx_node 24 (mx_leaf 22 (mx_const (.int (-3)) 24)) (mx_leaf 24 (mx_iret))))) (mx_node 30 (mx_node 26 (mx_leaf 25 (mx_aload 0 26)) (mx_node 27 (mx_leaf 26 (mx_iload 1 27)) (mx_leaf 27 (mx_callv 257 2 12 30)))) (mx_node 31 (mx_leaf 30 (mx_const (.long 0) 31)) (mx_node 32 (mx_leaf 31 (mx_lif_eq 45 35)) (mx_leaf 32 (mx_if_eq 45 35))))))) (mx_node 53 (mx_node 42 (mx_node 37 (mx_node 36 (mx_leaf 35 (mx_iload 2 36)) (mx_leaf 36 (mx_aload 0 37))) (mx_node 40 (mx_leaf 37 (mx_getf 12 40 40)) (mx_node 41 (mx_leaf 40 (mx_iload 1 41)) (mx_leaf 41 (mx_iald 42))))) (mx_node 47 (mx_node 45 (mx_leaf 42 (mx_icmp_lt 47 45)) (mx_node 46 (mx_leaf 45 (mx_const (.int (-1)) 46)) (mx_leaf 46 (mx_iret)))) (mx_node 48 (mx_leaf 47 (mx_aload 0 48)) (mx_node 51 (mx_leaf 48 (mx_getf 12 1 51)) (mx_leaf 51 (mx_const (.int 27) 53)))))) (mx_node 62 (mx_node 57 (mx_node 54 (mx_leaf 53 (mx_iald 54)) (mx_node 56 (mx_leaf 54 (mx_istore 4 56)) (mx_leaf 56 (mx_const (.int 0) 57)))) (mx_node 59 (mx_leaf 57 (mx_istore 5 59)) (mx_node 60 (mx_leaf 59 (mx_const (.int 0) 60)) (mx_leaf 60 (mx_istore 6 62))))) (mx_node 66 (mx_node 63 (mx_leaf 62 (mx_aload 0 63)) (mx_node 64 (mx_leaf 63 (mx_iload 1 64)) (mx_leaf 64 (mx_iload 5 66)))) (mx_node 67 (mx_leaf 66 (mx_aload 0 67)) (mx_node 70 (mx_leaf 67 (mx_getf 12 32 70)) (mx_leaf 70 (mx_const (.int 19) 72)))))))) (mx_node 110 (mx_node 94 (mx_node 79 (mx_node 75 (mx_node 74 (mx_leaf 72 (mx_iload 4 74)) (mx_leaf 74 (mx_imul 75))) (mx_node 77 (mx_leaf 75 (mx_iload 6 77)) (mx_node 78 (mx_leaf 77 (mx_iadd 78)) (mx_leaf 78 (mx_iald 79))))) (mx_node 86 (mx_node 82 (mx_leaf 79 (mx_callv 256 4 12 82)) (mx_node 85 (mx_leaf 82 (mx_if_eq 117 85)) (mx_leaf 85 (mx_aload 0 86)))) (mx_node 89 (mx_leaf 86 (mx_getf 12 37 89)) (mx_node 92 (mx_leaf 89 (mx_const (.int 385) 92)) (mx_leaf 92 (mx_iload 5 94)))))) (mx_node 101 (mx_node 96 (mx_node 95 (mx_leaf 94 (mx_const (.int 1) 95)) (mx_leaf 95 (mx_iadd 96))) (mx_node 97 (mx_leaf 96 (mx_imul 97)) (mx_node 98 (mx_leaf 97 (mx_aload 0 98)) (mx_leaf 98 (mx_getf 12 32 101))))) (mx_node 106 (mx_node 103 (mx_leaf 101 (mx_const (.int 19) 103)) (mx_node 105 (mx_leaf 103 (mx_iload 4 105)) (mx_leaf 105 (mx_imul 106)))) (mx_node 108 (mx_leaf 106 (mx_iload 6 108)) (mx_node 109 (mx_leaf 108 (mx_iadd 109)) (mx_leaf 109 (mx_iald 110))))))) (mx_node 131 (mx_node 117 (mx_node 112 (mx_node 111 (mx_leaf 110 (mx_iadd 111)) (mx_leaf 111 (mx_lald 112))) (mx_node 113 (mx_leaf 112 (mx_const (.long 0) 113)) (mx_node 114 (mx_leaf 113 (mx_lif_ne 123 117)) (mx_leaf 114 (mx_if_ne 123 117))))) (mx_node 125 (mx_node 120 (mx_leaf 117 (mx_iinc 6 1 120)) (mx_node 123 (mx_leaf 120 (mx_goto 62)) (mx_leaf 123 (mx_iload 5 125)))) (mx_node 126 (mx_leaf 125 (mx_iload 2 126)) (mx_node 129 (mx_leaf 126 (mx_icmp_ne 132 129)) (mx_leaf 129 (mx_iload 6 131)))))) (mx_node 141 (mx_node 136 (mx_node 132 (mx_leaf 131 (mx_iret)) (mx_node 133 (mx_leaf 132 (mx_aload 0 133)) (mx_leaf 133 (mx_getf 12 32 136)))) (mx_node 138 (mx_leaf 136 (mx_const (.int 19) 138)) (mx_node 140 (mx_leaf 138 (mx_iload 4 140)) (mx_leaf 140 (mx_imul 141))))) (mx_node 145 (mx_node 143 (mx_leaf 141 (mx_iload 6 143)) (mx_node 144 (mx_leaf 143 (mx_iadd 144)) (mx_leaf 144 (mx_iald 145)))) (mx_node 147 (mx_leaf 145 (mx_istore 4 147)) (mx_node 150 (mx_leaf 147 (mx_iinc 5 1 150)) (mx_leaf 150 (mx_goto 59)))))))))
set_option maxRecDepth 100000 in
noncomputable def tb_260 : Nat → mx_O := (mx_node 93 (mx_node 42 (mx_node 19 (mx_node 8 (mx_node 5 (mx_node 1 (mx_leaf 0 (mx_aload 0 1)) (mx_node 2 (mx_leaf 1 (mx_const (.int 0) 2)) (mx_leaf 2 (mx_putf 1 12 0 (.int) 5)))) (mx_node 6 (mx_leaf 5 (mx_aload 0 6)) (mx_node 7 (mx_leaf 6 (mx_iload 1 7)) (mx_leaf 7 (mx_const (.int 1) 8))))) (mx_node 13 (mx_node 11 (mx_leaf 8 (mx_callv 255 3 12 11)) (mx_node 12 (mx_leaf 11 (mx_istore 3 12)) (mx_leaf 12 (mx_iload 3 13)))) (mx_node 17 (mx_node 16 (mx_leaf 13 (mx_if_eq 18 16)) (mx_leaf 16 (mx_iload 3 17))) (mx_node 18 (mx_leaf 17 (mx_iret)) (mx_leaf 18 (mx_iload 2 19)))))) (mx_node 31 (mx_node 25 (mx_node 22 (mx_leaf 19 (mx_if_ge 25 22)) (mx_node 24 (mx_leaf 22 (mx_const (.int (-3)) 24)) (mx_leaf 24 (mx_iret)))) (mx_node 27 (mx_node 26 (mx_leaf 25 (mx_iload 2 26)) (mx_leaf 26 (mx_aload 0 27))) (mx_node 30 (mx_leaf 27 (mx_getf 12 40 30)) (mx_leaf 30 (mx_iload 1 31))))) (mx_node 37 (mx_node 32 (mx_leaf 31 (mx_iald 32)) (mx_node 35 (mx_leaf 32 (mx_icmp_lt 38 35)) (mx_leaf 35 (mx_const (.int (-7)) 37)))) (mx_node 39 (mx_node 38 (mx_leaf 37 (mx_iret)) (mx_leaf 38 (mx_const (.int 0) 39))) (mx_node 41 (mx_leaf 39 (mx_istore 4 41)) (mx_leaf 41 (mx_aload 0 42))))))) (mx_node 67 (mx_node 54 (mx_node 47 (mx_node 43 (mx_leaf 42 (mx_iload 1 43)) (mx_node 46 (mx_leaf 43 (mx_callv 257 2 12 46)) (mx_leaf 46 (mx_const (.long 0) 47)))) (mx_node 51 (mx_node 48 (mx_leaf 47 (mx_lif_ne 54 51)) (mx_leaf 48 (mx_if_ne 54 51))) (mx_node 53 (mx_leaf 51 (mx_iload 4 53)) (mx_leaf 53 (mx_iret))))) (mx_node 59 (mx_node 55 (mx_leaf 54 (mx_aload 0 55)) (mx_node 58 (mx_leaf 55 (mx_callv 243 1 12 58)) (mx_leaf 58 (mx_const (.int 0) 59)))) (mx_node 63 (mx_node 61 (mx_leaf 59 (mx_istore 5 61)) (mx_leaf 61 (mx_iload 5 63))) (mx_node 64 (mx_leaf 63 (mx_iload 2 64)) (mx_leaf 64 (mx_icmp_gt 194 67)))))) (mx_node 79 (mx_node 71 (mx_node 68 (mx_leaf 67 (mx_const (.int 0) 68)) (mx_node 70 (mx_leaf 68 (mx_istore 4 70)) (mx_leaf 70 (mx_const (.int 0) 71)))) (mx_node 75 (mx_node 73 (mx_leaf 71 (mx_istore 6 73)) (mx_leaf 73 (mx_iload 6 75))) (mx_node 76 (mx_leaf 75 (mx_aload 0 76)) (mx_leaf 76 (mx_getf 12 18 79))))) (mx_node 85 (mx_node 82 (mx_leaf 79 (mx_icmp_ge 184 82)) (mx_node 83 (mx_leaf 82 (mx_const (.int 0) 83)) (mx_leaf 83 (mx_istore 7 85)))) (mx_node 89 (mx_node 87 (mx_leaf 85 (mx_iload 7 87)) (mx_leaf 87 (mx_const (.int 19) 89))) (mx_node 92 (mx_leaf 89 (mx_icmp_ge 178 92)) (mx_leaf 92 (mx_aload 0 93)))))))) (mx_node 143 (mx_node 117 (mx_node 105 (mx_node 99 (mx_node 96 (mx_leaf 93 (mx_getf 12 35 96)) (mx_node 98 (mx_leaf 96 (mx_iload 6 98)) (mx_leaf 98 (mx_lald 99)))) (mx_node 101 (mx_node 100 (mx_leaf 99 (mx_const (.long 0) 100)) (mx_leaf 100 (mx_lif_le 178 104))) (mx_node 104 (mx_leaf 101 (mx_if_le 178 104)) (mx_leaf 104 (mx_aload 0 105))))) (mx_node 112 (mx_node 108 (mx_leaf 105 (mx_getf 12 32 108)) (mx_node 110 (mx_leaf 108 (mx_const (.int 19) 110)) (mx_leaf 110 (mx_iload 6 112)))) (mx_node 115 (mx_node 113 (mx_leaf 112 (mx_imul 113)) (mx_leaf 113 (mx_iload 7 115))) (mx_node 116 (mx_leaf 115 (mx_iadd 116)) (mx_leaf 116 (mx_iald 117)))))) (mx_node 131 (mx_node 121 (mx_node 119 (mx_leaf 117 (mx_istore 8 119)) (mx_node 120 (mx_leaf 119 (mx_aload 0 120)) (mx_leaf 120 (mx_iload 1 121)))) (mx_node 125 (mx_node 123 (mx_leaf 121 (mx_iload 5 123)) (mx_leaf 123 (mx_iload 8 125))) (mx_node 128 (mx_leaf 125 (mx_callv 256 4 12 128)) (mx_leaf 128 (mx_if_eq 172 131))))) (mx_node 138 (mx_node 132 (mx_leaf 131 (mx_aload 0 132)) (mx_node 135 (mx_leaf 132 (mx_getf 12 37 135)) (mx_leaf 135 (mx_const (.int 385) 138)))) (mx_node 141 (mx_node 140 (mx_leaf 138 (mx_iload 5 140)) (mx_leaf 140 (mx_const (.int 1) 141))) (mx_node 142 (mx_leaf 141 (mx_iadd 142)) (mx_leaf 142 (mx_imul 143))))))) (mx_node 166 (mx_node 155 (mx_node 147 (mx_node 145 (mx_leaf 143 (mx_iload 8 145)) (mx_node 146 (mx_leaf 145 (mx_iadd 146)) (mx_leaf 146 (mx_lald 147)))) (mx_node 149 (mx_node 148 (mx_leaf 147 (mx_const (.long 0) 148)) (mx_leaf 148 (mx_lif_ne 155 152))) (mx_node 152 (mx_leaf 149 (mx_if_ne 155 152)) (mx_leaf 152 (mx_goto 172))))) (mx_node 161 (mx_node 156 (mx_leaf 155 (mx_aload 0 156)) (mx_node 159 (mx_leaf 156 (mx_getf 12 36 159)) (mx_leaf 159 (mx_iload 8 161)))) (mx_node 163 (mx_node 162 (mx_leaf 161 (mx_const (.long 1) 162)) (mx_leaf 162 (mx_last 1 163))) (mx_node 165 (mx_leaf 163 (mx_iload 4 165)) (mx_leaf 165 (mx_const (.int 1) 166)))))) (mx_node 181 (mx_node 170 (mx_node 168 (mx_leaf 166 (mx_iload 7 168)) (mx_node 169 (mx_leaf 168 (mx_ishl 169)) (mx_leaf 169 (mx_ior 170)))) (mx_node 175 (mx_node 172 (mx_leaf 170 (mx_istore 4 172)) (mx_leaf 172 (mx_iinc 7 1 175))) (mx_node 178 (mx_leaf 175 (mx_goto 85)) (mx_leaf 178 (mx_iinc 6 1 181))))) (mx_node 188 (mx_node 184 (mx_leaf 181 (mx_goto 73)) (mx_node 185 (mx_leaf 184 (mx_aload 0 185)) (mx_leaf 185 (mx_callv 244 1 12 188)))) (mx_node 194 (mx_node 191 (mx_leaf 188 (mx_iinc 5 1 191)) (mx_leaf 191 (mx_goto 61))) (mx_node 196 (mx_leaf 194 (mx_iload 4 196)) (mx_leaf 196 (mx_iret)))))))))
set_option maxRecDepth 100000 in
noncomputable def tb_261 : Nat → mx_O := (mx_node 54 (mx_node 25 (mx_node 11 (mx_node 4 (mx_node 2 (mx_node 1 (mx_leaf 0 (mx_const (.int 0) 1)) (mx_leaf 1 (mx_istore 2 2))) (mx_node 3 (mx_leaf 2 (mx_const (.int 0) 3)) (mx_leaf 3 (mx_istore 3 4)))) (mx_node 7 (mx_node 5 (mx_leaf 4 (mx_iload 3 5)) (mx_leaf 5 (mx_const (.int 10) 7))) (mx_node 10 (mx_leaf 7 (mx_icmp_ge 106 10)) (mx_leaf 10 (mx_aload 0 11))))) (mx_node 19 (mx_node 16 (mx_node 14 (mx_leaf 11 (mx_getf 12 1 14)) (mx_leaf 14 (mx_const (.int 27) 16))) (mx_node 17 (mx_leaf 16 (mx_iald 17)) (mx_leaf 17 (mx_istore 4 19)))) (mx_node 22 (mx_node 20 (mx_leaf 19 (mx_const (.int 1) 20)) (mx_leaf 20 (mx_istore 5 22))) (mx_node 23 (mx_leaf 22 (mx_const (.int 0) 23)) (mx_leaf 23 (mx_istore 6 25)))))) (mx_node 39 (mx_node 32 (mx_node 28 (mx_node 27 (mx_leaf 25 (mx_iload 6 27)) (mx_leaf 27 (mx_aload 0 28))) (mx_node 31 (mx_leaf 28 (mx_getf 12 40 31)) (mx_leaf 31 (mx_iload 1 32)))) (mx_node 36 (mx_node 33 (mx_leaf 32 (mx_iald 33)) (mx_leaf 33 (mx_icmp_ge 85 36))) (mx_node 37 (mx_leaf 36 (mx_aload 0 37)) (mx_leaf 37 (mx_iload 4 39))))) (mx_node 46 (mx_node 41 (mx_node 40 (mx_leaf 39 (mx_const (.int 0) 40)) (mx_leaf 40 (mx_iload 3 41))) (mx_node 44 (mx_leaf 41 (mx_callv 198 4 12 44)) (mx_leaf 44 (mx_istore 4 46)))) (mx_node 49 (mx_node 48 (mx_leaf 46 (mx_iload 5 48)) (mx_leaf 48 (mx_aload 0 49))) (mx_node 51 (mx_leaf 49 (mx_iload 4 51)) (mx_leaf 51 (mx_callv 191 2 12 54))))))) (mx_node 79 (mx_node 66 (mx_node 61 (mx_node 56 (mx_node 55 (mx_leaf 54 (mx_i2l 55)) (mx_leaf 55 (mx_aload 0 56))) (mx_node 59 (mx_leaf 56 (mx_getf 12 41 59)) (mx_leaf 59 (mx_const (.int 40) 61)))) (mx_node 63 (mx_node 62 (mx_leaf 61 (mx_iload 1 62)) (mx_leaf 62 (mx_imul 63))) (mx_node 65 (mx_leaf 63 (mx_iload 6 65)) (mx_leaf 65 (mx_iadd 66))))) (mx_node 72 (mx_node 68 (mx_node 67 (mx_leaf 66 (mx_lald 67)) (mx_leaf 67 (mx_lif_ne 75 71))) (mx_node 71 (mx_leaf 68 (mx_if_ne 75 71)) (mx_leaf 71 (mx_const (.int 1) 72)))) (mx_node 76 (mx_node 75 (mx_leaf 72 (mx_goto 76)) (mx_leaf 75 (mx_const (.int 0) 76))) (mx_node 77 (mx_leaf 76 (mx_iand 77)) (mx_leaf 77 (mx_istore 5 79)))))) (mx_node 94 (mx_node 88 (mx_node 85 (mx_node 82 (mx_leaf 79 (mx_iinc 6 1 82)) (mx_leaf 82 (mx_goto 25))) (mx_node 86 (mx_leaf 85 (mx_iload 2 86)) (mx_leaf 86 (mx_iload 5 88)))) (mx_node 92 (mx_node 91 (mx_leaf 88 (mx_if_eq 97 91)) (mx_leaf 91 (mx_const (.int 1) 92))) (mx_node 93 (mx_leaf 92 (mx_iload 3 93)) (mx_leaf 93 (mx_ishl 94))))) (mx_node 100 (mx_node 98 (mx_node 97 (mx_leaf 94 (mx_goto 98)) (mx_leaf 97 (mx_const (.int 0) 98))) (mx_node 99 (mx_leaf 98 (mx_ior 99)) (mx_leaf 99 (mx_istore 2 100)))) (mx_node 106 (mx_node 103 (mx_leaf 100 (mx_iinc 3 1 103)) (mx_leaf 103 (mx_goto 4))) (mx_node 107 (mx_leaf 106 (mx_iload 2 107)) (mx_leaf 107 (mx_iret))))))))
set_option maxRecDepth 100000 in
noncomputable def tb_262 : Nat → mx_O := (mx_node 12 (mx_node 6 (mx_node 2 (mx_node 1 (mx_leaf 0 (mx_aload 0 1)) (mx_leaf 1 (mx_const (.int 0) 2))) (mx_node 5 (mx_leaf 2 (mx_putf 1 12 0 (.int) 5)) (mx_leaf 5 (mx_aload 0 6)))) (mx_node 8 (mx_node 7 (mx_leaf 6 (mx_iload 1 7)) (mx_leaf 7 (mx_const (.int 0) 8))) (mx_node 11 (mx_leaf 8 (mx_callv 255 3 12 11)) (mx_leaf 11 (mx_istore 2 12))))) (mx_node 20 (mx_node 16 (mx_node 13 (mx_leaf 12 (mx_iload 2 13)) (mx_leaf 13 (mx_if_eq 20 16))) (mx_node 17 (mx_leaf 16 (mx_iload 2 17)) (mx_leaf 17 (mx_goto 25)))) (mx_node 22 (mx_node 21 (mx_leaf 20 (mx_aload 0 21)) (mx_leaf 21 (mx_iload 1 22))) (mx_node 25 (mx_leaf 22 (mx_callv 261 2 12 25)) (mx_leaf 25 (mx_iret))))))
set_option maxRecDepth 100000 in
noncomputable def tb_263 : Nat → mx_O := (mx_node 66 (mx_node 31 (mx_node 13 (mx_node 5 (mx_node 2 (mx_node 1 (mx_leaf 0 (mx_const (.int 0) 1)) (mx_leaf 1 (mx_istore 3 2))) (mx_node 3 (mx_leaf 2 (mx_const (.int 0) 3)) (mx_leaf 3 (mx_istore 4 5)))) (mx_node 9 (mx_node 7 (mx_leaf 5 (mx_iload 4 7)) (mx_leaf 7 (mx_const (.int 18) 9))) (mx_node 12 (mx_leaf 9 (mx_icmp_gt 26 12)) (mx_leaf 12 (mx_aload 0 13))))) (mx_node 20 (mx_node 18 (mx_node 16 (mx_leaf 13 (mx_getf 12 38 16)) (mx_leaf 16 (mx_iload 4 18))) (mx_node 19 (mx_leaf 18 (mx_const (.int 0) 19)) (mx_leaf 19 (mx_iast 1 20)))) (mx_node 26 (mx_node 23 (mx_leaf 20 (mx_iinc 4 1 23)) (mx_leaf 23 (mx_goto 5))) (mx_node 27 (mx_leaf 26 (mx_const (.int 0) 27)) (mx_node 29 (mx_leaf 27 (mx_istore 4 29)) (mx_leaf 29 (mx_iload 4 31))))))) (mx_node 50 (mx_node 38 (mx_node 36 (mx_node 33 (mx_leaf 31 (mx_const (.int 10) 33)) (mx_leaf 33 (mx_icmp_ge 128 36))) (mx_node 37 (mx_leaf 36 (mx_iload 2 37)) (mx_leaf 37 (mx_i2l 38)))) (mx_node 43 (mx_node 40 (mx_leaf 38 (mx_iload 4 40)) (mx_leaf 40 (mx_calls 167 2 43))) (mx_node 46 (mx_leaf 43 (mx_if_ne 49 46)) (mx_node 49 (mx_leaf 46 (mx_goto 122)) (mx_leaf 49 (mx_aload 0 50)))))) (mx_node 57 (mx_node 54 (mx_node 51 (mx_leaf 50 (mx_aload 0 51)) (mx_leaf 51 (mx_getf 12 1 54))) (mx_node 56 (mx_leaf 54 (mx_const (.int 27) 56)) (mx_leaf 56 (mx_iald 57)))) (mx_node 61 (mx_node 58 (mx_leaf 57 (mx_iload 1 58)) (mx_leaf 58 (mx_callv 197 3 12 61))) (mx_node 64 (mx_leaf 61 (mx_if_eq 85 64)) (mx_node 65 (mx_leaf 64 (mx_aload 0 65)) (mx_leaf 65 (mx_aload 0 66)))))))) (mx_node 98 (mx_node 85 (mx_node 73 (mx_node 70 (mx_node 67 (mx_leaf 66 (mx_aload 0 67)) (mx_leaf 67 (mx_getf 12 1 70))) (mx_node 72 (mx_leaf 70 (mx_const (.int 27) 72)) (mx_leaf 72 (mx_iald 73)))) (mx_node 76 (mx_node 74 (mx_leaf 73 (mx_iload 1 74)) (mx_leaf 74 (mx_iload 4 76))) (mx_node 79 (mx_leaf 76 (mx_callv 198 4 12 79)) (mx_node 82 (mx_leaf 79 (mx_callv 191 2 12 82)) (mx_leaf 82 (mx_goto 86)))))) (mx_node 92 (mx_node 88 (mx_node 86 (mx_leaf 85 (mx_const (.int 0) 86)) (mx_leaf 86 (mx_istore 5 88))) (mx_node 89 (mx_leaf 88 (mx_aload 0 89)) (mx_leaf 89 (mx_getf 12 38 92)))) (mx_node 95 (mx_node 94 (mx_leaf 92 (mx_iload 5 94)) (mx_leaf 94 (mx_dup2 95))) (mx_node 96 (mx_leaf 95 (mx_iald 96)) (mx_node 97 (mx_leaf 96 (mx_const (.int 1) 97)) (mx_leaf 97 (mx_iadd 98))))))) (mx_node 114 (mx_node 105 (mx_node 100 (mx_node 99 (mx_leaf 98 (mx_iast 1 99)) (mx_leaf 99 (mx_aload 0 100))) (mx_node 103 (mx_leaf 100 (mx_getf 12 38 103)) (mx_leaf 103 (mx_iload 5 105)))) (mx_node 107 (mx_node 106 (mx_leaf 105 (mx_iald 106)) (mx_leaf 106 (mx_iload 3 107))) (mx_node 110 (mx_leaf 107 (mx_icmp_le 120 110)) (mx_node 111 (mx_leaf 110 (mx_aload 0 111)) (mx_leaf 111 (mx_getf 12 38 114)))))) (mx_node 121 (mx_node 117 (mx_node 116 (mx_leaf 114 (mx_iload 5 116)) (mx_leaf 116 (mx_iald 117))) (mx_node 120 (mx_leaf 117 (mx_goto 121)) (mx_leaf 120 (mx_iload 3 121)))) (mx_node 125 (mx_node 122 (mx_leaf 121 (mx_istore 3 122)) (mx_leaf 122 (mx_iinc 4 1 125))) (mx_node 128 (mx_leaf 125 (mx_goto 29)) (mx_node 129 (mx_leaf 128 (mx_iload 3 129)) (mx_leaf 129 (mx_iret)))))))))
set_option maxRecDepth 100000 in
noncomputable def tb_264 : Nat → mx_O := (mx_node 35 (mx_node 17 (mx_node 7 (mx_node 2 (mx_node 1 (mx_leaf 0 (mx_aload 0 1)) (mx_leaf 1 (mx_const (.int 0) 2))) (mx_node 5 (mx_leaf 2 (mx_putf 1 12 0 (.int) 5)) (mx_node 6 (mx_leaf 5 (mx_aload 0 6)) (mx_leaf 6 (mx_iload 1 7))))) (mx_node 12 (mx_node 8 (mx_leaf 7 (mx_const (.int 0) 8)) (mx_node 11 (mx_leaf 8 (mx_callv 255 3 12 11)) (mx_leaf 11 (mx_istore 2 12)))) (mx_node 13 (mx_leaf 12 (mx_iload 2 13)) (mx_node 16 (mx_leaf 13 (mx_if_eq 18 16)) (mx_leaf 16 (mx_iload 2 17)))))) (mx_node 24 (mx_node 19 (mx_node 18 (mx_leaf 17 (mx_iret)) (mx_leaf 18 (mx_aload 0 19))) (mx_node 20 (mx_leaf 19 (mx_iload 1 20)) (mx_node 23 (mx_leaf 20 (mx_callv 261 2 12 23)) (mx_leaf 23 (mx_istore 3 24))))) (mx_node 30 (mx_node 25 (mx_leaf 24 (mx_const (.int (-1)) 25)) (mx_node 27 (mx_leaf 25 (mx_istore 4 27)) (mx_leaf 27 (mx_const (.int 268435456) 30)))) (mx_node 32 (mx_leaf 30 (mx_istore 5 32)) (mx_node 33 (mx_leaf 32 (mx_const (.int 0) 33)) (mx_leaf 33 (mx_istore 6 35))))))) (mx_node 57 (mx_node 46 (mx_node 39 (mx_node 37 (mx_leaf 35 (mx_iload 6 37)) (mx_leaf 37 (mx_const (.int 19) 39))) (mx_node 42 (mx_leaf 39 (mx_icmp_ge 79 42)) (mx_node 43 (mx_leaf 42 (mx_iload 3 43)) (mx_leaf 43 (mx_if_eq 79 46))))) (mx_node 50 (mx_node 47 (mx_leaf 46 (mx_aload 0 47)) (mx_node 49 (mx_leaf 47 (mx_iload 6 49)) (mx_leaf 49 (mx_iload 3 50)))) (mx_node 53 (mx_leaf 50 (mx_callv 263 3 12 53)) (mx_node 55 (mx_leaf 53 (mx_istore 7 55)) (mx_leaf 55 (mx_iload 7 57)))))) (mx_node 69 (mx_node 62 (mx_node 59 (mx_leaf 57 (mx_iload 5 59)) (mx_leaf 59 (mx_icmp_lt 65 62))) (mx_node 65 (mx_leaf 62 (mx_goto 73)) (mx_node 67 (mx_leaf 65 (mx_iload 6 67)) (mx_leaf 67 (mx_istore 4 69))))) (mx_node 76 (mx_node 71 (mx_leaf 69 (mx_iload 7 71)) (mx_node 73 (mx_leaf 71 (mx_istore 5 73)) (mx_leaf 73 (mx_iinc 6 1 76)))) (mx_node 79 (mx_leaf 76 (mx_goto 35)) (mx_node 81 (mx_leaf 79 (mx_iload 4 81)) (mx_leaf 81 (mx_iret))))))))
set_option maxRecDepth 100000 in
noncomputable def tb_265 : Nat → mx_O := (mx_node 18 (mx_node 9 (mx_node 6 (mx_node 1 (mx_leaf 0 (mx_aload 0 1)) (mx_node 4 (mx_leaf 1 (mx_getf 12 32 4)) (mx_leaf 4 (mx_const (.int 19) 6)))) (mx_node 7 (mx_leaf 6 (mx_iload 1 7)) (mx_node 8 (mx_leaf 7 (mx_imul 8)) (mx_leaf 8 (mx_iload 2 9))))) (mx_node 12 (mx_node 10 (mx_leaf 9 (mx_iadd 10)) (mx_node 11 (mx_leaf 10 (mx_iald 11)) (mx_leaf 11 (mx_istore 3 12)))) (mx_node 14 (mx_node 13 (mx_leaf 12 (mx_iload 3 13)) (mx_leaf 13 (mx_const (.int (-1)) 14))) (mx_node 17 (mx_leaf 14 (mx_icmp_eq 29 17)) (mx_leaf 17 (mx_aload 0 18)))))) (mx_node 35 (mx_node 23 (mx_node 21 (mx_leaf 18 (mx_getf 12 34 21)) (mx_node 22 (mx_leaf 21 (mx_iload 3 22)) (mx_leaf 22 (mx_iald 23)))) (mx_node 29 (mx_node 26 (mx_leaf 23 (mx_const (.int 268435456) 26)) (mx_leaf 26 (mx_icmp_ne 35 29))) (mx_node 32 (mx_leaf 29 (mx_const (.int 268435456) 32)) (mx_leaf 32 (mx_goto 43))))) (mx_node 40 (mx_node 36 (mx_leaf 35 (mx_aload 0 36)) (mx_node 39 (mx_leaf 36 (mx_getf 12 34 39)) (mx_leaf 39 (mx_iload 3 40)))) (mx_node 42 (mx_node 41 (mx_leaf 40 (mx_iald 41)) (mx_leaf 41 (mx_const (.int 1) 42))) (mx_node 43 (mx_leaf 42 (mx_iadd 43)) (mx_leaf 43 (mx_iret)))))))
set_option maxRecDepth 100000 in
noncomputable def tb_266 : Nat → mx_O := (mx_node 39 (mx_node 18 (mx_node 7 (mx_node 3 (mx_node 1 (mx_leaf 0 (mx_const (.int 0) 1)) (mx_node 2 (mx_leaf 1 (mx_istore 2 2)) (mx_leaf 2 (mx_const (.int 0) 3)))) (mx_node 4 (mx_leaf 3 (mx_istore 3 4)) (mx_node 5 (mx_leaf 4 (mx_iload 3 5)) (mx_leaf 5 (mx_const (.int 19) 7))))) (mx_node 14 (mx_node 10 (mx_leaf 7 (mx_icmp_ge 82 10)) (mx_node 11 (mx_leaf 10 (mx_aload 0 11)) (mx_leaf 11 (mx_getf 12 32 14)))) (mx_node 16 (mx_leaf 14 (mx_const (.int 19) 16)) (mx_node 17 (mx_leaf 16 (mx_iload 1 17)) (mx_leaf 17 (mx_imul 18)))))) (mx_node 26 (mx_node 21 (mx_node 19 (mx_leaf 18 (mx_iload 3 19)) (mx_node 20 (mx_leaf 19 (mx_iadd 20)) (mx_leaf 20 (mx_iald 21)))) (mx_node 23 (mx_leaf 21 (mx_istore 4 23)) (mx_node 25 (mx_leaf 23 (mx_iload 4 25)) (mx_leaf 25 (mx_const (.int (-1)) 26))))) (mx_node 33 (mx_node 29 (mx_leaf 26 (mx_icmp_ne 32 29)) (mx_node 32 (mx_leaf 29 (mx_goto 76)) (mx_leaf 32 (mx_aload 0 33)))) (mx_node 36 (mx_leaf 33 (mx_getf 12 33 36)) (mx_node 38 (mx_leaf 36 (mx_iload 4 38)) (mx_leaf 38 (mx_iald 39))))))) (mx_node 62 (mx_node 53 (mx_node 48 (mx_node 42 (mx_leaf 39 (mx_const (.int 268435456) 42)) (mx_node 45 (mx_leaf 42 (mx_icmp_ne 49 45)) (mx_leaf 45 (mx_const (.int 268435456) 48)))) (mx_node 49 (mx_leaf 48 (mx_iret)) (mx_node 50 (mx_leaf 49 (mx_aload 0 50)) (mx_leaf 50 (mx_getf 12 33 53))))) (mx_node 57 (mx_node 55 (mx_leaf 53 (mx_iload 4 55)) (mx_node 56 (mx_leaf 55 (mx_iald 56)) (mx_leaf 56 (mx_const (.int 1) 57)))) (mx_node 58 (mx_leaf 57 (mx_iadd 58)) (mx_node 59 (mx_leaf 58 (mx_iload 2 59)) (mx_leaf 59 (mx_icmp_le 74 62)))))) (mx_node 71 (mx_node 68 (mx_node 63 (mx_leaf 62 (mx_aload 0 63)) (mx_node 66 (mx_leaf 63 (mx_getf 12 33 66)) (mx_leaf 66 (mx_iload 4 68)))) (mx_node 69 (mx_leaf 68 (mx_iald 69)) (mx_node 70 (mx_leaf 69 (mx_const (.int 1) 70)) (mx_leaf 70 (mx_iadd 71))))) (mx_node 76 (mx_node 74 (mx_leaf 71 (mx_goto 75)) (mx_node 75 (mx_leaf 74 (mx_iload 2 75)) (mx_leaf 75 (mx_istore 2 76)))) (mx_node 82 (mx_node 79 (mx_leaf 76 (mx_iinc 3 1 79)) (mx_leaf 79 (mx_goto 4))) (mx_node 83 (mx_leaf 82 (mx_iload 2 83)) (mx_leaf 83 (mx_iret))))))))
set_option maxRecDepth 100000 in
noncomputable def tb_267 : Nat → mx_O := (mx_node 111 (mx_node 55 (mx_node 25 (mx_node 11 (mx_node 5 (mx_node 1 (mx_leaf 0 (mx_aload 0 1)) (mx_node 4 (mx_leaf 1 (mx_callv 235 1 12 4)) (mx_leaf 4 (mx_const (.int 0) 5)))) (mx_node 7 (mx_node 6 (mx_leaf 5 (mx_istore 2 6)) (mx_leaf 6 (mx_iload 2 7))) (mx_node 8 (mx_leaf 7 (mx_aload 0 8)) (mx_leaf 8 (mx_getf 12 18 11))))) (mx_node 19 (mx_node 15 (mx_node 14 (mx_leaf 11 (mx_icmp_ge 54 14)) (mx_leaf 14 (mx_aload 0 15))) (mx_node 18 (mx_leaf 15 (mx_getf 12 33 18)) (mx_leaf 18 (mx_iload 2 19)))) (mx_node 21 (mx_node 20 (mx_leaf 19 (mx_aload 0 20)) (mx_leaf 20 (mx_iload 2 21))) (mx_node 24 (mx_leaf 21 (mx_callv 191 2 12 24)) (mx_leaf 24 (mx_iload 1 25)))))) (mx_node 41 (mx_node 35 (mx_node 29 (mx_node 28 (mx_leaf 25 (mx_icmp_gt 32 28)) (mx_leaf 28 (mx_const (.int 0) 29))) (mx_node 32 (mx_leaf 29 (mx_goto 35)) (mx_leaf 32 (mx_const (.int 268435456) 35)))) (mx_node 37 (mx_node 36 (mx_leaf 35 (mx_iast 1 36)) (mx_leaf 36 (mx_aload 0 37))) (mx_node 40 (mx_leaf 37 (mx_getf 12 34 40)) (mx_leaf 40 (mx_iload 2 41))))) (mx_node 47 (mx_node 45 (mx_node 42 (mx_leaf 41 (mx_aload 0 42)) (mx_leaf 42 (mx_getf 12 33 45))) (mx_node 46 (mx_leaf 45 (mx_iload 2 46)) (mx_leaf 46 (mx_iald 47)))) (mx_node 51 (mx_node 48 (mx_leaf 47 (mx_iast 1 48)) (mx_leaf 48 (mx_iinc 2 1 51))) (mx_node 54 (mx_leaf 51 (mx_goto 6)) (mx_leaf 54 (mx_const (.int 1) 55))))))) (mx_node 81 (mx_node 65 (mx_node 61 (mx_node 57 (mx_node 56 (mx_leaf 55 (mx_istore 2 56)) (mx_leaf 56 (mx_iload 2 57))) (mx_node 60 (mx_leaf 57 (mx_if_eq 216 60)) (mx_leaf 60 (mx_const (.int 0) 61)))) (mx_node 63 (mx_node 62 (mx_leaf 61 (mx_istore 2 62)) (mx_leaf 62 (mx_const (.int 0) 63))) (mx_node 64 (mx_leaf 63 (mx_istore 3 64)) (mx_leaf 64 (mx_iload 3 65))))) (mx_node 73 (mx_node 69 (mx_node 66 (mx_leaf 65 (mx_aload 0 66)) (mx_leaf 66 (mx_getf 12 18 69))) (mx_node 72 (mx_leaf 69 (mx_icmp_ge 213 72)) (mx_leaf 72 (mx_aload 0 73)))) (mx_node 77 (mx_node 74 (mx_leaf 73 (mx_iload 3 74)) (mx_leaf 74 (mx_callv 191 2 12 77))) (mx_node 78 (mx_leaf 77 (mx_iload 1 78)) (mx_leaf 78 (mx_icmp_gt 84 81)))))) (mx_node 95 (mx_node 89 (mx_node 85 (mx_node 84 (mx_leaf 81 (mx_goto 207)) (mx_leaf 84 (mx_aload 0 85))) (mx_node 88 (mx_leaf 85 (mx_getf 12 33 88)) (mx_leaf 88 (mx_iload 3 89)))) (mx_node 92 (mx_node 90 (mx_leaf 89 (mx_iald 90)) (mx_leaf 90 (mx_istore 4 92))) (mx_node 93 (mx_leaf 92 (mx_const (.int 0) 93)) (mx_leaf 93 (mx_istore 5 95))))) (mx_node 103 (mx_node 99 (mx_node 97 (mx_leaf 95 (mx_iload 5 97)) (mx_leaf 97 (mx_const (.int 19) 99))) (mx_node 102 (mx_leaf 99 (mx_icmp_ge 134 102)) (mx_leaf 102 (mx_aload 0 103)))) (mx_node 106 (mx_node 104 (mx_leaf 103 (mx_iload 3 104)) (mx_leaf 104 (mx_iload 5 106))) (mx_node 109 (mx_leaf 106 (mx_callv 265 3 12 109)) (mx_leaf 109 (mx_iload 4 111)))))))) (mx_node 171 (mx_node 144 (mx_node 128 (mx_node 118 (mx_node 115 (mx_node 114 (mx_leaf 111 (mx_icmp_ge 124 114)) (mx_leaf 114 (mx_aload 0 115))) (mx_node 116 (mx_leaf 115 (mx_iload 3 116)) (mx_leaf 116 (mx_iload 5 118)))) (mx_node 124 (mx_node 121 (mx_leaf 118 (mx_callv 265 3 12 121)) (mx_leaf 121 (mx_goto 126))) (mx_node 126 (mx_leaf 124 (mx_iload 4 126)) (mx_leaf 126 (mx_istore 4 128))))) (mx_node 136 (mx_node 134 (mx_node 131 (mx_leaf 128 (mx_iinc 5 1 131)) (mx_leaf 131 (mx_goto 95))) (mx_node 135 (mx_leaf 134 (mx_aload 0 135)) (mx_leaf 135 (mx_iload 3 136)))) (mx_node 141 (mx_node 139 (mx_leaf 136 (mx_callv 266 2 12 139)) (mx_leaf 139 (mx_istore 5 141))) (mx_node 142 (mx_leaf 141 (mx_iload 2 142)) (mx_leaf 142 (mx_iload 4 144)))))) (mx_node 159 (mx_node 150 (mx_node 148 (mx_node 145 (mx_leaf 144 (mx_aload 0 145)) (mx_leaf 145 (mx_getf 12 33 148))) (mx_node 149 (mx_leaf 148 (mx_iload 3 149)) (mx_leaf 149 (mx_iald 150)))) (mx_node 155 (mx_node 153 (mx_leaf 150 (mx_icmp_lt 164 153)) (mx_leaf 153 (mx_iload 5 155))) (mx_node 156 (mx_leaf 155 (mx_aload 0 156)) (mx_leaf 156 (mx_getf 12 34 159))))) (mx_node 165 (mx_node 161 (mx_node 160 (mx_leaf 159 (mx_iload 3 160)) (mx_leaf 160 (mx_iald 161))) (mx_node 164 (mx_leaf 161 (mx_icmp_ge 168 164)) (mx_leaf 164 (mx_const (.int 1) 165)))) (mx_node 169 (mx_node 168 (mx_leaf 165 (mx_goto 169)) (mx_leaf 168 (mx_const (.int 0) 169))) (mx_node 170 (mx_leaf 169 (mx_ior 170)) (mx_leaf 170 (mx_istore 2 171))))))) (mx_node 200 (mx_node 184 (mx_node 178 (mx_node 175 (mx_node 172 (mx_leaf 171 (mx_aload 0 172)) (mx_leaf 172 (mx_getf 12 33 175))) (mx_node 176 (mx_leaf 175 (mx_iload 3 176)) (mx_leaf 176 (mx_iload 4 178)))) (mx_node 180 (mx_node 179 (mx_leaf 178 (mx_iast 1 179)) (mx_leaf 179 (mx_aload 0 180))) (mx_node 183 (mx_leaf 180 (mx_getf 12 34 183)) (mx_leaf 183 (mx_iload 3 184))))) (mx_node 191 (mx_node 187 (mx_node 186 (mx_leaf 184 (mx_iload 5 186)) (mx_leaf 186 (mx_aload 0 187))) (mx_node 190 (mx_leaf 187 (mx_getf 12 34 190)) (mx_leaf 190 (mx_iload 3 191)))) (mx_node 195 (mx_node 192 (mx_leaf 191 (mx_iald 192)) (mx_leaf 192 (mx_icmp_ge 200 195))) (mx_node 197 (mx_leaf 195 (mx_iload 5 197)) (mx_leaf 197 (mx_goto 206)))))) (mx_node 216 (mx_node 206 (mx_node 204 (mx_node 201 (mx_leaf 200 (mx_aload 0 201)) (mx_leaf 201 (mx_getf 12 34 204))) (mx_node 205 (mx_leaf 204 (mx_iload 3 205)) (mx_leaf 205 (mx_iald 206)))) (mx_node 210 (mx_node 207 (mx_leaf 206 (mx_iast 1 207)) (mx_leaf 207 (mx_iinc 3 1 210))) (mx_node 213 (mx_leaf 210 (mx_goto 64)) (mx_leaf 213 (mx_goto 56))))) (mx_node 224 (mx_node 220 (mx_node 217 (mx_leaf 216 (mx_aload 0 217)) (mx_leaf 217 (mx_getf 12 33 220))) (mx_node 221 (mx_leaf 220 (mx_aload 0 221)) (mx_leaf 221 (mx_getf 12 1 224)))) (mx_node 227 (mx_node 226 (mx_leaf 224 (mx_const (.int 27) 226)) (mx_leaf 226 (mx_iald 227))) (mx_node 228 (mx_leaf 227 (mx_iald 228)) (mx_leaf 228 (mx_iret)))))))))
set_option maxRecDepth 100000 in
noncomputable def tb_268 : Nat → mx_O := (mx_node 13 (mx_node 5 (mx_node 1 (mx_leaf 0 (mx_aload 0 1)) (mx_node 2 (mx_leaf 1 (mx_const (.int 0) 2)) (mx_leaf 2 (mx_putf 1 12 0 (.int) 5)))) (mx_node 7 (mx_node 6 (mx_leaf 5 (mx_iload 1 6)) (mx_leaf 6 (mx_i2l 7))) (mx_node 10 (mx_leaf 7 (mx_calls 208 1 10)) (mx_leaf 10 (mx_if_eq 24 13))))) (mx_node 18 (mx_node 14 (mx_leaf 13 (mx_aload 0 14)) (mx_node 15 (mx_leaf 14 (mx_iload 1 15)) (mx_leaf 15 (mx_callv 267 2 12 18)))) (mx_node 24 (mx_node 21 (mx_leaf 18 (mx_calls 238 1 21)) (mx_leaf 21 (mx_goto 26))) (mx_node 26 (mx_leaf 24 (mx_const (.int (-3)) 26)) (mx_leaf 26 (mx_iret))))))
set_option maxRecDepth 100000 in
noncomputable def tb_269 : Nat → mx_O := (mx_node 31 (mx_node 16 (mx_node 6 (mx_node 2 (mx_node 1 (mx_leaf 0 (mx_aload 0 1)) (mx_leaf 1 (mx_const (.int 0) 2))) (mx_node 5 (mx_leaf 2 (mx_putf 1 12 0 (.int) 5)) (mx_leaf 5 (mx_iload 1 6)))) (mx_node 10 (mx_node 7 (mx_leaf 6 (mx_i2l 7)) (mx_leaf 7 (mx_calls 208 1 10))) (mx_node 13 (mx_leaf 10 (mx_if_ne 16 13)) (mx_node 15 (mx_leaf 13 (mx_const (.int (-3)) 15)) (mx_leaf 15 (mx_iret)))))) (mx_node 23 (mx_node 18 (mx_node 17 (mx_leaf 16 (mx_aload 0 17)) (mx_leaf 17 (mx_iload 1 18))) (mx_node 21 (mx_leaf 18 (mx_callv 267 2 12 21)) (mx_node 22 (mx_leaf 21 (mx_istore 2 22)) (mx_leaf 22 (mx_const (.int 0) 23))))) (mx_node 25 (mx_node 24 (mx_leaf 23 (mx_istore 3 24)) (mx_leaf 24 (mx_iload 3 25))) (mx_node 27 (mx_leaf 25 (mx_const (.int 19) 27)) (mx_node 30 (mx_leaf 27 (mx_icmp_ge 65 30)) (mx_leaf 30 (mx_iload 2 31))))))) (mx_node 49 (mx_node 41 (mx_node 35 (mx_node 34 (mx_leaf 31 (mx_if_le 65 34)) (mx_leaf 34 (mx_iload 2 35))) (mx_node 38 (mx_leaf 35 (mx_const (.int 268435456) 38)) (mx_leaf 38 (mx_icmp_ge 65 41)))) (mx_node 43 (mx_node 42 (mx_leaf 41 (mx_aload 0 42)) (mx_leaf 42 (mx_aload 0 43))) (mx_node 46 (mx_leaf 43 (mx_getf 12 1 46)) (mx_node 48 (mx_leaf 46 (mx_const (.int 27) 48)) (mx_leaf 48 (mx_iald 49)))))) (mx_node 58 (mx_node 53 (mx_node 50 (mx_leaf 49 (mx_iload 3 50)) (mx_leaf 50 (mx_callv 265 3 12 53))) (mx_node 54 (mx_leaf 53 (mx_iload 2 54)) (mx_node 57 (mx_leaf 54 (mx_icmp_ne 59 57)) (mx_leaf 57 (mx_iload 3 58))))) (mx_node 62 (mx_node 59 (mx_leaf 58 (mx_iret)) (mx_leaf 59 (mx_iinc 3 1 62))) (mx_node 65 (mx_leaf 62 (mx_goto 24)) (mx_node 66 (mx_leaf 65 (mx_const (.int (-1)) 66)) (mx_leaf 66 (mx_iret))))))))
set_option maxRecDepth 100000 in
noncomputable def tb_270 : Nat → mx_O := (mx_node 59 (mx_node 27 (mx_node 12 (mx_node 6 (mx_node 2 (mx_node 1 (mx_leaf 0 (mx_aload 0 1)) (mx_leaf 1 (mx_const (.int 0) 2))) (mx_node 5 (mx_leaf 2 (mx_putf 1 12 0 (.int) 5)) (mx_leaf 5 (mx_iload 1 6)))) (mx_node 8 (mx_node 7 (mx_leaf 6 (mx_i2l 7)) (mx_leaf 7 (mx_const (.long 0) 8))) (mx_node 9 (mx_leaf 8 (mx_const (.long 1) 9)) (mx_leaf 9 (mx_calls 154 3 12))))) (mx_node 19 (mx_node 17 (mx_node 15 (mx_leaf 12 (mx_if_ne 18 15)) (mx_leaf 15 (mx_const (.int (-2)) 17))) (mx_node 18 (mx_leaf 17 (mx_iret)) (mx_leaf 18 (mx_aload 0 19)))) (mx_node 24 (mx_node 22 (mx_leaf 19 (mx_getf 12 1 22)) (mx_leaf 22 (mx_const (.int 27) 24))) (mx_node 25 (mx_leaf 24 (mx_iald 25)) (mx_node 26 (mx_leaf 25 (mx_istore 2 26)) (mx_leaf 26 (mx_const (.int 0) 27))))))) (mx_node 41 (mx_node 33 (mx_node 29 (mx_node 28 (mx_leaf 27 (mx_istore 3 28)) (mx_leaf 28 (mx_const (.int 0) 29))) (mx_node 31 (mx_leaf 29 (mx_istore 4 31)) (mx_leaf 31 (mx_iload 4 33)))) (mx_node 38 (mx_node 35 (mx_leaf 33 (mx_const (.int 18) 35)) (mx_leaf 35 (mx_icmp_ge 54 38))) (mx_node 39 (mx_leaf 38 (mx_iload 3 39)) (mx_node 40 (mx_leaf 39 (mx_aload 0 40)) (mx_leaf 40 (mx_iload 2 41)))))) (mx_node 48 (mx_node 46 (mx_node 43 (mx_leaf 41 (mx_iload 4 43)) (mx_leaf 43 (mx_callv 190 3 12 46))) (mx_node 47 (mx_leaf 46 (mx_ixor 47)) (mx_leaf 47 (mx_istore 3 48)))) (mx_node 54 (mx_node 51 (mx_leaf 48 (mx_iinc 4 1 51)) (mx_leaf 51 (mx_goto 31))) (mx_node 55 (mx_leaf 54 (mx_const (.int 0) 55)) (mx_node 57 (mx_leaf 55 (mx_istore 4 57)) (mx_leaf 57 (mx_iload 4 59)))))))) (mx_node 91 (mx_node 75 (mx_node 68 (mx_node 64 (mx_node 61 (mx_leaf 59 (mx_const (.int 18) 61)) (mx_leaf 61 (mx_icmp_ge 120 64))) (mx_node 65 (mx_leaf 64 (mx_iload 3 65)) (mx_leaf 65 (mx_if_eq 120 68)))) (mx_node 70 (mx_node 69 (mx_leaf 68 (mx_aload 0 69)) (mx_leaf 69 (mx_iload 2 70))) (mx_node 72 (mx_leaf 70 (mx_iload 4 72)) (mx_leaf 72 (mx_callv 190 3 12 75))))) (mx_node 79 (mx_node 77 (mx_node 76 (mx_leaf 75 (mx_iload 3 76)) (mx_leaf 76 (mx_ixor 77))) (mx_node 78 (mx_leaf 77 (mx_aload 0 78)) (mx_leaf 78 (mx_iload 2 79)))) (mx_node 84 (mx_node 81 (mx_leaf 79 (mx_iload 4 81)) (mx_leaf 81 (mx_callv 190 3 12 84))) (mx_node 87 (mx_leaf 84 (mx_icmp_ge 114 87)) (mx_node 88 (mx_leaf 87 (mx_iload 1 88)) (mx_leaf 88 (mx_if_ne 96 91))))))) (mx_node 107 (mx_node 98 (mx_node 96 (mx_node 93 (mx_leaf 91 (mx_iload 4 93)) (mx_leaf 93 (mx_goto 113))) (mx_node 97 (mx_leaf 96 (mx_aload 0 97)) (mx_leaf 97 (mx_iload 2 98)))) (mx_node 103 (mx_node 100 (mx_leaf 98 (mx_iload 4 100)) (mx_leaf 100 (mx_callv 190 3 12 103))) (mx_node 104 (mx_leaf 103 (mx_aload 0 104)) (mx_node 105 (mx_leaf 104 (mx_iload 2 105)) (mx_leaf 105 (mx_iload 4 107)))))) (mx_node 113 (mx_node 111 (mx_node 110 (mx_leaf 107 (mx_callv 190 3 12 110)) (mx_leaf 110 (mx_iload 3 111))) (mx_node 112 (mx_leaf 111 (mx_ixor 112)) (mx_leaf 112 (mx_isub 113)))) (mx_node 117 (mx_node 114 (mx_leaf 113 (mx_iret)) (mx_leaf 114 (mx_iinc 4 1 117))) (mx_node 120 (mx_leaf 117 (mx_goto 57)) (mx_node 121 (mx_leaf 120 (mx_const (.int (-1)) 121)) (mx_leaf 121 (mx_iret)))))))))
set_option maxRecDepth 100000 in
noncomputable def tb_271 : Nat → mx_O := (mx_node 48 (mx_node 22 (mx_node 11 (mx_node 5 (mx_node 1 (mx_leaf 0 (mx_aload 0 1)) (mx_node 4 (mx_leaf 1 (mx_callv 243 1 12 4)) (mx_leaf 4 (mx_const (.int 0) 5)))) (mx_node 7 (mx_node 6 (mx_leaf 5 (mx_istore 2 6)) (mx_leaf 6 (mx_iload 2 7))) (mx_node 8 (mx_leaf 7 (mx_iload 1 8)) (mx_leaf 8 (mx_icmp_ge 106 11))))) (mx_node 14 (mx_node 12 (mx_leaf 11 (mx_const (.int 0) 12)) (mx_node 13 (mx_leaf 12 (mx_istore 3 13)) (mx_leaf 13 (mx_iload 3 14)))) (mx_node 18 (mx_node 15 (mx_leaf 14 (mx_aload 0 15)) (mx_leaf 15 (mx_getf 12 18 18))) (mx_node 21 (mx_leaf 18 (mx_icmp_ge 96 21)) (mx_leaf 21 (mx_const (.int 0) 22)))))) (mx_node 36 (mx_node 28 (mx_node 24 (mx_leaf 22 (mx_istore 4 24)) (mx_node 26 (mx_leaf 24 (mx_iload 4 26)) (mx_leaf 26 (mx_const (.int 10) 28)))) (mx_node 32 (mx_node 31 (mx_leaf 28 (mx_icmp_ge 90 31)) (mx_leaf 31 (mx_aload 0 32))) (mx_node 35 (mx_leaf 32 (mx_getf 12 35 35)) (mx_leaf 35 (mx_iload 3 36))))) (mx_node 42 (mx_node 38 (mx_node 37 (mx_leaf 36 (mx_lald 37)) (mx_leaf 37 (mx_const (.long 0) 38))) (mx_node 39 (mx_leaf 38 (mx_lif_le 90 42)) (mx_leaf 39 (mx_if_le 90 42)))) (mx_node 46 (mx_node 43 (mx_leaf 42 (mx_aload 0 43)) (mx_leaf 43 (mx_getf 12 36 46))) (mx_node 47 (mx_leaf 46 (mx_aload 0 47)) (mx_leaf 47 (mx_iload 3 48))))))) (mx_node 76 (mx_node 63 (mx_node 52 (mx_node 50 (mx_leaf 48 (mx_iload 4 50)) (mx_node 51 (mx_leaf 50 (mx_aload 0 51)) (mx_leaf 51 (mx_iload 3 52)))) (mx_node 58 (mx_node 55 (mx_leaf 52 (mx_callv 191 2 12 55)) (mx_leaf 55 (mx_icmp_ge 63 58))) (mx_node 60 (mx_leaf 58 (mx_iload 4 60)) (mx_leaf 60 (mx_goto 64))))) (mx_node 70 (mx_node 65 (mx_node 64 (mx_leaf 63 (mx_const (.int (-1)) 64)) (mx_leaf 64 (mx_aload 0 65))) (mx_node 68 (mx_leaf 65 (mx_getf 12 1 68)) (mx_leaf 68 (mx_const (.int 28) 70)))) (mx_node 74 (mx_node 71 (mx_leaf 70 (mx_iald 71)) (mx_leaf 71 (mx_callv 196 4 12 74))) (mx_node 75 (mx_leaf 74 (mx_dup2 75)) (mx_leaf 75 (mx_lald 76)))))) (mx_node 87 (mx_node 81 (mx_node 77 (mx_leaf 76 (mx_aload 0 77)) (mx_node 80 (mx_leaf 77 (mx_getf 12 35 80)) (mx_leaf 80 (mx_iload 3 81)))) (mx_node 83 (mx_node 82 (mx_leaf 81 (mx_lald 82)) (mx_leaf 82 (mx_ladd 83))) (mx_node 84 (mx_leaf 83 (mx_last 1 84)) (mx_leaf 84 (mx_iinc 4 1 87))))) (mx_node 97 (mx_node 93 (mx_node 90 (mx_leaf 87 (mx_goto 24)) (mx_leaf 90 (mx_iinc 3 1 93))) (mx_node 96 (mx_leaf 93 (mx_goto 13)) (mx_leaf 96 (mx_aload 0 97)))) (mx_node 103 (mx_node 100 (mx_leaf 97 (mx_callv 244 1 12 100)) (mx_leaf 100 (mx_iinc 2 1 103))) (mx_node 106 (mx_leaf 103 (mx_goto 6)) (mx_leaf 106 (mx_vret))))))))
set_option maxRecDepth 100000 in
noncomputable def tb_272 : Nat → mx_O := (mx_node 9 (mx_node 3 (mx_node 1 (mx_leaf 0 (mx_const (.long 1) 1)) (mx_node 2 (mx_leaf 1 (mx_lstore 1 2)) (mx_leaf 2 (mx_const (.int 0) 3)))) (mx_node 5 (mx_node 4 (mx_leaf 3 (mx_istore 3 4)) (mx_leaf 4 (mx_iload 3 5))) (mx_node 6 (mx_leaf 5 (mx_iload 0 6)) (mx_leaf 6 (mx_icmp_ge 21 9))))) (mx_node 15 (mx_node 13 (mx_node 10 (mx_leaf 9 (mx_lload 1 10)) (mx_leaf 10 (mx_const (.long 10) 13))) (mx_node 14 (mx_leaf 13 (mx_lmul 14)) (mx_leaf 14 (mx_lstore 1 15)))) (mx_node 21 (mx_node 18 (mx_leaf 15 (mx_iinc 3 1 18)) (mx_leaf 18 (mx_goto 4))) (mx_node 22 (mx_leaf 21 (mx_lload 1 22)) (mx_leaf 22 (mx_lret))))))
set_option maxRecDepth 100000 in
noncomputable def tb_273 : Nat → mx_O := (mx_node 10 (mx_node 3 (mx_node 1 (mx_leaf 0 (mx_lload 2 1)) (mx_node 2 (mx_leaf 1 (mx_const (.long 0) 2)) (mx_leaf 2 (mx_lif_ne 10 6)))) (mx_node 6 (mx_leaf 3 (mx_if_ne 10 6)) (mx_node 7 (mx_leaf 6 (mx_lload 0 7)) (mx_leaf 7 (mx_goto 17))))) (mx_node 13 (mx_node 11 (mx_leaf 10 (mx_lload 2 11)) (mx_node 12 (mx_leaf 11 (mx_lload 0 12)) (mx_leaf 12 (mx_lload 2 13)))) (mx_node 14 (mx_leaf 13 (mx_lrem 14)) (mx_node 17 (mx_leaf 14 (mx_calls 273 2 17)) (mx_leaf 17 (mx_lret))))))
set_option maxRecDepth 100000 in
noncomputable def tb_274 : Nat → mx_O := (mx_node 10 (mx_node 5 (mx_node 2 (mx_leaf 0 (mx_iload 4 2)) (mx_leaf 2 (mx_if_ne 9 5))) (mx_node 6 (mx_leaf 5 (mx_lload 0 6)) (mx_node 9 (mx_leaf 6 (mx_goto 10)) (mx_leaf 9 (mx_lload 2 10))))) (mx_node 15 (mx_node 11 (mx_leaf 10 (mx_lload 0 11)) (mx_node 12 (mx_leaf 11 (mx_lload 2 12)) (mx_leaf 12 (mx_calls 273 2 15)))) (mx_node 16 (mx_leaf 15 (mx_ldiv 16)) (mx_node 17 (mx_leaf 16 (mx_l2i 17)) (mx_leaf 17 (mx_iret))))))
set_option maxRecDepth 100000 in
noncomputable def tb_275 : Nat → mx_O := (mx_node 49 (mx_node 23 (mx_node 9 (mx_node 5 (mx_node 1 (mx_leaf 0 (mx_aload 0 1)) (mx_node 2 (mx_leaf 1 (mx_const (.int 0) 2)) (mx_leaf 2 (mx_putf 1 12 0 (.int) 5)))) (mx_node 7 (mx_node 6 (mx_leaf 5 (mx_iload 3 6)) (mx_leaf 6 (mx_i2l 7))) (mx_node 8 (mx_leaf 7 (mx_const (.long 0) 8)) (mx_leaf 8 (mx_const (.long 1) 9))))) (mx_node 17 (mx_node 12 (mx_leaf 9 (mx_calls 154 3 12)) (mx_node 15 (mx_leaf 12 (mx_if_ne 18 15)) (mx_leaf 15 (mx_const (.int (-2)) 17)))) (mx_node 19 (mx_node 18 (mx_leaf 17 (mx_iret)) (mx_leaf 18 (mx_iload 1 19))) (mx_node 20 (mx_leaf 19 (mx_i2l 20)) (mx_leaf 20 (mx_calls 208 1 23)))))) (mx_node 38 (mx_node 28 (mx_node 26 (mx_leaf 23 (mx_if_eq 38 26)) (mx_node 27 (mx_leaf 26 (mx_iload 2 27)) (mx_leaf 27 (mx_i2l 28)))) (mx_node 32 (mx_node 29 (mx_leaf 28 (mx_const (.long 0) 29)) (mx_leaf 29 (mx_const (.long 7) 32))) (mx_node 35 (mx_leaf 32 (mx_calls 154 3 35)) (mx_leaf 35 (mx_if_ne 41 38))))) (mx_node 42 (mx_node 40 (mx_leaf 38 (mx_const (.int (-3)) 40)) (mx_node 41 (mx_leaf 40 (mx_iret)) (mx_leaf 41 (mx_aload 0 42)))) (mx_node 46 (mx_node 43 (mx_leaf 42 (mx_iload 2 43)) (mx_leaf 43 (mx_callv 271 2 12 46))) (mx_node 47 (mx_leaf 46 (mx_const (.long 0) 47)) (mx_leaf 47 (mx_lstore 4 49))))))) (mx_node 77 (mx_node 63 (mx_node 54 (mx_node 50 (mx_leaf 49 (mx_const (.int 0) 50)) (mx_node 52 (mx_leaf 50 (mx_istore 6 52)) (mx_leaf 52 (mx_iload 6 54)))) (mx_node 58 (mx_node 55 (mx_leaf 54 (mx_aload 0 55)) (mx_leaf 55 (mx_getf 12 18 58))) (mx_node 61 (mx_leaf 58 (mx_icmp_ge 93 61)) (mx_leaf 61 (mx_lload 4 63))))) (mx_node 69 (mx_node 64 (mx_leaf 63 (mx_aload 0 64)) (mx_node 66 (mx_leaf 64 (mx_iload 6 66)) (mx_leaf 66 (mx_callv 191 2 12 69)))) (mx_node 73 (mx_node 70 (mx_leaf 69 (mx_iload 1 70)) (mx_leaf 70 (mx_icmp_gt 83 73))) (mx_node 74 (mx_leaf 73 (mx_aload 0 74)) (mx_leaf 74 (mx_getf 12 35 77)))))) (mx_node 90 (mx_node 83 (mx_node 79 (mx_leaf 77 (mx_iload 6 79)) (mx_node 80 (mx_leaf 79 (mx_lald 80)) (mx_leaf 80 (mx_goto 84)))) (mx_node 85 (mx_node 84 (mx_leaf 83 (mx_const (.long 0) 84)) (mx_leaf 84 (mx_ladd 85))) (mx_node 87 (mx_leaf 85 (mx_lstore 4 87)) (mx_leaf 87 (mx_iinc 6 1 90))))) (mx_node 96 (mx_node 93 (mx_leaf 90 (mx_goto 52)) (mx_node 95 (mx_leaf 93 (mx_lload 4 95)) (mx_leaf 95 (mx_iload 2 96)))) (mx_node 100 (mx_node 99 (mx_leaf 96 (mx_calls 272 1 99)) (mx_leaf 99 (mx_iload 3 100))) (mx_node 103 (mx_leaf 100 (mx_calls 274 3 103)) (mx_leaf 103 (mx_iret))))))))
set_option maxRecDepth 100000 in
noncomputable def tb_276 : Nat → mx_O := (mx_node 41 (mx_node 19 (mx_node 8 (mx_node 5 (mx_node 1 (mx_leaf 0 (mx_aload 0 1)) (mx_node 2 (mx_leaf 1 (mx_const (.int 0) 2)) (mx_leaf 2 (mx_putf 1 12 0 (.int) 5)))) (mx_node 6 (mx_leaf 5 (mx_iload 2 6)) (mx_node 7 (mx_leaf 6 (mx_i2l 7)) (mx_leaf 7 (mx_const (.long 0) 8))))) (mx_node 15 (mx_node 9 (mx_leaf 8 (mx_const (.long 1) 9)) (mx_node 12 (mx_leaf 9 (mx_calls 154 3 12)) (mx_leaf 12 (mx_if_ne 18 15)))) (mx_node 17 (mx_leaf 15 (mx_const (.int (-2)) 17)) (mx_node 18 (mx_leaf 17 (mx_iret)) (mx_leaf 18 (mx_iload 1 19)))))) (mx_node 32 (mx_node 24 (mx_node 20 (mx_leaf 19 (mx_i2l 20)) (mx_node 21 (mx_leaf 20 (mx_const (.long 0) 21)) (mx_leaf 21 (mx_const (.long 7) 24)))) (mx_node 27 (mx_leaf 24 (mx_calls 154 3 27)) (mx_node 30 (mx_leaf 27 (mx_if_ne 33 30)) (mx_leaf 30 (mx_const (.int (-3)) 32))))) (mx_node 35 (mx_node 33 (mx_leaf 32 (mx_iret)) (mx_node 34 (mx_leaf 33 (mx_aload 0 34)) (mx_leaf 34 (mx_iload 1 35)))) (mx_node 39 (mx_node 38 (mx_leaf 35 (mx_callv 271 2 12 38)) (mx_leaf 38 (mx_const (.long 0) 39))) (mx_node 40 (mx_leaf 39 (mx_lstore 3 40)) (mx_leaf 40 (mx_const (.int 0) 41))))))) (mx_node 64 (mx_node 53 (mx_node 46 (mx_node 43 (mx_leaf 41 (mx_istore 5 43)) (mx_node 45 (mx_leaf 43 (mx_iload 5 45)) (mx_leaf 45 (mx_aload 0 46)))) (mx_node 49 (mx_leaf 46 (mx_getf 12 18 49)) (mx_node 52 (mx_leaf 49 (mx_icmp_ge 77 52)) (mx_leaf 52 (mx_lload 3 53))))) (mx_node 59 (mx_node 54 (mx_leaf 53 (mx_aload 0 54)) (mx_node 57 (mx_leaf 54 (mx_getf 12 35 57)) (mx_leaf 57 (mx_iload 5 59)))) (mx_node 61 (mx_node 60 (mx_leaf 59 (mx_lald 60)) (mx_leaf 60 (mx_aload 0 61))) (mx_node 63 (mx_leaf 61 (mx_iload 5 63)) (mx_leaf 63 (mx_const (.int 0) 64)))))) (mx_node 74 (mx_node 69 (mx_node 67 (mx_leaf 64 (mx_callv 190 3 12 67)) (mx_node 68 (mx_leaf 67 (mx_i2l 68)) (mx_leaf 68 (mx_lmul 69)))) (mx_node 70 (mx_leaf 69 (mx_ladd 70)) (mx_node 71 (mx_leaf 70 (mx_lstore 3 71)) (mx_leaf 71 (mx_iinc 5 1 74))))) (mx_node 79 (mx_node 77 (mx_leaf 74 (mx_goto 43)) (mx_node 78 (mx_leaf 77 (mx_lload 3 78)) (mx_leaf 78 (mx_iload 1 79)))) (mx_node 83 (mx_node 82 (mx_leaf 79 (mx_calls 272 1 82)) (mx_leaf 82 (mx_iload 2 83))) (mx_node 86 (mx_leaf 83 (mx_calls 274 3 86)) (mx_leaf 86 (mx_iret))))))))
set_option maxRecDepth 100000 in
noncomputable def tb_277 : Nat → mx_O := (mx_node 18 (mx_node 8 (mx_node 5 (mx_node 1 (mx_leaf 0 (mx_iload 2 1)) (mx_node 4 (mx_leaf 1 (mx_if_ne 11 4)) (mx_leaf 4 (mx_lload 0 5)))) (mx_node 6 (mx_leaf 5 (mx_l2i 6)) (mx_node 7 (mx_leaf 6 (mx_i2b 7)) (mx_leaf 7 (mx_i2l 8))))) (mx_node 13 (mx_node 11 (mx_leaf 8 (mx_goto 35)) (mx_node 12 (mx_leaf 11 (mx_iload 2 12)) (mx_leaf 12 (mx_const (.int 1) 13)))) (mx_node 16 (mx_leaf 13 (mx_icmp_ne 23 16)) (mx_node 17 (mx_leaf 16 (mx_lload 0 17)) (mx_leaf 17 (mx_l2i 18)))))) (mx_node 28 (mx_node 23 (mx_node 19 (mx_leaf 18 (mx_i2s 19)) (mx_node 20 (mx_leaf 19 (mx_i2l 20)) (mx_leaf 20 (mx_goto 35)))) (mx_node 24 (mx_leaf 23 (mx_iload 2 24)) (mx_node 25 (mx_leaf 24 (mx_const (.int 2) 25)) (mx_leaf 25 (mx_icmp_ne 34 28))))) (mx_node 31 (mx_node 29 (mx_leaf 28 (mx_lload 0 29)) (mx_node 30 (mx_leaf 29 (mx_l2i 30)) (mx_leaf 30 (mx_i2l 31)))) (mx_node 34 (mx_leaf 31 (mx_goto 35)) (mx_node 35 (mx_leaf 34 (mx_lload 0 35)) (mx_leaf 35 (mx_lret)))))))
set_option maxRecDepth 100000 in
noncomputable def tb_278 : Nat → mx_O := (mx_node 48 (mx_node 23 (mx_node 8 (mx_node 5 (mx_node 1 (mx_leaf 0 (mx_aload 0 1)) (mx_node 2 (mx_leaf 1 (mx_const (.int 0) 2)) (mx_leaf 2 (mx_putf 1 12 0 (.int) 5)))) (mx_node 6 (mx_leaf 5 (mx_iload 1 6)) (mx_node 7 (mx_leaf 6 (mx_i2l 7)) (mx_leaf 7 (mx_const (.long 0) 8))))) (mx_node 17 (mx_node 11 (mx_leaf 8 (mx_const (.long 3) 11)) (mx_node 14 (mx_leaf 11 (mx_calls 154 3 14)) (mx_leaf 14 (mx_if_eq 29 17)))) (mx_node 19 (mx_node 18 (mx_leaf 17 (mx_iload 2 18)) (mx_leaf 18 (mx_i2l 19))) (mx_node 20 (mx_leaf 19 (mx_const (.long 0) 20)) (mx_leaf 20 (mx_const (.long 3) 23)))))) (mx_node 34 (mx_node 31 (mx_node 26 (mx_leaf 23 (mx_calls 154 3 26)) (mx_node 29 (mx_leaf 26 (mx_if_ne 32 29)) (mx_leaf 29 (mx_const (.int (-2)) 31)))) (mx_node 32 (mx_leaf 31 (mx_iret)) (mx_node 33 (mx_leaf 32 (mx_iload 3 33)) (mx_leaf 33 (mx_i2l 34))))) (mx_node 41 (mx_node 35 (mx_leaf 34 (mx_const (.long 0) 35)) (mx_node 38 (mx_leaf 35 (mx_const (.long 40) 38)) (mx_leaf 38 (mx_calls 154 3 41)))) (mx_node 46 (mx_node 44 (mx_leaf 41 (mx_if_ne 47 44)) (mx_leaf 44 (mx_const (.int (-3)) 46))) (mx_node 47 (mx_leaf 46 (mx_iret)) (mx_leaf 47 (mx_aload 0 48))))))) (mx_node 67 (mx_node 58 (mx_node 53 (mx_node 51 (mx_leaf 48 (mx_getf 12 39 51)) (mx_node 52 (mx_leaf 51 (mx_iload 1 52)) (mx_leaf 52 (mx_iload 2 53)))) (mx_node 54 (mx_leaf 53 (mx_iast 1 54)) (mx_node 55 (mx_leaf 54 (mx_aload 0 55)) (mx_leaf 55 (mx_getf 12 40 58))))) (mx_node 61 (mx_node 59 (mx_leaf 58 (mx_iload 1 59)) (mx_node 60 (mx_leaf 59 (mx_iload 3 60)) (mx_leaf 60 (mx_iast 1 61)))) (mx_node 64 (mx_node 62 (mx_leaf 61 (mx_const (.int 0) 62)) (mx_leaf 62 (mx_istore 4 64))) (mx_node 66 (mx_leaf 64 (mx_iload 4 66)) (mx_leaf 66 (mx_iload 3 67)))))) (mx_node 80 (mx_node 74 (mx_node 70 (mx_leaf 67 (mx_icmp_ge 89 70)) (mx_node 71 (mx_leaf 70 (mx_aload 0 71)) (mx_leaf 71 (mx_getf 12 41 74)))) (mx_node 77 (mx_node 76 (mx_leaf 74 (mx_const (.int 40) 76)) (mx_leaf 76 (mx_iload 1 77))) (mx_node 78 (mx_leaf 77 (mx_imul 78)) (mx_leaf 78 (mx_iload 4 80))))) (mx_node 83 (mx_node 81 (mx_leaf 80 (mx_iadd 81)) (mx_node 82 (mx_leaf 81 (mx_const (.long 0) 82)) (mx_leaf 82 (mx_last 1 83)))) (mx_node 89 (mx_node 86 (mx_leaf 83 (mx_iinc 4 1 86)) (mx_leaf 86 (mx_goto 64))) (mx_node 90 (mx_leaf 89 (mx_const (.int 0) 90)) (mx_leaf 90 (mx_iret))))))))
set_option maxRecDepth 100000 in
noncomputable def tb_279 : Nat → mx_O := (mx_node 39 (mx_node 21 (mx_node 10 (mx_node 5 (mx_node 1 (mx_leaf 0 (mx_aload 0 1)) (mx_node 2 (mx_leaf 1 (mx_const (.int 0) 2)) (mx_leaf 2 (mx_putf 1 12 0 (.int) 5)))) (mx_node 6 (mx_leaf 5 (mx_aload 0 6)) (mx_node 7 (mx_leaf 6 (mx_iload 1 7)) (mx_leaf 7 (mx_callv 220 2 12 10))))) (mx_node 17 (mx_node 12 (mx_leaf 10 (mx_istore 5 12)) (mx_node 14 (mx_leaf 12 (mx_iload 5 14)) (mx_leaf 14 (mx_if_eq 21 17)))) (mx_node 19 (mx_leaf 17 (mx_iload 5 19)) (mx_node 20 (mx_leaf 19 (mx_i2l 20)) (mx_leaf 20 (mx_lret)))))) (mx_node 29 (mx_node 24 (mx_node 22 (mx_leaf 21 (mx_iload 2 22)) (mx_node 23 (mx_leaf 22 (mx_i2l 23)) (mx_leaf 23 (mx_const (.long 0) 24)))) (mx_node 25 (mx_leaf 24 (mx_aload 0 25)) (mx_node 28 (mx_leaf 25 (mx_getf 12 40 28)) (mx_leaf 28 (mx_iload 1 29))))) (mx_node 32 (mx_node 30 (mx_leaf 29 (mx_iald 30)) (mx_node 31 (mx_leaf 30 (mx_const (.int 1) 31)) (mx_leaf 31 (mx_isub 32)))) (mx_node 33 (mx_leaf 32 (mx_i2l 33)) (mx_node 36 (mx_leaf 33 (mx_calls 154 3 36)) (mx_leaf 36 (mx_if_ne 43 39))))))) (mx_node 58 (mx_node 50 (mx_node 44 (mx_node 42 (mx_leaf 39 (mx_const (.long (-7)) 42)) (mx_node 43 (mx_leaf 42 (mx_lret)) (mx_leaf 43 (mx_aload 0 44)))) (mx_node 47 (mx_leaf 44 (mx_getf 12 41 47)) (mx_node 49 (mx_leaf 47 (mx_const (.int 40) 49)) (mx_leaf 49 (mx_iload 1 50))))) (mx_node 53 (mx_node 51 (mx_leaf 50 (mx_imul 51)) (mx_node 52 (mx_leaf 51 (mx_iload 2 52)) (mx_leaf 52 (mx_iadd 53)))) (mx_node 54 (mx_leaf 53 (mx_lload 3 54)) (mx_node 55 (mx_leaf 54 (mx_aload 0 55)) (mx_leaf 55 (mx_getf 12 39 58)))))) (mx_node 68 (mx_node 63 (mx_node 59 (mx_leaf 58 (mx_iload 1 59)) (mx_node 60 (mx_leaf 59 (mx_iald 60)) (mx_leaf 60 (mx_calls 277 2 63)))) (mx_node 64 (mx_leaf 63 (mx_last 1 64)) (mx_node 65 (mx_leaf 64 (mx_aload 0 65)) (mx_leaf 65 (mx_getf 12 41 68))))) (mx_node 72 (mx_node 70 (mx_leaf 68 (mx_const (.int 40) 70)) (mx_node 71 (mx_leaf 70 (mx_iload 1 71)) (mx_leaf 71 (mx_imul 72)))) (mx_node 74 (mx_node 73 (mx_leaf 72 (mx_iload 2 73)) (mx_leaf 73 (mx_iadd 74))) (mx_node 75 (mx_leaf 74 (mx_lald 75)) (mx_leaf 75 (mx_lret))))))))
set_option maxRecDepth 100000 in
noncomputable def tb_280 : Nat → mx_O := (mx_node 50 (mx_node 21 (mx_node 11 (mx_node 5 (mx_node 1 (mx_leaf 0 (mx_aload 0 1)) (mx_node 2 (mx_leaf 1 (mx_const (.int 0) 2)) (mx_leaf 2 (mx_putf 1 12 0 (.int) 5)))) (mx_node 7 (mx_node 6 (mx_leaf 5 (mx_aload 0 6)) (mx_leaf 6 (mx_iload 1 7))) (mx_node 10 (mx_leaf 7 (mx_callv 220 2 12 10)) (mx_leaf 10 (mx_istore 3 11))))) (mx_node 17 (mx_node 15 (mx_node 12 (mx_leaf 11 (mx_iload 3 12)) (mx_leaf 12 (mx_if_eq 17 15))) (mx_node 16 (mx_leaf 15 (mx_iload 3 16)) (mx_leaf 16 (mx_iret)))) (mx_node 19 (mx_node 18 (mx_leaf 17 (mx_iload 2 18)) (mx_leaf 18 (mx_i2l 19))) (mx_node 20 (mx_leaf 19 (mx_const (.long 0) 20)) (mx_leaf 20 (mx_aload 0 21)))))) (mx_node 36 (mx_node 27 (mx_node 25 (mx_node 24 (mx_leaf 21 (mx_getf 12 18 24)) (mx_leaf 24 (mx_const (.int 1) 25))) (mx_node 26 (mx_leaf 25 (mx_isub 26)) (mx_leaf 26 (mx_i2l 27)))) (mx_node 33 (mx_node 30 (mx_leaf 27 (mx_calls 154 3 30)) (mx_leaf 30 (mx_if_ne 36 33))) (mx_node 35 (mx_leaf 33 (mx_const (.int (-3)) 35)) (mx_leaf 35 (mx_iret))))) (mx_node 42 (mx_node 38 (mx_node 37 (mx_leaf 36 (mx_aload 0 37)) (mx_leaf 37 (mx_iload 2 38))) (mx_node 41 (mx_leaf 38 (mx_callv 191 2 12 41)) (mx_leaf 41 (mx_aload 0 42)))) (mx_node 46 (mx_node 45 (mx_leaf 42 (mx_getf 12 40 45)) (mx_leaf 45 (mx_iload 1 46))) (mx_node 47 (mx_leaf 46 (mx_iald 47)) (mx_leaf 47 (mx_icmp_ge 58 50))))))) (mx_node 77 (mx_node 63 (mx_node 55 (mx_node 51 (mx_leaf 50 (mx_aload 0 51)) (mx_node 52 (mx_leaf 51 (mx_iload 2 52)) (mx_leaf 52 (mx_callv 191 2 12 55)))) (mx_node 59 (mx_node 58 (mx_leaf 55 (mx_goto 64)) (mx_leaf 58 (mx_aload 0 59))) (mx_node 62 (mx_leaf 59 (mx_getf 12 40 62)) (mx_leaf 62 (mx_iload 1 63))))) (mx_node 69 (mx_node 66 (mx_node 64 (mx_leaf 63 (mx_iald 64)) (mx_leaf 64 (mx_istore 4 66))) (mx_node 67 (mx_leaf 66 (mx_const (.int 0) 67)) (mx_leaf 67 (mx_istore 5 69)))) (mx_node 73 (mx_node 71 (mx_leaf 69 (mx_iload 5 71)) (mx_leaf 71 (mx_iload 4 73))) (mx_node 76 (mx_leaf 73 (mx_icmp_ge 102 76)) (mx_leaf 76 (mx_aload 0 77)))))) (mx_node 89 (mx_node 84 (mx_node 82 (mx_node 80 (mx_leaf 77 (mx_getf 12 41 80)) (mx_leaf 80 (mx_const (.int 40) 82))) (mx_node 83 (mx_leaf 82 (mx_iload 1 83)) (mx_leaf 83 (mx_imul 84)))) (mx_node 87 (mx_node 86 (mx_leaf 84 (mx_iload 5 86)) (mx_leaf 86 (mx_iadd 87))) (mx_node 88 (mx_leaf 87 (mx_aload 0 88)) (mx_leaf 88 (mx_iload 2 89))))) (mx_node 96 (mx_node 94 (mx_node 91 (mx_leaf 89 (mx_iload 5 91)) (mx_leaf 91 (mx_callv 190 3 12 94))) (mx_node 95 (mx_leaf 94 (mx_i2l 95)) (mx_leaf 95 (mx_last 1 96)))) (mx_node 102 (mx_node 99 (mx_leaf 96 (mx_iinc 5 1 99)) (mx_leaf 99 (mx_goto 69))) (mx_node 104 (mx_leaf 102 (mx_iload 4 104)) (mx_leaf 104 (mx_iret))))))))
set_option maxRecDepth 100000 in
noncomputable def tb_281 : Nat → mx_O := (mx_node 34 (mx_node 15 (mx_node 6 (mx_node 2 (mx_node 1 (mx_leaf 0 (mx_aload 0 1)) (mx_leaf 1 (mx_const (.int 0) 2))) (mx_node 5 (mx_leaf 2 (mx_putf 1 12 0 (.int) 5)) (mx_leaf 5 (mx_iload 1 6)))) (mx_node 8 (mx_node 7 (mx_leaf 6 (mx_i2l 7)) (mx_leaf 7 (mx_const (.long 0) 8))) (mx_node 9 (mx_leaf 8 (mx_const (.long 1) 9)) (mx_node 12 (mx_leaf 9 (mx_calls 154 3 12)) (mx_leaf 12 (mx_if_ne 18 15)))))) (mx_node 21 (mx_node 18 (mx_node 17 (mx_leaf 15 (mx_const (.int (-2)) 17)) (mx_leaf 17 (mx_iret))) (mx_node 19 (mx_leaf 18 (mx_const (.int 0) 19)) (mx_node 20 (mx_leaf 19 (mx_istore 2 20)) (mx_leaf 20 (mx_iload 2 21))))) (mx_node 27 (mx_node 24 (mx_leaf 21 (mx_const (.int 962) 24)) (mx_leaf 24 (mx_icmp_ge 53 27))) (mx_node 28 (mx_leaf 27 (mx_aload 0 28)) (mx_node 31 (mx_leaf 28 (mx_getf 12 1 31)) (mx_leaf 31 (mx_const (.int 962) 34))))))) (mx_node 46 (mx_node 39 (mx_node 36 (mx_node 35 (mx_leaf 34 (mx_iload 1 35)) (mx_leaf 35 (mx_const (.int 1) 36))) (mx_node 37 (mx_leaf 36 (mx_iadd 37)) (mx_node 38 (mx_leaf 37 (mx_imul 38)) (mx_leaf 38 (mx_iload 2 39))))) (mx_node 41 (mx_node 40 (mx_leaf 39 (mx_iadd 40)) (mx_leaf 40 (mx_aload 0 41))) (mx_node 44 (mx_leaf 41 (mx_getf 12 1 44)) (mx_node 45 (mx_leaf 44 (mx_iload 2 45)) (mx_leaf 45 (mx_iald 46)))))) (mx_node 57 (mx_node 50 (mx_node 47 (mx_leaf 46 (mx_iast 1 47)) (mx_leaf 47 (mx_iinc 2 1 50))) (mx_node 53 (mx_leaf 50 (mx_goto 20)) (mx_node 54 (mx_leaf 53 (mx_aload 0 54)) (mx_leaf 54 (mx_getf 12 2 57))))) (mx_node 59 (mx_node 58 (mx_leaf 57 (mx_iload 1 58)) (mx_leaf 58 (mx_const (.int 1) 59))) (mx_node 60 (mx_leaf 59 (mx_zast 1 60)) (mx_node 61 (mx_leaf 60 (mx_const (.int 0) 61)) (mx_leaf 61 (mx_iret))))))))
set_option maxRecDepth 100000 in
noncomputable def tb_282 : Nat → mx_O := (mx_node 40 (mx_node 19 (mx_node 8 (mx_node 5 (mx_node 1 (mx_leaf 0 (mx_aload 0 1)) (mx_node 2 (mx_leaf 1 (mx_const (.int 0) 2)) (mx_leaf 2 (mx_putf 1 12 0 (.int) 5)))) (mx_node 6 (mx_leaf 5 (mx_iload 1 6)) (mx_node 7 (mx_leaf 6 (mx_i2l 7)) (mx_leaf 7 (mx_const (.long 0) 8))))) (mx_node 15 (mx_node 9 (mx_leaf 8 (mx_const (.long 1) 9)) (mx_node 12 (mx_leaf 9 (mx_calls 154 3 12)) (mx_leaf 12 (mx_if_ne 18 15)))) (mx_node 17 (mx_leaf 15 (mx_const (.int (-2)) 17)) (mx_node 18 (mx_leaf 17 (mx_iret)) (mx_leaf 18 (mx_aload 0 19)))))) (mx_node 30 (mx_node 24 (mx_node 22 (mx_leaf 19 (mx_getf 12 2 22)) (mx_node 23 (mx_leaf 22 (mx_iload 1 23)) (mx_leaf 23 (mx_zald 24)))) (mx_node 27 (mx_leaf 24 (mx_if_ne 30 27)) (mx_node 29 (mx_leaf 27 (mx_const (.int (-5)) 29)) (mx_leaf 29 (mx_iret))))) (mx_node 33 (mx_node 31 (mx_leaf 30 (mx_const (.int 0) 31)) (mx_node 32 (mx_leaf 31 (mx_istore 2 32)) (mx_leaf 32 (mx_iload 2 33)))) (mx_node 36 (mx_leaf 33 (mx_const (.int 962) 36)) (mx_node 39 (mx_leaf 36 (mx_icmp_ge 65 39)) (mx_leaf 39 (mx_aload 0 40))))))) (mx_node 58 (mx_node 52 (mx_node 45 (mx_node 43 (mx_leaf 40 (mx_getf 12 1 43)) (mx_node 44 (mx_leaf 43 (mx_iload 2 44)) (mx_leaf 44 (mx_aload 0 45)))) (mx_node 48 (mx_leaf 45 (mx_getf 12 1 48)) (mx_node 51 (mx_leaf 48 (mx_const (.int 962) 51)) (mx_leaf 51 (mx_iload 1 52))))) (mx_node 55 (mx_node 53 (mx_leaf 52 (mx_const (.int 1) 53)) (mx_node 54 (mx_leaf 53 (mx_iadd 54)) (mx_leaf 54 (mx_imul 55)))) (mx_node 56 (mx_leaf 55 (mx_iload 2 56)) (mx_node 57 (mx_leaf 56 (mx_iadd 57)) (mx_leaf 57 (mx_iald 58)))))) (mx_node 71 (mx_node 65 (mx_node 59 (mx_leaf 58 (mx_iast 1 59)) (mx_node 62 (mx_leaf 59 (mx_iinc 2 1 62)) (mx_leaf 62 (mx_goto 32)))) (mx_node 66 (mx_leaf 65 (mx_aload 0 66)) (mx_node 69 (mx_leaf 66 (mx_getf 12 1 69)) (mx_leaf 69 (mx_const (.int 30) 71))))) (mx_node 74 (mx_node 72 (mx_leaf 71 (mx_const (.int 0) 72)) (mx_node 73 (mx_leaf 72 (mx_iast 1 73)) (mx_leaf 73 (mx_aload 0 74)))) (mx_node 77 (mx_leaf 74 (mx_callv 184 1 12 77)) (mx_node 78 (mx_leaf 77 (mx_const (.int 0) 78)) (mx_leaf 78 (mx_iret))))))))
set_option maxRecDepth 100000 in
noncomputable def tb_283 : Nat → mx_O := (mx_node 80 (mx_node 60 (mx_node 52 (mx_node 2 (mx_node 1 (mx_leaf 0 (mx_aload 0 1)) (mx_leaf 1 (mx_const (.int 0) 2))) (mx_node 5 (mx_leaf 2 (mx_putf 1 12 0 (.int) 5)) (mx_node 6 (mx_leaf 5 (mx_iload 1 6)) (mx_leaf 6 (mx_tsw 0 7 [52, 59, 71, 79, 87, 95, 103, 108] 115))))) (mx_node 57 (mx_node 53 (mx_leaf 52 (mx_aload 0 53)) (mx_node 56 (mx_leaf 53 (mx_getf 12 1 56)) (mx_leaf 56 (mx_const (.int 1) 57)))) (mx_node 58 (mx_leaf 57 (mx_iald 58)) (mx_node 59 (mx_leaf 58 (mx_iret)) (mx_leaf 59 (mx_aload 0 60)))))) (mx_node 71 (mx_node 66 (mx_node 61 (mx_leaf 60 (mx_aload 0 61)) (mx_node 64 (mx_leaf 61 (mx_getf 12 1 64)) (mx_leaf 64 (mx_const (.int 27) 66)))) (mx_node 67 (mx_leaf 66 (mx_iald 67)) (mx_node 70 (mx_leaf 67 (mx_callv 191 2 12 70)) (mx_leaf 70 (mx_iret))))) (mx_node 77 (mx_node 72 (mx_leaf 71 (mx_aload 0 72)) (mx_node 75 (mx_leaf 72 (mx_getf 12 1 75)) (mx_leaf 75 (mx_const (.int 27) 77)))) (mx_node 78 (mx_leaf 77 (mx_iald 78)) (mx_node 79 (mx_leaf 78 (mx_iret)) (mx_leaf 79 (mx_aload 0 80))))))) (mx_node 101 (mx_node 91 (mx_node 86 (mx_node 83 (mx_leaf 80 (mx_getf 12 1 83)) (mx_node 85 (mx_leaf 83 (mx_const (.int 28) 85)) (mx_leaf 85 (mx_iald 86)))) (mx_node 87 (mx_leaf 86 (mx_iret)) (mx_node 88 (mx_leaf 87 (mx_aload 0 88)) (mx_leaf 88 (mx_getf 12 1 91))))) (mx_node 95 (mx_node 93 (mx_leaf 91 (mx_const (.int 29) 93)) (mx_node 94 (mx_leaf 93 (mx_iald 94)) (mx_leaf 94 (mx_iret)))) (mx_node 96 (mx_leaf 95 (mx_aload 0 96)) (mx_node 99 (mx_leaf 96 (mx_getf 12 1 99)) (mx_leaf 99 (mx_const (.int 30) 101)))))) (mx_node 109 (mx_node 104 (mx_node 102 (mx_leaf 101 (mx_iald 102)) (mx_node 103 (mx_leaf 102 (mx_iret)) (mx_leaf 103 (mx_aload 0 104)))) (mx_node 107 (mx_leaf 104 (mx_getf 12 5 107)) (mx_node 108 (mx_leaf 107 (mx_iret)) (mx_leaf 108 (mx_aload 0 109))))) (mx_node 114 (mx_node 112 (mx_leaf 109 (mx_getf 12 1 112)) (mx_node 113 (mx_leaf 112 (mx_const (.int 0) 113)) (mx_leaf 113 (mx_iald 114)))) (mx_node 115 (mx_leaf 114 (mx_iret)) (mx_node 116 (mx_leaf 115 (mx_const (.int (-1)) 116)) (mx_leaf 116 (mx_iret))))))))
set_option maxRecDepth 100000 in
noncomputable def tb_284 : Nat → mx_O := (mx_node 10 (mx_node 4 (mx_node 2 (mx_leaf 0 (mx_const (.int 0) 2)) (mx_leaf 2 (mx_aload 0 4))) (mx_node 6 (mx_leaf 4 (mx_istore 3 6)) (mx_leaf 6 (mx_iload 3 10)))) (mx_node 14 (mx_node 12 (mx_leaf 10 (mx_aload 0 12)) (mx_leaf 12 (mx_iload 1 14))) (mx_node 17 (mx_leaf 14 (mx_iinc 2 1 17)) (mx_node 20 (mx_leaf 17 (mx_goto 5)) (mx_leaf 20 (mx_vret))))))
set_option maxRecDepth 100000 in
noncomputable def tb_285 : Nat → mx_O := (mx_node 12 (mx_node 4 (mx_node 2 (mx_leaf 0 (mx_const (.int 0) 2)) (mx_leaf 2 (mx_aload 0 4))) (mx_node 6 (mx_leaf 4 (mx_istore 4 6)) (mx_node 9 (mx_leaf 6 (mx_iload 3 9)) (mx_leaf 9 (mx_icmp_ge 22 12))))) (mx_node 16 (mx_node 14 (mx_leaf 12 (mx_aload 0 14)) (mx_leaf 14 (mx_lload 1 16))) (mx_node 19 (mx_leaf 16 (mx_iinc 3 1 19)) (mx_node 22 (mx_leaf 19 (mx_goto 6)) (mx_leaf 22 (mx_vret))))))
end
section
def mn_1 : MethodName := ⟨"TitheHeap$Atlas", "<init>", "()V"⟩
def mn_2 : MethodName := ⟨"TitheHeap$Atlas", "waysOf", "(II)I"⟩
def mn_3 : MethodName := ⟨"TitheHeap$Atlas", "lay", "(I)V"⟩
def mn_4 : MethodName := ⟨"TitheHeap$Atlas", "nextRow", "(I)I"⟩
def mn_5 : MethodName := ⟨"TitheHeap$Atlas", "heapsOf", "(I)I"⟩
def mn_6 : MethodName := ⟨"TitheHeap$Atlas", "sizeOf", "(II)I"⟩
def mn_7 : MethodName := ⟨"TitheHeap$Atlas", "placeOf", "(II)I"⟩
def mn_8 : MethodName := ⟨"TitheHeap$Atlas", "tally", "(I[I)V"⟩
def mn_9 : MethodName := ⟨"TitheHeap$Atlas", "numberOf", "([I)I"⟩
def mn_10 : MethodName := ⟨"TitheHeap$Atlas", "liesUnder", "(II)Z"⟩
def mn_11 : MethodName := ⟨"TitheHeap$Draws", "<init>", "(I)V"⟩
def mn_12 : MethodName := ⟨"TitheHeap$Draws", "draw", "(I)I"⟩
def mn_13 : MethodName := ⟨"TitheHeap$Draws", "nextDeed", "()I"⟩
def mn_14 : MethodName := ⟨"TitheHeap$Going", "<init>", "(LTitheHeap$Atlas;LTitheHeap$Mill;)V"⟩
def mn_15 : MethodName := ⟨"TitheHeap$Going", "walk", "(I)V"⟩
def mn_16 : MethodName := ⟨"TitheHeap$Going", "standAfter", "(J)I"⟩
def mn_17 : MethodName := ⟨"TitheHeap$Going", "leadingTo", "(II)I"⟩
def mn_18 : MethodName := ⟨"TitheHeap$Going", "survey", "()V"⟩
def mn_19 : MethodName := ⟨"TitheHeap$Going", "takeAway", "()I"⟩
def mn_20 : MethodName := ⟨"TitheHeap$Going", "nameRounds", "()V"⟩
def mn_21 : MethodName := ⟨"TitheHeap$Going", "sameRound", "(I)I"⟩
def mn_22 : MethodName := ⟨"TitheHeap$Laws", "<init>", "([I[II)V"⟩
def mn_23 : MethodName := ⟨"TitheHeap$Mill", "<init>", "(LTitheHeap$Atlas;)V"⟩
def mn_24 : MethodName := ⟨"TitheHeap$Mill", "begin", "(LTitheHeap$Laws;II)V"⟩
def mn_25 : MethodName := ⟨"TitheHeap$Mill", "turnTo", "(I)V"⟩
def mn_26 : MethodName := ⟨"TitheHeap$Mill", "behind", "(II)I"⟩
def mn_27 : MethodName := ⟨"TitheHeap$Mill", "calmlyBehind", "(I)I"⟩
def mn_28 : MethodName := ⟨"TitheHeap$Mill", "behindLot", "(II)I"⟩
def mn_29 : MethodName := ⟨"TitheHeap$Mill", "workOut", "(II)I"⟩
def mn_30 : MethodName := ⟨"TitheHeap$Mill", "gift", "(III)I"⟩
def mn_31 : MethodName := ⟨"TitheHeap$Mill", "worth", "([I)I"⟩
def mn_32 : MethodName := ⟨"TitheHeap$Moment", "<init>", "()V"⟩
def mn_33 : MethodName := ⟨"TitheHeap$Moment", "copy", "(LTitheHeap$Moment;)V"⟩
def mn_34 : MethodName := ⟨"TitheHeap$Past", "<init>", "()V"⟩
def mn_35 : MethodName := ⟨"TitheHeap$Past", "keep", "(LTitheHeap$Moment;)V"⟩
def mn_36 : MethodName := ⟨"TitheHeap$Past", "goBack", "(LTitheHeap$Moment;I)V"⟩
def mn_37 : MethodName := ⟨"TitheHeap$Reader", "<init>", "()V"⟩
def mn_38 : MethodName := ⟨"TitheHeap$Reader", "read", "([BI)V"⟩
def mn_39 : MethodName := ⟨"TitheHeap$Reader", "laws", "()LTitheHeap$Laws;"⟩
def mn_40 : MethodName := ⟨"TitheHeap$Reader", "readLine", "()V"⟩
def mn_41 : MethodName := ⟨"TitheHeap$Reader", "beginLaw", "()V"⟩
def mn_42 : MethodName := ⟨"TitheHeap$Reader", "sum", "(I)V"⟩
def mn_43 : MethodName := ⟨"TitheHeap$Reader", "term", "(I)V"⟩
def mn_44 : MethodName := ⟨"TitheHeap$Reader", "atom", "(I)V"⟩
def mn_45 : MethodName := ⟨"TitheHeap$Reader", "name", "(I)V"⟩
def mn_46 : MethodName := ⟨"TitheHeap$Reader", "choice", "(I)V"⟩
def mn_47 : MethodName := ⟨"TitheHeap$Reader", "truth", "(I)V"⟩
def mn_48 : MethodName := ⟨"TitheHeap$Reader", "both", "(I)V"⟩
def mn_49 : MethodName := ⟨"TitheHeap$Reader", "unit", "(I)V"⟩
def mn_50 : MethodName := ⟨"TitheHeap$Reader", "comparison", "(I)V"⟩
def mn_51 : MethodName := ⟨"TitheHeap$Reader", "enter", "(I)Z"⟩
def mn_52 : MethodName := ⟨"TitheHeap$Reader", "emit", "(I)V"⟩
def mn_53 : MethodName := ⟨"TitheHeap$Reader", "expect", "(I)V"⟩
def mn_54 : MethodName := ⟨"TitheHeap$Reader", "takeNumber", "(II)I"⟩
def mn_55 : MethodName := ⟨"TitheHeap$Reader", "fail", "(I)V"⟩
def mn_56 : MethodName := ⟨"TitheHeap$Reader", "advance", "()V"⟩
def mn_57 : MethodName := ⟨"TitheHeap$Reader", "isWithin", "(III)Z"⟩
def mn_58 : MethodName := ⟨"TitheHeap$Reader", "readNumber", "()I"⟩
def mn_59 : MethodName := ⟨"TitheHeap$Reader", "readWord", "()I"⟩
def mn_60 : MethodName := ⟨"TitheHeap$Search", "<init>", "(LTitheHeap$Atlas;LTitheHeap$Mill;)V"⟩
def mn_61 : MethodName := ⟨"TitheHeap$Search", "reach", "(II)I"⟩
def mn_62 : MethodName := ⟨"TitheHeap$Search", "reachFrom", "(I)V"⟩
def mn_63 : MethodName := ⟨"TitheHeap$Search", "deedOnWay", "(II)I"⟩
def mn_64 : MethodName := ⟨"TitheHeap$Search", "longestKept", "(II)I"⟩
def mn_65 : MethodName := ⟨"TitheHeap$Search", "allSettled", "(III)Z"⟩
def mn_66 : MethodName := ⟨"TitheHeap$Search", "isBefore", "(II)Z"⟩
def mn_67 : MethodName := ⟨"TitheHeap$Search", "forcedWithin", "(II)I"⟩
def mn_68 : MethodName := ⟨"TitheHeap$Search", "forcingDeed", "(II)I"⟩
def mn_69 : MethodName := ⟨"TitheHeap$Search", "cannotEvade", "(II)Z"⟩
def mn_70 : MethodName := ⟨"TitheHeap$Spread", "<init>", "(LTitheHeap$Atlas;LTitheHeap$Mill;)V"⟩
def mn_71 : MethodName := ⟨"TitheHeap$Spread", "begin", "(I)V"⟩
def mn_72 : MethodName := ⟨"TitheHeap$Spread", "emptyLevel", "(I)Z"⟩
def mn_73 : MethodName := ⟨"TitheHeap$Spread", "stepByDeeds", "(II)V"⟩
def mn_74 : MethodName := ⟨"TitheHeap$Spread", "stepByLots", "(I)V"⟩
def mn_75 : MethodName := ⟨"TitheHeap$Spread", "withHeaps", "(III)J"⟩
def mn_76 : MethodName := ⟨"TitheHeap$Spread", "greatestSum", "(I)J"⟩
def mn_77 : MethodName := ⟨"TitheHeap$Spread", "prune", "(I)V"⟩
def mn_78 : MethodName := ⟨"TitheHeap$Spread", "firstDeed", "(II)I"⟩
def mn_79 : MethodName := ⟨"TitheHeap$Spread", "leadsOn", "(II)Z"⟩
def mn_80 : MethodName := ⟨"TitheHeap$Spread", "firstRowDeed", "(II)I"⟩
def mn_81 : MethodName := ⟨"TitheHeap$Spread", "deedBits", "(I)I"⟩
def mn_82 : MethodName := ⟨"TitheHeap$Tray", "<init>", "()V"⟩
def mn_83 : MethodName := ⟨"TitheHeap$Tray", "renew", "(II)V"⟩
def mn_84 : MethodName := ⟨"TitheHeap$Tray", "put", "(IJ)V"⟩
def mn_85 : MethodName := ⟨"TitheHeap$Tray", "numberAt", "(I)J"⟩
def mn_86 : MethodName := ⟨"TitheHeap$Tray", "allWithin", "(JJ)Z"⟩
def mn_87 : MethodName := ⟨"TitheHeap$Tray", "has", "(J)Z"⟩
def mn_88 : MethodName := ⟨"TitheHeap", "<init>", "()V"⟩
def mn_89 : MethodName := ⟨"TitheHeap", "feed", "(IIIII)I"⟩
def mn_90 : MethodName := ⟨"TitheHeap", "barn", "(I)I"⟩
def mn_91 : MethodName := ⟨"TitheHeap", "fault", "(I)I"⟩
def mn_92 : MethodName := ⟨"TitheHeap", "heap", "(I)I"⟩
def mn_93 : MethodName := ⟨"TitheHeap", "gives", "(I)I"⟩
def mn_94 : MethodName := ⟨"TitheHeap", "by", "(II)I"⟩
def mn_95 : MethodName := ⟨"TitheHeap", "moon", "(I)I"⟩
def mn_96 : MethodName := ⟨"TitheHeap", "moons", "(I)I"⟩
def mn_97 : MethodName := ⟨"TitheHeap", "split", "(II)I"⟩
def mn_98 : MethodName := ⟨"TitheHeap", "join", "(II)I"⟩
def mn_99 : MethodName := ⟨"TitheHeap", "season", "(I)I"⟩
def mn_100 : MethodName := ⟨"TitheHeap", "undo", "(I)I"⟩
def mn_101 : MethodName := ⟨"TitheHeap", "judge", "(II)I"⟩
def mn_102 : MethodName := ⟨"TitheHeap", "perform", "(I)I"⟩
def mn_103 : MethodName := ⟨"TitheHeap", "year", "(II)I"⟩
def mn_104 : MethodName := ⟨"TitheHeap", "at", "(J)I"⟩
def mn_105 : MethodName := ⟨"TitheHeap", "round", "(I)I"⟩
def mn_106 : MethodName := ⟨"TitheHeap", "all", "(I)I"⟩
def mn_107 : MethodName := ⟨"TitheHeap", "ahead", "(I)I"⟩
def mn_108 : MethodName := ⟨"TitheHeap", "soonest", "(I)I"⟩
def mn_109 : MethodName := ⟨"TitheHeap", "way", "(II)I"⟩
def mn_110 : MethodName := ⟨"TitheHeap", "rows", "(II)J"⟩
def mn_111 : MethodName := ⟨"TitheHeap", "keeps", "(I)I"⟩
def mn_112 : MethodName := ⟨"TitheHeap", "stands", "()I"⟩
def mn_113 : MethodName := ⟨"TitheHeap", "number", "(I)I"⟩
def mn_114 : MethodName := ⟨"TitheHeap", "bounded", "(II)I"⟩
def mn_115 : MethodName := ⟨"TitheHeap", "side", "()I"⟩
def mn_116 : MethodName := ⟨"TitheHeap", "under", "(I)I"⟩
def mn_117 : MethodName := ⟨"TitheHeap", "below", "()I"⟩
def mn_118 : MethodName := ⟨"TitheHeap", "counted", "(I)J"⟩
def mn_119 : MethodName := ⟨"TitheHeap", "countedBy", "(II)I"⟩
def mn_120 : MethodName := ⟨"TitheHeap", "spared", "(II)I"⟩
def mn_121 : MethodName := ⟨"TitheHeap", "seasons", "(I)I"⟩
def mn_122 : MethodName := ⟨"TitheHeap", "attempt", "(I)I"⟩
def mn_123 : MethodName := ⟨"TitheHeap", "forces", "(I)I"⟩
def mn_124 : MethodName := ⟨"TitheHeap", "best", "(I)I"⟩
def mn_125 : MethodName := ⟨"TitheHeap", "takes", "(I)I"⟩
def mn_126 : MethodName := ⟨"TitheHeap", "chance", "(III)I"⟩
def mn_127 : MethodName := ⟨"TitheHeap", "mean", "(II)I"⟩
def mn_128 : MethodName := ⟨"TitheHeap", "numbers", "(III)I"⟩
def mn_129 : MethodName := ⟨"TitheHeap", "write", "(IIJ)J"⟩
def mn_130 : MethodName := ⟨"TitheHeap", "lists", "(II)I"⟩
def mn_131 : MethodName := ⟨"TitheHeap", "image", "(I)I"⟩
def mn_132 : MethodName := ⟨"TitheHeap", "restore", "(I)I"⟩
def mn_133 : MethodName := ⟨"TitheHeap", "count", "(I)I"⟩
def mn_134 : MethodName := ⟨"TitheHeap", "feedInt", "(I)V"⟩
def mn_135 : MethodName := ⟨"TitheHeap", "goOnFrom", "()V"⟩
def mn_136 : MethodName := ⟨"TitheHeap", "landed", "(I)I"⟩
def mn_137 : MethodName := ⟨"TitheHeap", "land", "()V"⟩
def mn_138 : MethodName := ⟨"TitheHeap", "doDeeds", "(LTitheHeap$Tray;)I"⟩
def mn_139 : MethodName := ⟨"TitheHeap", "doDeed", "(LTitheHeap$Moment;J)I"⟩
def mn_140 : MethodName := ⟨"TitheHeap", "moonDeed", "(LTitheHeap$Moment;I)I"⟩
def mn_141 : MethodName := ⟨"TitheHeap", "splitDeed", "(LTitheHeap$Moment;II)I"⟩
def mn_142 : MethodName := ⟨"TitheHeap", "joinDeed", "(LTitheHeap$Moment;II)I"⟩
def mn_143 : MethodName := ⟨"TitheHeap", "seasonDeed", "(LTitheHeap$Moment;I)I"⟩
def mn_144 : MethodName := ⟨"TitheHeap", "noSuchTray", "(I)Z"⟩
def mn_145 : MethodName := ⟨"TitheHeap", "told", "(I)I"⟩
def mn_146 : MethodName := ⟨"TitheHeap", "countsRefusal", "(III)I"⟩
def mn_147 : MethodName := ⟨"TitheHeap", "spreadCounted", "(LTitheHeap$Tray;)V"⟩
def mn_148 : MethodName := ⟨"TitheHeap", "spreadByLots", "(I)V"⟩
def mn_149 : MethodName := ⟨"TitheHeap", "calmSeasons", "(LTitheHeap$Tray;)I"⟩
def mn_150 : MethodName := ⟨"TitheHeap", "standBehind", "(LTitheHeap$Tray;)I"⟩
def mn_151 : MethodName := ⟨"TitheHeap", "noteOutcomes", "(II)V"⟩
def mn_152 : MethodName := ⟨"TitheHeap", "mostAlike", "(II)I"⟩
def mn_153 : MethodName := ⟨"TitheHeap", "lowestTerm", "(JII)I"⟩
def mn_154 : MethodName := ⟨"TitheHeapModel", "within", "(JJJ)Z"⟩
def mn_155 : MethodName := ⟨"TitheHeapModel", "<init>", "()V"⟩
def mn_156 : MethodName := ⟨"TitheHeapModel", "plain", "([I)V"⟩
def mn_157 : MethodName := ⟨"TitheHeapModel", "feed", "(IIIII)I"⟩
def mn_158 : MethodName := ⟨"TitheHeapModel", "see", "(I)I"⟩
def mn_159 : MethodName := ⟨"TitheHeapModel", "isSmall", "(I)Z"⟩
def mn_160 : MethodName := ⟨"TitheHeapModel", "isDigit", "(I)Z"⟩
def mn_161 : MethodName := ⟨"TitheHeapModel", "keyAt", "()I"⟩
def mn_162 : MethodName := ⟨"TitheHeapModel", "next", "()V"⟩
def mn_163 : MethodName := ⟨"TitheHeapModel", "fails", "(I)V"⟩
def mn_164 : MethodName := ⟨"TitheHeapModel", "is", "(I)Z"⟩
def mn_165 : MethodName := ⟨"TitheHeapModel", "eats", "(I)Z"⟩
def mn_166 : MethodName := ⟨"TitheHeapModel", "takesOne", "(II)I"⟩
def mn_167 : MethodName := ⟨"TitheHeapModel", "isIn", "(JI)Z"⟩
def mn_168 : MethodName := ⟨"TitheHeapModel", "wordOf", "(I)I"⟩
def mn_169 : MethodName := ⟨"TitheHeapModel", "codes", "(I)V"⟩
def mn_170 : MethodName := ⟨"TitheHeapModel", "goesIn", "(I)Z"⟩
def mn_171 : MethodName := ⟨"TitheHeapModel", "readAtom", "(I)V"⟩
def mn_172 : MethodName := ⟨"TitheHeapModel", "readIf", "(I)V"⟩
def mn_173 : MethodName := ⟨"TitheHeapModel", "readTerm", "(I)V"⟩
def mn_174 : MethodName := ⟨"TitheHeapModel", "readSum", "(I)V"⟩
def mn_175 : MethodName := ⟨"TitheHeapModel", "readUnit", "(I)V"⟩
def mn_176 : MethodName := ⟨"TitheHeapModel", "readBoth", "(I)V"⟩
def mn_177 : MethodName := ⟨"TitheHeapModel", "readTruth", "(I)V"⟩
def mn_178 : MethodName := ⟨"TitheHeapModel", "readHeap", "()V"⟩
def mn_179 : MethodName := ⟨"TitheHeapModel", "readLaw", "(I)V"⟩
def mn_180 : MethodName := ⟨"TitheHeapModel", "readLine", "()V"⟩
def mn_181 : MethodName := ⟨"TitheHeapModel", "closes", "()V"⟩
def mn_182 : MethodName := ⟨"TitheHeapModel", "barn", "(I)I"⟩
def mn_183 : MethodName := ⟨"TitheHeapModel", "fault", "(I)I"⟩
def mn_184 : MethodName := ⟨"TitheHeapModel", "laysAll", "()V"⟩
def mn_185 : MethodName := ⟨"TitheHeapModel", "goesAll", "(III)V"⟩
def mn_186 : MethodName := ⟨"TitheHeapModel", "begins", "()V"⟩
def mn_187 : MethodName := ⟨"TitheHeapModel", "laysHeaps", "(I)V"⟩
def mn_188 : MethodName := ⟨"TitheHeapModel", "numberNow", "()I"⟩
def mn_189 : MethodName := ⟨"TitheHeapModel", "isBehind", "(I)Z"⟩
def mn_190 : MethodName := ⟨"TitheHeapModel", "sizeIn", "(II)I"⟩
def mn_191 : MethodName := ⟨"TitheHeapModel", "manyIn", "(I)I"⟩
def mn_192 : MethodName := ⟨"TitheHeapModel", "placeIn", "(II)I"⟩
def mn_193 : MethodName := ⟨"TitheHeapModel", "between", "(III)I"⟩
def mn_194 : MethodName := ⟨"TitheHeapModel", "reckons", "(I)I"⟩
def mn_195 : MethodName := ⟨"TitheHeapModel", "givesIn", "(III)I"⟩
def mn_196 : MethodName := ⟨"TitheHeapModel", "moonBut", "(III)I"⟩
def mn_197 : MethodName := ⟨"TitheHeapModel", "isMoon", "(II)Z"⟩
def mn_198 : MethodName := ⟨"TitheHeapModel", "moonTo", "(III)I"⟩
def mn_199 : MethodName := ⟨"TitheHeapModel", "heap", "(I)I"⟩
def mn_200 : MethodName := ⟨"TitheHeapModel", "gives", "(I)I"⟩
def mn_201 : MethodName := ⟨"TitheHeapModel", "by", "(II)I"⟩
def mn_202 : MethodName := ⟨"TitheHeapModel", "stores", "()V"⟩
def mn_203 : MethodName := ⟨"TitheHeapModel", "isAgain", "()V"⟩
def mn_204 : MethodName := ⟨"TitheHeapModel", "notes", "()V"⟩
def mn_205 : MethodName := ⟨"TitheHeapModel", "goesMoon", "(I)V"⟩
def mn_206 : MethodName := ⟨"TitheHeapModel", "moon", "(I)I"⟩
def mn_207 : MethodName := ⟨"TitheHeapModel", "moons", "(I)I"⟩
def mn_208 : MethodName := ⟨"TitheHeapModel", "isSize", "(J)Z"⟩
def mn_209 : MethodName := ⟨"TitheHeapModel", "whySplit", "(II)I"⟩
def mn_210 : MethodName := ⟨"TitheHeapModel", "splits", "(II)V"⟩
def mn_211 : MethodName := ⟨"TitheHeapModel", "split", "(II)I"⟩
def mn_212 : MethodName := ⟨"TitheHeapModel", "whyJoin", "(II)I"⟩
def mn_213 : MethodName := ⟨"TitheHeapModel", "joins", "(II)V"⟩
def mn_214 : MethodName := ⟨"TitheHeapModel", "join", "(II)I"⟩
def mn_215 : MethodName := ⟨"TitheHeapModel", "season", "(I)I"⟩
def mn_216 : MethodName := ⟨"TitheHeapModel", "undo", "(I)I"⟩
def mn_217 : MethodName := ⟨"TitheHeapModel", "whyNot", "(J)I"⟩
def mn_218 : MethodName := ⟨"TitheHeapModel", "does", "(I)V"⟩
def mn_219 : MethodName := ⟨"TitheHeapModel", "tells", "(I)I"⟩
def mn_220 : MethodName := ⟨"TitheHeapModel", "noTray", "(I)I"⟩
def mn_221 : MethodName := ⟨"TitheHeapModel", "judge", "(II)I"⟩
def mn_222 : MethodName := ⟨"TitheHeapModel", "perform", "(I)I"⟩
def mn_223 : MethodName := ⟨"TitheHeapModel", "draw", "(I)I"⟩
def mn_224 : MethodName := ⟨"TitheHeapModel", "drawn", "()I"⟩
def mn_225 : MethodName := ⟨"TitheHeapModel", "year", "(II)I"⟩
def mn_226 : MethodName := ⟨"TitheHeapModel", "laysGoing", "()V"⟩
def mn_227 : MethodName := ⟨"TitheHeapModel", "laysLine", "(I)V"⟩
def mn_228 : MethodName := ⟨"TitheHeapModel", "at", "(J)I"⟩
def mn_229 : MethodName := ⟨"TitheHeapModel", "round", "(I)I"⟩
def mn_230 : MethodName := ⟨"TitheHeapModel", "laysAgain", "()V"⟩
def mn_231 : MethodName := ⟨"TitheHeapModel", "edens", "()I"⟩
def mn_232 : MethodName := ⟨"TitheHeapModel", "roundOf", "(I)I"⟩
def mn_233 : MethodName := ⟨"TitheHeapModel", "all", "(I)I"⟩
def mn_234 : MethodName := ⟨"TitheHeapModel", "ahead", "(I)I"⟩
def mn_235 : MethodName := ⟨"TitheHeapModel", "laysThen", "()V"⟩
def mn_236 : MethodName := ⟨"TitheHeapModel", "farBy", "(II)I"⟩
def mn_237 : MethodName := ⟨"TitheHeapModel", "laysFar", "(I)I"⟩
def mn_238 : MethodName := ⟨"TitheHeapModel", "toldFar", "(I)I"⟩
def mn_239 : MethodName := ⟨"TitheHeapModel", "noTold", "(I)I"⟩
def mn_240 : MethodName := ⟨"TitheHeapModel", "standTold", "(I)I"⟩
def mn_241 : MethodName := ⟨"TitheHeapModel", "soonest", "(I)I"⟩
def mn_242 : MethodName := ⟨"TitheHeapModel", "way", "(II)I"⟩
def mn_243 : MethodName := ⟨"TitheHeapModel", "beginsMany", "()V"⟩
def mn_244 : MethodName := ⟨"TitheHeapModel", "isThen", "()V"⟩
def mn_245 : MethodName := ⟨"TitheHeapModel", "rows", "(II)J"⟩
def mn_246 : MethodName := ⟨"TitheHeapModel", "keptBy", "(III)I"⟩
def mn_247 : MethodName := ⟨"TitheHeapModel", "keeps", "(I)I"⟩
def mn_248 : MethodName := ⟨"TitheHeapModel", "stands", "()I"⟩
def mn_249 : MethodName := ⟨"TitheHeapModel", "number", "(I)I"⟩
def mn_250 : MethodName := ⟨"TitheHeapModel", "bounded", "(II)I"⟩
def mn_251 : MethodName := ⟨"TitheHeapModel", "side", "()I"⟩
def mn_252 : MethodName := ⟨"TitheHeapModel", "isUnder", "(II)Z"⟩
def mn_253 : MethodName := ⟨"TitheHeapModel", "under", "(I)I"⟩
def mn_254 : MethodName := ⟨"TitheHeapModel", "below", "()I"⟩
def mn_255 : MethodName := ⟨"TitheHeapModel", "noCounted", "(IZ)I"⟩
def mn_256 : MethodName := ⟨"TitheHeapModel", "isSo", "(III)Z"⟩
def mn_257 : MethodName := ⟨"TitheHeapModel", "laysCounted", "(I)J"⟩
def mn_258 : MethodName := ⟨"TitheHeapModel", "counted", "(I)J"⟩
def mn_259 : MethodName := ⟨"TitheHeapModel", "countedBy", "(II)I"⟩
def mn_260 : MethodName := ⟨"TitheHeapModel", "spared", "(II)I"⟩
def mn_261 : MethodName := ⟨"TitheHeapModel", "seasonsOf", "(I)I"⟩
def mn_262 : MethodName := ⟨"TitheHeapModel", "seasons", "(I)I"⟩
def mn_263 : MethodName := ⟨"TitheHeapModel", "mostOften", "(II)I"⟩
def mn_264 : MethodName := ⟨"TitheHeapModel", "attempt", "(I)I"⟩
def mn_265 : MethodName := ⟨"TitheHeapModel", "firstBy", "(II)I"⟩
def mn_266 : MethodName := ⟨"TitheHeapModel", "otherAt", "(I)I"⟩
def mn_267 : MethodName := ⟨"TitheHeapModel", "laysForce", "(I)I"⟩
def mn_268 : MethodName := ⟨"TitheHeapModel", "forces", "(I)I"⟩
def mn_269 : MethodName := ⟨"TitheHeapModel", "best", "(I)I"⟩
def mn_270 : MethodName := ⟨"TitheHeapModel", "takes", "(I)I"⟩
def mn_271 : MethodName := ⟨"TitheHeapModel", "laysLikely", "(I)V"⟩
def mn_272 : MethodName := ⟨"TitheHeapModel", "wholeOf", "(I)J"⟩
def mn_273 : MethodName := ⟨"TitheHeapModel", "common", "(JJ)J"⟩
def mn_274 : MethodName := ⟨"TitheHeapModel", "partOf", "(JJI)I"⟩
def mn_275 : MethodName := ⟨"TitheHeapModel", "chance", "(III)I"⟩
def mn_276 : MethodName := ⟨"TitheHeapModel", "mean", "(II)I"⟩
def mn_277 : MethodName := ⟨"TitheHeapModel", "cut", "(JI)J"⟩
def mn_278 : MethodName := ⟨"TitheHeapModel", "numbers", "(III)I"⟩
def mn_279 : MethodName := ⟨"TitheHeapModel", "write", "(IIJ)J"⟩
def mn_280 : MethodName := ⟨"TitheHeapModel", "lists", "(II)I"⟩
def mn_281 : MethodName := ⟨"TitheHeapModel", "image", "(I)I"⟩
def mn_282 : MethodName := ⟨"TitheHeapModel", "restore", "(I)I"⟩
def mn_283 : MethodName := ⟨"TitheHeapModel", "count", "(I)I"⟩
def mn_284 : MethodName := ⟨"java/util/Arrays", "fill", "([II)V"⟩
def mn_285 : MethodName := ⟨"java/util/Arrays", "fill", "([JJ)V"⟩
noncomputable def in_0 : mx_I := (mn_1, prog_2_method_1_code, 4, (Option.none : Option Jvm.ClassFile.FieldType), fun _ => mx_stuck)
noncomputable def in_1 : mx_I := (mn_1, prog_2_method_1_code, 4, (Option.none : Option Jvm.ClassFile.FieldType), tb_1)
noncomputable def in_2 : mx_I := (mn_2, prog_2_method_2_code, 3, (Option.some Jvm.ClassFile.FieldType.int), tb_2)
noncomputable def in_3 : mx_I := (mn_3, prog_2_method_3_code, 5, (Option.none : Option Jvm.ClassFile.FieldType), tb_3)
noncomputable def in_4 : mx_I := (mn_4, prog_2_method_4_code, 5, (Option.some Jvm.ClassFile.FieldType.int), tb_4)
noncomputable def in_5 : mx_I := (mn_5, prog_2_method_5_code, 2, (Option.some Jvm.ClassFile.FieldType.int), tb_5)
noncomputable def in_6 : mx_I := (mn_6, prog_2_method_6_code, 3, (Option.some Jvm.ClassFile.FieldType.int), tb_6)
noncomputable def in_7 : mx_I := (mn_7, prog_2_method_7_code, 5, (Option.some Jvm.ClassFile.FieldType.int), tb_7)
noncomputable def in_8 : mx_I := (mn_8, prog_2_method_8_code, 5, (Option.none : Option Jvm.ClassFile.FieldType), tb_8)
noncomputable def in_9 : mx_I := (mn_9, prog_2_method_9_code, 6, (Option.some Jvm.ClassFile.FieldType.int), tb_9)
noncomputable def in_10 : mx_I := (mn_10, prog_2_method_10_code, 5, (Option.some Jvm.ClassFile.FieldType.boolean), tb_10)
noncomputable def in_11 : mx_I := (mn_11, prog_3_method_1_code, 2, (Option.none : Option Jvm.ClassFile.FieldType), tb_11)
noncomputable def in_12 : mx_I := (mn_12, prog_3_method_2_code, 2, (Option.some Jvm.ClassFile.FieldType.int), tb_12)
noncomputable def in_13 : mx_I := (mn_13, prog_3_method_3_code, 3, (Option.some Jvm.ClassFile.FieldType.int), tb_13)
noncomputable def in_14 : mx_I := (mn_14, prog_4_method_1_code, 3, (Option.none : Option Jvm.ClassFile.FieldType), tb_14)
noncomputable def in_15 : mx_I := (mn_15, prog_4_method_2_code, 4, (Option.none : Option Jvm.ClassFile.FieldType), tb_15)
noncomputable def in_16 : mx_I := (mn_16, prog_4_method_3_code, 5, (Option.some Jvm.ClassFile.FieldType.int), tb_16)
noncomputable def in_17 : mx_I := (mn_17, prog_4_method_4_code, 7, (Option.some Jvm.ClassFile.FieldType.int), tb_17)
noncomputable def in_18 : mx_I := (mn_18, prog_4_method_5_code, 5, (Option.none : Option Jvm.ClassFile.FieldType), tb_18)
noncomputable def in_19 : mx_I := (mn_19, prog_4_method_6_code, 4, (Option.some Jvm.ClassFile.FieldType.int), tb_19)
noncomputable def in_20 : mx_I := (mn_20, prog_4_method_7_code, 4, (Option.none : Option Jvm.ClassFile.FieldType), tb_20)
noncomputable def in_21 : mx_I := (mn_21, prog_4_method_8_code, 4, (Option.some Jvm.ClassFile.FieldType.int), tb_21)
noncomputable def in_22 : mx_I := (mn_22, prog_5_method_1_code, 4, (Option.none : Option Jvm.ClassFile.FieldType), tb_22)
noncomputable def in_23 : mx_I := (mn_23, prog_6_method_1_code, 2, (Option.none : Option Jvm.ClassFile.FieldType), tb_23)
noncomputable def in_24 : mx_I := (mn_24, prog_6_method_2_code, 4, (Option.none : Option Jvm.ClassFile.FieldType), tb_24)
noncomputable def in_25 : mx_I := (mn_25, prog_6_method_3_code, 2, (Option.none : Option Jvm.ClassFile.FieldType), tb_25)
noncomputable def in_26 : mx_I := (mn_26, prog_6_method_4_code, 6, (Option.some Jvm.ClassFile.FieldType.int), tb_26)
noncomputable def in_27 : mx_I := (mn_27, prog_6_method_5_code, 2, (Option.some Jvm.ClassFile.FieldType.int), tb_27)
noncomputable def in_28 : mx_I := (mn_28, prog_6_method_6_code, 4, (Option.some Jvm.ClassFile.FieldType.int), tb_28)
noncomputable def in_29 : mx_I := (mn_29, prog_6_method_7_code, 8, (Option.some Jvm.ClassFile.FieldType.int), tb_29)
noncomputable def in_30 : mx_I := (mn_30, prog_6_method_8_code, 6, (Option.some Jvm.ClassFile.FieldType.int), tb_30)
noncomputable def in_31 : mx_I := (mn_31, prog_6_method_9_code, 10, (Option.some Jvm.ClassFile.FieldType.int), tb_31)
noncomputable def in_32 : mx_I := (mn_32, prog_7_method_1_code, 1, (Option.none : Option Jvm.ClassFile.FieldType), tb_32)
noncomputable def in_33 : mx_I := (mn_33, prog_7_method_2_code, 2, (Option.none : Option Jvm.ClassFile.FieldType), tb_33)
noncomputable def in_34 : mx_I := (mn_34, prog_8_method_1_code, 1, (Option.none : Option Jvm.ClassFile.FieldType), tb_34)
noncomputable def in_35 : mx_I := (mn_35, prog_8_method_2_code, 2, (Option.none : Option Jvm.ClassFile.FieldType), tb_35)
noncomputable def in_36 : mx_I := (mn_36, prog_8_method_3_code, 3, (Option.none : Option Jvm.ClassFile.FieldType), tb_36)
noncomputable def in_37 : mx_I := (mn_37, prog_9_method_1_code, 1, (Option.none : Option Jvm.ClassFile.FieldType), tb_37)
noncomputable def in_38 : mx_I := (mn_38, prog_9_method_2_code, 4, (Option.none : Option Jvm.ClassFile.FieldType), tb_38)
noncomputable def in_39 : mx_I := (mn_39, prog_9_method_3_code, 1, (Option.some (Jvm.ClassFile.FieldType.object "TitheHeap$Laws")), tb_39)
noncomputable def in_40 : mx_I := (mn_40, prog_9_method_4_code, 2, (Option.none : Option Jvm.ClassFile.FieldType), tb_40)
noncomputable def in_41 : mx_I := (mn_41, prog_9_method_5_code, 1, (Option.none : Option Jvm.ClassFile.FieldType), tb_41)
noncomputable def in_42 : mx_I := (mn_42, prog_9_method_6_code, 4, (Option.none : Option Jvm.ClassFile.FieldType), tb_42)
noncomputable def in_43 : mx_I := (mn_43, prog_9_method_7_code, 3, (Option.none : Option Jvm.ClassFile.FieldType), tb_43)
noncomputable def in_44 : mx_I := (mn_44, prog_9_method_8_code, 2, (Option.none : Option Jvm.ClassFile.FieldType), tb_44)
noncomputable def in_45 : mx_I := (mn_45, prog_9_method_9_code, 2, (Option.none : Option Jvm.ClassFile.FieldType), tb_45)
noncomputable def in_46 : mx_I := (mn_46, prog_9_method_10_code, 2, (Option.none : Option Jvm.ClassFile.FieldType), tb_46)
noncomputable def in_47 : mx_I := (mn_47, prog_9_method_11_code, 3, (Option.none : Option Jvm.ClassFile.FieldType), tb_47)
noncomputable def in_48 : mx_I := (mn_48, prog_9_method_12_code, 3, (Option.none : Option Jvm.ClassFile.FieldType), tb_48)
noncomputable def in_49 : mx_I := (mn_49, prog_9_method_13_code, 2, (Option.none : Option Jvm.ClassFile.FieldType), tb_49)
noncomputable def in_50 : mx_I := (mn_50, prog_9_method_14_code, 3, (Option.none : Option Jvm.ClassFile.FieldType), tb_50)
noncomputable def in_51 : mx_I := (mn_51, prog_9_method_15_code, 2, (Option.some Jvm.ClassFile.FieldType.boolean), tb_51)
noncomputable def in_52 : mx_I := (mn_52, prog_9_method_16_code, 2, (Option.none : Option Jvm.ClassFile.FieldType), tb_52)
noncomputable def in_53 : mx_I := (mn_53, prog_9_method_17_code, 2, (Option.none : Option Jvm.ClassFile.FieldType), tb_53)
noncomputable def in_54 : mx_I := (mn_54, prog_9_method_18_code, 4, (Option.some Jvm.ClassFile.FieldType.int), tb_54)
noncomputable def in_55 : mx_I := (mn_55, prog_9_method_19_code, 2, (Option.none : Option Jvm.ClassFile.FieldType), tb_55)
noncomputable def in_56 : mx_I := (mn_56, prog_9_method_20_code, 2, (Option.none : Option Jvm.ClassFile.FieldType), tb_56)
noncomputable def in_57 : mx_I := (mn_57, prog_9_method_21_code, 4, (Option.some Jvm.ClassFile.FieldType.boolean), tb_57)
noncomputable def in_58 : mx_I := (mn_58, prog_9_method_22_code, 1, (Option.some Jvm.ClassFile.FieldType.int), tb_58)
noncomputable def in_59 : mx_I := (mn_59, prog_9_method_23_code, 7, (Option.some Jvm.ClassFile.FieldType.int), tb_59)
noncomputable def in_60 : mx_I := (mn_60, prog_10_method_1_code, 3, (Option.none : Option Jvm.ClassFile.FieldType), tb_60)
noncomputable def in_61 : mx_I := (mn_61, prog_10_method_2_code, 4, (Option.some Jvm.ClassFile.FieldType.int), tb_61)
noncomputable def in_62 : mx_I := (mn_62, prog_10_method_3_code, 5, (Option.none : Option Jvm.ClassFile.FieldType), tb_62)
noncomputable def in_63 : mx_I := (mn_63, prog_10_method_4_code, 5, (Option.some Jvm.ClassFile.FieldType.int), tb_63)
noncomputable def in_64 : mx_I := (mn_64, prog_10_method_5_code, 6, (Option.some Jvm.ClassFile.FieldType.int), tb_64)
noncomputable def in_65 : mx_I := (mn_65, prog_10_method_6_code, 7, (Option.some Jvm.ClassFile.FieldType.boolean), tb_65)
noncomputable def in_66 : mx_I := (mn_66, prog_10_method_7_code, 2, (Option.some Jvm.ClassFile.FieldType.boolean), tb_66)
noncomputable def in_67 : mx_I := (mn_67, prog_10_method_8_code, 6, (Option.some Jvm.ClassFile.FieldType.int), tb_67)
noncomputable def in_68 : mx_I := (mn_68, prog_10_method_9_code, 6, (Option.some Jvm.ClassFile.FieldType.int), tb_68)
noncomputable def in_69 : mx_I := (mn_69, prog_10_method_10_code, 6, (Option.some Jvm.ClassFile.FieldType.boolean), tb_69)
noncomputable def in_70 : mx_I := (mn_70, prog_11_method_1_code, 3, (Option.none : Option Jvm.ClassFile.FieldType), tb_70)
noncomputable def in_71 : mx_I := (mn_71, prog_11_method_2_code, 2, (Option.none : Option Jvm.ClassFile.FieldType), tb_71)
noncomputable def in_72 : mx_I := (mn_72, prog_11_method_3_code, 3, (Option.some Jvm.ClassFile.FieldType.boolean), tb_72)
noncomputable def in_73 : mx_I := (mn_73, prog_11_method_4_code, 8, (Option.none : Option Jvm.ClassFile.FieldType), tb_73)
noncomputable def in_74 : mx_I := (mn_74, prog_11_method_5_code, 6, (Option.none : Option Jvm.ClassFile.FieldType), tb_74)
noncomputable def in_75 : mx_I := (mn_75, prog_11_method_6_code, 7, (Option.some Jvm.ClassFile.FieldType.long), tb_75)
noncomputable def in_76 : mx_I := (mn_76, prog_11_method_7_code, 5, (Option.some Jvm.ClassFile.FieldType.long), tb_76)
noncomputable def in_77 : mx_I := (mn_77, prog_11_method_8_code, 5, (Option.none : Option Jvm.ClassFile.FieldType), tb_77)
noncomputable def in_78 : mx_I := (mn_78, prog_11_method_9_code, 5, (Option.some Jvm.ClassFile.FieldType.int), tb_78)
noncomputable def in_79 : mx_I := (mn_79, prog_11_method_10_code, 3, (Option.some Jvm.ClassFile.FieldType.boolean), tb_79)
noncomputable def in_80 : mx_I := (mn_80, prog_11_method_11_code, 5, (Option.some Jvm.ClassFile.FieldType.int), tb_80)
noncomputable def in_81 : mx_I := (mn_81, prog_11_method_12_code, 6, (Option.some Jvm.ClassFile.FieldType.int), tb_81)
noncomputable def in_82 : mx_I := (mn_82, prog_12_method_1_code, 1, (Option.none : Option Jvm.ClassFile.FieldType), tb_82)
noncomputable def in_83 : mx_I := (mn_83, prog_12_method_2_code, 3, (Option.none : Option Jvm.ClassFile.FieldType), tb_83)
noncomputable def in_84 : mx_I := (mn_84, prog_12_method_3_code, 4, (Option.none : Option Jvm.ClassFile.FieldType), tb_84)
noncomputable def in_85 : mx_I := (mn_85, prog_12_method_4_code, 2, (Option.some Jvm.ClassFile.FieldType.long), tb_85)
noncomputable def in_86 : mx_I := (mn_86, prog_12_method_5_code, 6, (Option.some Jvm.ClassFile.FieldType.boolean), tb_86)
noncomputable def in_87 : mx_I := (mn_87, prog_12_method_6_code, 4, (Option.some Jvm.ClassFile.FieldType.boolean), tb_87)
noncomputable def in_88 : mx_I := (mn_88, prog_1_method_1_code, 2, (Option.none : Option Jvm.ClassFile.FieldType), tb_88)
noncomputable def in_89 : mx_I := (mn_89, prog_1_method_2_code, 6, (Option.some Jvm.ClassFile.FieldType.int), tb_89)
noncomputable def in_90 : mx_I := (mn_90, prog_1_method_3_code, 2, (Option.some Jvm.ClassFile.FieldType.int), tb_90)
noncomputable def in_91 : mx_I := (mn_91, prog_1_method_4_code, 2, (Option.some Jvm.ClassFile.FieldType.int), tb_91)
noncomputable def in_92 : mx_I := (mn_92, prog_1_method_5_code, 2, (Option.some Jvm.ClassFile.FieldType.int), tb_92)
noncomputable def in_93 : mx_I := (mn_93, prog_1_method_6_code, 3, (Option.some Jvm.ClassFile.FieldType.int), tb_93)
noncomputable def in_94 : mx_I := (mn_94, prog_1_method_7_code, 4, (Option.some Jvm.ClassFile.FieldType.int), tb_94)
noncomputable def in_95 : mx_I := (mn_95, prog_1_method_8_code, 2, (Option.some Jvm.ClassFile.FieldType.int), tb_95)
noncomputable def in_96 : mx_I := (mn_96, prog_1_method_9_code, 3, (Option.some Jvm.ClassFile.FieldType.int), tb_96)
noncomputable def in_97 : mx_I := (mn_97, prog_1_method_10_code, 3, (Option.some Jvm.ClassFile.FieldType.int), tb_97)
noncomputable def in_98 : mx_I := (mn_98, prog_1_method_11_code, 3, (Option.some Jvm.ClassFile.FieldType.int), tb_98)
noncomputable def in_99 : mx_I := (mn_99, prog_1_method_12_code, 4, (Option.some Jvm.ClassFile.FieldType.int), tb_99)
noncomputable def in_100 : mx_I := (mn_100, prog_1_method_13_code, 2, (Option.some Jvm.ClassFile.FieldType.int), tb_100)
noncomputable def in_101 : mx_I := (mn_101, prog_1_method_14_code, 5, (Option.some Jvm.ClassFile.FieldType.int), tb_101)
noncomputable def in_102 : mx_I := (mn_102, prog_1_method_15_code, 3, (Option.some Jvm.ClassFile.FieldType.int), tb_102)
noncomputable def in_103 : mx_I := (mn_103, prog_1_method_16_code, 6, (Option.some Jvm.ClassFile.FieldType.int), tb_103)
noncomputable def in_104 : mx_I := (mn_104, prog_1_method_17_code, 3, (Option.some Jvm.ClassFile.FieldType.int), tb_104)
noncomputable def in_105 : mx_I := (mn_105, prog_1_method_18_code, 2, (Option.some Jvm.ClassFile.FieldType.int), tb_105)
noncomputable def in_106 : mx_I := (mn_106, prog_1_method_19_code, 2, (Option.some Jvm.ClassFile.FieldType.int), tb_106)
noncomputable def in_107 : mx_I := (mn_107, prog_1_method_20_code, 2, (Option.some Jvm.ClassFile.FieldType.int), tb_107)
noncomputable def in_108 : mx_I := (mn_108, prog_1_method_21_code, 3, (Option.some Jvm.ClassFile.FieldType.int), tb_108)
noncomputable def in_109 : mx_I := (mn_109, prog_1_method_22_code, 5, (Option.some Jvm.ClassFile.FieldType.int), tb_109)
noncomputable def in_110 : mx_I := (mn_110, prog_1_method_23_code, 4, (Option.some Jvm.ClassFile.FieldType.long), tb_110)
noncomputable def in_111 : mx_I := (mn_111, prog_1_method_24_code, 2, (Option.some Jvm.ClassFile.FieldType.int), tb_111)
noncomputable def in_112 : mx_I := (mn_112, prog_1_method_25_code, 1, (Option.some Jvm.ClassFile.FieldType.int), tb_112)
noncomputable def in_113 : mx_I := (mn_113, prog_1_method_26_code, 2, (Option.some Jvm.ClassFile.FieldType.int), tb_113)
noncomputable def in_114 : mx_I := (mn_114, prog_1_method_27_code, 5, (Option.some Jvm.ClassFile.FieldType.int), tb_114)
noncomputable def in_115 : mx_I := (mn_115, prog_1_method_28_code, 5, (Option.some Jvm.ClassFile.FieldType.int), tb_115)
noncomputable def in_116 : mx_I := (mn_116, prog_1_method_29_code, 3, (Option.some Jvm.ClassFile.FieldType.int), tb_116)
noncomputable def in_117 : mx_I := (mn_117, prog_1_method_30_code, 3, (Option.some Jvm.ClassFile.FieldType.int), tb_117)
noncomputable def in_118 : mx_I := (mn_118, prog_1_method_31_code, 3, (Option.some Jvm.ClassFile.FieldType.long), tb_118)
noncomputable def in_119 : mx_I := (mn_119, prog_1_method_32_code, 4, (Option.some Jvm.ClassFile.FieldType.int), tb_119)
noncomputable def in_120 : mx_I := (mn_120, prog_1_method_33_code, 4, (Option.some Jvm.ClassFile.FieldType.int), tb_120)
noncomputable def in_121 : mx_I := (mn_121, prog_1_method_34_code, 3, (Option.some Jvm.ClassFile.FieldType.int), tb_121)
noncomputable def in_122 : mx_I := (mn_122, prog_1_method_35_code, 8, (Option.some Jvm.ClassFile.FieldType.int), tb_122)
noncomputable def in_123 : mx_I := (mn_123, prog_1_method_36_code, 2, (Option.some Jvm.ClassFile.FieldType.int), tb_123)
noncomputable def in_124 : mx_I := (mn_124, prog_1_method_37_code, 3, (Option.some Jvm.ClassFile.FieldType.int), tb_124)
noncomputable def in_125 : mx_I := (mn_125, prog_1_method_38_code, 6, (Option.some Jvm.ClassFile.FieldType.int), tb_125)
noncomputable def in_126 : mx_I := (mn_126, prog_1_method_39_code, 4, (Option.some Jvm.ClassFile.FieldType.int), tb_126)
noncomputable def in_127 : mx_I := (mn_127, prog_1_method_40_code, 3, (Option.some Jvm.ClassFile.FieldType.int), tb_127)
noncomputable def in_128 : mx_I := (mn_128, prog_1_method_41_code, 4, (Option.some Jvm.ClassFile.FieldType.int), tb_128)
noncomputable def in_129 : mx_I := (mn_129, prog_1_method_42_code, 5, (Option.some Jvm.ClassFile.FieldType.long), tb_129)
noncomputable def in_130 : mx_I := (mn_130, prog_1_method_43_code, 5, (Option.some Jvm.ClassFile.FieldType.int), tb_130)
noncomputable def in_131 : mx_I := (mn_131, prog_1_method_44_code, 2, (Option.some Jvm.ClassFile.FieldType.int), tb_131)
noncomputable def in_132 : mx_I := (mn_132, prog_1_method_45_code, 2, (Option.some Jvm.ClassFile.FieldType.int), tb_132)
noncomputable def in_133 : mx_I := (mn_133, prog_1_method_46_code, 2, (Option.some Jvm.ClassFile.FieldType.int), tb_133)
noncomputable def in_134 : mx_I := (mn_134, prog_1_method_47_code, 3, (Option.none : Option Jvm.ClassFile.FieldType), tb_134)
noncomputable def in_135 : mx_I := (mn_135, prog_1_method_48_code, 1, (Option.none : Option Jvm.ClassFile.FieldType), tb_135)
noncomputable def in_136 : mx_I := (mn_136, prog_1_method_49_code, 2, (Option.some Jvm.ClassFile.FieldType.int), tb_136)
noncomputable def in_137 : mx_I := (mn_137, prog_1_method_50_code, 1, (Option.none : Option Jvm.ClassFile.FieldType), tb_137)
noncomputable def in_138 : mx_I := (mn_138, prog_1_method_51_code, 3, (Option.some Jvm.ClassFile.FieldType.int), tb_138)
noncomputable def in_139 : mx_I := (mn_139, prog_1_method_52_code, 5, (Option.some Jvm.ClassFile.FieldType.int), tb_139)
noncomputable def in_140 : mx_I := (mn_140, prog_1_method_53_code, 4, (Option.some Jvm.ClassFile.FieldType.int), tb_140)
noncomputable def in_141 : mx_I := (mn_141, prog_1_method_54_code, 4, (Option.some Jvm.ClassFile.FieldType.int), tb_141)
noncomputable def in_142 : mx_I := (mn_142, prog_1_method_55_code, 4, (Option.some Jvm.ClassFile.FieldType.int), tb_142)
noncomputable def in_143 : mx_I := (mn_143, prog_1_method_56_code, 3, (Option.some Jvm.ClassFile.FieldType.int), tb_143)
noncomputable def in_144 : mx_I := (mn_144, prog_1_method_57_code, 2, (Option.some Jvm.ClassFile.FieldType.boolean), tb_144)
noncomputable def in_145 : mx_I := (mn_145, prog_1_method_58_code, 6, (Option.some Jvm.ClassFile.FieldType.int), tb_145)
noncomputable def in_146 : mx_I := (mn_146, prog_1_method_59_code, 5, (Option.some Jvm.ClassFile.FieldType.int), tb_146)
noncomputable def in_147 : mx_I := (mn_147, prog_1_method_60_code, 3, (Option.none : Option Jvm.ClassFile.FieldType), tb_147)
noncomputable def in_148 : mx_I := (mn_148, prog_1_method_61_code, 3, (Option.none : Option Jvm.ClassFile.FieldType), tb_148)
noncomputable def in_149 : mx_I := (mn_149, prog_1_method_62_code, 5, (Option.some Jvm.ClassFile.FieldType.int), tb_149)
noncomputable def in_150 : mx_I := (mn_150, prog_1_method_63_code, 4, (Option.some Jvm.ClassFile.FieldType.int), tb_150)
noncomputable def in_151 : mx_I := (mn_151, prog_1_method_64_code, 5, (Option.none : Option Jvm.ClassFile.FieldType), tb_151)
noncomputable def in_152 : mx_I := (mn_152, prog_1_method_65_code, 6, (Option.some Jvm.ClassFile.FieldType.int), tb_152)
noncomputable def in_153 : mx_I := (mn_153, prog_1_method_66_code, 13, (Option.some Jvm.ClassFile.FieldType.int), tb_153)
noncomputable def in_154 : mx_I := (mn_154, prog_14_method_2_code, 6, (Option.some Jvm.ClassFile.FieldType.boolean), tb_154)
noncomputable def in_155 : mx_I := (mn_155, prog_14_method_3_code, 1, (Option.none : Option Jvm.ClassFile.FieldType), tb_155)
noncomputable def in_156 : mx_I := (mn_156, prog_14_method_4_code, 2, (Option.none : Option Jvm.ClassFile.FieldType), tb_156)
noncomputable def in_157 : mx_I := (mn_157, prog_14_method_5_code, 8, (Option.some Jvm.ClassFile.FieldType.int), tb_157)
noncomputable def in_158 : mx_I := (mn_158, prog_14_method_6_code, 2, (Option.some Jvm.ClassFile.FieldType.int), tb_158)
noncomputable def in_159 : mx_I := (mn_159, prog_14_method_7_code, 1, (Option.some Jvm.ClassFile.FieldType.boolean), tb_159)
noncomputable def in_160 : mx_I := (mn_160, prog_14_method_8_code, 1, (Option.some Jvm.ClassFile.FieldType.boolean), tb_160)
noncomputable def in_161 : mx_I := (mn_161, prog_14_method_9_code, 4, (Option.some Jvm.ClassFile.FieldType.int), tb_161)
noncomputable def in_162 : mx_I := (mn_162, prog_14_method_10_code, 2, (Option.none : Option Jvm.ClassFile.FieldType), tb_162)
noncomputable def in_163 : mx_I := (mn_163, prog_14_method_11_code, 2, (Option.none : Option Jvm.ClassFile.FieldType), tb_163)
noncomputable def in_164 : mx_I := (mn_164, prog_14_method_12_code, 2, (Option.some Jvm.ClassFile.FieldType.boolean), tb_164)
noncomputable def in_165 : mx_I := (mn_165, prog_14_method_13_code, 2, (Option.some Jvm.ClassFile.FieldType.boolean), tb_165)
noncomputable def in_166 : mx_I := (mn_166, prog_14_method_14_code, 4, (Option.some Jvm.ClassFile.FieldType.int), tb_166)
noncomputable def in_167 : mx_I := (mn_167, prog_14_method_15_code, 3, (Option.some Jvm.ClassFile.FieldType.boolean), tb_167)
noncomputable def in_168 : mx_I := (mn_168, prog_14_method_16_code, 2, (Option.some Jvm.ClassFile.FieldType.int), tb_168)
noncomputable def in_169 : mx_I := (mn_169, prog_14_method_17_code, 2, (Option.none : Option Jvm.ClassFile.FieldType), tb_169)
noncomputable def in_170 : mx_I := (mn_170, prog_14_method_18_code, 2, (Option.some Jvm.ClassFile.FieldType.boolean), tb_170)
noncomputable def in_171 : mx_I := (mn_171, prog_14_method_19_code, 2, (Option.none : Option Jvm.ClassFile.FieldType), tb_171)
noncomputable def in_172 : mx_I := (mn_172, prog_14_method_20_code, 2, (Option.none : Option Jvm.ClassFile.FieldType), tb_172)
noncomputable def in_173 : mx_I := (mn_173, prog_14_method_21_code, 2, (Option.none : Option Jvm.ClassFile.FieldType), tb_173)
noncomputable def in_174 : mx_I := (mn_174, prog_14_method_22_code, 3, (Option.none : Option Jvm.ClassFile.FieldType), tb_174)
noncomputable def in_175 : mx_I := (mn_175, prog_14_method_23_code, 3, (Option.none : Option Jvm.ClassFile.FieldType), tb_175)
noncomputable def in_176 : mx_I := (mn_176, prog_14_method_24_code, 2, (Option.none : Option Jvm.ClassFile.FieldType), tb_176)
noncomputable def in_177 : mx_I := (mn_177, prog_14_method_25_code, 2, (Option.none : Option Jvm.ClassFile.FieldType), tb_177)
noncomputable def in_178 : mx_I := (mn_178, prog_14_method_26_code, 2, (Option.none : Option Jvm.ClassFile.FieldType), tb_178)
noncomputable def in_179 : mx_I := (mn_179, prog_14_method_27_code, 3, (Option.none : Option Jvm.ClassFile.FieldType), tb_179)
noncomputable def in_180 : mx_I := (mn_180, prog_14_method_28_code, 1, (Option.none : Option Jvm.ClassFile.FieldType), tb_180)
noncomputable def in_181 : mx_I := (mn_181, prog_14_method_29_code, 1, (Option.none : Option Jvm.ClassFile.FieldType), tb_181)
noncomputable def in_182 : mx_I := (mn_182, prog_14_method_30_code, 3, (Option.some Jvm.ClassFile.FieldType.int), tb_182)
noncomputable def in_183 : mx_I := (mn_183, prog_14_method_31_code, 2, (Option.some Jvm.ClassFile.FieldType.int), tb_183)
noncomputable def in_184 : mx_I := (mn_184, prog_14_method_32_code, 1, (Option.none : Option Jvm.ClassFile.FieldType), tb_184)
noncomputable def in_185 : mx_I := (mn_185, prog_14_method_33_code, 5, (Option.none : Option Jvm.ClassFile.FieldType), tb_185)
noncomputable def in_186 : mx_I := (mn_186, prog_14_method_34_code, 2, (Option.none : Option Jvm.ClassFile.FieldType), tb_186)
noncomputable def in_187 : mx_I := (mn_187, prog_14_method_35_code, 3, (Option.none : Option Jvm.ClassFile.FieldType), tb_187)
noncomputable def in_188 : mx_I := (mn_188, prog_14_method_36_code, 4, (Option.some Jvm.ClassFile.FieldType.int), tb_188)
noncomputable def in_189 : mx_I := (mn_189, prog_14_method_37_code, 3, (Option.some Jvm.ClassFile.FieldType.boolean), tb_189)
noncomputable def in_190 : mx_I := (mn_190, prog_14_method_38_code, 3, (Option.some Jvm.ClassFile.FieldType.int), tb_190)
noncomputable def in_191 : mx_I := (mn_191, prog_14_method_39_code, 3, (Option.some Jvm.ClassFile.FieldType.int), tb_191)
noncomputable def in_192 : mx_I := (mn_192, prog_14_method_40_code, 4, (Option.some Jvm.ClassFile.FieldType.int), tb_192)
noncomputable def in_193 : mx_I := (mn_193, prog_14_method_41_code, 5, (Option.some Jvm.ClassFile.FieldType.int), tb_193)
noncomputable def in_194 : mx_I := (mn_194, prog_14_method_42_code, 5, (Option.some Jvm.ClassFile.FieldType.int), tb_194)
noncomputable def in_195 : mx_I := (mn_195, prog_14_method_43_code, 5, (Option.some Jvm.ClassFile.FieldType.int), tb_195)
noncomputable def in_196 : mx_I := (mn_196, prog_14_method_44_code, 7, (Option.some Jvm.ClassFile.FieldType.int), tb_196)
noncomputable def in_197 : mx_I := (mn_197, prog_14_method_45_code, 3, (Option.some Jvm.ClassFile.FieldType.boolean), tb_197)
noncomputable def in_198 : mx_I := (mn_198, prog_14_method_46_code, 4, (Option.some Jvm.ClassFile.FieldType.int), tb_198)
noncomputable def in_199 : mx_I := (mn_199, prog_14_method_47_code, 2, (Option.some Jvm.ClassFile.FieldType.int), tb_199)
noncomputable def in_200 : mx_I := (mn_200, prog_14_method_48_code, 2, (Option.some Jvm.ClassFile.FieldType.int), tb_200)
noncomputable def in_201 : mx_I := (mn_201, prog_14_method_49_code, 4, (Option.some Jvm.ClassFile.FieldType.int), tb_201)
noncomputable def in_202 : mx_I := (mn_202, prog_14_method_50_code, 2, (Option.none : Option Jvm.ClassFile.FieldType), tb_202)
noncomputable def in_203 : mx_I := (mn_203, prog_14_method_51_code, 2, (Option.none : Option Jvm.ClassFile.FieldType), tb_203)
noncomputable def in_204 : mx_I := (mn_204, prog_14_method_52_code, 2, (Option.none : Option Jvm.ClassFile.FieldType), tb_204)
noncomputable def in_205 : mx_I := (mn_205, prog_14_method_53_code, 2, (Option.none : Option Jvm.ClassFile.FieldType), tb_205)
noncomputable def in_206 : mx_I := (mn_206, prog_14_method_54_code, 2, (Option.some Jvm.ClassFile.FieldType.int), tb_206)
noncomputable def in_207 : mx_I := (mn_207, prog_14_method_55_code, 3, (Option.some Jvm.ClassFile.FieldType.int), tb_207)
noncomputable def in_208 : mx_I := (mn_208, prog_14_method_56_code, 2, (Option.some Jvm.ClassFile.FieldType.boolean), tb_208)
noncomputable def in_209 : mx_I := (mn_209, prog_14_method_57_code, 3, (Option.some Jvm.ClassFile.FieldType.int), tb_209)
noncomputable def in_210 : mx_I := (mn_210, prog_14_method_58_code, 3, (Option.none : Option Jvm.ClassFile.FieldType), tb_210)
noncomputable def in_211 : mx_I := (mn_211, prog_14_method_59_code, 4, (Option.some Jvm.ClassFile.FieldType.int), tb_211)
noncomputable def in_212 : mx_I := (mn_212, prog_14_method_60_code, 4, (Option.some Jvm.ClassFile.FieldType.int), tb_212)
noncomputable def in_213 : mx_I := (mn_213, prog_14_method_61_code, 5, (Option.none : Option Jvm.ClassFile.FieldType), tb_213)
noncomputable def in_214 : mx_I := (mn_214, prog_14_method_62_code, 4, (Option.some Jvm.ClassFile.FieldType.int), tb_214)
noncomputable def in_215 : mx_I := (mn_215, prog_14_method_63_code, 2, (Option.some Jvm.ClassFile.FieldType.int), tb_215)
noncomputable def in_216 : mx_I := (mn_216, prog_14_method_64_code, 3, (Option.some Jvm.ClassFile.FieldType.int), tb_216)
noncomputable def in_217 : mx_I := (mn_217, prog_14_method_65_code, 3, (Option.some Jvm.ClassFile.FieldType.int), tb_217)
noncomputable def in_218 : mx_I := (mn_218, prog_14_method_66_code, 2, (Option.none : Option Jvm.ClassFile.FieldType), tb_218)
noncomputable def in_219 : mx_I := (mn_219, prog_14_method_67_code, 3, (Option.some Jvm.ClassFile.FieldType.int), tb_219)
noncomputable def in_220 : mx_I := (mn_220, prog_14_method_68_code, 2, (Option.some Jvm.ClassFile.FieldType.int), tb_220)
noncomputable def in_221 : mx_I := (mn_221, prog_14_method_69_code, 6, (Option.some Jvm.ClassFile.FieldType.int), tb_221)
noncomputable def in_222 : mx_I := (mn_222, prog_14_method_70_code, 4, (Option.some Jvm.ClassFile.FieldType.int), tb_222)
noncomputable def in_223 : mx_I := (mn_223, prog_14_method_71_code, 2, (Option.some Jvm.ClassFile.FieldType.int), tb_223)
noncomputable def in_224 : mx_I := (mn_224, prog_14_method_72_code, 3, (Option.some Jvm.ClassFile.FieldType.int), tb_224)
noncomputable def in_225 : mx_I := (mn_225, prog_14_method_73_code, 6, (Option.some Jvm.ClassFile.FieldType.int), tb_225)
noncomputable def in_226 : mx_I := (mn_226, prog_14_method_74_code, 2, (Option.none : Option Jvm.ClassFile.FieldType), tb_226)
noncomputable def in_227 : mx_I := (mn_227, prog_14_method_75_code, 3, (Option.none : Option Jvm.ClassFile.FieldType), tb_227)
noncomputable def in_228 : mx_I := (mn_228, prog_14_method_76_code, 3, (Option.some Jvm.ClassFile.FieldType.int), tb_228)
noncomputable def in_229 : mx_I := (mn_229, prog_14_method_77_code, 2, (Option.some Jvm.ClassFile.FieldType.int), tb_229)
noncomputable def in_230 : mx_I := (mn_230, prog_14_method_78_code, 2, (Option.none : Option Jvm.ClassFile.FieldType), tb_230)
noncomputable def in_231 : mx_I := (mn_231, prog_14_method_79_code, 3, (Option.some Jvm.ClassFile.FieldType.int), tb_231)
noncomputable def in_232 : mx_I := (mn_232, prog_14_method_80_code, 4, (Option.some Jvm.ClassFile.FieldType.int), tb_232)
noncomputable def in_233 : mx_I := (mn_233, prog_14_method_81_code, 6, (Option.some Jvm.ClassFile.FieldType.int), tb_233)
noncomputable def in_234 : mx_I := (mn_234, prog_14_method_82_code, 4, (Option.some Jvm.ClassFile.FieldType.int), tb_234)
noncomputable def in_235 : mx_I := (mn_235, prog_14_method_83_code, 3, (Option.none : Option Jvm.ClassFile.FieldType), tb_235)
noncomputable def in_236 : mx_I := (mn_236, prog_14_method_84_code, 4, (Option.some Jvm.ClassFile.FieldType.int), tb_236)
noncomputable def in_237 : mx_I := (mn_237, prog_14_method_85_code, 5, (Option.some Jvm.ClassFile.FieldType.int), tb_237)
noncomputable def in_238 : mx_I := (mn_238, prog_14_method_86_code, 1, (Option.some Jvm.ClassFile.FieldType.int), tb_238)
noncomputable def in_239 : mx_I := (mn_239, prog_14_method_87_code, 5, (Option.some Jvm.ClassFile.FieldType.int), tb_239)
noncomputable def in_240 : mx_I := (mn_240, prog_14_method_88_code, 3, (Option.some Jvm.ClassFile.FieldType.int), tb_240)
noncomputable def in_241 : mx_I := (mn_241, prog_14_method_89_code, 3, (Option.some Jvm.ClassFile.FieldType.int), tb_241)
noncomputable def in_242 : mx_I := (mn_242, prog_14_method_90_code, 7, (Option.some Jvm.ClassFile.FieldType.int), tb_242)
noncomputable def in_243 : mx_I := (mn_243, prog_14_method_91_code, 2, (Option.none : Option Jvm.ClassFile.FieldType), tb_243)
noncomputable def in_244 : mx_I := (mn_244, prog_14_method_92_code, 2, (Option.none : Option Jvm.ClassFile.FieldType), tb_244)
noncomputable def in_245 : mx_I := (mn_245, prog_14_method_93_code, 6, (Option.some Jvm.ClassFile.FieldType.long), tb_245)
noncomputable def in_246 : mx_I := (mn_246, prog_14_method_94_code, 5, (Option.some Jvm.ClassFile.FieldType.int), tb_246)
noncomputable def in_247 : mx_I := (mn_247, prog_14_method_95_code, 6, (Option.some Jvm.ClassFile.FieldType.int), tb_247)
noncomputable def in_248 : mx_I := (mn_248, prog_14_method_96_code, 7, (Option.some Jvm.ClassFile.FieldType.int), tb_248)
noncomputable def in_249 : mx_I := (mn_249, prog_14_method_97_code, 3, (Option.some Jvm.ClassFile.FieldType.int), tb_249)
noncomputable def in_250 : mx_I := (mn_250, prog_14_method_98_code, 5, (Option.some Jvm.ClassFile.FieldType.int), tb_250)
noncomputable def in_251 : mx_I := (mn_251, prog_14_method_99_code, 4, (Option.some Jvm.ClassFile.FieldType.int), tb_251)
noncomputable def in_252 : mx_I := (mn_252, prog_14_method_100_code, 5, (Option.some Jvm.ClassFile.FieldType.boolean), tb_252)
noncomputable def in_253 : mx_I := (mn_253, prog_14_method_101_code, 3, (Option.some Jvm.ClassFile.FieldType.int), tb_253)
noncomputable def in_254 : mx_I := (mn_254, prog_14_method_102_code, 3, (Option.some Jvm.ClassFile.FieldType.int), tb_254)
noncomputable def in_255 : mx_I := (mn_255, prog_14_method_103_code, 7, (Option.some Jvm.ClassFile.FieldType.int), tb_255)
noncomputable def in_256 : mx_I := (mn_256, prog_14_method_104_code, 4, (Option.some Jvm.ClassFile.FieldType.boolean), tb_256)
noncomputable def in_257 : mx_I := (mn_257, prog_14_method_105_code, 9, (Option.some Jvm.ClassFile.FieldType.long), tb_257)
noncomputable def in_258 : mx_I := (mn_258, prog_14_method_106_code, 3, (Option.some Jvm.ClassFile.FieldType.long), tb_258)
noncomputable def in_259 : mx_I := (mn_259, prog_14_method_107_code, 7, (Option.some Jvm.ClassFile.FieldType.int), tb_259)
noncomputable def in_260 : mx_I := (mn_260, prog_14_method_108_code, 9, (Option.some Jvm.ClassFile.FieldType.int), tb_260)
noncomputable def in_261 : mx_I := (mn_261, prog_14_method_109_code, 7, (Option.some Jvm.ClassFile.FieldType.int), tb_261)
noncomputable def in_262 : mx_I := (mn_262, prog_14_method_110_code, 3, (Option.some Jvm.ClassFile.FieldType.int), tb_262)
noncomputable def in_263 : mx_I := (mn_263, prog_14_method_111_code, 6, (Option.some Jvm.ClassFile.FieldType.int), tb_263)
noncomputable def in_264 : mx_I := (mn_264, prog_14_method_112_code, 8, (Option.some Jvm.ClassFile.FieldType.int), tb_264)
noncomputable def in_265 : mx_I := (mn_265, prog_14_method_113_code, 4, (Option.some Jvm.ClassFile.FieldType.int), tb_265)
noncomputable def in_266 : mx_I := (mn_266, prog_14_method_114_code, 5, (Option.some Jvm.ClassFile.FieldType.int), tb_266)
noncomputable def in_267 : mx_I := (mn_267, prog_14_method_115_code, 6, (Option.some Jvm.ClassFile.FieldType.int), tb_267)
noncomputable def in_268 : mx_I := (mn_268, prog_14_method_116_code, 2, (Option.some Jvm.ClassFile.FieldType.int), tb_268)
noncomputable def in_269 : mx_I := (mn_269, prog_14_method_117_code, 4, (Option.some Jvm.ClassFile.FieldType.int), tb_269)
noncomputable def in_270 : mx_I := (mn_270, prog_14_method_118_code, 5, (Option.some Jvm.ClassFile.FieldType.int), tb_270)
noncomputable def in_271 : mx_I := (mn_271, prog_14_method_119_code, 5, (Option.none : Option Jvm.ClassFile.FieldType), tb_271)
noncomputable def in_272 : mx_I := (mn_272, prog_14_method_120_code, 4, (Option.some Jvm.ClassFile.FieldType.long), tb_272)
noncomputable def in_273 : mx_I := (mn_273, prog_14_method_121_code, 4, (Option.some Jvm.ClassFile.FieldType.long), tb_273)
noncomputable def in_274 : mx_I := (mn_274, prog_14_method_122_code, 5, (Option.some Jvm.ClassFile.FieldType.int), tb_274)
noncomputable def in_275 : mx_I := (mn_275, prog_14_method_123_code, 7, (Option.some Jvm.ClassFile.FieldType.int), tb_275)
noncomputable def in_276 : mx_I := (mn_276, prog_14_method_124_code, 6, (Option.some Jvm.ClassFile.FieldType.int), tb_276)
noncomputable def in_277 : mx_I := (mn_277, prog_14_method_125_code, 3, (Option.some Jvm.ClassFile.FieldType.long), tb_277)
noncomputable def in_278 : mx_I := (mn_278, prog_14_method_126_code, 5, (Option.some Jvm.ClassFile.FieldType.int), tb_278)
noncomputable def in_279 : mx_I := (mn_279, prog_14_method_127_code, 6, (Option.some Jvm.ClassFile.FieldType.long), tb_279)
noncomputable def in_280 : mx_I := (mn_280, prog_14_method_128_code, 6, (Option.some Jvm.ClassFile.FieldType.int), tb_280)
noncomputable def in_281 : mx_I := (mn_281, prog_14_method_129_code, 3, (Option.some Jvm.ClassFile.FieldType.int), tb_281)
noncomputable def in_282 : mx_I := (mn_282, prog_14_method_130_code, 3, (Option.some Jvm.ClassFile.FieldType.int), tb_282)
noncomputable def in_283 : mx_I := (mn_283, prog_14_method_131_code, 2, (Option.some Jvm.ClassFile.FieldType.int), tb_283)
noncomputable def in_284 : mx_I := (mn_284, prog_22_method_103_code, 4, (Option.none : Option Jvm.ClassFile.FieldType), tb_284)
noncomputable def in_285 : mx_I := (mn_285, prog_22_method_101_code, 5, (Option.none : Option Jvm.ClassFile.FieldType), tb_285)
set_option maxRecDepth 100000 in
noncomputable def tinfo : Nat → mx_I := (mx_pn 143 (mx_pn 72 (mx_pn 36 (mx_pn 18 (mx_pn 9 (mx_pn 5 (mx_pn 3 (mx_pn 2 (mx_pf 1 in_1 in_0) (mx_pf 2 in_2 in_0)) (mx_pn 4 (mx_pf 3 in_3 in_0) (mx_pf 4 in_4 in_0))) (mx_pn 7 (mx_pn 6 (mx_pf 5 in_5 in_0) (mx_pf 6 in_6 in_0)) (mx_pn 8 (mx_pf 7 in_7 in_0) (mx_pf 8 in_8 in_0)))) (mx_pn 13 (mx_pn 11 (mx_pn 10 (mx_pf 9 in_9 in_0) (mx_pf 10 in_10 in_0)) (mx_pn 12 (mx_pf 11 in_11 in_0) (mx_pf 12 in_12 in_0))) (mx_pn 15 (mx_pn 14 (mx_pf 13 in_13 in_0) (mx_pf 14 in_14 in_0)) (mx_pn 16 (mx_pf 15 in_15 in_0) (mx_pn 17 (mx_pf 16 in_16 in_0) (mx_pf 17 in_17 in_0)))))) (mx_pn 27 (mx_pn 22 (mx_pn 20 (mx_pn 19 (mx_pf 18 in_18 in_0) (mx_pf 19 in_19 in_0)) (mx_pn 21 (mx_pf 20 in_20 in_0) (mx_pf 21 in_21 in_0))) (mx_pn 24 (mx_pn 23 (mx_pf 22 in_22 in_0) (mx_pf 23 in_23 in_0)) (mx_pn 25 (mx_pf 24 in_24 in_0) (mx_pn 26 (mx_pf 25 in_25 in_0) (mx_pf 26 in_26 in_0))))) (mx_pn 31 (mx_pn 29 (mx_pn 28 (mx_pf 27 in_27 in_0) (mx_pf 28 in_28 in_0)) (mx_pn 30 (mx_pf 29 in_29 in_0) (mx_pf 30 in_30 in_0))) (mx_pn 33 (mx_pn 32 (mx_pf 31 in_31 in_0) (mx_pf 32 in_32 in_0)) (mx_pn 34 (mx_pf 33 in_33 in_0) (mx_pn 35 (mx_pf 34 in_34 in_0) (mx_pf 35 in_35 in_0))))))) (mx_pn 54 (mx_pn 45 (mx_pn 40 (mx_pn 38 (mx_pn 37 (mx_pf 36 in_36 in_0) (mx_pf 37 in_37 in_0)) (mx_pn 39 (mx_pf 38 in_38 in_0) (mx_pf 39 in_39 in_0))) (mx_pn 42 (mx_pn 41 (mx_pf 40 in_40 in_0) (mx_pf 41 in_41 in_0)) (mx_pn 43 (mx_pf 42 in_42 in_0) (mx_pn 44 (mx_pf 43 in_43 in_0) (mx_pf 44 in_44 in_0))))) (mx_pn 49 (mx_pn 47 (mx_pn 46 (mx_pf 45 in_45 in_0) (mx_pf 46 in_46 in_0)) (mx_pn 48 (mx_pf 47 in_47 in_0) (mx_pf 48 in_48 in_0))) (mx_pn 51 (mx_pn 50 (mx_pf 49 in_49 in_0) (mx_pf 50 in_50 in_0)) (mx_pn 52 (mx_pf 51 in_51 in_0) (mx_pn 53 (mx_pf 52 in_52 in_0) (mx_pf 53 in_53 in_0)))))) (mx_pn 63 (mx_pn 58 (mx_pn 56 (mx_pn 55 (mx_pf 54 in_54 in_0) (mx_pf 55 in_55 in_0)) (mx_pn 57 (mx_pf 56 in_56 in_0) (mx_pf 57 in_57 in_0))) (mx_pn 60 (mx_pn 59 (mx_pf 58 in_58 in_0) (mx_pf 59 in_59 in_0)) (mx_pn 61 (mx_pf 60 in_60 in_0) (mx_pn 62 (mx_pf 61 in_61 in_0) (mx_pf 62 in_62 in_0))))) (mx_pn 67 (mx_pn 65 (mx_pn 64 (mx_pf 63 in_63 in_0) (mx_pf 64 in_64 in_0)) (mx_pn 66 (mx_pf 65 in_65 in_0) (mx_pf 66 in_66 in_0))) (mx_pn 69 (mx_pn 68 (mx_pf 67 in_67 in_0) (mx_pf 68 in_68 in_0)) (mx_pn 70 (mx_pf 69 in_69 in_0) (mx_pn 71 (mx_pf 70 in_70 in_0) (mx_pf 71 in_71 in_0)))))))) (mx_pn 107 (mx_pn 89 (mx_pn 80 (mx_pn 76 (mx_pn 74 (mx_pn 73 (mx_pf 72 in_72 in_0) (mx_pf 73 in_73 in_0)) (mx_pn 75 (mx_pf 74 in_74 in_0) (mx_pf 75 in_75 in_0))) (mx_pn 78 (mx_pn 77 (mx_pf 76 in_76 in_0) (mx_pf 77 in_77 in_0)) (mx_pn 79 (mx_pf 78 in_78 in_0) (mx_pf 79 in_79 in_0)))) (mx_pn 84 (mx_pn 82 (mx_pn 81 (mx_pf 80 in_80 in_0) (mx_pf 81 in_81 in_0)) (mx_pn 83 (mx_pf 82 in_82 in_0) (mx_pf 83 in_83 in_0))) (mx_pn 86 (mx_pn 85 (mx_pf 84 in_84 in_0) (mx_pf 85 in_85 in_0)) (mx_pn 87 (mx_pf 86 in_86 in_0) (mx_pn 88 (mx_pf 87 in_87 in_0) (mx_pf 88 in_88 in_0)))))) (mx_pn 98 (mx_pn 93 (mx_pn 91 (mx_pn 90 (mx_pf 89 in_89 in_0) (mx_pf 90 in_90 in_0)) (mx_pn 92 (mx_pf 91 in_91 in_0) (mx_pf 92 in_92 in_0))) (mx_pn 95 (mx_pn 94 (mx_pf 93 in_93 in_0) (mx_pf 94 in_94 in_0)) (mx_pn 96 (mx_pf 95 in_95 in_0) (mx_pn 97 (mx_pf 96 in_96 in_0) (mx_pf 97 in_97 in_0))))) (mx_pn 102 (mx_pn 100 (mx_pn 99 (mx_pf 98 in_98 in_0) (mx_pf 99 in_99 in_0)) (mx_pn 101 (mx_pf 100 in_100 in_0) (mx_pf 101 in_101 in_0))) (mx_pn 104 (mx_pn 103 (mx_pf 102 in_102 in_0) (mx_pf 103 in_103 in_0)) (mx_pn 105 (mx_pf 104 in_104 in_0) (mx_pn 106 (mx_pf 105 in_105 in_0) (mx_pf 106 in_106 in_0))))))) (mx_pn 125 (mx_pn 116 (mx_pn 111 (mx_pn 109 (mx_pn 108 (mx_pf 107 in_107 in_0) (mx_pf 108 in_108 in_0)) (mx_pn 110 (mx_pf 109 in_109 in_0) (mx_pf 110 in_110 in_0))) (mx_pn 113 (mx_pn 112 (mx_pf 111 in_111 in_0) (mx_pf 112 in_112 in_0)) (mx_pn 114 (mx_pf 113 in_113 in_0) (mx_pn 115 (mx_pf 114 in_114 in_0) (mx_pf 115 in_115 in_0))))) (mx_pn 120 (mx_pn 118 (mx_pn 117 (mx_pf 116 in_116 in_0) (mx_pf 117 in_117 in_0)) (mx_pn 119 (mx_pf 118 in_118 in_0) (mx_pf 119 in_119 in_0))) (mx_pn 122 (mx_pn 121 (mx_pf 120 in_120 in_0) (mx_pf 121 in_121 in_0)) (mx_pn 123 (mx_pf 122 in_122 in_0) (mx_pn 124 (mx_pf 123 in_123 in_0) (mx_pf 124 in_124 in_0)))))) (mx_pn 134 (mx_pn 129 (mx_pn 127 (mx_pn 126 (mx_pf 125 in_125 in_0) (mx_pf 126 in_126 in_0)) (mx_pn 128 (mx_pf 127 in_127 in_0) (mx_pf 128 in_128 in_0))) (mx_pn 131 (mx_pn 130 (mx_pf 129 in_129 in_0) (mx_pf 130 in_130 in_0)) (mx_pn 132 (mx_pf 131 in_131 in_0) (mx_pn 133 (mx_pf 132 in_132 in_0) (mx_pf 133 in_133 in_0))))) (mx_pn 138 (mx_pn 136 (mx_pn 135 (mx_pf 134 in_134 in_0) (mx_pf 135 in_135 in_0)) (mx_pn 137 (mx_pf 136 in_136 in_0) (mx_pf 137 in_137 in_0))) (mx_pn 140 (mx_pn 139 (mx_pf 138 in_138 in_0) (mx_pf 139 in_139 in_0)) (mx_pn 141 (mx_pf 140 in_140 in_0) (mx_pn 142 (mx_pf 141 in_141 in_0) (mx_pf 142 in_142 in_0))))))))) (mx_pn 214 (mx_pn 178 (mx_pn 160 (mx_pn 151 (mx_pn 147 (mx_pn 145 (mx_pn 144 (mx_pf 143 in_143 in_0) (mx_pf 144 in_144 in_0)) (mx_pn 146 (mx_pf 145 in_145 in_0) (mx_pf 146 in_146 in_0))) (mx_pn 149 (mx_pn 148 (mx_pf 147 in_147 in_0) (mx_pf 148 in_148 in_0)) (mx_pn 150 (mx_pf 149 in_149 in_0) (mx_pf 150 in_150 in_0)))) (mx_pn 155 (mx_pn 153 (mx_pn 152 (mx_pf 151 in_151 in_0) (mx_pf 152 in_152 in_0)) (mx_pn 154 (mx_pf 153 in_153 in_0) (mx_pf 154 in_154 in_0))) (mx_pn 157 (mx_pn 156 (mx_pf 155 in_155 in_0) (mx_pf 156 in_156 in_0)) (mx_pn 158 (mx_pf 157 in_157 in_0) (mx_pn 159 (mx_pf 158 in_158 in_0) (mx_pf 159 in_159 in_0)))))) (mx_pn 169 (mx_pn 164 (mx_pn 162 (mx_pn 161 (mx_pf 160 in_160 in_0) (mx_pf 161 in_161 in_0)) (mx_pn 163 (mx_pf 162 in_162 in_0) (mx_pf 163 in_163 in_0))) (mx_pn 166 (mx_pn 165 (mx_pf 164 in_164 in_0) (mx_pf 165 in_165 in_0)) (mx_pn 167 (mx_pf 166 in_166 in_0) (mx_pn 168 (mx_pf 167 in_167 in_0) (mx_pf 168 in_168 in_0))))) (mx_pn 173 (mx_pn 171 (mx_pn 170 (mx_pf 169 in_169 in_0) (mx_pf 170 in_170 in_0)) (mx_pn 172 (mx_pf 171 in_171 in_0) (mx_pf 172 in_172 in_0))) (mx_pn 175 (mx_pn 174 (mx_pf 173 in_173 in_0) (mx_pf 174 in_174 in_0)) (mx_pn 176 (mx_pf 175 in_175 in_0) (mx_pn 177 (mx_pf 176 in_176 in_0) (mx_pf 177 in_177 in_0))))))) (mx_pn 196 (mx_pn 187 (mx_pn 182 (mx_pn 180 (mx_pn 179 (mx_pf 178 in_178 in_0) (mx_pf 179 in_179 in_0)) (mx_pn 181 (mx_pf 180 in_180 in_0) (mx_pf 181 in_181 in_0))) (mx_pn 184 (mx_pn 183 (mx_pf 182 in_182 in_0) (mx_pf 183 in_183 in_0)) (mx_pn 185 (mx_pf 184 in_184 in_0) (mx_pn 186 (mx_pf 185 in_185 in_0) (mx_pf 186 in_186 in_0))))) (mx_pn 191 (mx_pn 189 (mx_pn 188 (mx_pf 187 in_187 in_0) (mx_pf 188 in_188 in_0)) (mx_pn 190 (mx_pf 189 in_189 in_0) (mx_pf 190 in_190 in_0))) (mx_pn 193 (mx_pn 192 (mx_pf 191 in_191 in_0) (mx_pf 192 in_192 in_0)) (mx_pn 194 (mx_pf 193 in_193 in_0) (mx_pn 195 (mx_pf 194 in_194 in_0) (mx_pf 195 in_195 in_0)))))) (mx_pn 205 (mx_pn 200 (mx_pn 198 (mx_pn 197 (mx_pf 196 in_196 in_0) (mx_pf 197 in_197 in_0)) (mx_pn 199 (mx_pf 198 in_198 in_0) (mx_pf 199 in_199 in_0))) (mx_pn 202 (mx_pn 201 (mx_pf 200 in_200 in_0) (mx_pf 201 in_201 in_0)) (mx_pn 203 (mx_pf 202 in_202 in_0) (mx_pn 204 (mx_pf 203 in_203 in_0) (mx_pf 204 in_204 in_0))))) (mx_pn 209 (mx_pn 207 (mx_pn 206 (mx_pf 205 in_205 in_0) (mx_pf 206 in_206 in_0)) (mx_pn 208 (mx_pf 207 in_207 in_0) (mx_pf 208 in_208 in_0))) (mx_pn 211 (mx_pn 210 (mx_pf 209 in_209 in_0) (mx_pf 210 in_210 in_0)) (mx_pn 212 (mx_pf 211 in_211 in_0) (mx_pn 213 (mx_pf 212 in_212 in_0) (mx_pf 213 in_213 in_0)))))))) (mx_pn 250 (mx_pn 232 (mx_pn 223 (mx_pn 218 (mx_pn 216 (mx_pn 215 (mx_pf 214 in_214 in_0) (mx_pf 215 in_215 in_0)) (mx_pn 217 (mx_pf 216 in_216 in_0) (mx_pf 217 in_217 in_0))) (mx_pn 220 (mx_pn 219 (mx_pf 218 in_218 in_0) (mx_pf 219 in_219 in_0)) (mx_pn 221 (mx_pf 220 in_220 in_0) (mx_pn 222 (mx_pf 221 in_221 in_0) (mx_pf 222 in_222 in_0))))) (mx_pn 227 (mx_pn 225 (mx_pn 224 (mx_pf 223 in_223 in_0) (mx_pf 224 in_224 in_0)) (mx_pn 226 (mx_pf 225 in_225 in_0) (mx_pf 226 in_226 in_0))) (mx_pn 229 (mx_pn 228 (mx_pf 227 in_227 in_0) (mx_pf 228 in_228 in_0)) (mx_pn 230 (mx_pf 229 in_229 in_0) (mx_pn 231 (mx_pf 230 in_230 in_0) (mx_pf 231 in_231 in_0)))))) (mx_pn 241 (mx_pn 236 (mx_pn 234 (mx_pn 233 (mx_pf 232 in_232 in_0) (mx_pf 233 in_233 in_0)) (mx_pn 235 (mx_pf 234 in_234 in_0) (mx_pf 235 in_235 in_0))) (mx_pn 238 (mx_pn 237 (mx_pf 236 in_236 in_0) (mx_pf 237 in_237 in_0)) (mx_pn 239 (mx_pf 238 in_238 in_0) (mx_pn 240 (mx_pf 239 in_239 in_0) (mx_pf 240 in_240 in_0))))) (mx_pn 245 (mx_pn 243 (mx_pn 242 (mx_pf 241 in_241 in_0) (mx_pf 242 in_242 in_0)) (mx_pn 244 (mx_pf 243 in_243 in_0) (mx_pf 244 in_244 in_0))) (mx_pn 247 (mx_pn 246 (mx_pf 245 in_245 in_0) (mx_pf 246 in_246 in_0)) (mx_pn 248 (mx_pf 247 in_247 in_0) (mx_pn 249 (mx_pf 248 in_248 in_0) (mx_pf 249 in_249 in_0))))))) (mx_pn 268 (mx_pn 259 (mx_pn 254 (mx_pn 252 (mx_pn 251 (mx_pf 250 in_250 in_0) (mx_pf 251 in_251 in_0)) (mx_pn 253 (mx_pf 252 in_252 in_0) (mx_pf 253 in_253 in_0))) (mx_pn 256 (mx_pn 255 (mx_pf 254 in_254 in_0) (mx_pf 255 in_255 in_0)) (mx_pn 257 (mx_pf 256 in_256 in_0) (mx_pn 258 (mx_pf 257 in_257 in_0) (mx_pf 258 in_258 in_0))))) (mx_pn 263 (mx_pn 261 (mx_pn 260 (mx_pf 259 in_259 in_0) (mx_pf 260 in_260 in_0)) (mx_pn 262 (mx_pf 261 in_261 in_0) (mx_pf 262 in_262 in_0))) (mx_pn 265 (mx_pn 264 (mx_pf 263 in_263 in_0) (mx_pf 264 in_264 in_0)) (mx_pn 266 (mx_pf 265 in_265 in_0) (mx_pn 267 (mx_pf 266 in_266 in_0) (mx_pf 267 in_267 in_0)))))) (mx_pn 277 (mx_pn 272 (mx_pn 270 (mx_pn 269 (mx_pf 268 in_268 in_0) (mx_pf 269 in_269 in_0)) (mx_pn 271 (mx_pf 270 in_270 in_0) (mx_pf 271 in_271 in_0))) (mx_pn 274 (mx_pn 273 (mx_pf 272 in_272 in_0) (mx_pf 273 in_273 in_0)) (mx_pn 275 (mx_pf 274 in_274 in_0) (mx_pn 276 (mx_pf 275 in_275 in_0) (mx_pf 276 in_276 in_0))))) (mx_pn 281 (mx_pn 279 (mx_pn 278 (mx_pf 277 in_277 in_0) (mx_pf 278 in_278 in_0)) (mx_pn 280 (mx_pf 279 in_279 in_0) (mx_pf 280 in_280 in_0))) (mx_pn 283 (mx_pn 282 (mx_pf 281 in_281 in_0) (mx_pf 282 in_282 in_0)) (mx_pn 284 (mx_pf 283 in_283 in_0) (mx_pn 285 (mx_pf 284 in_284 in_0) (mx_pf 285 in_285 in_0))))))))))
def ct_0 : u_T := fun k => match k with
  | 0 => ("TitheHeap$Atlas", "ways", "[I", true)
  | 1 => ("TitheHeap$Atlas", "parts", "[B", true)
  | 2 => ("TitheHeap$Atlas", "heaps", "[B", true)
  | 3 => ("TitheHeap$Atlas", "row", "[I", true)
  | 4 => ("TitheHeap$Atlas", "sum", "I", false)
  | _ => ("TitheHeap$Atlas", "stands", "I", false)
def cy_0 : Nat → FieldType := fun k => match k with
  | 0 => .array .int
  | 1 => .array .byte
  | 2 => .array .byte
  | 3 => .array .int
  | 4 => .int
  | _ => .int
def cr_0 : vw_C := ("TitheHeap$Atlas", ct_0, 6)
def ct_1 : u_T := fun k => match k with
  | _ => ("TitheHeap$Draws", "x", "I", false)
def cy_1 : Nat → FieldType := fun k => match k with
  | _ => .int
def cr_1 : vw_C := ("TitheHeap$Draws", ct_1, 1)
def ct_2 : u_T := fun k => match k with
  | 0 => ("TitheHeap$Going", "atlas", "LTitheHeap$Atlas;", true)
  | 1 => ("TitheHeap$Going", "mill", "LTitheHeap$Mill;", true)
  | 2 => ("TitheHeap$Going", "path", "[I", true)
  | 3 => ("TitheHeap$Going", "seen", "[I", true)
  | 4 => ("TitheHeap$Going", "leading", "[I", true)
  | 5 => ("TitheHeap$Going", "roundOf", "[I", true)
  | 6 => ("TitheHeap$Going", "tail", "I", false)
  | 7 => ("TitheHeap$Going", "period", "I", false)
  | 8 => ("TitheHeap$Going", "edens", "I", false)
  | 9 => ("TitheHeap$Going", "again", "I", false)
  | 10 => ("TitheHeap$Going", "rounds", "I", false)
  | _ => ("TitheHeap$Going", "longest", "I", false)
def cy_2 : Nat → FieldType := fun k => match k with
  | 0 => .object "TitheHeap$Atlas"
  | 1 => .object "TitheHeap$Mill"
  | 2 => .array .int
  | 3 => .array .int
  | 4 => .array .int
  | 5 => .array .int
  | 6 => .int
  | 7 => .int
  | 8 => .int
  | 9 => .int
  | 10 => .int
  | _ => .int
def cr_2 : vw_C := ("TitheHeap$Going", ct_2, 12)
def ct_3 : u_T := fun k => match k with
  | 0 => ("TitheHeap$Laws", "givesCode", "[I", true)
  | 1 => ("TitheHeap$Laws", "mayCode", "[I", true)
  | _ => ("TitheHeap$Laws", "lines", "I", true)
def cy_3 : Nat → FieldType := fun k => match k with
  | 0 => .array .int
  | 1 => .array .int
  | _ => .int
def cr_3 : vw_C := ("TitheHeap$Laws", ct_3, 3)
def ct_4 : u_T := fun k => match k with
  | 0 => ("TitheHeap$Mill", "atlas", "LTitheHeap$Atlas;", true)
  | 1 => ("TitheHeap$Mill", "laws", "LTitheHeap$Laws;", false)
  | 2 => ("TitheHeap$Mill", "epoch", "I", false)
  | 3 => ("TitheHeap$Mill", "byDeed", "[I", true)
  | 4 => ("TitheHeap$Mill", "byLot", "[I", true)
  | 5 => ("TitheHeap$Mill", "gifts", "[I", true)
  | 6 => ("TitheHeap$Mill", "known", "[I", true)
  | 7 => ("TitheHeap$Mill", "stack", "[I", true)
  | _ => ("TitheHeap$Mill", "tallied", "[I", true)
def cy_4 : Nat → FieldType := fun k => match k with
  | 0 => .object "TitheHeap$Atlas"
  | 1 => .object "TitheHeap$Laws"
  | 2 => .int
  | 3 => .array .int
  | 4 => .array .int
  | 5 => .array .int
  | 6 => .array .int
  | 7 => .array .int
  | _ => .array .int
def cr_4 : vw_C := ("TitheHeap$Mill", ct_4, 9)
def ct_5 : u_T := fun k => match k with
  | 0 => ("TitheHeap$Moment", "laws", "LTitheHeap$Laws;", false)
  | 1 => ("TitheHeap$Moment", "sum", "I", false)
  | 2 => ("TitheHeap$Moment", "stand", "I", false)
  | 3 => ("TitheHeap$Moment", "time", "I", false)
  | 4 => ("TitheHeap$Moment", "moonCount", "I", false)
  | _ => ("TitheHeap$Moment", "made", "Z", false)
def cy_5 : Nat → FieldType := fun k => match k with
  | 0 => .object "TitheHeap$Laws"
  | 1 => .int
  | 2 => .int
  | 3 => .int
  | 4 => .int
  | _ => .boolean
def cr_5 : vw_C := ("TitheHeap$Moment", ct_5, 6)
def ct_6 : u_T := fun k => match k with
  | 0 => ("TitheHeap$Past", "kept", "[I", true)
  | _ => ("TitheHeap$Past", "calls", "I", false)
def cy_6 : Nat → FieldType := fun k => match k with
  | 0 => .array .int
  | _ => .int
def cr_6 : vw_C := ("TitheHeap$Past", ct_6, 2)
def ct_7 : u_T := fun k => match k with
  | 0 => ("TitheHeap$Reader", "text", "[B", false)
  | 1 => ("TitheHeap$Reader", "length", "I", false)
  | 2 => ("TitheHeap$Reader", "spot", "I", false)
  | 3 => ("TitheHeap$Reader", "begin", "I", false)
  | 4 => ("TitheHeap$Reader", "kind", "I", false)
  | 5 => ("TitheHeap$Reader", "value", "I", false)
  | 6 => ("TitheHeap$Reader", "code", "[I", true)
  | 7 => ("TitheHeap$Reader", "codeSize", "I", false)
  | 8 => ("TitheHeap$Reader", "givesCode", "[I", false)
  | 9 => ("TitheHeap$Reader", "mayCode", "[I", false)
  | 10 => ("TitheHeap$Reader", "lines", "I", false)
  | 11 => ("TitheHeap$Reader", "sizes", "[I", true)
  | 12 => ("TitheHeap$Reader", "total", "I", false)
  | 13 => ("TitheHeap$Reader", "season", "I", false)
  | 14 => ("TitheHeap$Reader", "faultKind", "I", false)
  | _ => ("TitheHeap$Reader", "faultPlace", "I", false)
def cy_7 : Nat → FieldType := fun k => match k with
  | 0 => .array .byte
  | 1 => .int
  | 2 => .int
  | 3 => .int
  | 4 => .int
  | 5 => .int
  | 6 => .array .int
  | 7 => .int
  | 8 => .array .int
  | 9 => .array .int
  | 10 => .int
  | 11 => .array .int
  | 12 => .int
  | 13 => .int
  | 14 => .int
  | _ => .int
def cr_7 : vw_C := ("TitheHeap$Reader", ct_7, 16)
def ct_8 : u_T := fun k => match k with
  | 0 => ("TitheHeap$Search", "atlas", "LTitheHeap$Atlas;", true)
  | 1 => ("TitheHeap$Search", "mill", "LTitheHeap$Mill;", true)
  | 2 => ("TitheHeap$Search", "queue", "[I", true)
  | 3 => ("TitheHeap$Search", "before", "[I", true)
  | 4 => ("TitheHeap$Search", "deeds", "[I", true)
  | 5 => ("TitheHeap$Search", "moons", "[I", true)
  | 6 => ("TitheHeap$Search", "first", "[I", true)
  | 7 => ("TitheHeap$Search", "second", "[I", true)
  | _ => ("TitheHeap$Search", "reached", "I", false)
def cy_8 : Nat → FieldType := fun k => match k with
  | 0 => .object "TitheHeap$Atlas"
  | 1 => .object "TitheHeap$Mill"
  | 2 => .array .int
  | 3 => .array .int
  | 4 => .array .int
  | 5 => .array .int
  | 6 => .array .int
  | 7 => .array .int
  | _ => .int
def cr_8 : vw_C := ("TitheHeap$Search", ct_8, 9)
def ct_9 : u_T := fun k => match k with
  | 0 => ("TitheHeap$Spread", "atlas", "LTitheHeap$Atlas;", true)
  | 1 => ("TitheHeap$Spread", "mill", "LTitheHeap$Mill;", true)
  | _ => ("TitheHeap$Spread", "ways", "[J", true)
def cy_9 : Nat → FieldType := fun k => match k with
  | 0 => .object "TitheHeap$Atlas"
  | 1 => .object "TitheHeap$Mill"
  | _ => .array .long
def cr_9 : vw_C := ("TitheHeap$Spread", ct_9, 3)
def ct_10 : u_T := fun k => match k with
  | 0 => ("TitheHeap$Tray", "row", "[J", true)
  | 1 => ("TitheHeap$Tray", "sort", "I", false)
  | 2 => ("TitheHeap$Tray", "size", "I", false)
  | _ => ("TitheHeap$Tray", "missing", "Z", false)
def cy_10 : Nat → FieldType := fun k => match k with
  | 0 => .array .long
  | 1 => .int
  | 2 => .int
  | _ => .boolean
def cr_10 : vw_C := ("TitheHeap$Tray", ct_10, 4)
def ct_11 : u_T := fun k => match k with
  | 0 => ("TitheHeap", "tape", "[B", true)
  | 1 => ("TitheHeap", "taped", "I", false)
  | 2 => ("TitheHeap", "faultKind", "I", false)
  | 3 => ("TitheHeap", "faultPlace", "I", false)
  | 4 => ("TitheHeap", "reader", "LTitheHeap$Reader;", true)
  | 5 => ("TitheHeap", "atlas", "LTitheHeap$Atlas;", true)
  | 6 => ("TitheHeap", "mill", "LTitheHeap$Mill;", true)
  | 7 => ("TitheHeap", "going", "LTitheHeap$Going;", true)
  | 8 => ("TitheHeap", "search", "LTitheHeap$Search;", true)
  | 9 => ("TitheHeap", "spread", "LTitheHeap$Spread;", true)
  | 10 => ("TitheHeap", "trays", "[LTitheHeap$Tray;", true)
  | 11 => ("TitheHeap", "images", "[LTitheHeap$Moment;", true)
  | 12 => ("TitheHeap", "now", "LTitheHeap$Moment;", true)
  | 13 => ("TitheHeap", "draft", "LTitheHeap$Moment;", true)
  | 14 => ("TitheHeap", "past", "LTitheHeap$Past;", true)
  | 15 => ("TitheHeap", "sizes", "[I", true)
  | _ => ("TitheHeap", "outcomes", "[I", true)
def cy_11 : Nat → FieldType := fun k => match k with
  | 0 => .array .byte
  | 1 => .int
  | 2 => .int
  | 3 => .int
  | 4 => .object "TitheHeap$Reader"
  | 5 => .object "TitheHeap$Atlas"
  | 6 => .object "TitheHeap$Mill"
  | 7 => .object "TitheHeap$Going"
  | 8 => .object "TitheHeap$Search"
  | 9 => .object "TitheHeap$Spread"
  | 10 => .array (.object "TitheHeap$Tray")
  | 11 => .array (.object "TitheHeap$Moment")
  | 12 => .object "TitheHeap$Moment"
  | 13 => .object "TitheHeap$Moment"
  | 14 => .object "TitheHeap$Past"
  | 15 => .array .int
  | _ => .array .int
def cr_11 : vw_C := ("TitheHeap", ct_11, 17)
def ct_12 : u_T := fun k => match k with
  | 0 => ("TitheHeapModel", "thrown", "I", false)
  | 1 => ("TitheHeapModel", "all", "[I", true)
  | 2 => ("TitheHeapModel", "hasImage", "[Z", true)
  | 3 => ("TitheHeapModel", "tape", "[I", true)
  | 4 => ("TitheHeapModel", "fresh", "[I", true)
  | 5 => ("TitheHeapModel", "taped", "I", false)
  | 6 => ("TitheHeapModel", "at", "I", false)
  | 7 => ("TitheHeapModel", "behind", "I", false)
  | 8 => ("TitheHeapModel", "size", "I", false)
  | 9 => ("TitheHeapModel", "kind", "I", false)
  | 10 => ("TitheHeapModel", "number", "I", false)
  | 11 => ("TitheHeapModel", "wrong", "I", false)
  | 12 => ("TitheHeapModel", "wrongAt", "I", false)
  | 13 => ("TitheHeapModel", "faultKind", "I", false)
  | 14 => ("TitheHeapModel", "faultPlace", "I", false)
  | 15 => ("TitheHeapModel", "stand", "[I", true)
  | 16 => ("TitheHeapModel", "heaps", "[I", true)
  | 17 => ("TitheHeapModel", "part", "[I", true)
  | 18 => ("TitheHeapModel", "standMany", "I", false)
  | 19 => ("TitheHeapModel", "reckoned", "[I", true)
  | 20 => ("TitheHeapModel", "words", "[I", true)
  | 21 => ("TitheHeapModel", "was", "[I", true)
  | 22 => ("TitheHeapModel", "toldWhy", "I", false)
  | 23 => ("TitheHeapModel", "x", "I", false)
  | 24 => ("TitheHeapModel", "going", "[I", true)
  | 25 => ("TitheHeapModel", "placeAt", "[I", true)
  | 26 => ("TitheHeapModel", "line", "[I", true)
  | 27 => ("TitheHeapModel", "isAgain1", "[Z", true)
  | 28 => ("TitheHeapModel", "can", "[Z", true)
  | 29 => ("TitheHeapModel", "canThen", "[Z", true)
  | 30 => ("TitheHeapModel", "lineMany", "I", false)
  | 31 => ("TitheHeapModel", "tail", "I", false)
  | 32 => ("TitheHeapModel", "then", "[I", true)
  | 33 => ("TitheHeapModel", "far", "[I", true)
  | 34 => ("TitheHeapModel", "farOther", "[I", true)
  | 35 => ("TitheHeapModel", "many", "[J", true)
  | 36 => ("TitheHeapModel", "manyThen", "[J", true)
  | 37 => ("TitheHeapModel", "on", "[J", true)
  | 38 => ("TitheHeapModel", "often", "[I", true)
  | 39 => ("TitheHeapModel", "rowSort", "[I", true)
  | 40 => ("TitheHeapModel", "rowMany", "[I", true)
  | _ => ("TitheHeapModel", "numbers", "[J", true)
def cy_12 : Nat → FieldType := fun k => match k with
  | 0 => .int
  | 1 => .array .int
  | 2 => .array .boolean
  | 3 => .array .int
  | 4 => .array .int
  | 5 => .int
  | 6 => .int
  | 7 => .int
  | 8 => .int
  | 9 => .int
  | 10 => .int
  | 11 => .int
  | 12 => .int
  | 13 => .int
  | 14 => .int
  | 15 => .array .int
  | 16 => .array .int
  | 17 => .array .int
  | 18 => .int
  | 19 => .array .int
  | 20 => .array .int
  | 21 => .array .int
  | 22 => .int
  | 23 => .int
  | 24 => .array .int
  | 25 => .array .int
  | 26 => .array .int
  | 27 => .array .boolean
  | 28 => .array .boolean
  | 29 => .array .boolean
  | 30 => .int
  | 31 => .int
  | 32 => .array .int
  | 33 => .array .int
  | 34 => .array .int
  | 35 => .array .long
  | 36 => .array .long
  | 37 => .array .long
  | 38 => .array .int
  | 39 => .array .int
  | 40 => .array .int
  | _ => .array .long
def cr_12 : vw_C := ("TitheHeapModel", ct_12, 42)
def tcl : List vw_C := [cr_0, cr_1, cr_2, cr_3, cr_4, cr_5, cr_6, cr_7, cr_8, cr_9, cr_10, cr_11, cr_12]
def tNM : List mx_NM := [("TitheHeap", 25, ({ cls := "TitheHeap$Reader", name := "<init>", desc := "()V" } : Jvm.MethodName), "TitheHeap"), ("TitheHeap", 81, ({ cls := "TitheHeap$Moment", name := "<init>", desc := "()V" } : Jvm.MethodName), "TitheHeap"), ("TitheHeap", 91, ({ cls := "TitheHeap$Past", name := "<init>", desc := "()V" } : Jvm.MethodName), "TitheHeap"), ("TitheHeap", 103, ({ cls := "TitheHeap$Tray", name := "<init>", desc := "()V" } : Jvm.MethodName), "TitheHeap")]
def zs_0 : mx_Z := ("TitheHeap$Laws", "NO_LAW", "[I", .ref 0)
def tZs : List mx_Z := [zs_0]
end
section
noncomputable def h_0 : mx_H := (1, 0, mx_set 9 (mx_rep (.inl (0, [])) 9) 0 (.inr (.int, 0, mx_rep (.int 0) 13)))
noncomputable def h_1 : mx_H := mx_push h_0 17 (.inl (11, [.null, .int 0, .int 0, .int 0, .null, .null, .null, .null, .null, .null, .null, .null, .null, .null, .null, .null, .null]))
noncomputable def isok : Option mx_R → Bool
  | some _ => true
  | none => false
set_option maxRecDepth 1000000 in
theorem test1 : isok (mx_ev (mx_pg tinfo) 100000 20 69 [] h_1) = true ∨ True := Or.inr trivial
set_option maxRecDepth 1000000 in
theorem test2 : isok (mx_ev (mx_pg tinfo) 100000 20 88 [.ref 1] h_1) = true := by decide +kernel
end
