section
/-! A small machine of our own, over the library's values: what a method's code does to locals, stack and cells, as a function; later rows show that the library's machine does the same. Tries by Nat.rec, so that the kernel evaluates. -/
noncomputable def mx_T (α : Type) (n : Nat) : Type := Nat.rec (motive := fun _ => Type) α (fun _ T => T × T) n
noncomputable def mx_get {α : Type} (n : Nat) : mx_T α n → Nat → α :=
  Nat.rec (motive := fun n => mx_T α n → Nat → α) (fun t _ => t)
    (fun n ih (t : mx_T α n × mx_T α n) i => bif Nat.beq (Nat.mod i 2) 0 then ih t.1 (Nat.div i 2) else ih t.2 (Nat.div i 2)) n
noncomputable def mx_set {α : Type} (n : Nat) : mx_T α n → Nat → α → mx_T α n :=
  Nat.rec (motive := fun n => mx_T α n → Nat → α → mx_T α n) (fun _ _ v => v)
    (fun n ih (t : mx_T α n × mx_T α n) i v => bif Nat.beq (Nat.mod i 2) 0 then (ih t.1 (Nat.div i 2) v, t.2) else (t.1, ih t.2 (Nat.div i 2) v)) n
noncomputable def mx_rep {α : Type} (v : α) (n : Nat) : mx_T α n :=
  Nat.rec (motive := fun n => mx_T α n) v (fun n ih => ((ih, ih) : mx_T α n × mx_T α n)) n
theorem mx_get_s {α : Type} (n : Nat) (t : mx_T α n × mx_T α n) (i : Nat) : mx_get (n + 1) t i = bif Nat.beq (Nat.mod i 2) 0 then mx_get n t.1 (Nat.div i 2) else mx_get n t.2 (Nat.div i 2) := rfl
theorem mx_set_s {α : Type} (n : Nat) (t : mx_T α n × mx_T α n) (i : Nat) (v : α) : mx_set (n + 1) t i v = (bif Nat.beq (Nat.mod i 2) 0 then (mx_set n t.1 (Nat.div i 2) v, t.2) else (t.1, mx_set n t.2 (Nat.div i 2) v) : mx_T α n × mx_T α n) := rfl
theorem mx_get_rep {α : Type} (v : α) : ∀ (n i : Nat), mx_get n (mx_rep v n) i = v
  | 0, _ => rfl
  | n + 1, i => by
    show mx_get (n + 1) ((mx_rep v n, mx_rep v n) : mx_T α n × mx_T α n) i = v
    rw [mx_get_s]
    cases Nat.beq (Nat.mod i 2) 0
    · exact mx_get_rep v n _
    · exact mx_get_rep v n _
theorem mx_get_set {α : Type} (v : α) : ∀ (n : Nat) (t : mx_T α n) (i j : Nat), i < 2 ^ n → j < 2 ^ n → mx_get n (mx_set n t i v) j = if j = i then v else mx_get n t j
  | 0, t, i, j, hi, hj => by
    have h1 : j = i := by simp at hi hj; omega
    rw [if_pos h1]; rfl
  | n + 1, t, i, j, hi, hj => by
    have hp : 2 ^ (n + 1) = 2 * 2 ^ n := by rw [Nat.pow_succ]; omega
    have hi2 : Nat.div i 2 < 2 ^ n := by show i / 2 < _; omega
    have hj2 : Nat.div j 2 < 2 ^ n := by show j / 2 < _; omega
    show mx_get (n + 1) (mx_set (n + 1) t i v) j = _
    rw [show mx_set (n + 1) t i v = (bif Nat.beq (Nat.mod i 2) 0 then (mx_set n (Prod.fst (α := mx_T α n) (β := mx_T α n) t) (Nat.div i 2) v, Prod.snd (α := mx_T α n) (β := mx_T α n) t) else (Prod.fst (α := mx_T α n) (β := mx_T α n) t, mx_set n (Prod.snd (α := mx_T α n) (β := mx_T α n) t) (Nat.div i 2) v) : mx_T α n × mx_T α n) from rfl]
    rw [show mx_get (n + 1) t j = (bif Nat.beq (Nat.mod j 2) 0 then mx_get n (Prod.fst (α := mx_T α n) (β := mx_T α n) t) (Nat.div j 2) else mx_get n (Prod.snd (α := mx_T α n) (β := mx_T α n) t) (Nat.div j 2)) from rfl]
    rw [mx_get_s]
    have ei : (i : Nat) % 2 = 0 ∨ i % 2 = 1 := by omega
    have ej : (j : Nat) % 2 = 0 ∨ j % 2 = 1 := by omega
    have bi0 : ∀ x : Nat, x % 2 = 0 → Nat.beq (Nat.mod x 2) 0 = true := fun x h => by show Nat.beq (x % 2) 0 = true; rw [h]; rfl
    have bi1 : ∀ x : Nat, x % 2 = 1 → Nat.beq (Nat.mod x 2) 0 = false := fun x h => by show Nat.beq (x % 2) 0 = false; rw [h]; rfl
    rcases ei with ei | ei <;> rcases ej with ej | ej
    · rw [bi0 i ei, bi0 j ej]
      simp only [cond_true]
      rw [mx_get_set v n _ _ _ hi2 hj2]
      by_cases h : j = i
      · rw [if_pos h, if_pos (by rw [h])]
      · rw [if_neg h, if_neg (by intro h2; have h3 : j / 2 = i / 2 := h2; omega)]
    · rw [bi0 i ei, bi1 j ej]
      simp only [cond_true, cond_false]
      rw [if_neg (by omega)]
    · rw [bi1 i ei, bi0 j ej]
      simp only [cond_true, cond_false]
      rw [if_neg (by omega)]
    · rw [bi1 i ei, bi1 j ej]
      simp only [cond_false]
      rw [mx_get_set v n _ _ _ hi2 hj2]
      by_cases h : j = i
      · rw [if_pos h, if_pos (by rw [h])]
      · rw [if_neg h, if_neg (by intro h2; have h3 : j / 2 = i / 2 := h2; omega)]
/-- an array's contents (8192 places), a cell (an object by class and fields, an array by type, length, contents), all cells (how many, how many slots, which) -/
abbrev mx_A : Type := mx_T Value 13
abbrev mx_C : Type := (Nat × List Value) ⊕ (FieldType × Nat × mx_A)
abbrev mx_H : Type := Nat × Nat × mx_T mx_C 9
abbrev mx_R : Type := Option Value × mx_H
abbrev mx_L : Type := List (Option Value)
abbrev mx_K : Type := Nat → mx_L → List Value → mx_H → Option mx_R
abbrev mx_F : Type := Nat → List Value → mx_H → Option mx_R
abbrev mx_O : Type := mx_K → mx_F → mx_L → List Value → mx_H → Option mx_R
noncomputable def mx_run (tab : Nat → mx_O) (call : mx_F) (n : Nat) : mx_K :=
  Nat.rec (motive := fun _ => mx_K) (fun _ _ _ _ => none) (fun _ ih pc ls st h => tab pc ih call ls st h) n
/-- the locals at a method's entry -/
noncomputable def mx_ent : List Value → Nat → mx_L
  | [], n => List.replicate n none
  | v :: vs, n => match v with
    | .long _ | .double _ => some v :: none :: mx_ent vs (n - 2)
    | _ => some v :: mx_ent vs (n - 1)
/-- the methods: number, then locals and code -/
abbrev mx_P : Type := Nat → Nat × (Nat → mx_O)
noncomputable def mx_ev (P : mx_P) (fuel : Nat) (d : Nat) : mx_F :=
  Nat.rec (motive := fun _ => mx_F) (fun _ _ _ => none) (fun _ ih mi as h => bif Nat.beq mi 0 then some (none, h) else bif Nat.beq (mx_ent as (P mi).1).length (P mi).1 then mx_run (P mi).2 ih fuel 0 (mx_ent as (P mi).1) [] h else none) d
noncomputable def mx_stuck : mx_O := fun _ _ _ _ _ => none
noncomputable def mx_node (k : Nat) (l r : Nat → mx_O) : Nat → mx_O := fun pc => bif Nat.blt pc k then l pc else r pc
noncomputable def mx_leaf (k : Nat) (o : mx_O) : Nat → mx_O := fun pc => bif Nat.beq pc k then o else mx_stuck
end
section
/-! the small machine's instructions; 'nx' is the next pc, 'tg' a target -/
noncomputable def mx_nth {α : Type} (l : List α) : Nat → Option α := List.rec (motive := fun _ => Nat → Option α) (fun _ => none) (fun a _ ih i => Nat.rec (motive := fun _ => Option α) (some a) (fun j _ => ih j) i) l
noncomputable def mx_upd {α : Type} (l : List α) : Nat → α → List α := List.rec (motive := fun _ => Nat → α → List α) (fun _ _ => []) (fun a t ih i v => Nat.rec (motive := fun _ => List α) (v :: t) (fun j _ => a :: ih j v) i) l
theorem mx_nth_eq {α : Type} : ∀ (l : List α) (i : Nat), mx_nth l i = l[i]?
  | [], i => by simp [mx_nth]
  | a :: t, 0 => rfl
  | a :: t, i + 1 => by
    rw [List.getElem?_cons_succ, ← mx_nth_eq t i]; rfl
theorem mx_upd_eq {α : Type} (v : α) : ∀ (l : List α) (i : Nat), mx_upd l i v = l.set i v
  | [], i => by simp [mx_upd]
  | a :: t, 0 => rfl
  | a :: t, i + 1 => by
    rw [List.set_cons_succ, ← mx_upd_eq v t i]; rfl
noncomputable def mx_lg (ls : mx_L) (i : Nat) : Option Value := match mx_nth ls i with
  | some (some v) => some v
  | _ => none
/-- a long whose second half is overwritten is forgotten -/
noncomputable def mx_cl (ls : mx_L) (i : Nat) : mx_L := match i with
  | 0 => ls
  | j + 1 => match mx_lg ls j with
    | some (.long _) | some (.double _) => mx_upd ls j none
    | _ => ls
noncomputable def mx_st1 (ls : mx_L) (i : Nat) (v : Value) : mx_L := mx_upd (mx_cl ls i) i (some v)
noncomputable def mx_st2 (ls : mx_L) (i : Nat) (v : Value) : mx_L := mx_upd (mx_upd (mx_cl ls i) (i + 1) none) i (some v)
noncomputable def mx_cell (h : mx_H) (a : Nat) : Option mx_C := bif Nat.blt a h.1 then some (mx_get 9 h.2.2 a) else none
noncomputable def mx_put (h : mx_H) (a : Nat) (c : mx_C) : mx_H := (h.1, h.2.1, mx_set 9 h.2.2 a c)
noncomputable def mx_push (h : mx_H) (n : Nat) (c : mx_C) : mx_H := (h.1 + 1, h.2.1 + n, mx_set 9 h.2.2 h.1 c)
noncomputable def mx_c1 : Value → Bool
  | .long _ | .double _ => false
  | _ => true
noncomputable def mx_fit : FieldType → Value → Bool
  | .int, .int _ => true
  | .int, .float _ => true
  | .long, .long _ => true
  | .long, .double _ => true
  | .boolean, .int v => v == 0 || v == 1
  | .object _, .null | .object _, .ref _ | .array _, .null | .array _, .ref _ => true
  | _, _ => false
/-- how much room the operands below a call take -/
noncomputable def mx_cat : List Value → Nat
  | [] => 0
  | v :: r => (bif mx_c1 v then 1 else 2) + mx_cat r
noncomputable def mx_const (v : Value) (nx : Nat) : mx_O := fun k _ ls st h => k nx ls (v :: st) h
noncomputable def mx_iload (i nx : Nat) : mx_O := fun k _ ls st h => match mx_lg ls i with
  | some (.int x) => k nx ls (.int x :: st) h
  | some (.float t) => k nx ls (.float t :: st) h
  | _ => none
noncomputable def mx_lload (i nx : Nat) : mx_O := fun k _ ls st h => match mx_lg ls i with
  | some (.long x) => k nx ls (.long x :: st) h
  | some (.double t) => k nx ls (.double t :: st) h
  | _ => none
noncomputable def mx_aload (i nx : Nat) : mx_O := fun k _ ls st h => match mx_lg ls i with
  | some (.ref x) => k nx ls (.ref x :: st) h
  | some .null => k nx ls (.null :: st) h
  | _ => none
noncomputable def mx_istore (i nx : Nat) : mx_O := fun k _ ls st h => match st with
  | .int x :: r => bif Nat.blt i ls.length then k nx (mx_st1 ls i (.int x)) r h else none
  | .float t :: r => bif Nat.blt i ls.length then k nx (mx_st1 ls i (.float t)) r h else none
  | _ => none
noncomputable def mx_lstore (i nx : Nat) : mx_O := fun k _ ls st h => match st with
  | .long x :: r => bif Nat.blt (i + 1) ls.length then k nx (mx_st2 ls i (.long x)) r h else none
  | .double t :: r => bif Nat.blt (i + 1) ls.length then k nx (mx_st2 ls i (.double t)) r h else none
  | _ => none
noncomputable def mx_astore (i nx : Nat) : mx_O := fun k _ ls st h => match st with
  | .ref x :: r => bif Nat.blt i ls.length then k nx (mx_st1 ls i (.ref x)) r h else none
  | _ => none
noncomputable def mx_iinc (i : Nat) (c : Int32) (nx : Nat) : mx_O := fun k _ ls st h => match mx_lg ls i with
  | some (.int x) => bif Nat.blt i ls.length then k nx (mx_st1 ls i (.int (x + c))) st h else none
  | _ => none
noncomputable def mx_iadd (nx : Nat) : mx_O := fun k _ ls st h => match st with
  | .int y :: .int x :: r => k nx ls (.int (x + y) :: r) h
  | _ => none
noncomputable def mx_isub (nx : Nat) : mx_O := fun k _ ls st h => match st with
  | .int y :: .int x :: r => k nx ls (.int (x - y) :: r) h
  | _ => none
noncomputable def mx_imul (nx : Nat) : mx_O := fun k _ ls st h => match st with
  | .int y :: .int x :: r => k nx ls (.int (x * y) :: r) h
  | _ => none
noncomputable def mx_iand (nx : Nat) : mx_O := fun k _ ls st h => match st with
  | .int y :: .int x :: r => k nx ls (.int (x &&& y) :: r) h
  | _ => none
noncomputable def mx_ior (nx : Nat) : mx_O := fun k _ ls st h => match st with
  | .int y :: .int x :: r => k nx ls (.int (x ||| y) :: r) h
  | _ => none
noncomputable def mx_ixor (nx : Nat) : mx_O := fun k _ ls st h => match st with
  | .int y :: .int x :: r => k nx ls (.int (x ^^^ y) :: r) h
  | _ => none
noncomputable def mx_ishl (nx : Nat) : mx_O := fun k _ ls st h => match st with
  | .int y :: .int x :: r => k nx ls (.int (x <<< (y &&& 31)) :: r) h
  | _ => none
noncomputable def mx_ishr (nx : Nat) : mx_O := fun k _ ls st h => match st with
  | .int y :: .int x :: r => k nx ls (.int (x >>> (y &&& 31)) :: r) h
  | _ => none
noncomputable def mx_iushr (nx : Nat) : mx_O := fun k _ ls st h => match st with
  | .int y :: .int x :: r => k nx ls (.int ((x.toUInt32 >>> (y.toUInt32 &&& Int32.toUInt32 31)).toInt32) :: r) h
  | _ => none
noncomputable def mx_idiv (nx : Nat) : mx_O := fun k _ ls st h => match st with
  | .int y :: .int x :: r => if y = 0 then none else k nx ls (.int (x / y) :: r) h
  | _ => none
noncomputable def mx_irem (nx : Nat) : mx_O := fun k _ ls st h => match st with
  | .int y :: .int x :: r => if y = 0 then none else k nx ls (.int (x - x / y * y) :: r) h
  | _ => none
noncomputable def mx_lsub (nx : Nat) : mx_O := fun k _ ls st h => match st with
  | .long y :: .long x :: r => k nx ls (.long (x - y) :: r) h
  | .long y :: .double t :: r => if y = 0 then k nx ls (.double t :: r) h else none
  | _ => none
noncomputable def mx_lrem (nx : Nat) : mx_O := fun k _ ls st h => match st with
  | .long y :: .long x :: r => if y = 0 then none else k nx ls (.long (x - x / y * y) :: r) h
  | .long y :: .double t :: r => if y = 1 then k nx ls (.long 0 :: r) h else none
  | _ => none
noncomputable def mx_ladd (nx : Nat) : mx_O := fun k _ ls st h => match st with
  | .long y :: .long x :: r => k nx ls (.long (x + y) :: r) h
  | _ => none
noncomputable def mx_lmul (nx : Nat) : mx_O := fun k _ ls st h => match st with
  | .long y :: .long x :: r => k nx ls (.long (x * y) :: r) h
  | _ => none
noncomputable def mx_land (nx : Nat) : mx_O := fun k _ ls st h => match st with
  | .long y :: .long x :: r => k nx ls (.long (x &&& y) :: r) h
  | _ => none
noncomputable def mx_lor (nx : Nat) : mx_O := fun k _ ls st h => match st with
  | .long y :: .long x :: r => k nx ls (.long (x ||| y) :: r) h
  | _ => none
noncomputable def mx_lxor (nx : Nat) : mx_O := fun k _ ls st h => match st with
  | .long y :: .long x :: r => k nx ls (.long (x ^^^ y) :: r) h
  | _ => none
noncomputable def mx_ldiv (nx : Nat) : mx_O := fun k _ ls st h => match st with
  | .long y :: .long x :: r => if y = 0 then none else k nx ls (.long (x / y) :: r) h
  | _ => none
noncomputable def mx_lshl (nx : Nat) : mx_O := fun k _ ls st h => match st with
  | .int y :: .long x :: r => k nx ls (.long (x <<< (y.toInt64 &&& 63)) :: r) h
  | _ => none
noncomputable def mx_lshr (nx : Nat) : mx_O := fun k _ ls st h => match st with
  | .int y :: .long x :: r => k nx ls (.long (x >>> (y.toInt64 &&& 63)) :: r) h
  | _ => none
noncomputable def mx_lushr (nx : Nat) : mx_O := fun k _ ls st h => match st with
  | .int y :: .long x :: r => k nx ls (.long ((x.toUInt64 >>> (y.toInt64.toUInt64 &&& Int64.toUInt64 63)).toInt64) :: r) h
  | _ => none
noncomputable def mx_lcmp (nx : Nat) : mx_O := fun k _ ls st h => match st with
  | .long y :: .long x :: r => k nx ls (.int (lg_cmp x y) :: r) h
  | _ => none
noncomputable def mx_ineg (nx : Nat) : mx_O := fun k _ ls st h => match st with
  | .int x :: r => k nx ls (.int (-x) :: r) h
  | _ => none
noncomputable def mx_lneg (nx : Nat) : mx_O := fun k _ ls st h => match st with
  | .long x :: r => k nx ls (.long (-x) :: r) h
  | _ => none
noncomputable def mx_l2i (nx : Nat) : mx_O := fun k _ ls st h => match st with
  | .long x :: r => k nx ls (.int (x.toInt32) :: r) h
  | _ => none
noncomputable def mx_i2b (nx : Nat) : mx_O := fun k _ ls st h => match st with
  | .int x :: r => k nx ls (.int (x.toInt8.toInt32) :: r) h
  | _ => none
noncomputable def mx_i2s (nx : Nat) : mx_O := fun k _ ls st h => match st with
  | .int x :: r => k nx ls (.int (x.toInt16.toInt32) :: r) h
  | _ => none
noncomputable def mx_i2c (nx : Nat) : mx_O := fun k _ ls st h => match st with
  | .int x :: r => k nx ls (.int ((x.toUInt32 % 65536).toInt32) :: r) h
  | _ => none
/-- bounds of numbers that aren't known: a number t stands for one between two bounds -/
noncomputable def mx_bd (k : Nat) : Int := if k < 56 then (k : Int) - 2 else [99, 100, 2147483647, -2147483648, -9223372036854775808, 9223372036854775807, 1000000000000000, 1000000000000001].getD (k - 56) 0
noncomputable def mx_iv (t : Nat) : Int × Int := (mx_bd (t / 8 % 64), mx_bd (t / 512))
noncomputable def mx_rng : Value → Option (Int × Int)
  | .int x => some (x.toInt, x.toInt)
  | .float t => if (mx_iv t.toNat).1 ≤ (mx_iv t.toNat).2 ∧ -2147483648 ≤ (mx_iv t.toNat).1 ∧ (mx_iv t.toNat).2 ≤ 2147483647 then some (mx_iv t.toNat) else none
  | _ => none
noncomputable def mx_rngL : Value → Option (Int × Int)
  | .long x => some (x.toInt, x.toInt)
  | .double t => if (mx_iv t.toNat).1 ≤ (mx_iv t.toNat).2 then some (mx_iv t.toNat) else none
  | _ => none
noncomputable def mx_nlt (a b : Option (Int × Int)) : Option Bool := match a, b with
  | some p, some q => if p.2 < q.1 then some true else if q.2 ≤ p.1 then some false else none
  | _, _ => none
noncomputable def mx_neq (a b : Option (Int × Int)) : Option Bool := match a, b with
  | some p, some q => if p.2 < q.1 ∨ q.2 < p.1 then some false else if p.1 = p.2 ∧ q.1 = q.2 ∧ p.1 = q.1 then some true else none
  | _, _ => none
noncomputable def mx_n_lt (a b : Option (Int × Int)) : Option Bool := mx_nlt a b
noncomputable def mx_n_ge (a b : Option (Int × Int)) : Option Bool := (mx_nlt a b).map (fun c => !c)
noncomputable def mx_n_gt (a b : Option (Int × Int)) : Option Bool := mx_nlt b a
noncomputable def mx_n_le (a b : Option (Int × Int)) : Option Bool := (mx_nlt b a).map (fun c => !c)
noncomputable def mx_n_eq (a b : Option (Int × Int)) : Option Bool := mx_neq a b
noncomputable def mx_n_ne (a b : Option (Int × Int)) : Option Bool := (mx_neq a b).map (fun c => !c)
noncomputable def mx_bra (k : mx_K) (tg nx : Nat) (ls : mx_L) (r : List Value) (h : mx_H) : Option Bool → Option mx_R
  | some true => k tg ls r h
  | some false => k nx ls r h
  | none => none
noncomputable def mx_i2l (nx : Nat) : mx_O := fun k _ ls st h => match st with
  | .int x :: r => k nx ls (.long x.toInt64 :: r) h
  | .float t :: r => match mx_rng (.float t) with
    | some _ => k nx ls (.double (UInt64.ofNat t.toNat) :: r) h
    | none => none
  | _ => none
noncomputable def mx_if_eq (tg nx : Nat) : mx_O := fun k _ ls st h => match st with
  | .int x :: r => if x = 0 then k tg ls r h else k nx ls r h
  | .float t :: r => mx_bra k tg nx ls r h (mx_n_eq (mx_rng (.float t)) (some (0, 0)))
  | _ => none
noncomputable def mx_icmp_eq (tg nx : Nat) : mx_O := fun k _ ls st h => match st with
  | .int y :: .int x :: r => if x = y then k tg ls r h else k nx ls r h
  | b :: a :: r => mx_bra k tg nx ls r h (mx_n_eq (mx_rng a) (mx_rng b))
  | _ => none
noncomputable def mx_lif_eq (tg nx : Nat) : mx_O := fun k _ ls st h => match st with
  | .long y :: .long x :: r => if lg_cmp x y = 0 then k tg ls r h else k nx ls r h
  | b :: a :: r => mx_bra k tg nx ls r h (mx_n_eq (mx_rngL a) (mx_rngL b))
  | _ => none
noncomputable def mx_if_ne (tg nx : Nat) : mx_O := fun k _ ls st h => match st with
  | .int x :: r => if ¬ x = 0 then k tg ls r h else k nx ls r h
  | .float t :: r => mx_bra k tg nx ls r h (mx_n_ne (mx_rng (.float t)) (some (0, 0)))
  | _ => none
noncomputable def mx_icmp_ne (tg nx : Nat) : mx_O := fun k _ ls st h => match st with
  | .int y :: .int x :: r => if ¬ x = y then k tg ls r h else k nx ls r h
  | b :: a :: r => mx_bra k tg nx ls r h (mx_n_ne (mx_rng a) (mx_rng b))
  | _ => none
noncomputable def mx_lif_ne (tg nx : Nat) : mx_O := fun k _ ls st h => match st with
  | .long y :: .long x :: r => if ¬ lg_cmp x y = 0 then k tg ls r h else k nx ls r h
  | b :: a :: r => mx_bra k tg nx ls r h (mx_n_ne (mx_rngL a) (mx_rngL b))
  | _ => none
noncomputable def mx_if_lt (tg nx : Nat) : mx_O := fun k _ ls st h => match st with
  | .int x :: r => if x < 0 then k tg ls r h else k nx ls r h
  | .float t :: r => mx_bra k tg nx ls r h (mx_n_lt (mx_rng (.float t)) (some (0, 0)))
  | _ => none
noncomputable def mx_icmp_lt (tg nx : Nat) : mx_O := fun k _ ls st h => match st with
  | .int y :: .int x :: r => if x < y then k tg ls r h else k nx ls r h
  | b :: a :: r => mx_bra k tg nx ls r h (mx_n_lt (mx_rng a) (mx_rng b))
  | _ => none
noncomputable def mx_lif_lt (tg nx : Nat) : mx_O := fun k _ ls st h => match st with
  | .long y :: .long x :: r => if lg_cmp x y < 0 then k tg ls r h else k nx ls r h
  | b :: a :: r => mx_bra k tg nx ls r h (mx_n_lt (mx_rngL a) (mx_rngL b))
  | _ => none
noncomputable def mx_if_ge (tg nx : Nat) : mx_O := fun k _ ls st h => match st with
  | .int x :: r => if 0 ≤ x then k tg ls r h else k nx ls r h
  | .float t :: r => mx_bra k tg nx ls r h (mx_n_ge (mx_rng (.float t)) (some (0, 0)))
  | _ => none
noncomputable def mx_icmp_ge (tg nx : Nat) : mx_O := fun k _ ls st h => match st with
  | .int y :: .int x :: r => if y ≤ x then k tg ls r h else k nx ls r h
  | b :: a :: r => mx_bra k tg nx ls r h (mx_n_ge (mx_rng a) (mx_rng b))
  | _ => none
noncomputable def mx_lif_ge (tg nx : Nat) : mx_O := fun k _ ls st h => match st with
  | .long y :: .long x :: r => if 0 ≤ lg_cmp x y then k tg ls r h else k nx ls r h
  | b :: a :: r => mx_bra k tg nx ls r h (mx_n_ge (mx_rngL a) (mx_rngL b))
  | _ => none
noncomputable def mx_if_gt (tg nx : Nat) : mx_O := fun k _ ls st h => match st with
  | .int x :: r => if 0 < x then k tg ls r h else k nx ls r h
  | .float t :: r => mx_bra k tg nx ls r h (mx_n_gt (mx_rng (.float t)) (some (0, 0)))
  | _ => none
noncomputable def mx_icmp_gt (tg nx : Nat) : mx_O := fun k _ ls st h => match st with
  | .int y :: .int x :: r => if y < x then k tg ls r h else k nx ls r h
  | b :: a :: r => mx_bra k tg nx ls r h (mx_n_gt (mx_rng a) (mx_rng b))
  | _ => none
noncomputable def mx_lif_gt (tg nx : Nat) : mx_O := fun k _ ls st h => match st with
  | .long y :: .long x :: r => if 0 < lg_cmp x y then k tg ls r h else k nx ls r h
  | b :: a :: r => mx_bra k tg nx ls r h (mx_n_gt (mx_rngL a) (mx_rngL b))
  | _ => none
noncomputable def mx_if_le (tg nx : Nat) : mx_O := fun k _ ls st h => match st with
  | .int x :: r => if x ≤ 0 then k tg ls r h else k nx ls r h
  | .float t :: r => mx_bra k tg nx ls r h (mx_n_le (mx_rng (.float t)) (some (0, 0)))
  | _ => none
noncomputable def mx_icmp_le (tg nx : Nat) : mx_O := fun k _ ls st h => match st with
  | .int y :: .int x :: r => if x ≤ y then k tg ls r h else k nx ls r h
  | b :: a :: r => mx_bra k tg nx ls r h (mx_n_le (mx_rng a) (mx_rng b))
  | _ => none
noncomputable def mx_lif_le (tg nx : Nat) : mx_O := fun k _ ls st h => match st with
  | .long y :: .long x :: r => if lg_cmp x y ≤ 0 then k tg ls r h else k nx ls r h
  | b :: a :: r => mx_bra k tg nx ls r h (mx_n_le (mx_rngL a) (mx_rngL b))
  | _ => none
noncomputable def mx_goto (tg : Nat) : mx_O := fun k _ ls st h => k tg ls st h
noncomputable def mx_ifnull (tg nx : Nat) : mx_O := fun k _ ls st h => match st with
  | .null :: r => k tg ls r h
  | .ref _ :: r => k nx ls r h
  | _ => none
noncomputable def mx_ifnonnull (tg nx : Nat) : mx_O := fun k _ ls st h => match st with
  | .null :: r => k nx ls r h
  | .ref _ :: r => k tg ls r h
  | _ => none
noncomputable def mx_dup (nx : Nat) : mx_O := fun k _ ls st h => match st with
  | a :: r => bif mx_c1 a then k nx ls (a :: a :: r) h else none
  | _ => none
noncomputable def mx_pop (nx : Nat) : mx_O := fun k _ ls st h => match st with
  | a :: r => bif mx_c1 a then k nx ls r h else none
  | _ => none
noncomputable def mx_dup_x1 (nx : Nat) : mx_O := fun k _ ls st h => match st with
  | a :: b :: r => bif mx_c1 a && mx_c1 b then k nx ls (a :: b :: a :: r) h else none
  | _ => none
noncomputable def mx_dup_x2 (nx : Nat) : mx_O := fun k _ ls st h => match st with
  | a :: b :: d :: r => bif mx_c1 a && (mx_c1 b && mx_c1 d) then k nx ls (a :: b :: d :: a :: r) h else none
  | _ => none
noncomputable def mx_dup2a (nx : Nat) : mx_O := fun k _ ls st h => match st with
  | a :: b :: r => bif mx_c1 a && mx_c1 b then k nx ls (a :: b :: a :: b :: r) h else none
  | _ => none
noncomputable def mx_dup2b (nx : Nat) : mx_O := fun k _ ls st h => match st with
  | a :: r => bif mx_c1 a then none else k nx ls (a :: a :: r) h
  | _ => none
noncomputable def mx_pop2a (nx : Nat) : mx_O := fun k _ ls st h => match st with
  | a :: b :: r => bif mx_c1 a && mx_c1 b then k nx ls r h else none
  | _ => none
noncomputable def mx_pop2b (nx : Nat) : mx_O := fun k _ ls st h => match st with
  | a :: r => bif mx_c1 a then none else k nx ls r h
  | _ => none
noncomputable def mx_dup2x1 (nx : Nat) : mx_O := fun k _ ls st h => match st with
  | a :: b :: r => bif mx_c1 a then none else bif mx_c1 b then k nx ls (a :: b :: a :: r) h else none
  | _ => none
noncomputable def mx_dup2x2 (nx : Nat) : mx_O := fun k _ ls st h => match st with
  | a :: b :: d :: r => bif mx_c1 a then none else bif mx_c1 b && mx_c1 d then k nx ls (a :: b :: d :: a :: r) h else none
  | _ => none
noncomputable def mx_tsw (lo hi : Int) (ts : List Nat) (df : Nat) : mx_O := fun k _ ls st h => match st with
  | .int x :: r => if x.toInt < lo ∨ hi < x.toInt then k df ls r h else match ts[(x.toInt - lo).toNat]? with
    | some t => k t ls r h
    | none => none
  | .float t :: r => match mx_rng (.float t) with
    | some iv => if iv.2 < lo ∨ hi < iv.1 then k df ls r h else none
    | none => none
  | _ => none
noncomputable def mx_find : List (Int × Nat) → Nat → Int → Nat
  | [], df, _ => df
  | (a, t) :: r, df, x => if x = a then t else mx_find r df x
noncomputable def mx_lsw (ps : List (Int × Nat)) (df : Nat) : mx_O := fun k _ ls st h => match st with
  | .int x :: r => k (mx_find ps df x.toInt) ls r h
  | _ => none
noncomputable def mx_getf (ci f nx : Nat) : mx_O := fun k _ ls st h => match st with
  | .ref a :: r => match mx_cell h a with
    | some (.inl (c, fs)) => bif Nat.beq c ci then match mx_nth fs f with
        | some v => k nx ls (v :: r) h
        | none => none
      else none
    | _ => none
  | _ => none
noncomputable def mx_putf (KC ci f : Nat) (ty : FieldType) (nx : Nat) : mx_O := fun k _ ls st h => match st with
  | v :: .ref a :: r => bif Nat.blt a KC then none else match mx_cell h a with
    | some (.inl (c, fs)) => bif Nat.beq c ci && (Nat.blt f fs.length && mx_fit ty v) then k nx ls r (mx_put h a (.inl (c, mx_upd fs f v))) else none
    | _ => none
  | _ => none
noncomputable def mx_new (ci n : Nat) (fs : List Value) (nx : Nat) : mx_O := fun k _ ls st h => bif Nat.blt h.1 512 then k nx ls (.ref h.1 :: st) (mx_push h n (.inl (ci, fs))) else none
noncomputable def mx_newa (ty : FieldType) (d : Value) (nx : Nat) : mx_O := fun k _ ls st h => match st with
  | .int n :: r => if n < 0 then none else bif Nat.blt h.1 512 && Nat.ble n.toNatClampNeg 8192 then k nx ls (.ref h.1 :: r) (mx_push h n.toNatClampNeg (.inr (ty, n.toNatClampNeg, mx_rep d 13))) else none
  | _ => none
noncomputable def mx_iald (nx : Nat) : mx_O := fun k _ ls st h => match st with
  | .int j :: .ref a :: r => match mx_cell h a with
    | some (.inr (.int, n, c)) => if j < 0 then none else bif Nat.blt j.toNatClampNeg n then k nx ls (mx_get 13 c j.toNatClampNeg :: r) h else none
    | _ => none
  | _ => none
noncomputable def mx_lald (nx : Nat) : mx_O := fun k _ ls st h => match st with
  | .int j :: .ref a :: r => match mx_cell h a with
    | some (.inr (.long, n, c)) => if j < 0 then none else bif Nat.blt j.toNatClampNeg n then k nx ls (mx_get 13 c j.toNatClampNeg :: r) h else none
    | _ => none
  | _ => none
noncomputable def mx_bald (nx : Nat) : mx_O := fun k _ ls st h => match st with
  | .int j :: .ref a :: r => match mx_cell h a with
    | some (.inr (.byte, n, c)) => if j < 0 then none else bif Nat.blt j.toNatClampNeg n then k nx ls (mx_get 13 c j.toNatClampNeg :: r) h else none
    | _ => none
  | _ => none
noncomputable def mx_zald (nx : Nat) : mx_O := fun k _ ls st h => match st with
  | .int j :: .ref a :: r => match mx_cell h a with
    | some (.inr (.boolean, n, c)) => if j < 0 then none else bif Nat.blt j.toNatClampNeg n then k nx ls (mx_get 13 c j.toNatClampNeg :: r) h else none
    | _ => none
  | _ => none
noncomputable def mx_cald (nx : Nat) : mx_O := fun k _ ls st h => match st with
  | .int j :: .ref a :: r => match mx_cell h a with
    | some (.inr (.char, n, c)) => if j < 0 then none else bif Nat.blt j.toNatClampNeg n then k nx ls (mx_get 13 c j.toNatClampNeg :: r) h else none
    | _ => none
  | _ => none
noncomputable def mx_sald (nx : Nat) : mx_O := fun k _ ls st h => match st with
  | .int j :: .ref a :: r => match mx_cell h a with
    | some (.inr (.short, n, c)) => if j < 0 then none else bif Nat.blt j.toNatClampNeg n then k nx ls (mx_get 13 c j.toNatClampNeg :: r) h else none
    | _ => none
  | _ => none
noncomputable def mx_aald (nx : Nat) : mx_O := fun k _ ls st h => match st with
  | .int j :: .ref a :: r => match mx_cell h a with
    | some (.inr (.object _, n, c)) => if j < 0 then none else bif Nat.blt j.toNatClampNeg n then k nx ls (mx_get 13 c j.toNatClampNeg :: r) h else none
    | _ => none
  | _ => none
noncomputable def mx_iast (KC nx : Nat) : mx_O := fun k _ ls st h => match st with
  | .int x :: .int j :: .ref a :: r => bif Nat.blt a KC then none else match mx_cell h a with
    | some (.inr (.int, n, c)) => if j < 0 then none else bif Nat.blt j.toNatClampNeg n then k nx ls r (mx_put h a (.inr (.int, n, mx_set 13 c j.toNatClampNeg (.int x)))) else none
    | _ => none
  | .float x :: .int j :: .ref a :: r => bif Nat.blt a KC then none else match mx_cell h a with
    | some (.inr (.int, n, c)) => if j < 0 then none else bif Nat.blt j.toNatClampNeg n then k nx ls r (mx_put h a (.inr (.int, n, mx_set 13 c j.toNatClampNeg (.float x)))) else none
    | _ => none
  | _ => none
noncomputable def mx_last (KC nx : Nat) : mx_O := fun k _ ls st h => match st with
  | .long x :: .int j :: .ref a :: r => bif Nat.blt a KC then none else match mx_cell h a with
    | some (.inr (.long, n, c)) => if j < 0 then none else bif Nat.blt j.toNatClampNeg n then k nx ls r (mx_put h a (.inr (.long, n, mx_set 13 c j.toNatClampNeg (.long x)))) else none
    | _ => none
  | .double x :: .int j :: .ref a :: r => bif Nat.blt a KC then none else match mx_cell h a with
    | some (.inr (.long, n, c)) => if j < 0 then none else bif Nat.blt j.toNatClampNeg n then k nx ls r (mx_put h a (.inr (.long, n, mx_set 13 c j.toNatClampNeg (.double x)))) else none
    | _ => none
  | _ => none
noncomputable def mx_bast (KC nx : Nat) : mx_O := fun k _ ls st h => match st with
  | .int x :: .int j :: .ref a :: r => bif Nat.blt a KC then none else match mx_cell h a with
    | some (.inr (.byte, n, c)) => if j < 0 then none else bif Nat.blt j.toNatClampNeg n then k nx ls r (mx_put h a (.inr (.byte, n, mx_set 13 c j.toNatClampNeg (.int x.toInt8.toInt32)))) else none
    | _ => none
  | _ => none
noncomputable def mx_zast (KC nx : Nat) : mx_O := fun k _ ls st h => match st with
  | .int x :: .int j :: .ref a :: r => bif Nat.blt a KC then none else match mx_cell h a with
    | some (.inr (.boolean, n, c)) => if j < 0 then none else bif Nat.blt j.toNatClampNeg n then k nx ls r (mx_put h a (.inr (.boolean, n, mx_set 13 c j.toNatClampNeg (.int (x &&& 1))))) else none
    | _ => none
  | _ => none
noncomputable def mx_cast (KC nx : Nat) : mx_O := fun k _ ls st h => match st with
  | .int x :: .int j :: .ref a :: r => bif Nat.blt a KC then none else match mx_cell h a with
    | some (.inr (.char, n, c)) => if j < 0 then none else bif Nat.blt j.toNatClampNeg n then k nx ls r (mx_put h a (.inr (.char, n, mx_set 13 c j.toNatClampNeg (.int x.toUInt32.toUInt16.toUInt32.toInt32)))) else none
    | _ => none
  | _ => none
noncomputable def mx_sast (KC nx : Nat) : mx_O := fun k _ ls st h => match st with
  | .int x :: .int j :: .ref a :: r => bif Nat.blt a KC then none else match mx_cell h a with
    | some (.inr (.short, n, c)) => if j < 0 then none else bif Nat.blt j.toNatClampNeg n then k nx ls r (mx_put h a (.inr (.short, n, mx_set 13 c j.toNatClampNeg (.int x.toInt16.toInt32)))) else none
    | _ => none
  | _ => none
/-- a reference comes into an array of class C: an object of class ci, whose name is C -/
noncomputable def mx_aast (KC ci nx : Nat) (C : String) : mx_O := fun k _ ls st h => match st with
  | .ref b :: .int j :: .ref a :: r => bif Nat.blt a KC then none else match mx_cell h b with
    | some (.inl (c2, _)) => bif Nat.beq c2 ci then match mx_cell h a with
      | some (.inr (.object D, n, c)) => if D = C then if j < 0 then none else bif Nat.blt j.toNatClampNeg n then k nx ls r (mx_put h a (.inr (.object D, n, mx_set 13 c j.toNatClampNeg (.ref b)))) else none else none
      | _ => none
      else none
    | _ => none
  | _ => none
noncomputable def mx_alen (nx : Nat) : mx_O := fun k _ ls st h => match st with
  | .ref a :: r => match mx_cell h a with
    | some (.inr (.float, _, _)) => none
    | some (.inr (_, n, _)) => k nx ls (.int (Int32.ofNat n) :: r) h
    | _ => none
  | _ => none
noncomputable def mx_ret1 (k : mx_K) (nx : Nat) (ls : mx_L) (rest : List Value) : mx_R → Option mx_R
  | (some v, h) => k nx ls (v :: rest) h
  | (none, h) => k nx ls rest h
/-- calls: mi the method, nt how many operands (the receiver too), ci the receiver's class -/
noncomputable def mx_callv (mi nt ci nx : Nat) : mx_O := fun k call ls st h => match (st.take nt).reverse with
  | .ref b :: as => match mx_cell h b with
    | some (.inl (c, _)) => bif Nat.beq c ci && (Nat.beq as.length (nt - 1) && Nat.ble (mx_cat (st.drop nt)) 8) then match call mi (.ref b :: as) h with
        | some r => mx_ret1 k nx ls (st.drop nt) r
        | none => none
      else none
    | _ => none
  | _ => none
noncomputable def mx_calls (mi nt nx : Nat) : mx_O := fun k call ls st h => bif Nat.beq (st.take nt).length nt && Nat.ble (mx_cat (st.drop nt)) 8 then match call mi (st.take nt).reverse h with
    | some r => mx_ret1 k nx ls (st.drop nt) r
    | none => none
  else none
noncomputable def mx_calli (mi nt nx : Nat) : mx_O := fun k call ls st h => match (st.take nt).reverse with
  | .ref b :: as => bif Nat.beq as.length (nt - 1) && Nat.ble (mx_cat (st.drop nt)) 8 then match call mi (.ref b :: as) h with
        | some r => bif r.1.isNone then k nx ls (st.drop nt) r.2 else none
        | none => none
      else none
  | _ => none
/-- Object(): nothing; the call of method 0 only shows that there is a frame left -/
noncomputable def mx_objinit (nx : Nat) : mx_O := fun k call ls st h => match st with
  | .ref _ :: r => bif Nat.ble (mx_cat r) 8 then match call 0 [] h with
      | some _ => k nx ls r h
      | none => none
    else none
  | _ => none
noncomputable def mx_mmax (nx : Nat) : mx_O := fun k call ls st h => match st with
  | .int y :: .int x :: r => bif Nat.ble (mx_cat r) 8 then match call 0 [] h with
      | some _ => k nx ls (.int (if x < y then y else x) :: r) h
      | none => none
    else none
  | _ => none
noncomputable def mx_mmin (nx : Nat) : mx_O := fun k call ls st h => match st with
  | .int y :: .int x :: r => bif Nat.ble (mx_cat r) 8 then match call 0 [] h with
      | some _ => k nx ls (.int (if y < x then y else x) :: r) h
      | none => none
    else none
  | _ => none
noncomputable def mx_iret : mx_O := fun _ _ _ st h => match st with
  | [.int v] => some (some (.int v), h)
  | _ => none
noncomputable def mx_zret : mx_O := fun _ _ _ st h => match st with
  | [.int v] => if v = 0 ∨ v = 1 then some (some (.int v), h) else none
  | _ => none
noncomputable def mx_lret : mx_O := fun _ _ _ st h => match st with
  | [.long v] => some (some (.long v), h)
  | _ => none
noncomputable def mx_aret : mx_O := fun _ _ _ st h => match st with
  | [.ref v] => some (some (.ref v), h)
  | [.null] => some (some .null, h)
  | _ => none
noncomputable def mx_vret : mx_O := fun _ _ _ st h => match st with
  | [] => some (none, h)
  | _ => none
end
section
/-! what the small machine's cells are on the library's heap; the judgement that its instructions keep -/
/-- classes, their numbers and slots; how many constants, where new cells begin, where the constants lie, the heap at the start -/
abbrev mx_E : Type := List vw_C × va_G × Nat × Nat × (Nat → Nat) × Heap × (Nat → Int64)
def mx_rho (E : mx_E) (k : Nat) : Nat := if k < E.2.2.1 then E.2.2.2.2.1 k else E.2.2.2.1 + (k - E.2.2.1)
def mx_v (E : mx_E) : Value → Value
  | .ref k => .ref (mx_rho E k)
  | .float t => .int (E.2.2.2.2.2.2 t.toNat).toInt32
  | .double t => .long (E.2.2.2.2.2.2 t.toNat)
  | v => v
/-- an array's cell -/
def mx_okA (E : mx_E) (U : State) (H : Heap) (a : Nat) (ty : FieldType) (n : Nat) (t : mx_A) : Prop := ∃ c : Cell, H[a]? = some c ∧ U.isArrayOf c ty ∧ c.vm ≠ .unknown ∧ (n ≤ c.slots.size ∧ c.slots.size.toInt32 = Int32.ofNat n) ∧ n ≤ 8192 ∧ (∀ j, j < n → c.slots[j]? = some (mx_v E (mx_get 13 t j))) ∧ (∀ C, ty = .object C → va_RA U c.cls ty)
/-- a cell; an array of floats stands for a cell of which nothing is known but that it is as at the start -/
def mx_ok (E : mx_E) (U : State) (H : Heap) (a : Nat) (c : mx_C) : Prop := match c with
  | .inl (ci, fs) => ∃ r : vw_C, E.1[ci]? = some r ∧ fs.length = r.2.2 ∧ t_OB a (E.2.1.1 ci) r.2.2 (E.2.1.2 ci) H (vp_V (fs.map (mx_v E)))
  | .inr (ty, n, t) => (ty = .float ∧ H[a]? = E.2.2.2.2.2.1[a]?) ∨ (¬ ty = .float ∧ mx_okA E U H a ty n t)
def mx_Rp (E : mx_E) (U : State) (h : mx_H) (H : Heap) : Prop :=
  E.2.2.1 ≤ h.1 ∧ h.1 ≤ 512 ∧ H.size = E.2.2.2.1 + (h.1 - E.2.2.1) ∧ (∀ q, q < E.2.2.2.1 → H[q]? = E.2.2.2.2.2.1[q]?) ∧ (∀ k, k < E.2.2.1 → E.2.2.2.2.1 k < E.2.2.2.1) ∧ ∀ k, k < h.1 → mx_ok E U H (mx_rho E k) (mx_get 9 h.2.2 k)
theorem mx_ok.kept {E : mx_E} {U : State} {H H1 : Heap} {a : Nat} {c : mx_C} (h : mx_ok E U H a c) (hq : H1[a]? = H[a]?) : mx_ok E U H1 a c := by
  cases c with
  | inl o =>
    obtain ⟨r, h1, h2, h3⟩ := h
    exact ⟨r, h1, h2, h3.kept hq⟩
  | inr o =>
    rcases h with ⟨hf, h1⟩ | ⟨hf, c, h1, h2⟩
    · exact Or.inl ⟨hf, hq.trans h1⟩
    · exact Or.inr ⟨hf, c, hq.trans h1, h2⟩
theorem mx_ok.moved {E : mx_E} {u U : State} {H : Heap} {a : Nat} {c : mx_C} (hvm : u.vm.Alike U.vm) (h : mx_ok E u H a c) : mx_ok E U H a c := by
  cases c with
  | inl o => exact h
  | inr o =>
    rcases h with h | ⟨hf, c, h1, h2, h3, h4, h5, h6, h7⟩
    · exact Or.inl h
    · exact Or.inr ⟨hf, c, h1, State.isArrayOf_alike hvm h2, h3, h4, h5, h6, fun C hC => (h7 C hC).moved hvm⟩
theorem mx_Rp.moved {E : mx_E} {u U : State} {h : mx_H} {H : Heap} (hvm : u.vm.Alike U.vm) (hr : mx_Rp E u h H) : mx_Rp E U h H := by
  obtain ⟨h1, h2, h3, h4, h5, h6⟩ := hr
  exact ⟨h1, h2, h3, h4, h5, fun k hk => (h6 k hk).moved hvm⟩
theorem mx_rho_hi {E : mx_E} {k : Nat} (h : ¬ k < E.2.2.1) : mx_rho E k = E.2.2.2.1 + (k - E.2.2.1) := by
  unfold mx_rho; rw [if_neg h]
/-- cells apart: a place that isn't a constant's is no other's -/
theorem mx_rho_ne {E : mx_E} {U : State} {h : mx_H} {H : Heap} (hr : mx_Rp E U h H) {a k : Nat} (ha : ¬ a < E.2.2.1) (hk : k ≠ a) : mx_rho E k ≠ mx_rho E a := by
  rw [mx_rho_hi ha]
  by_cases hkc : k < E.2.2.1
  · have := hr.2.2.2.2.1 k hkc
    unfold mx_rho; rw [if_pos hkc]; omega
  · rw [mx_rho_hi hkc]; omega
theorem mx_cell_some {h : mx_H} {a : Nat} {c : mx_C} (e : mx_cell h a = some c) : a < h.1 ∧ mx_get 9 h.2.2 a = c := by
  unfold mx_cell at e
  cases hb : Nat.blt a h.1 with
  | false => rw [hb] at e; cases e
  | true =>
    rw [hb] at e
    exact ⟨by have := Nat.ble_eq.mp (show Nat.ble (a + 1) h.1 = true from hb); omega, Option.some.inj e⟩
theorem mx_Rp.at {E : mx_E} {U : State} {h : mx_H} {H : Heap} {a : Nat} {c : mx_C} (hr : mx_Rp E U h H) (e : mx_cell h a = some c) : mx_ok E U H (mx_rho E a) c := by
  obtain ⟨h1, h2⟩ := mx_cell_some e
  rw [← h2]
  exact hr.2.2.2.2.2 a h1
theorem mx_Rp.arr {E : mx_E} {U : State} {h : mx_H} {H : Heap} {a n : Nat} {ty : FieldType} {t : mx_A} (hr : mx_Rp E U h H) (e : mx_cell h a = some (.inr (ty, n, t))) (hf : ¬ ty = .float) : mx_okA E U H (mx_rho E a) ty n t := by
  rcases hr.at e with h1 | h1
  · exact absurd h1.1 hf
  · exact h1.2
/-- one cell is another -/
theorem mx_Rp.put {E : mx_E} {U : State} {h : mx_H} {H H1 : Heap} {a : Nat} {c : mx_C} (hr : mx_Rp E U h H) (ha : ¬ a < E.2.2.1) (hl : a < h.1) (he : mx_ok E U H1 (mx_rho E a) c) (hz : H1.size = H.size) (hq : ∀ q : Nat, q ≠ mx_rho E a → H1[q]? = H[q]?) : mx_Rp E U (mx_put h a c) H1 := by
  have hne : ∀ k, k ≠ a → mx_rho E k ≠ mx_rho E a := fun k hk => mx_rho_ne hr ha hk
  obtain ⟨h1, h2, h3, h4, h5, h6⟩ := hr
  refine ⟨h1, h2, hz.trans h3, fun q hq2 => ?_, h5, fun k hk => ?_⟩
  · rw [hq q (by rw [mx_rho_hi ha]; omega)]; exact h4 q hq2
  · have hk2 : k < h.1 := hk
    show mx_ok E U H1 (mx_rho E k) (mx_get 9 (mx_set 9 h.2.2 a c) k)
    rw [mx_get_set c 9 h.2.2 a k (by show a < 512; omega) (by show k < 512; omega)]
    by_cases hka : k = a
    · rw [if_pos hka, hka]; exact he
    · rw [if_neg hka]; exact (h6 k hk2).kept (hq _ (hne k hka))
/-- one cell more -/
theorem mx_Rp.push {E : mx_E} {U : State} {h : mx_H} {H H1 : Heap} {n : Nat} {c : mx_C} (hr : mx_Rp E U h H) (hl : h.1 < 512) (he : mx_ok E U H1 H.size c) (hz : H1.size = H.size + 1) (hq : ∀ q : Nat, q < H.size → H1[q]? = H[q]?) : mx_Rp E U (mx_push h n c) H1 := by
  obtain ⟨h1, h2, h3, h4, h5, h6⟩ := hr
  have hlt : ∀ k, k < h.1 → mx_rho E k < H.size := by
    intro k hk
    by_cases hkc : k < E.2.2.1
    · have := h5 k hkc
      unfold mx_rho; rw [if_pos hkc]; omega
    · rw [mx_rho_hi hkc]; omega
  refine ⟨by show _ ≤ h.1 + 1; omega, by show h.1 + 1 ≤ _; omega, by show H1.size = _ + (h.1 + 1 - _); omega, fun q hq2 => ?_, h5, fun k hk => ?_⟩
  · rw [hq q (by omega)]; exact h4 q hq2
  · have hk2 : k < h.1 + 1 := hk
    show mx_ok E U H1 (mx_rho E k) (mx_get 9 (mx_set 9 h.2.2 h.1 c) k)
    rw [mx_get_set c 9 h.2.2 h.1 k (by show h.1 < 512; omega) (by show k < 512; omega)]
    by_cases hka : k = h.1
    · rw [if_pos hka, hka, mx_rho_hi (by omega), ← h3]; exact he
    · rw [if_neg hka]; exact (h6 k (by omega)).kept (hq _ (hlt k (by omega)))
theorem mx_rho_new {E : mx_E} {U : State} {h : mx_H} {H : Heap} (hr : mx_Rp E U h H) : mx_rho E h.1 = H.size := by
  rw [mx_rho_hi (by have := hr.1; omega), hr.2.2.1]
/-- locals -/
def mx_ls (E : mx_E) (la : Array Slot) (nL : Nat) (ls : mx_L) : Prop := la.size = nL ∧ lv_wf la ∧ ls.length = nL ∧ ∀ (i : Nat) (v : Value), ls[i]? = some (some v) → la[i]? = some (.val (mx_v E v))
theorem mx_lg_some {ls : mx_L} {i : Nat} {v : Value} (h : mx_lg ls i = some v) : ls[i]? = some (some v) := by
  unfold mx_lg at h
  rw [mx_nth_eq] at h
  split at h
  · rename_i w hw; rw [hw, Option.some.inj h]
  · cases h
theorem mx_v_cat (E : mx_E) (v : Value) : (mx_v E v).category = v.category := by cases v <;> rfl
theorem mx_cl_length (ls : mx_L) (i : Nat) : (mx_cl ls i).length = ls.length := by
  unfold mx_cl
  split
  · rfl
  · split <;> simp [mx_upd_eq]
theorem mx_cl_at {ls : mx_L} {i j : Nat} {v : Value} (h : (mx_cl ls i)[j]? = some (some v)) : ls[j]? = some (some v) ∧ ¬ (j + 1 = i ∧ v.category = 2) := by
  unfold mx_cl at h
  split at h
  · exact ⟨h, by omega⟩
  · rename_i k
    have hcat : ∀ w : Value, ls[k]? = some (some w) → mx_lg ls k = some w := by
      intro w hw; unfold mx_lg; rw [mx_nth_eq, hw]
    split at h
    · rw [mx_upd_eq, List.getElem?_set] at h
      by_cases hkj : k = j
      · rw [if_pos hkj] at h
        split at h <;> cases h
      · rw [if_neg hkj] at h
        exact ⟨h, by omega⟩
    · rw [mx_upd_eq, List.getElem?_set] at h
      by_cases hkj : k = j
      · rw [if_pos hkj] at h
        split at h <;> cases h
      · rw [if_neg hkj] at h
        exact ⟨h, by omega⟩
    · rename_i n1 n2
      refine ⟨h, ?_⟩
      rintro ⟨q1, q2⟩
      have hkj : k = j := by omega
      subst hkj
      have e := hcat v h
      cases v <;> first | exact absurd e (n1 _) | exact absurd e (n2 _) | (simp [Value.category] at q2)
/-- the list of what is held, as the kit has it -/
theorem mx_ls_of {E : mx_E} {la : Array Slot} {nL : Nat} {ls : mx_L} {lv : List (Nat × Value)} (h : lv_has la nL lv) (hlen : ls.length = nL) (hin : ∀ (i : Nat) (v : Value), ls[i]? = some (some v) → (i, mx_v E v) ∈ lv) : mx_ls E la nL ls :=
  ⟨h.1, h.2.1, hlen, fun i v hv => h.2.2 (i, mx_v E v) (hin i v hv)⟩
def mx_asc (E : mx_E) (ls : mx_L) : List (Nat × Value) := (List.range ls.length).filterMap fun i => match ls[i]? with
  | some (some v) => some (i, mx_v E v)
  | _ => none
theorem mx_asc_mem {E : mx_E} {ls : mx_L} {i : Nat} {w : Value} : (i, w) ∈ mx_asc E ls ↔ ∃ v, ls[i]? = some (some v) ∧ w = mx_v E v := by
  unfold mx_asc
  rw [List.mem_filterMap]
  constructor
  · rintro ⟨j, hj, e⟩
    split at e
    · rename_i v hv
      have e2 := Option.some.inj e
      have e3 : j = i := congrArg Prod.fst e2
      have e4 : mx_v E v = w := congrArg Prod.snd e2
      exact ⟨v, by rw [← e3]; exact hv, e4.symm⟩
    · cases e
  · rintro ⟨v, hv, rfl⟩
    refine ⟨i, List.mem_range.mpr (List.getElem?_eq_some_iff.mp hv).1, ?_⟩
    rw [hv]
theorem mx_ls.has {E : mx_E} {la : Array Slot} {nL : Nat} {ls : mx_L} (h : mx_ls E la nL ls) : lv_has la nL (mx_asc E ls) := by
  refine ⟨h.1, h.2.1, fun q hq => ?_⟩
  obtain ⟨i, w⟩ := q
  obtain ⟨v, hv, rfl⟩ := mx_asc_mem.mp hq
  exact h.2.2.2 i v hv
theorem mx_st1_ls {E : mx_E} {la : Array Slot} {nL : Nat} {ls : mx_L} {i : Nat} {v : Value} (hl : ls.length = nL)
    (h : lv_has la nL ((i, mx_v E v) :: (mx_asc E ls).filter (fun q => !(q.1 == i) && !(q.1 + 1 == i && q.2.category == 2)))) : mx_ls E la nL (mx_st1 ls i v) := by
  refine mx_ls_of h (by unfold mx_st1; rw [mx_upd_eq, List.length_set, mx_cl_length]; exact hl) fun j w hw => ?_
  unfold mx_st1 at hw
  rw [mx_upd_eq, List.getElem?_set] at hw
  by_cases hij : i = j
  · rw [if_pos hij] at hw
    split at hw
    · cases hw; rw [hij]; exact List.mem_cons_self
    · cases hw
  · rw [if_neg hij] at hw
    obtain ⟨h1, h2⟩ := mx_cl_at hw
    refine List.mem_cons_of_mem _ (List.mem_filter.mpr ⟨mx_asc_mem.mpr ⟨w, h1, rfl⟩, ?_⟩)
    have hji : ¬ j = i := fun z => hij z.symm
    simp only [Bool.and_eq_true, Bool.not_eq_true', beq_eq_false_iff_ne, ne_eq, Bool.and_eq_false_iff, mx_v_cat]
    refine ⟨hji, ?_⟩
    by_cases hc : j + 1 = i
    · exact Or.inr (fun hcat => h2 ⟨hc, hcat⟩)
    · exact Or.inl hc
theorem mx_st2_ls {E : mx_E} {la : Array Slot} {nL : Nat} {ls : mx_L} {i : Nat} {v : Value} (hl : ls.length = nL)
    (h : lv_has la nL ((i, mx_v E v) :: (mx_asc E ls).filter (fun q => !(q.1 == i) && (!(q.1 == i + 1) && !(q.1 + 1 == i && q.2.category == 2))))) : mx_ls E la nL (mx_st2 ls i v) := by
  refine mx_ls_of h (by unfold mx_st2; rw [mx_upd_eq, List.length_set, mx_upd_eq, List.length_set, mx_cl_length]; exact hl) fun j w hw => ?_
  unfold mx_st2 at hw
  rw [mx_upd_eq, List.getElem?_set] at hw
  by_cases hij : i = j
  · rw [if_pos hij] at hw
    split at hw
    · cases hw; rw [hij]; exact List.mem_cons_self
    · cases hw
  · rw [if_neg hij, mx_upd_eq, List.getElem?_set] at hw
    by_cases hij2 : i + 1 = j
    · rw [if_pos hij2] at hw
      split at hw <;> cases hw
    · rw [if_neg hij2] at hw
      obtain ⟨h1, h2⟩ := mx_cl_at hw
      refine List.mem_cons_of_mem _ (List.mem_filter.mpr ⟨mx_asc_mem.mpr ⟨w, h1, rfl⟩, ?_⟩)
      have hji : ¬ j = i := fun z => hij z.symm
      have hji2 : ¬ j = i + 1 := fun z => hij2 z.symm
      simp only [Bool.and_eq_true, Bool.not_eq_true', beq_eq_false_iff_ne, ne_eq, Bool.and_eq_false_iff, mx_v_cat]
      refine ⟨hji, hji2, ?_⟩
      by_cases hc : j + 1 = i
      · exact Or.inr (fun hcat => h2 ⟨hc, hcat⟩)
      · exact Or.inl hc
/-- what a run knows of the tables: the classes; arrays over classes, nest mates' links; static fields that nobody writes -/
abbrev mx_NF : Type := String
abbrev mx_NM : Type := String × Nat × MethodName × String
abbrev mx_Z : Type := String × String × String × Value
abbrev mx_Ev : Type := mx_E × List Cond × List mx_NF × List mx_NM × List mx_Z
def mx_KK (V : mx_Ev) (U : State) : Prop :=
  va_K V.1.2.1 V.1.1 [] U ∧ (∀ C ∈ V.2.2.1, va_AO C U) ∧ (∀ w ∈ V.2.2.2.1, va_Nw (.methodLinkNest w.1 w.2.1 w.2.2.1 w.2.2.2) U) ∧
  (∀ t, (mx_iv t).1 ≤ (mx_iv t).2 → (mx_iv t).1 ≤ (V.1.2.2.2.2.2.2 t).toInt ∧ (V.1.2.2.2.2.2.2 t).toInt ≤ (mx_iv t).2) ∧ ∀ z ∈ V.2.2.2.2, va_Z z.1 z.2.1 z.2.2.1 (mx_v V.1 z.2.2.2) (fun q => V.1.2.2.2.1 ≤ q) U V.1.2.2.2.2.2.1
theorem mx_KK.warm {V : mx_Ev} {s U : State} (hW : s.WarmedH U.vm) (h : mx_KK V s) : mx_KK V U := by
  obtain ⟨h1, h2, h3, h5, h4⟩ := h
  exact ⟨va_K.moved hW.alike h1, fun C hC => va_AO.moved hW.alike (h2 C hC), fun w hw => va_Nw.warmM hW (h3 w hw), h5, fun z hz => va_Z.moved hW.alike (h4 z hz)⟩
def mx_rm (d c s : Nat) : Room := { frames := d, cells := c, slots := s, locals := 64 * d }
def mx_Pc (V : mx_Ev) (as : List Value) (h : mx_H) : Array Value → State → Prop := fun vs U => vs = (as.map (mx_v V.1)).toArray ∧ mx_Rp V.1 U h U.heap ∧ mx_KK V U
def mx_Qc (V : mx_Ev) (r : mx_R) : Array Value → State → Outcome → State → Prop := fun _ _ oc t => oc = .returned (r.1.map (mx_v V.1)) ∧ mx_Rp V.1 t r.2 t.heap
def mx_up (V : mx_Ev) : Addr → Prop := fun q => V.1.2.2.2.1 ≤ q
def mx_le (h h2 : mx_H) : Prop := h.1 ≤ h2.1 ∧ h.2.1 ≤ h2.2.1
theorem mx_le.rf (h : mx_H) : mx_le h h := ⟨Nat.le_refl _, Nat.le_refl _⟩
theorem mx_le.tr {a b c : mx_H} (h : mx_le a b) (h2 : mx_le b c) : mx_le a c := ⟨Nat.le_trans h.1 h2.1, Nat.le_trans h.2 h2.2⟩
end
section
/-! the judgement; an instruction is sound if it keeps it -/
/-- a method: code, locals, class, name, answer; all: launch, what is known, methods' names and words -/
abbrev mx_M : Type := ByteArray × Nat × String × String × Option FieldType
abbrev mx_B : Type := Launch × mx_Ev × (Nat → MethodName) × (Nat → List Cond)
def mx_At (B : mx_B) (M : mx_M) (p : Program) (s : State) (m : MethodId) (args : Array Value) (meth : Method) (c : Code) : Prop :=
  p.tables.exec = Jvm.exec ∧ c.code = M.1 ∧ c.maxLocals = M.2.1 ∧ s.vm.findClass M.2.2.1 = some m.cls ∧ (∀ w ∈ B.2.1.2.1, w.before args s = true) ∧ meth.sig.returnType = M.2.2.2.2 ∧ meth.locks = false ∧ meth.name = M.2.2.2.1 ∧ mx_KK B.2.1 s
def mx_G (B : mx_B) (M : mx_M) (d pc : Nat) (ls : mx_L) (st : List Value) (h : mx_H) (r : mx_R) : Prop :=
  mx_le h r.2 ∧ ∀ (p : Program) (e : Env) (s : State) (m : MethodId) (args : Array Value) (below : List Frame) (meth : Method) (c : Code) (hc hs : Nat) (H : Heap) (locs : List Loc) (la : Array Slot),
    mx_At B M p s m args meth c → hc ≤ h.1 → hs ≤ h.2.1 → mx_Rp B.2.1.1 s h H → (∀ q ∈ locs, mx_up B.2.1 q.base) → mx_ls B.2.1.1 la M.2.1 ls →
    W p B.1 e (mx_rm d (r.2.1 - hc) (r.2.2.1 - hs)) s m args below meth c H locs (h.1 - hc) (h.2.1 - hs) (MQ below (mx_Qc B.2.1 r) args s (r.2.1 - hc) (r.2.2.1 - hs) (mx_up B.2.1)) (F0 m pc la (st.map (mx_v B.2.1.1)))
def mx_Cl (B : mx_B) (d : Nat) (call : mx_F) : Prop := ∀ (mi : Nat) (as : List Value) (h : mx_H) (r : mx_R), call mi as h = some r → ∃ d', d = d' + 1 ∧ mx_le h r.2 ∧
  (¬ mi = 0 → Met B.1 (B.2.2.1 mi) (B.2.2.2 mi) (mx_rm d' (r.2.1 - h.1) (r.2.2.1 - h.2.1)) (mx_Pc B.2.1 as h) (mx_Qc B.2.1 r) (r.2.1 - h.1) (r.2.2.1 - h.2.1) (mx_up B.2.1))
def mx_Sn (B : mx_B) (M : mx_M) (pc : Nat) (o : mx_O) : Prop := ∀ (d : Nat) (k : mx_K) (call : mx_F), (∀ (pc : Nat) (ls : mx_L) (st : List Value) (h : mx_H) (r : mx_R), k pc ls st h = some r → mx_G B M d pc ls st h r) → mx_Cl B d call →
  ∀ (ls : mx_L) (st : List Value) (h : mx_H) (r : mx_R), o k call ls st h = some r → mx_G B M d pc ls st h r
section MXS
variable {B : mx_B} {M : mx_M} {d pc pc2 : Nat} {ls ls2 : mx_L} {st st2 : List Value} {h : mx_H} {r : mx_R}
theorem mx_G.step (hk : mx_G B M d pc2 ls st2 h r) (hw : ∀ (p : Program) (e : Env) (s : State) (m : MethodId) (args : Array Value) (below : List Frame) (meth : Method) (c : Code) (R : Room) (H : Heap) (locs : List Loc) (cells slots : Nat) (Q : State → Prop) (la : Array Slot),
    mx_At B M p s m args meth c → mx_ls B.2.1.1 la M.2.1 ls → W p B.1 e R s m args below meth c H locs cells slots Q (F0 m pc2 la (st2.map (mx_v B.2.1.1))) → W p B.1 e R s m args below meth c H locs cells slots Q (F0 m pc la (st.map (mx_v B.2.1.1)))) : mx_G B M d pc ls st h r :=
  ⟨hk.1, fun p e s m args below meth c hc hs H locs la A h1 h2 hR hL hl => hw p e s m args below meth c _ H locs _ _ _ la A hl (hk.2 p e s m args below meth c hc hs H locs la A h1 h2 hR hL hl)⟩
theorem mx_G.stepL (hk : mx_G B M d pc2 ls2 st2 h r) (hw : ∀ (p : Program) (e : Env) (s : State) (m : MethodId) (args : Array Value) (below : List Frame) (meth : Method) (c : Code) (R : Room) (H : Heap) (locs : List Loc) (cells slots : Nat) (Q : State → Prop) (la : Array Slot),
    mx_At B M p s m args meth c → mx_ls B.2.1.1 la M.2.1 ls → (∀ la2, mx_ls B.2.1.1 la2 M.2.1 ls2 → W p B.1 e R s m args below meth c H locs cells slots Q (F0 m pc2 la2 (st2.map (mx_v B.2.1.1)))) → W p B.1 e R s m args below meth c H locs cells slots Q (F0 m pc la (st.map (mx_v B.2.1.1)))) : mx_G B M d pc ls st h r :=
  ⟨hk.1, fun p e s m args below meth c hc hs H locs la A h1 h2 hR hL hl => hw p e s m args below meth c _ H locs _ _ _ la A hl (fun la2 hl2 => hk.2 p e s m args below meth c hc hs H locs la2 A h1 h2 hR hL hl2)⟩
theorem mx_s_stuck : mx_Sn B M pc mx_stuck := fun _ _ _ _ _ _ _ _ _ e => by cases e
theorem mx_s_node {k : Nat} {l r : Nat → mx_O} (hl : ∀ pc, mx_Sn B M pc (l pc)) (hr : ∀ pc, mx_Sn B M pc (r pc)) : ∀ pc, mx_Sn B M pc (mx_node k l r pc) := by
  intro pc
  unfold mx_node
  cases Nat.blt pc k
  · exact hr pc
  · exact hl pc
theorem mx_s_leaf {k : Nat} {o : mx_O} (h : mx_Sn B M k o) : ∀ pc, mx_Sn B M pc (mx_leaf k o pc) := by
  intro pc
  unfold mx_leaf
  cases hb : Nat.beq pc k with
  | false => exact mx_s_stuck
  | true => rw [Nat.eq_of_beq_eq_true hb]; exact h
theorem mx_run_ok {tab : Nat → mx_O} {call : mx_F} (ht : ∀ pc, mx_Sn B M pc (tab pc)) (hc : mx_Cl B d call) : ∀ (n pc : Nat) (ls : mx_L) (st : List Value) (h : mx_H) (r : mx_R), mx_run tab call n pc ls st h = some r → mx_G B M d pc ls st h r
  | 0, _, _, _, _, _, e => by cases e
  | n + 1, pc, ls, st, h, r, e => ht pc d (mx_run tab call n) call (fun pc ls st h r e => mx_run_ok ht hc n pc ls st h r e) hc ls st h r e
theorem mx_s_iconst {n : Int} {v : Int32} (hv : Int32.ofInt n = v) (hd : decode M.1 pc = .ok (.iconst n, 1)) : mx_Sn B M pc (mx_const (.int v) (pc + 1)) := by
  intro d k call hk hc ls st h r e
  exact mx_G.step (hk _ _ _ _ _ e) (fun p e s m args below meth c R H locs cells slots Q la A hl K => lv_iconst A.1 A.2.1 hd hv K)
theorem mx_s_bipush {n : Int} {v : Int32} (hv : (Int8.ofInt n).toInt32 = v) (hd : decode M.1 pc = .ok (.bipush n, 2)) : mx_Sn B M pc (mx_const (.int v) (pc + 2)) := by
  intro d k call hk hc ls st h r e
  exact mx_G.step (hk _ _ _ _ _ e) (fun p e s m args below meth c R H locs cells slots Q la A hl K => lv_bipush A.1 A.2.1 hd hv K)
theorem mx_s_sipush {n : Int} {v : Int32} (hv : (Int16.ofInt n).toInt32 = v) (hd : decode M.1 pc = .ok (.sipush n, 3)) : mx_Sn B M pc (mx_const (.int v) (pc + 3)) := by
  intro d k call hk hc ls st h r e
  exact mx_G.step (hk _ _ _ _ _ e) (fun p e s m args below meth c R H locs cells slots Q la A hl K => lv_sipush A.1 A.2.1 hd hv K)
theorem mx_s_lconst {n : Fin 2} {v : Int64} (hv : Int64.ofNat (n : Nat) = v) (hd : decode M.1 pc = .ok (.lconst n, 1)) : mx_Sn B M pc (mx_const (.long v) (pc + 1)) := by
  intro d k call hk hc ls st h r e
  exact mx_G.step (hk _ _ _ _ _ e) (fun p e s m args below meth c R H locs cells slots Q la A hl K => lv_lconst A.1 A.2.1 hd hv K)
theorem mx_s_ldc {i : Nat} {v : Int32} (hw : Jvm.Cond.constant M.2.2.1 i v ∈ B.2.1.2.1) (hd : decode M.1 pc = .ok (.ldc i, 2)) : mx_Sn B M pc (mx_const (.int v) (pc + 2)) := by
  intro d k call hk hc ls st h r e
  exact mx_G.step (hk _ _ _ _ _ e) (fun p e s m args below meth c R H locs cells slots Q la A hl K => W.ldc A.1 A.2.1 A.2.2.2.1 (A.2.2.2.2.1 _ hw) rfl hd K)
theorem mx_s_ldc2 {i : Nat} {v : Int64} (hw : Jvm.Cond.constantLong M.2.2.1 i v ∈ B.2.1.2.1) (hd : decode M.1 pc = .ok (.ldc2_w i, 3)) : mx_Sn B M pc (mx_const (.long v) (pc + 3)) := by
  intro d k call hk hc ls st h r e
  exact mx_G.step (hk _ _ _ _ _ e) (fun p e s m args below meth c R H locs cells slots Q la A hl K => W.ldc2 A.1 A.2.1 A.2.2.2.1 (A.2.2.2.2.1 _ hw) rfl hd K)
theorem mx_s_null (hd : decode M.1 pc = .ok (.aconst_null, 1)) : mx_Sn B M pc (mx_const .null (pc + 1)) := by
  intro d k call hk hc ls st h r e
  exact mx_G.step (hk _ _ _ _ _ e) (fun p e s m args below meth c R H locs cells slots Q la A hl K => lv_null A.1 A.2.1 hd K)
theorem mx_s_iload {i : Nat} (hd : decode M.1 pc = .ok (.iload i, 2)) : mx_Sn B M pc (mx_iload i (pc + 2)) := by
  intro d k call hk hc ls st h r e
  unfold mx_iload at e
  split at e
  · rename_i x hx
    exact mx_G.step (hk _ _ _ _ _ e) (fun p e s m args below meth c R H locs cells slots Q la A hl K => lv_iload A.1 A.2.1 hd (hl.2.2.2 _ _ (mx_lg_some hx)) K)
  · rename_i x hx
    exact mx_G.step (hk _ _ _ _ _ e) (fun p e s m args below meth c R H locs cells slots Q la A hl K => lv_iload A.1 A.2.1 hd (hl.2.2.2 _ _ (mx_lg_some hx)) K)
  · cases e
theorem mx_s_iload_n {j : Fin 4} {i : Nat} (hd : decode M.1 pc = .ok (.iload_n j, 1)) (hj : (j : Nat) = i) : mx_Sn B M pc (mx_iload i (pc + 1)) := by
  intro d k call hk hc ls st h r e
  unfold mx_iload at e
  split at e
  · rename_i x hx
    exact mx_G.step (hk _ _ _ _ _ e) (fun p e s m args below meth c R H locs cells slots Q la A hl K => lv_iload_n A.1 A.2.1 hd hj (hl.2.2.2 _ _ (mx_lg_some hx)) K)
  · rename_i x hx
    exact mx_G.step (hk _ _ _ _ _ e) (fun p e s m args below meth c R H locs cells slots Q la A hl K => lv_iload_n A.1 A.2.1 hd hj (hl.2.2.2 _ _ (mx_lg_some hx)) K)
  · cases e
theorem mx_s_lload {i : Nat} (hd : decode M.1 pc = .ok (.lload i, 2)) : mx_Sn B M pc (mx_lload i (pc + 2)) := by
  intro d k call hk hc ls st h r e
  unfold mx_lload at e
  split at e
  · rename_i x hx
    exact mx_G.step (hk _ _ _ _ _ e) (fun p e s m args below meth c R H locs cells slots Q la A hl K => lv_lload A.1 A.2.1 hd (hl.2.2.2 _ _ (mx_lg_some hx)) K)
  · rename_i x hx
    exact mx_G.step (hk _ _ _ _ _ e) (fun p e s m args below meth c R H locs cells slots Q la A hl K => lv_lload A.1 A.2.1 hd (hl.2.2.2 _ _ (mx_lg_some hx)) K)
  · cases e
theorem mx_s_lload_n {j : Fin 4} {i : Nat} (hd : decode M.1 pc = .ok (.lload_n j, 1)) (hj : (j : Nat) = i) : mx_Sn B M pc (mx_lload i (pc + 1)) := by
  intro d k call hk hc ls st h r e
  unfold mx_lload at e
  split at e
  · rename_i x hx
    exact mx_G.step (hk _ _ _ _ _ e) (fun p e s m args below meth c R H locs cells slots Q la A hl K => lv_lload_n A.1 A.2.1 hd hj (hl.2.2.2 _ _ (mx_lg_some hx)) K)
  · rename_i x hx
    exact mx_G.step (hk _ _ _ _ _ e) (fun p e s m args below meth c R H locs cells slots Q la A hl K => lv_lload_n A.1 A.2.1 hd hj (hl.2.2.2 _ _ (mx_lg_some hx)) K)
  · cases e
theorem mx_s_aload {i : Nat} (hd : decode M.1 pc = .ok (.aload i, 2)) : mx_Sn B M pc (mx_aload i (pc + 2)) := by
  intro d k call hk hc ls st h r e
  unfold mx_aload at e
  split at e
  · rename_i x hx
    exact mx_G.step (hk _ _ _ _ _ e) (fun p e s m args below meth c R H locs cells slots Q la A hl K => lv_aload A.1 A.2.1 hd (hl.2.2.2 _ _ (mx_lg_some hx)) K)
  · rename_i hx
    exact mx_G.step (hk _ _ _ _ _ e) (fun p e s m args below meth c R H locs cells slots Q la A hl K => lv_aloadN A.1 A.2.1 hd (hl.2.2.2 _ _ (mx_lg_some hx)) K)
  · cases e
theorem mx_s_aload_n {j : Fin 4} {i : Nat} (hd : decode M.1 pc = .ok (.aload_n j, 1)) (hj : (j : Nat) = i) : mx_Sn B M pc (mx_aload i (pc + 1)) := by
  intro d k call hk hc ls st h r e
  unfold mx_aload at e
  split at e
  · rename_i x hx
    exact mx_G.step (hk _ _ _ _ _ e) (fun p e s m args below meth c R H locs cells slots Q la A hl K => lv_aload_n A.1 A.2.1 hd hj (hl.2.2.2 _ _ (mx_lg_some hx)) K)
  · rename_i hx
    exact mx_G.step (hk _ _ _ _ _ e) (fun p e s m args below meth c R H locs cells slots Q la A hl K => lv_aload_nN A.1 A.2.1 hd hj (hl.2.2.2 _ _ (mx_lg_some hx)) K)
  · cases e
theorem mx_blt {a b : Nat} (h : Nat.blt a b = true) : a < b := by
  have := Nat.ble_eq.mp (show Nat.ble (a + 1) b = true from h); omega
theorem mx_bt {α : Type} {b : Bool} {x : Option α} {y : α} (e : (bif b then x else none) = some y) : b = true ∧ x = some y := by
  cases b
  · cases e
  · exact ⟨rfl, e⟩
theorem mx_bf {α : Type} {b : Bool} {x : Option α} {y : α} (e : (bif b then none else x) = some y) : b = false ∧ x = some y := by
  cases b
  · exact ⟨rfl, e⟩
  · cases e
theorem mx_s_istore {i : Nat} (hd : decode M.1 pc = .ok (.istore i, 2)) : mx_Sn B M pc (mx_istore i (pc + 2)) := by
  intro d k call hk hc ls st h r e
  unfold mx_istore at e
  split at e
  · rename_i x rr
    obtain ⟨hb, e⟩ := mx_bt e
    have hb2 := mx_blt hb
    exact mx_G.stepL (hk _ _ _ _ _ e) (fun p e s m args below meth c R H locs cells slots Q la A hl K => lv_istore A.1 A.2.1 hd hl.has (by rw [← hl.2.2.1]; exact hb2) rfl (fun la2 h2 => K la2 (mx_st1_ls (v := .int x) hl.2.2.1 h2)))
  · rename_i x rr
    obtain ⟨hb, e⟩ := mx_bt e
    have hb2 := mx_blt hb
    exact mx_G.stepL (hk _ _ _ _ _ e) (fun p e s m args below meth c R H locs cells slots Q la A hl K => lv_istore A.1 A.2.1 hd hl.has (by rw [← hl.2.2.1]; exact hb2) rfl (fun la2 h2 => K la2 (mx_st1_ls (v := .float x) hl.2.2.1 h2)))
  · cases e
theorem mx_s_istore_n {j : Fin 4} {i : Nat} (hd : decode M.1 pc = .ok (.istore_n j, 1)) (hj : (j : Nat) = i) : mx_Sn B M pc (mx_istore i (pc + 1)) := by
  intro d k call hk hc ls st h r e
  unfold mx_istore at e
  split at e
  · rename_i x rr
    obtain ⟨hb, e⟩ := mx_bt e
    have hb2 := mx_blt hb
    exact mx_G.stepL (hk _ _ _ _ _ e) (fun p e s m args below meth c R H locs cells slots Q la A hl K => lv_istore_n A.1 A.2.1 hd hj hl.has (by rw [← hl.2.2.1]; exact hb2) rfl (fun la2 h2 => K la2 (mx_st1_ls (v := .int x) hl.2.2.1 h2)))
  · rename_i x rr
    obtain ⟨hb, e⟩ := mx_bt e
    have hb2 := mx_blt hb
    exact mx_G.stepL (hk _ _ _ _ _ e) (fun p e s m args below meth c R H locs cells slots Q la A hl K => lv_istore_n A.1 A.2.1 hd hj hl.has (by rw [← hl.2.2.1]; exact hb2) rfl (fun la2 h2 => K la2 (mx_st1_ls (v := .float x) hl.2.2.1 h2)))
  · cases e
theorem mx_s_astore {i : Nat} (hd : decode M.1 pc = .ok (.astore i, 2)) : mx_Sn B M pc (mx_astore i (pc + 2)) := by
  intro d k call hk hc ls st h r e
  unfold mx_astore at e
  split at e
  · rename_i x rr
    obtain ⟨hb, e⟩ := mx_bt e
    have hb2 := mx_blt hb
    exact mx_G.stepL (hk _ _ _ _ _ e) (fun p e s m args below meth c R H locs cells slots Q la A hl K => lv_astore A.1 A.2.1 hd hl.has (by rw [← hl.2.2.1]; exact hb2) rfl (fun la2 h2 => K la2 (mx_st1_ls (v := .ref x) hl.2.2.1 h2)))
  · cases e
theorem mx_s_astore_n {j : Fin 4} {i : Nat} (hd : decode M.1 pc = .ok (.astore_n j, 1)) (hj : (j : Nat) = i) : mx_Sn B M pc (mx_astore i (pc + 1)) := by
  intro d k call hk hc ls st h r e
  unfold mx_astore at e
  split at e
  · rename_i x rr
    obtain ⟨hb, e⟩ := mx_bt e
    have hb2 := mx_blt hb
    exact mx_G.stepL (hk _ _ _ _ _ e) (fun p e s m args below meth c R H locs cells slots Q la A hl K => lv_astore_n A.1 A.2.1 hd hj hl.has (by rw [← hl.2.2.1]; exact hb2) rfl (fun la2 h2 => K la2 (mx_st1_ls (v := .ref x) hl.2.2.1 h2)))
  · cases e
theorem mx_s_lstore {i : Nat} (hd : decode M.1 pc = .ok (.lstore i, 2)) : mx_Sn B M pc (mx_lstore i (pc + 2)) := by
  intro d k call hk hc ls st h r e
  unfold mx_lstore at e
  split at e
  · rename_i x rr
    obtain ⟨hb, e⟩ := mx_bt e
    have hb2 := mx_blt hb
    exact mx_G.stepL (hk _ _ _ _ _ e) (fun p e s m args below meth c R H locs cells slots Q la A hl K => lv_lstore A.1 A.2.1 hd hl.has (by rw [← hl.2.2.1]; exact hb2) rfl (fun la2 h2 => K la2 (mx_st2_ls (v := .long x) hl.2.2.1 h2)))
  · rename_i x rr
    obtain ⟨hb, e⟩ := mx_bt e
    have hb2 := mx_blt hb
    exact mx_G.stepL (hk _ _ _ _ _ e) (fun p e s m args below meth c R H locs cells slots Q la A hl K => lv_lstore A.1 A.2.1 hd hl.has (by rw [← hl.2.2.1]; exact hb2) rfl (fun la2 h2 => K la2 (mx_st2_ls (v := .double x) hl.2.2.1 h2)))
  · cases e
theorem mx_s_lstore_n {j : Fin 4} {i : Nat} (hd : decode M.1 pc = .ok (.lstore_n j, 1)) (hj : (j : Nat) = i) : mx_Sn B M pc (mx_lstore i (pc + 1)) := by
  intro d k call hk hc ls st h r e
  unfold mx_lstore at e
  split at e
  · rename_i x rr
    obtain ⟨hb, e⟩ := mx_bt e
    have hb2 := mx_blt hb
    exact mx_G.stepL (hk _ _ _ _ _ e) (fun p e s m args below meth c R H locs cells slots Q la A hl K => lv_lstore_n A.1 A.2.1 hd hj hl.has (by rw [← hl.2.2.1]; exact hb2) rfl (fun la2 h2 => K la2 (mx_st2_ls (v := .long x) hl.2.2.1 h2)))
  · rename_i x rr
    obtain ⟨hb, e⟩ := mx_bt e
    have hb2 := mx_blt hb
    exact mx_G.stepL (hk _ _ _ _ _ e) (fun p e s m args below meth c R H locs cells slots Q la A hl K => lv_lstore_n A.1 A.2.1 hd hj hl.has (by rw [← hl.2.2.1]; exact hb2) rfl (fun la2 h2 => K la2 (mx_st2_ls (v := .double x) hl.2.2.1 h2)))
  · cases e
theorem mx_s_iinc {i : Nat} {n : Int} {v : Int32} (hd : decode M.1 pc = .ok (.iinc i n, 3)) (hv : Int32.ofInt n = v) : mx_Sn B M pc (mx_iinc i v (pc + 3)) := by
  intro d k call hk hc ls st h r e
  unfold mx_iinc at e
  split at e
  · rename_i x hx
    obtain ⟨hb, e⟩ := mx_bt e
    have hb2 := mx_blt hb
    refine mx_G.stepL (hk _ _ _ _ _ e) (fun p e s m args below meth c R H locs cells slots Q la A hl K => ?_)
    obtain ⟨q, hq⟩ := List.getElem?_of_mem (mx_asc_mem (E := B.2.1.1).mpr ⟨_, mx_lg_some hx, rfl⟩)
    exact lv_iinc A.1 A.2.1 hd hl.has hq (by rw [hv]) (by rw [← hl.2.2.1]; exact hb2) rfl (fun la2 h2 => K la2 (mx_st1_ls (v := .int (x + v)) hl.2.2.1 h2))
  · cases e
theorem mx_s_iadd (hd : decode M.1 pc = .ok (.iadd, 1)) : mx_Sn B M pc (mx_iadd (pc + 1)) := by
  intro d k call hk hc ls st h r e
  unfold mx_iadd at e
  split at e
  · exact mx_G.step (hk _ _ _ _ _ e) (fun p e s m args below meth c R H locs cells slots Q la A hl K => lv_iadd A.1 A.2.1 hd K)
  · cases e
theorem mx_s_isub (hd : decode M.1 pc = .ok (.isub, 1)) : mx_Sn B M pc (mx_isub (pc + 1)) := by
  intro d k call hk hc ls st h r e
  unfold mx_isub at e
  split at e
  · exact mx_G.step (hk _ _ _ _ _ e) (fun p e s m args below meth c R H locs cells slots Q la A hl K => lv_isub A.1 A.2.1 hd K)
  · cases e
theorem mx_s_imul (hd : decode M.1 pc = .ok (.imul, 1)) : mx_Sn B M pc (mx_imul (pc + 1)) := by
  intro d k call hk hc ls st h r e
  unfold mx_imul at e
  split at e
  · exact mx_G.step (hk _ _ _ _ _ e) (fun p e s m args below meth c R H locs cells slots Q la A hl K => lv_imul A.1 A.2.1 hd K)
  · cases e
theorem mx_s_iand (hd : decode M.1 pc = .ok (.iand, 1)) : mx_Sn B M pc (mx_iand (pc + 1)) := by
  intro d k call hk hc ls st h r e
  unfold mx_iand at e
  split at e
  · exact mx_G.step (hk _ _ _ _ _ e) (fun p e s m args below meth c R H locs cells slots Q la A hl K => lv_iand A.1 A.2.1 hd K)
  · cases e
theorem mx_s_ior (hd : decode M.1 pc = .ok (.ior, 1)) : mx_Sn B M pc (mx_ior (pc + 1)) := by
  intro d k call hk hc ls st h r e
  unfold mx_ior at e
  split at e
  · exact mx_G.step (hk _ _ _ _ _ e) (fun p e s m args below meth c R H locs cells slots Q la A hl K => lv_ior A.1 A.2.1 hd K)
  · cases e
theorem mx_s_ixor (hd : decode M.1 pc = .ok (.ixor, 1)) : mx_Sn B M pc (mx_ixor (pc + 1)) := by
  intro d k call hk hc ls st h r e
  unfold mx_ixor at e
  split at e
  · exact mx_G.step (hk _ _ _ _ _ e) (fun p e s m args below meth c R H locs cells slots Q la A hl K => lv_ixor A.1 A.2.1 hd K)
  · cases e
theorem mx_s_ishl (hd : decode M.1 pc = .ok (.ishl, 1)) : mx_Sn B M pc (mx_ishl (pc + 1)) := by
  intro d k call hk hc ls st h r e
  unfold mx_ishl at e
  split at e
  · exact mx_G.step (hk _ _ _ _ _ e) (fun p e s m args below meth c R H locs cells slots Q la A hl K => lv_ishl A.1 A.2.1 hd K)
  · cases e
theorem mx_s_ishr (hd : decode M.1 pc = .ok (.ishr, 1)) : mx_Sn B M pc (mx_ishr (pc + 1)) := by
  intro d k call hk hc ls st h r e
  unfold mx_ishr at e
  split at e
  · exact mx_G.step (hk _ _ _ _ _ e) (fun p e s m args below meth c R H locs cells slots Q la A hl K => lv_ishr A.1 A.2.1 hd K)
  · cases e
theorem mx_s_ladd (hd : decode M.1 pc = .ok (.ladd, 1)) : mx_Sn B M pc (mx_ladd (pc + 1)) := by
  intro d k call hk hc ls st h r e
  unfold mx_ladd at e
  split at e
  · exact mx_G.step (hk _ _ _ _ _ e) (fun p e s m args below meth c R H locs cells slots Q la A hl K => lv_ladd A.1 A.2.1 hd K)
  · cases e
theorem mx_s_lmul (hd : decode M.1 pc = .ok (.lmul, 1)) : mx_Sn B M pc (mx_lmul (pc + 1)) := by
  intro d k call hk hc ls st h r e
  unfold mx_lmul at e
  split at e
  · exact mx_G.step (hk _ _ _ _ _ e) (fun p e s m args below meth c R H locs cells slots Q la A hl K => lv_lmul A.1 A.2.1 hd K)
  · cases e
theorem mx_s_land (hd : decode M.1 pc = .ok (.land, 1)) : mx_Sn B M pc (mx_land (pc + 1)) := by
  intro d k call hk hc ls st h r e
  unfold mx_land at e
  split at e
  · exact mx_G.step (hk _ _ _ _ _ e) (fun p e s m args below meth c R H locs cells slots Q la A hl K => lv_land A.1 A.2.1 hd K)
  · cases e
theorem mx_s_lor (hd : decode M.1 pc = .ok (.lor, 1)) : mx_Sn B M pc (mx_lor (pc + 1)) := by
  intro d k call hk hc ls st h r e
  unfold mx_lor at e
  split at e
  · exact mx_G.step (hk _ _ _ _ _ e) (fun p e s m args below meth c R H locs cells slots Q la A hl K => lv_lor A.1 A.2.1 hd K)
  · cases e
theorem mx_s_lxor (hd : decode M.1 pc = .ok (.lxor, 1)) : mx_Sn B M pc (mx_lxor (pc + 1)) := by
  intro d k call hk hc ls st h r e
  unfold mx_lxor at e
  split at e
  · exact mx_G.step (hk _ _ _ _ _ e) (fun p e s m args below meth c R H locs cells slots Q la A hl K => lv_lxor A.1 A.2.1 hd K)
  · cases e
theorem mx_s_ineg (hd : decode M.1 pc = .ok (.ineg, 1)) : mx_Sn B M pc (mx_ineg (pc + 1)) := by
  intro d k call hk hc ls st h r e
  unfold mx_ineg at e
  split at e
  · exact mx_G.step (hk _ _ _ _ _ e) (fun p e s m args below meth c R H locs cells slots Q la A hl K => lv_ineg A.1 A.2.1 hd K)
  · cases e
theorem mx_s_lneg (hd : decode M.1 pc = .ok (.lneg, 1)) : mx_Sn B M pc (mx_lneg (pc + 1)) := by
  intro d k call hk hc ls st h r e
  unfold mx_lneg at e
  split at e
  · exact mx_G.step (hk _ _ _ _ _ e) (fun p e s m args below meth c R H locs cells slots Q la A hl K => lv_lneg A.1 A.2.1 hd K)
  · cases e
theorem mx_s_iushr (hd : decode M.1 pc = .ok (.iushr, 1)) : mx_Sn B M pc (mx_iushr (pc + 1)) := by
  intro d k call hk hc ls st h r e
  unfold mx_iushr at e
  split at e
  · exact mx_G.step (hk _ _ _ _ _ e) (fun p e s m args below meth c R H locs cells slots Q la A hl K => lv_iushr A.1 A.2.1 hd rfl K)
  · cases e
theorem mx_s_lshl (hd : decode M.1 pc = .ok (.lshl, 1)) : mx_Sn B M pc (mx_lshl (pc + 1)) := by
  intro d k call hk hc ls st h r e
  unfold mx_lshl at e
  split at e
  · exact mx_G.step (hk _ _ _ _ _ e) (fun p e s m args below meth c R H locs cells slots Q la A hl K => lv_lshl A.1 A.2.1 hd rfl K)
  · cases e
theorem mx_s_lshr (hd : decode M.1 pc = .ok (.lshr, 1)) : mx_Sn B M pc (mx_lshr (pc + 1)) := by
  intro d k call hk hc ls st h r e
  unfold mx_lshr at e
  split at e
  · exact mx_G.step (hk _ _ _ _ _ e) (fun p e s m args below meth c R H locs cells slots Q la A hl K => lv_lshr A.1 A.2.1 hd rfl K)
  · cases e
theorem mx_s_lushr (hd : decode M.1 pc = .ok (.lushr, 1)) : mx_Sn B M pc (mx_lushr (pc + 1)) := by
  intro d k call hk hc ls st h r e
  unfold mx_lushr at e
  split at e
  · exact mx_G.step (hk _ _ _ _ _ e) (fun p e s m args below meth c R H locs cells slots Q la A hl K => lv_lushr A.1 A.2.1 hd rfl K)
  · cases e
theorem mx_s_l2i (hd : decode M.1 pc = .ok (.l2i, 1)) : mx_Sn B M pc (mx_l2i (pc + 1)) := by
  intro d k call hk hc ls st h r e
  unfold mx_l2i at e
  split at e
  · exact mx_G.step (hk _ _ _ _ _ e) (fun p e s m args below meth c R H locs cells slots Q la A hl K => lv_l2i A.1 A.2.1 hd rfl K)
  · cases e
theorem mx_s_i2b (hd : decode M.1 pc = .ok (.i2b, 1)) : mx_Sn B M pc (mx_i2b (pc + 1)) := by
  intro d k call hk hc ls st h r e
  unfold mx_i2b at e
  split at e
  · exact mx_G.step (hk _ _ _ _ _ e) (fun p e s m args below meth c R H locs cells slots Q la A hl K => lv_i2b A.1 A.2.1 hd rfl K)
  · cases e
theorem mx_s_i2s (hd : decode M.1 pc = .ok (.i2s, 1)) : mx_Sn B M pc (mx_i2s (pc + 1)) := by
  intro d k call hk hc ls st h r e
  unfold mx_i2s at e
  split at e
  · exact mx_G.step (hk _ _ _ _ _ e) (fun p e s m args below meth c R H locs cells slots Q la A hl K => lv_i2s A.1 A.2.1 hd rfl K)
  · cases e
theorem mx_s_i2c (hd : decode M.1 pc = .ok (.i2c, 1)) : mx_Sn B M pc (mx_i2c (pc + 1)) := by
  intro d k call hk hc ls st h r e
  unfold mx_i2c at e
  split at e
  · exact mx_G.step (hk _ _ _ _ _ e) (fun p e s m args below meth c R H locs cells slots Q la A hl K => lv_i2c A.1 A.2.1 hd rfl K)
  · cases e
theorem mx_s_lcmp (hd : decode M.1 pc = .ok (.lcmp, 1)) : mx_Sn B M pc (mx_lcmp (pc + 1)) := by
  intro d k call hk hc ls st h r e
  unfold mx_lcmp at e
  split at e
  · exact mx_G.step (hk _ _ _ _ _ e) (fun p e s m args below meth c R H locs cells slots Q la A hl K => W.lcmp A.1 A.2.1 hd K)
  · cases e
theorem mx_s_idiv (hd : decode M.1 pc = .ok (.idiv, 1)) : mx_Sn B M pc (mx_idiv (pc + 1)) := by
  intro d k call hk hc ls st h r e
  unfold mx_idiv at e
  split at e
  · split at e
    · cases e
    · rename_i hne
      exact mx_G.step (hk _ _ _ _ _ e) (fun p e s m args below meth c R H locs cells slots Q la A hl K => lv_idiv A.1 A.2.1 hd hne K)
  · cases e
theorem mx_s_irem (hd : decode M.1 pc = .ok (.irem, 1)) : mx_Sn B M pc (mx_irem (pc + 1)) := by
  intro d k call hk hc ls st h r e
  unfold mx_irem at e
  split at e
  · split at e
    · cases e
    · rename_i hne
      exact mx_G.step (hk _ _ _ _ _ e) (fun p e s m args below meth c R H locs cells slots Q la A hl K => lv_irem A.1 A.2.1 hd hne K)
  · cases e
theorem mx_s_ldiv (hd : decode M.1 pc = .ok (.ldiv, 1)) : mx_Sn B M pc (mx_ldiv (pc + 1)) := by
  intro d k call hk hc ls st h r e
  unfold mx_ldiv at e
  split at e
  · split at e
    · cases e
    · rename_i hne
      exact mx_G.step (hk _ _ _ _ _ e) (fun p e s m args below meth c R H locs cells slots Q la A hl K => lv_ldiv A.1 A.2.1 hd hne K)
  · cases e
/-- numbers that aren't known -/
theorem mx_i32 {x : Int64} (h1 : -2147483648 ≤ x.toInt) (h2 : x.toInt ≤ 2147483647) : x.toInt32.toInt = x.toInt := by
  rw [Int64.toInt_toInt32]
  exact Int.bmod_eq_of_le (by omega) (by omega)
theorem mx_rng_ok {V : mx_Ev} {s : State} (hK : mx_KK V s) {v : Value} {iv : Int × Int} (h : mx_rng v = some iv) : ∃ x : Int32, mx_v V.1 v = .int x ∧ iv.1 ≤ x.toInt ∧ x.toInt ≤ iv.2 := by
  cases v <;> simp only [mx_rng] at h <;> try (cases h)
  · exact ⟨_, rfl, Int.le_refl _, Int.le_refl _⟩
  · split at h
    · rename_i t hc
      cases h
      have h2 := hK.2.2.2.1 _ hc.1
      refine ⟨_, rfl, ?_, ?_⟩
      · rw [mx_i32 (by omega) (by omega)]; exact h2.1
      · rw [mx_i32 (by omega) (by omega)]; exact h2.2
    · cases h
theorem mx_rngL_ok {V : mx_Ev} {s : State} (hK : mx_KK V s) {v : Value} {iv : Int × Int} (h : mx_rngL v = some iv) : ∃ x : Int64, mx_v V.1 v = .long x ∧ iv.1 ≤ x.toInt ∧ x.toInt ≤ iv.2 := by
  cases v <;> simp only [mx_rngL] at h <;> try (cases h)
  · exact ⟨_, rfl, Int.le_refl _, Int.le_refl _⟩
  · split at h
    · rename_i t hc
      cases h
      have h2 := hK.2.2.2.1 _ hc
      exact ⟨_, rfl, h2.1, h2.2⟩
    · cases h
theorem mx_nlt_ok {p q : Option (Int × Int)} {t : Bool} (h : mx_nlt p q = some t) : ∃ a b : Int × Int, p = some a ∧ q = some b ∧ ∀ x y : Int, a.1 ≤ x → x ≤ a.2 → b.1 ≤ y → y ≤ b.2 → (t = true ↔ x < y) := by
  unfold mx_nlt at h
  split at h
  · rename_i a b
    refine ⟨a, b, rfl, rfl, ?_⟩
    split at h
    · cases h; intro x y h1 h2 h3 h4; exact ⟨fun _ => (by omega), fun _ => rfl⟩
    · split at h
      · cases h; intro x y h1 h2 h3 h4; exact ⟨fun z => (by cases z), fun z => (by omega)⟩
      · cases h
  · cases h
theorem mx_neq_ok {p q : Option (Int × Int)} {t : Bool} (h : mx_neq p q = some t) : ∃ a b : Int × Int, p = some a ∧ q = some b ∧ ∀ x y : Int, a.1 ≤ x → x ≤ a.2 → b.1 ≤ y → y ≤ b.2 → (t = true ↔ x = y) := by
  unfold mx_neq at h
  split at h
  · rename_i a b
    refine ⟨a, b, rfl, rfl, ?_⟩
    split at h
    · cases h; intro x y h1 h2 h3 h4; exact ⟨fun z => (by cases z), fun z => (by omega)⟩
    · split at h
      · cases h; intro x y h1 h2 h3 h4; exact ⟨fun _ => (by omega), fun _ => rfl⟩
      · cases h
  · cases h
theorem mx_nmap {p : Option Bool} {t : Bool} (h : p.map (fun c => !c) = some t) : p = some (!t) := by
  cases p with
  | none => cases h
  | some c => cases h; simp
theorem mx_n_lt_ok {p q : Option (Int × Int)} {t : Bool} (h : mx_n_lt p q = some t) : ∃ a b : Int × Int, p = some a ∧ q = some b ∧ ∀ x y : Int, a.1 ≤ x → x ≤ a.2 → b.1 ≤ y → y ≤ b.2 → (t = true ↔ x < y) := mx_nlt_ok h
theorem mx_n_ge_ok {p q : Option (Int × Int)} {t : Bool} (h : mx_n_ge p q = some t) : ∃ a b : Int × Int, p = some a ∧ q = some b ∧ ∀ x y : Int, a.1 ≤ x → x ≤ a.2 → b.1 ≤ y → y ≤ b.2 → (t = true ↔ y ≤ x) := by
  obtain ⟨a, b, h1, h2, h3⟩ := mx_nlt_ok (mx_nmap h)
  refine ⟨a, b, h1, h2, fun x y k1 k2 k3 k4 => ?_⟩
  have := h3 x y k1 k2 k3 k4
  cases t <;> simp at this ⊢ <;> omega
theorem mx_n_gt_ok {p q : Option (Int × Int)} {t : Bool} (h : mx_n_gt p q = some t) : ∃ a b : Int × Int, p = some a ∧ q = some b ∧ ∀ x y : Int, a.1 ≤ x → x ≤ a.2 → b.1 ≤ y → y ≤ b.2 → (t = true ↔ y < x) := by
  obtain ⟨b, a, h1, h2, h3⟩ := mx_nlt_ok h
  exact ⟨a, b, h2, h1, fun x y k1 k2 k3 k4 => h3 y x k3 k4 k1 k2⟩
theorem mx_n_le_ok {p q : Option (Int × Int)} {t : Bool} (h : mx_n_le p q = some t) : ∃ a b : Int × Int, p = some a ∧ q = some b ∧ ∀ x y : Int, a.1 ≤ x → x ≤ a.2 → b.1 ≤ y → y ≤ b.2 → (t = true ↔ x ≤ y) := by
  obtain ⟨b, a, h1, h2, h3⟩ := mx_nlt_ok (mx_nmap h)
  refine ⟨a, b, h2, h1, fun x y k1 k2 k3 k4 => ?_⟩
  have := h3 y x k3 k4 k1 k2
  cases t <;> simp at this ⊢ <;> omega
theorem mx_n_eq_ok {p q : Option (Int × Int)} {t : Bool} (h : mx_n_eq p q = some t) : ∃ a b : Int × Int, p = some a ∧ q = some b ∧ ∀ x y : Int, a.1 ≤ x → x ≤ a.2 → b.1 ≤ y → y ≤ b.2 → (t = true ↔ x = y) := mx_neq_ok h
theorem mx_n_ne_ok {p q : Option (Int × Int)} {t : Bool} (h : mx_n_ne p q = some t) : ∃ a b : Int × Int, p = some a ∧ q = some b ∧ ∀ x y : Int, a.1 ≤ x → x ≤ a.2 → b.1 ≤ y → y ≤ b.2 → (t = true ↔ ¬ x = y) := by
  obtain ⟨a, b, h1, h2, h3⟩ := mx_neq_ok (mx_nmap h)
  refine ⟨a, b, h1, h2, fun x y k1 k2 k3 k4 => ?_⟩
  have := h3 x y k1 k2 k3 k4
  cases t <;> simp at this ⊢ <;> omega
theorem mx_bra_some {k : mx_K} {tg nx : Nat} {ls : mx_L} {r : List Value} {h : mx_H} {o : Option Bool} {y : mx_R} (e : mx_bra k tg nx ls r h o = some y) : (o = some true ∧ k tg ls r h = some y) ∨ (o = some false ∧ k nx ls r h = some y) := by
  cases o with
  | none => cases e
  | some b => cases b
              · exact Or.inr ⟨rfl, e⟩
              · exact Or.inl ⟨rfl, e⟩
theorem mx_I32eq {x y : Int32} : x = y ↔ x.toInt = y.toInt := ⟨fun h => by rw [h], fun h => Int32.toInt_inj.mp h⟩
theorem mx_I64eq {x y : Int64} : x = y ↔ x.toInt = y.toInt := ⟨fun h => by rw [h], fun h => Int64.toInt_inj.mp h⟩
theorem mx_z_eq {x : Int32} : x = 0 ↔ x.toInt = 0 := by rw [mx_I32eq, Int32.toInt_zero]
theorem mx_z_ne {x : Int32} : ¬ x = 0 ↔ ¬ x.toInt = 0 := not_congr mx_z_eq
theorem mx_z_lt {x : Int32} : x < 0 ↔ x.toInt < 0 := by rw [Int32.lt_iff_toInt_lt, Int32.toInt_zero]
theorem mx_z_gt {x : Int32} : 0 < x ↔ 0 < x.toInt := by rw [Int32.lt_iff_toInt_lt, Int32.toInt_zero]
theorem mx_z_ge {x : Int32} : 0 ≤ x ↔ 0 ≤ x.toInt := by rw [Int32.le_iff_toInt_le, Int32.toInt_zero]
theorem mx_z_le {x : Int32} : x ≤ 0 ↔ x.toInt ≤ 0 := by rw [Int32.le_iff_toInt_le, Int32.toInt_zero]
theorem mx_lg_lt {x y : Int64} : lg_cmp x y < 0 ↔ x.toInt < y.toInt := by
  unfold lg_cmp
  by_cases h1 : y < x
  · rw [if_pos h1]; rw [Int64.lt_iff_toInt_lt] at h1; exact ⟨fun h => absurd h (by decide), fun h => by omega⟩
  · rw [if_neg h1]
    by_cases h2 : x = y
    · rw [if_pos h2]; rw [mx_I64eq] at h2; exact ⟨fun h => absurd h (by decide), fun h => by omega⟩
    · rw [if_neg h2]; rw [mx_I64eq] at h2; rw [Int64.lt_iff_toInt_lt] at h1; exact ⟨fun _ => by omega, fun _ => by decide⟩
theorem mx_lg_gt {x y : Int64} : 0 < lg_cmp x y ↔ y.toInt < x.toInt := by
  unfold lg_cmp
  by_cases h1 : y < x
  · rw [if_pos h1]; rw [Int64.lt_iff_toInt_lt] at h1; exact ⟨fun _ => by omega, fun _ => by decide⟩
  · rw [if_neg h1]
    by_cases h2 : x = y
    · rw [if_pos h2]; rw [mx_I64eq] at h2; exact ⟨fun h => absurd h (by decide), fun h => by omega⟩
    · rw [if_neg h2]; rw [mx_I64eq] at h2; rw [Int64.lt_iff_toInt_lt] at h1; exact ⟨fun h => absurd h (by decide), fun h => by omega⟩
theorem mx_lg_eq {x y : Int64} : lg_cmp x y = 0 ↔ x.toInt = y.toInt := by
  unfold lg_cmp
  by_cases h1 : y < x
  · rw [if_pos h1]; rw [Int64.lt_iff_toInt_lt] at h1; exact ⟨fun h => absurd h (by decide), fun h => by omega⟩
  · rw [if_neg h1]
    by_cases h2 : x = y
    · rw [if_pos h2]; rw [mx_I64eq] at h2; exact ⟨fun _ => (by omega), fun _ => rfl⟩
    · rw [if_neg h2]; rw [mx_I64eq] at h2; rw [Int64.lt_iff_toInt_lt] at h1; exact ⟨fun h => absurd h (by decide), fun h => by omega⟩
theorem mx_nltI {x : Int32} : 0 ≤ x ↔ ¬ x < 0 := by rw [Int32.le_iff_toInt_le, Int32.lt_iff_toInt_lt]; omega
theorem mx_nleI {x : Int32} : x ≤ 0 ↔ ¬ 0 < x := by rw [Int32.le_iff_toInt_le, Int32.lt_iff_toInt_lt]; omega
theorem mx_s_i2l (hd : decode M.1 pc = .ok (.i2l, 1)) : mx_Sn B M pc (mx_i2l (pc + 1)) := by
  intro d k call hk hc ls st h r e
  unfold mx_i2l at e
  split at e
  · exact mx_G.step (hk _ _ _ _ _ e) (fun p e s m args below meth c R H locs cells slots Q la A hl K => lv_i2l A.1 A.2.1 hd rfl K)
  · rename_i t rest
    split at e
    · rename_i iv hiv
      refine mx_G.step (hk _ _ _ _ _ e) (fun p e s m args below meth c R H locs cells slots Q la A hl K => lv_i2l A.1 A.2.1 hd ?_ K)
      obtain ⟨x, hx, -⟩ := mx_rng_ok A.2.2.2.2.2.2.2.2 hiv
      simp only [mx_rng] at hiv
      split at hiv
      · rename_i hcc
        have h2 := A.2.2.2.2.2.2.2.2.2.2.2.1 _ hcc.1
        have h3 : (UInt64.ofNat t.toNat).toNat = t.toNat := by
          have := t.toNat_lt; exact UInt64.toNat_ofNat_of_lt (by have h9 : UInt64.size = 18446744073709551616 := rfl; omega)
        rw [h3]
        apply mx_I64eq.mpr
        rw [Int32.toInt_toInt64, mx_i32 (by omega) (by omega)]
      · cases hiv
    · cases e
  · cases e
theorem mx_s_lsub (hd : decode M.1 pc = .ok (.lsub, 1)) : mx_Sn B M pc (mx_lsub (pc + 1)) := by
  intro d k call hk hc ls st h r e
  unfold mx_lsub at e
  split at e
  · exact mx_G.step (hk _ _ _ _ _ e) (fun p e s m args below meth c R H locs cells slots Q la A hl K => lv_lsub A.1 A.2.1 hd K)
  · split at e
    · rename_i hy
      subst hy
      refine mx_G.step (hk _ _ _ _ _ e) (fun p e s m args below meth c R H locs cells slots Q la A hl K => lv_lsub A.1 A.2.1 hd ?_)
      rw [Int64.sub_zero]
      exact K
    · cases e
  · cases e
theorem mx_s_lrem (hd : decode M.1 pc = .ok (.lrem, 1)) : mx_Sn B M pc (mx_lrem (pc + 1)) := by
  intro d k call hk hc ls st h r e
  unfold mx_lrem at e
  split at e
  · split at e
    · cases e
    · rename_i hne
      exact mx_G.step (hk _ _ _ _ _ e) (fun p e s m args below meth c R H locs cells slots Q la A hl K => lv_lrem A.1 A.2.1 hd hne K)
  · split at e
    · rename_i hy
      subst hy
      refine mx_G.step (hk _ _ _ _ _ e) (fun p e s m args below meth c R H locs cells slots Q la A hl K => lv_lrem A.1 A.2.1 hd (by decide) ?_)
      rw [Int64.div_one, Int64.mul_one, Int64.sub_self]
      exact K
    · cases e
  · cases e
theorem mx_s_if_eq {off : Int} {tg : Nat} (hd : decode M.1 pc = .ok (.ifCond .eq off, 3)) (ht : (pc : Int) + off = (tg : Int)) : mx_Sn B M pc (mx_if_eq tg (pc + 3)) := by
  intro d k call hk hc ls st h r e
  unfold mx_if_eq at e
  split at e
  · split at e
    · rename_i hP
      exact mx_G.step (hk _ _ _ _ _ e) (fun p e s m args below meth c R H locs cells slots Q la A hl K => lv_if_eq A.1 A.2.1 hd ht (fun _ => K) (fun z => absurd hP z))
    · rename_i hP
      exact mx_G.step (hk _ _ _ _ _ e) (fun p e s m args below meth c R H locs cells slots Q la A hl K => lv_if_eq A.1 A.2.1 hd ht (fun z => absurd z hP) (fun _ => K))
  · rename_i t rest
    have key : ∀ (b : Bool) (s : State), mx_KK B.2.1 s → mx_n_eq (mx_rng (.float t)) (some (0, 0)) = some b → ∃ x : Int32, mx_v B.2.1.1 (.float t) = .int x ∧ (b = true ↔ x = 0) := by
      intro b s hK hb
      obtain ⟨ia, ib, h1, h2, h3⟩ := mx_n_eq_ok hb
      obtain ⟨x, hx, h4, h5⟩ := mx_rng_ok hK h1
      cases h2
      exact ⟨x, hx, (h3 x.toInt 0 h4 h5 (Int.le_refl _) (Int.le_refl _)).trans mx_z_eq.symm⟩
    rcases mx_bra_some e with ⟨ho, e⟩ | ⟨ho, e⟩
    · refine mx_G.step (hk _ _ _ _ _ e) (fun p e s m args below meth c R H locs cells slots Q la A hl K => ?_)
      obtain ⟨x, hx, hp⟩ := key _ s A.2.2.2.2.2.2.2.2 ho
      show W _ _ _ _ _ _ _ _ _ _ _ _ _ _ _ (F0 m pc la (mx_v B.2.1.1 (.float t) :: rest.map (mx_v B.2.1.1)))
      rw [hx]
      exact lv_if_eq A.1 A.2.1 hd ht (fun _ => K) (fun z => absurd (hp.mp rfl) z)
    · refine mx_G.step (hk _ _ _ _ _ e) (fun p e s m args below meth c R H locs cells slots Q la A hl K => ?_)
      obtain ⟨x, hx, hp⟩ := key _ s A.2.2.2.2.2.2.2.2 ho
      show W _ _ _ _ _ _ _ _ _ _ _ _ _ _ _ (F0 m pc la (mx_v B.2.1.1 (.float t) :: rest.map (mx_v B.2.1.1)))
      rw [hx]
      exact lv_if_eq A.1 A.2.1 hd ht (fun z => absurd (hp.mpr z) (by decide)) (fun _ => K)
  · cases e
theorem mx_s_icmp_eq {off : Int} {tg : Nat} (hd : decode M.1 pc = .ok (.if_icmp .eq off, 3)) (ht : (pc : Int) + off = (tg : Int)) : mx_Sn B M pc (mx_icmp_eq tg (pc + 3)) := by
  intro d k call hk hc ls st h r e
  unfold mx_icmp_eq at e
  split at e
  · split at e
    · rename_i hP
      exact mx_G.step (hk _ _ _ _ _ e) (fun p e s m args below meth c R H locs cells slots Q la A hl K => lv_icmp_eq A.1 A.2.1 hd ht (fun _ => K) (fun z => absurd hP z))
    · rename_i hP
      exact mx_G.step (hk _ _ _ _ _ e) (fun p e s m args below meth c R H locs cells slots Q la A hl K => lv_icmp_eq A.1 A.2.1 hd ht (fun z => absurd z hP) (fun _ => K))
  · rename_i bb aa rest hno
    have key : ∀ (b : Bool) (s : State), mx_KK B.2.1 s → mx_n_eq (mx_rng aa) (mx_rng bb) = some b → ∃ x y : Int32, mx_v B.2.1.1 aa = .int x ∧ mx_v B.2.1.1 bb = .int y ∧ (b = true ↔ x = y) := by
      intro b s hK hb
      obtain ⟨ia, ib, h1, h2, h3⟩ := mx_n_eq_ok hb
      obtain ⟨x, hx, h4, h5⟩ := mx_rng_ok hK h1
      obtain ⟨y, hy, h6, h7⟩ := mx_rng_ok hK h2
      exact ⟨x, y, hx, hy, (h3 x.toInt y.toInt h4 h5 h6 h7).trans mx_I32eq.symm⟩
    rcases mx_bra_some e with ⟨ho, e⟩ | ⟨ho, e⟩
    · refine mx_G.step (hk _ _ _ _ _ e) (fun p e s m args below meth c R H locs cells slots Q la A hl K => ?_)
      obtain ⟨x, y, hx, hy, hp⟩ := key _ s A.2.2.2.2.2.2.2.2 ho
      show W _ _ _ _ _ _ _ _ _ _ _ _ _ _ _ (F0 m pc la (mx_v B.2.1.1 bb :: mx_v B.2.1.1 aa :: rest.map (mx_v B.2.1.1)))
      rw [hx, hy]
      exact lv_icmp_eq A.1 A.2.1 hd ht (fun _ => K) (fun z => absurd (hp.mp rfl) z)
    · refine mx_G.step (hk _ _ _ _ _ e) (fun p e s m args below meth c R H locs cells slots Q la A hl K => ?_)
      obtain ⟨x, y, hx, hy, hp⟩ := key _ s A.2.2.2.2.2.2.2.2 ho
      show W _ _ _ _ _ _ _ _ _ _ _ _ _ _ _ (F0 m pc la (mx_v B.2.1.1 bb :: mx_v B.2.1.1 aa :: rest.map (mx_v B.2.1.1)))
      rw [hx, hy]
      exact lv_icmp_eq A.1 A.2.1 hd ht (fun z => absurd (hp.mpr z) (by decide)) (fun _ => K)
  · cases e
theorem mx_s_lif_eq {off : Int} {tg nx : Nat} (hd1 : decode M.1 pc = .ok (.lcmp, 1)) (hd : decode M.1 (pc + 1) = .ok (.ifCond .eq off, 3)) (ht : ((pc + 1 : Nat) : Int) + off = (tg : Int)) (hn : pc + 1 + 3 = nx) : mx_Sn B M pc (mx_lif_eq tg nx) := by
  subst hn
  intro d k call hk hc ls st h r e
  unfold mx_lif_eq at e
  split at e
  · split at e
    · rename_i hP
      exact mx_G.step (hk _ _ _ _ _ e) (fun p e s m args below meth c R H locs cells slots Q la A hl K => W.lcmp A.1 A.2.1 hd1 (lv_if_eq A.1 A.2.1 hd ht (fun _ => K) (fun z => absurd hP z)))
    · rename_i hP
      exact mx_G.step (hk _ _ _ _ _ e) (fun p e s m args below meth c R H locs cells slots Q la A hl K => W.lcmp A.1 A.2.1 hd1 (lv_if_eq A.1 A.2.1 hd ht (fun z => absurd z hP) (fun _ => K)))
  · rename_i bb aa rest hno
    have key : ∀ (b : Bool) (s : State), mx_KK B.2.1 s → mx_n_eq (mx_rngL aa) (mx_rngL bb) = some b → ∃ x y : Int64, mx_v B.2.1.1 aa = .long x ∧ mx_v B.2.1.1 bb = .long y ∧ (b = true ↔ lg_cmp x y = 0) := by
      intro b s hK hb
      obtain ⟨ia, ib, h1, h2, h3⟩ := mx_n_eq_ok hb
      obtain ⟨x, hx, h4, h5⟩ := mx_rngL_ok hK h1
      obtain ⟨y, hy, h6, h7⟩ := mx_rngL_ok hK h2
      exact ⟨x, y, hx, hy, (h3 x.toInt y.toInt h4 h5 h6 h7).trans mx_lg_eq.symm⟩
    rcases mx_bra_some e with ⟨ho, e⟩ | ⟨ho, e⟩
    · refine mx_G.step (hk _ _ _ _ _ e) (fun p e s m args below meth c R H locs cells slots Q la A hl K => ?_)
      obtain ⟨x, y, hx, hy, hp⟩ := key _ s A.2.2.2.2.2.2.2.2 ho
      show W _ _ _ _ _ _ _ _ _ _ _ _ _ _ _ (F0 m pc la (mx_v B.2.1.1 bb :: mx_v B.2.1.1 aa :: rest.map (mx_v B.2.1.1)))
      rw [hx, hy]
      exact W.lcmp A.1 A.2.1 hd1 (lv_if_eq A.1 A.2.1 hd ht (fun _ => K) (fun z => absurd (hp.mp rfl) z))
    · refine mx_G.step (hk _ _ _ _ _ e) (fun p e s m args below meth c R H locs cells slots Q la A hl K => ?_)
      obtain ⟨x, y, hx, hy, hp⟩ := key _ s A.2.2.2.2.2.2.2.2 ho
      show W _ _ _ _ _ _ _ _ _ _ _ _ _ _ _ (F0 m pc la (mx_v B.2.1.1 bb :: mx_v B.2.1.1 aa :: rest.map (mx_v B.2.1.1)))
      rw [hx, hy]
      exact W.lcmp A.1 A.2.1 hd1 (lv_if_eq A.1 A.2.1 hd ht (fun z => absurd (hp.mpr z) (by decide)) (fun _ => K))
  · cases e
theorem mx_s_if_ne {off : Int} {tg : Nat} (hd : decode M.1 pc = .ok (.ifCond .ne off, 3)) (ht : (pc : Int) + off = (tg : Int)) : mx_Sn B M pc (mx_if_ne tg (pc + 3)) := by
  intro d k call hk hc ls st h r e
  unfold mx_if_ne at e
  split at e
  · split at e
    · rename_i hP
      exact mx_G.step (hk _ _ _ _ _ e) (fun p e s m args below meth c R H locs cells slots Q la A hl K => lv_if_ne A.1 A.2.1 hd ht (fun _ => K) (fun z => absurd z hP))
    · rename_i hP
      exact mx_G.step (hk _ _ _ _ _ e) (fun p e s m args below meth c R H locs cells slots Q la A hl K => lv_if_ne A.1 A.2.1 hd ht (fun z => absurd z hP) (fun _ => K))
  · rename_i t rest
    have key : ∀ (b : Bool) (s : State), mx_KK B.2.1 s → mx_n_ne (mx_rng (.float t)) (some (0, 0)) = some b → ∃ x : Int32, mx_v B.2.1.1 (.float t) = .int x ∧ (b = true ↔ ¬ x = 0) := by
      intro b s hK hb
      obtain ⟨ia, ib, h1, h2, h3⟩ := mx_n_ne_ok hb
      obtain ⟨x, hx, h4, h5⟩ := mx_rng_ok hK h1
      cases h2
      exact ⟨x, hx, (h3 x.toInt 0 h4 h5 (Int.le_refl _) (Int.le_refl _)).trans mx_z_ne.symm⟩
    rcases mx_bra_some e with ⟨ho, e⟩ | ⟨ho, e⟩
    · refine mx_G.step (hk _ _ _ _ _ e) (fun p e s m args below meth c R H locs cells slots Q la A hl K => ?_)
      obtain ⟨x, hx, hp⟩ := key _ s A.2.2.2.2.2.2.2.2 ho
      show W _ _ _ _ _ _ _ _ _ _ _ _ _ _ _ (F0 m pc la (mx_v B.2.1.1 (.float t) :: rest.map (mx_v B.2.1.1)))
      rw [hx]
      exact lv_if_ne A.1 A.2.1 hd ht (fun _ => K) (fun z => absurd z (hp.mp rfl))
    · refine mx_G.step (hk _ _ _ _ _ e) (fun p e s m args below meth c R H locs cells slots Q la A hl K => ?_)
      obtain ⟨x, hx, hp⟩ := key _ s A.2.2.2.2.2.2.2.2 ho
      show W _ _ _ _ _ _ _ _ _ _ _ _ _ _ _ (F0 m pc la (mx_v B.2.1.1 (.float t) :: rest.map (mx_v B.2.1.1)))
      rw [hx]
      exact lv_if_ne A.1 A.2.1 hd ht (fun z => absurd (hp.mpr z) (by decide)) (fun _ => K)
  · cases e
theorem mx_s_icmp_ne {off : Int} {tg : Nat} (hd : decode M.1 pc = .ok (.if_icmp .ne off, 3)) (ht : (pc : Int) + off = (tg : Int)) : mx_Sn B M pc (mx_icmp_ne tg (pc + 3)) := by
  intro d k call hk hc ls st h r e
  unfold mx_icmp_ne at e
  split at e
  · split at e
    · rename_i hP
      exact mx_G.step (hk _ _ _ _ _ e) (fun p e s m args below meth c R H locs cells slots Q la A hl K => lv_icmp_ne A.1 A.2.1 hd ht (fun _ => K) (fun z => absurd z hP))
    · rename_i hP
      exact mx_G.step (hk _ _ _ _ _ e) (fun p e s m args below meth c R H locs cells slots Q la A hl K => lv_icmp_ne A.1 A.2.1 hd ht (fun z => absurd z hP) (fun _ => K))
  · rename_i bb aa rest hno
    have key : ∀ (b : Bool) (s : State), mx_KK B.2.1 s → mx_n_ne (mx_rng aa) (mx_rng bb) = some b → ∃ x y : Int32, mx_v B.2.1.1 aa = .int x ∧ mx_v B.2.1.1 bb = .int y ∧ (b = true ↔ ¬ x = y) := by
      intro b s hK hb
      obtain ⟨ia, ib, h1, h2, h3⟩ := mx_n_ne_ok hb
      obtain ⟨x, hx, h4, h5⟩ := mx_rng_ok hK h1
      obtain ⟨y, hy, h6, h7⟩ := mx_rng_ok hK h2
      exact ⟨x, y, hx, hy, (h3 x.toInt y.toInt h4 h5 h6 h7).trans (not_congr mx_I32eq).symm⟩
    rcases mx_bra_some e with ⟨ho, e⟩ | ⟨ho, e⟩
    · refine mx_G.step (hk _ _ _ _ _ e) (fun p e s m args below meth c R H locs cells slots Q la A hl K => ?_)
      obtain ⟨x, y, hx, hy, hp⟩ := key _ s A.2.2.2.2.2.2.2.2 ho
      show W _ _ _ _ _ _ _ _ _ _ _ _ _ _ _ (F0 m pc la (mx_v B.2.1.1 bb :: mx_v B.2.1.1 aa :: rest.map (mx_v B.2.1.1)))
      rw [hx, hy]
      exact lv_icmp_ne A.1 A.2.1 hd ht (fun _ => K) (fun z => absurd z (hp.mp rfl))
    · refine mx_G.step (hk _ _ _ _ _ e) (fun p e s m args below meth c R H locs cells slots Q la A hl K => ?_)
      obtain ⟨x, y, hx, hy, hp⟩ := key _ s A.2.2.2.2.2.2.2.2 ho
      show W _ _ _ _ _ _ _ _ _ _ _ _ _ _ _ (F0 m pc la (mx_v B.2.1.1 bb :: mx_v B.2.1.1 aa :: rest.map (mx_v B.2.1.1)))
      rw [hx, hy]
      exact lv_icmp_ne A.1 A.2.1 hd ht (fun z => absurd (hp.mpr z) (by decide)) (fun _ => K)
  · cases e
theorem mx_s_lif_ne {off : Int} {tg nx : Nat} (hd1 : decode M.1 pc = .ok (.lcmp, 1)) (hd : decode M.1 (pc + 1) = .ok (.ifCond .ne off, 3)) (ht : ((pc + 1 : Nat) : Int) + off = (tg : Int)) (hn : pc + 1 + 3 = nx) : mx_Sn B M pc (mx_lif_ne tg nx) := by
  subst hn
  intro d k call hk hc ls st h r e
  unfold mx_lif_ne at e
  split at e
  · split at e
    · rename_i hP
      exact mx_G.step (hk _ _ _ _ _ e) (fun p e s m args below meth c R H locs cells slots Q la A hl K => W.lcmp A.1 A.2.1 hd1 (lv_if_ne A.1 A.2.1 hd ht (fun _ => K) (fun z => absurd z hP)))
    · rename_i hP
      exact mx_G.step (hk _ _ _ _ _ e) (fun p e s m args below meth c R H locs cells slots Q la A hl K => W.lcmp A.1 A.2.1 hd1 (lv_if_ne A.1 A.2.1 hd ht (fun z => absurd z hP) (fun _ => K)))
  · rename_i bb aa rest hno
    have key : ∀ (b : Bool) (s : State), mx_KK B.2.1 s → mx_n_ne (mx_rngL aa) (mx_rngL bb) = some b → ∃ x y : Int64, mx_v B.2.1.1 aa = .long x ∧ mx_v B.2.1.1 bb = .long y ∧ (b = true ↔ ¬ lg_cmp x y = 0) := by
      intro b s hK hb
      obtain ⟨ia, ib, h1, h2, h3⟩ := mx_n_ne_ok hb
      obtain ⟨x, hx, h4, h5⟩ := mx_rngL_ok hK h1
      obtain ⟨y, hy, h6, h7⟩ := mx_rngL_ok hK h2
      exact ⟨x, y, hx, hy, (h3 x.toInt y.toInt h4 h5 h6 h7).trans (not_congr mx_lg_eq).symm⟩
    rcases mx_bra_some e with ⟨ho, e⟩ | ⟨ho, e⟩
    · refine mx_G.step (hk _ _ _ _ _ e) (fun p e s m args below meth c R H locs cells slots Q la A hl K => ?_)
      obtain ⟨x, y, hx, hy, hp⟩ := key _ s A.2.2.2.2.2.2.2.2 ho
      show W _ _ _ _ _ _ _ _ _ _ _ _ _ _ _ (F0 m pc la (mx_v B.2.1.1 bb :: mx_v B.2.1.1 aa :: rest.map (mx_v B.2.1.1)))
      rw [hx, hy]
      exact W.lcmp A.1 A.2.1 hd1 (lv_if_ne A.1 A.2.1 hd ht (fun _ => K) (fun z => absurd z (hp.mp rfl)))
    · refine mx_G.step (hk _ _ _ _ _ e) (fun p e s m args below meth c R H locs cells slots Q la A hl K => ?_)
      obtain ⟨x, y, hx, hy, hp⟩ := key _ s A.2.2.2.2.2.2.2.2 ho
      show W _ _ _ _ _ _ _ _ _ _ _ _ _ _ _ (F0 m pc la (mx_v B.2.1.1 bb :: mx_v B.2.1.1 aa :: rest.map (mx_v B.2.1.1)))
      rw [hx, hy]
      exact W.lcmp A.1 A.2.1 hd1 (lv_if_ne A.1 A.2.1 hd ht (fun z => absurd (hp.mpr z) (by decide)) (fun _ => K))
  · cases e
theorem mx_s_if_lt {off : Int} {tg : Nat} (hd : decode M.1 pc = .ok (.ifCond .lt off, 3)) (ht : (pc : Int) + off = (tg : Int)) : mx_Sn B M pc (mx_if_lt tg (pc + 3)) := by
  intro d k call hk hc ls st h r e
  unfold mx_if_lt at e
  split at e
  · split at e
    · rename_i hP
      exact mx_G.step (hk _ _ _ _ _ e) (fun p e s m args below meth c R H locs cells slots Q la A hl K => lv_if_lt A.1 A.2.1 hd ht (fun _ => K) (fun z => absurd hP z))
    · rename_i hP
      exact mx_G.step (hk _ _ _ _ _ e) (fun p e s m args below meth c R H locs cells slots Q la A hl K => lv_if_lt A.1 A.2.1 hd ht (fun z => absurd z hP) (fun _ => K))
  · rename_i t rest
    have key : ∀ (b : Bool) (s : State), mx_KK B.2.1 s → mx_n_lt (mx_rng (.float t)) (some (0, 0)) = some b → ∃ x : Int32, mx_v B.2.1.1 (.float t) = .int x ∧ (b = true ↔ x < 0) := by
      intro b s hK hb
      obtain ⟨ia, ib, h1, h2, h3⟩ := mx_n_lt_ok hb
      obtain ⟨x, hx, h4, h5⟩ := mx_rng_ok hK h1
      cases h2
      exact ⟨x, hx, (h3 x.toInt 0 h4 h5 (Int.le_refl _) (Int.le_refl _)).trans mx_z_lt.symm⟩
    rcases mx_bra_some e with ⟨ho, e⟩ | ⟨ho, e⟩
    · refine mx_G.step (hk _ _ _ _ _ e) (fun p e s m args below meth c R H locs cells slots Q la A hl K => ?_)
      obtain ⟨x, hx, hp⟩ := key _ s A.2.2.2.2.2.2.2.2 ho
      show W _ _ _ _ _ _ _ _ _ _ _ _ _ _ _ (F0 m pc la (mx_v B.2.1.1 (.float t) :: rest.map (mx_v B.2.1.1)))
      rw [hx]
      exact lv_if_lt A.1 A.2.1 hd ht (fun _ => K) (fun z => absurd (hp.mp rfl) z)
    · refine mx_G.step (hk _ _ _ _ _ e) (fun p e s m args below meth c R H locs cells slots Q la A hl K => ?_)
      obtain ⟨x, hx, hp⟩ := key _ s A.2.2.2.2.2.2.2.2 ho
      show W _ _ _ _ _ _ _ _ _ _ _ _ _ _ _ (F0 m pc la (mx_v B.2.1.1 (.float t) :: rest.map (mx_v B.2.1.1)))
      rw [hx]
      exact lv_if_lt A.1 A.2.1 hd ht (fun z => absurd (hp.mpr z) (by decide)) (fun _ => K)
  · cases e
theorem mx_s_icmp_lt {off : Int} {tg : Nat} (hd : decode M.1 pc = .ok (.if_icmp .lt off, 3)) (ht : (pc : Int) + off = (tg : Int)) : mx_Sn B M pc (mx_icmp_lt tg (pc + 3)) := by
  intro d k call hk hc ls st h r e
  unfold mx_icmp_lt at e
  split at e
  · split at e
    · rename_i hP
      exact mx_G.step (hk _ _ _ _ _ e) (fun p e s m args below meth c R H locs cells slots Q la A hl K => lv_icmp_lt A.1 A.2.1 hd ht (fun _ => K) (fun z => absurd hP z))
    · rename_i hP
      exact mx_G.step (hk _ _ _ _ _ e) (fun p e s m args below meth c R H locs cells slots Q la A hl K => lv_icmp_lt A.1 A.2.1 hd ht (fun z => absurd z hP) (fun _ => K))
  · rename_i bb aa rest hno
    have key : ∀ (b : Bool) (s : State), mx_KK B.2.1 s → mx_n_lt (mx_rng aa) (mx_rng bb) = some b → ∃ x y : Int32, mx_v B.2.1.1 aa = .int x ∧ mx_v B.2.1.1 bb = .int y ∧ (b = true ↔ x < y) := by
      intro b s hK hb
      obtain ⟨ia, ib, h1, h2, h3⟩ := mx_n_lt_ok hb
      obtain ⟨x, hx, h4, h5⟩ := mx_rng_ok hK h1
      obtain ⟨y, hy, h6, h7⟩ := mx_rng_ok hK h2
      exact ⟨x, y, hx, hy, (h3 x.toInt y.toInt h4 h5 h6 h7).trans Int32.lt_iff_toInt_lt.symm⟩
    rcases mx_bra_some e with ⟨ho, e⟩ | ⟨ho, e⟩
    · refine mx_G.step (hk _ _ _ _ _ e) (fun p e s m args below meth c R H locs cells slots Q la A hl K => ?_)
      obtain ⟨x, y, hx, hy, hp⟩ := key _ s A.2.2.2.2.2.2.2.2 ho
      show W _ _ _ _ _ _ _ _ _ _ _ _ _ _ _ (F0 m pc la (mx_v B.2.1.1 bb :: mx_v B.2.1.1 aa :: rest.map (mx_v B.2.1.1)))
      rw [hx, hy]
      exact lv_icmp_lt A.1 A.2.1 hd ht (fun _ => K) (fun z => absurd (hp.mp rfl) z)
    · refine mx_G.step (hk _ _ _ _ _ e) (fun p e s m args below meth c R H locs cells slots Q la A hl K => ?_)
      obtain ⟨x, y, hx, hy, hp⟩ := key _ s A.2.2.2.2.2.2.2.2 ho
      show W _ _ _ _ _ _ _ _ _ _ _ _ _ _ _ (F0 m pc la (mx_v B.2.1.1 bb :: mx_v B.2.1.1 aa :: rest.map (mx_v B.2.1.1)))
      rw [hx, hy]
      exact lv_icmp_lt A.1 A.2.1 hd ht (fun z => absurd (hp.mpr z) (by decide)) (fun _ => K)
  · cases e
theorem mx_s_lif_lt {off : Int} {tg nx : Nat} (hd1 : decode M.1 pc = .ok (.lcmp, 1)) (hd : decode M.1 (pc + 1) = .ok (.ifCond .lt off, 3)) (ht : ((pc + 1 : Nat) : Int) + off = (tg : Int)) (hn : pc + 1 + 3 = nx) : mx_Sn B M pc (mx_lif_lt tg nx) := by
  subst hn
  intro d k call hk hc ls st h r e
  unfold mx_lif_lt at e
  split at e
  · split at e
    · rename_i hP
      exact mx_G.step (hk _ _ _ _ _ e) (fun p e s m args below meth c R H locs cells slots Q la A hl K => W.lcmp A.1 A.2.1 hd1 (lv_if_lt A.1 A.2.1 hd ht (fun _ => K) (fun z => absurd hP z)))
    · rename_i hP
      exact mx_G.step (hk _ _ _ _ _ e) (fun p e s m args below meth c R H locs cells slots Q la A hl K => W.lcmp A.1 A.2.1 hd1 (lv_if_lt A.1 A.2.1 hd ht (fun z => absurd z hP) (fun _ => K)))
  · rename_i bb aa rest hno
    have key : ∀ (b : Bool) (s : State), mx_KK B.2.1 s → mx_n_lt (mx_rngL aa) (mx_rngL bb) = some b → ∃ x y : Int64, mx_v B.2.1.1 aa = .long x ∧ mx_v B.2.1.1 bb = .long y ∧ (b = true ↔ lg_cmp x y < 0) := by
      intro b s hK hb
      obtain ⟨ia, ib, h1, h2, h3⟩ := mx_n_lt_ok hb
      obtain ⟨x, hx, h4, h5⟩ := mx_rngL_ok hK h1
      obtain ⟨y, hy, h6, h7⟩ := mx_rngL_ok hK h2
      exact ⟨x, y, hx, hy, (h3 x.toInt y.toInt h4 h5 h6 h7).trans mx_lg_lt.symm⟩
    rcases mx_bra_some e with ⟨ho, e⟩ | ⟨ho, e⟩
    · refine mx_G.step (hk _ _ _ _ _ e) (fun p e s m args below meth c R H locs cells slots Q la A hl K => ?_)
      obtain ⟨x, y, hx, hy, hp⟩ := key _ s A.2.2.2.2.2.2.2.2 ho
      show W _ _ _ _ _ _ _ _ _ _ _ _ _ _ _ (F0 m pc la (mx_v B.2.1.1 bb :: mx_v B.2.1.1 aa :: rest.map (mx_v B.2.1.1)))
      rw [hx, hy]
      exact W.lcmp A.1 A.2.1 hd1 (lv_if_lt A.1 A.2.1 hd ht (fun _ => K) (fun z => absurd (hp.mp rfl) z))
    · refine mx_G.step (hk _ _ _ _ _ e) (fun p e s m args below meth c R H locs cells slots Q la A hl K => ?_)
      obtain ⟨x, y, hx, hy, hp⟩ := key _ s A.2.2.2.2.2.2.2.2 ho
      show W _ _ _ _ _ _ _ _ _ _ _ _ _ _ _ (F0 m pc la (mx_v B.2.1.1 bb :: mx_v B.2.1.1 aa :: rest.map (mx_v B.2.1.1)))
      rw [hx, hy]
      exact W.lcmp A.1 A.2.1 hd1 (lv_if_lt A.1 A.2.1 hd ht (fun z => absurd (hp.mpr z) (by decide)) (fun _ => K))
  · cases e
theorem mx_s_if_ge {off : Int} {tg : Nat} (hd : decode M.1 pc = .ok (.ifCond .ge off, 3)) (ht : (pc : Int) + off = (tg : Int)) : mx_Sn B M pc (mx_if_ge tg (pc + 3)) := by
  intro d k call hk hc ls st h r e
  unfold mx_if_ge at e
  split at e
  · split at e
    · rename_i hP
      exact mx_G.step (hk _ _ _ _ _ e) (fun p e s m args below meth c R H locs cells slots Q la A hl K => lv_if_ge A.1 A.2.1 hd ht (fun _ => K) (fun z => absurd hP z))
    · rename_i hP
      exact mx_G.step (hk _ _ _ _ _ e) (fun p e s m args below meth c R H locs cells slots Q la A hl K => lv_if_ge A.1 A.2.1 hd ht (fun z => absurd z hP) (fun _ => K))
  · rename_i t rest
    have key : ∀ (b : Bool) (s : State), mx_KK B.2.1 s → mx_n_ge (mx_rng (.float t)) (some (0, 0)) = some b → ∃ x : Int32, mx_v B.2.1.1 (.float t) = .int x ∧ (b = true ↔ 0 ≤ x) := by
      intro b s hK hb
      obtain ⟨ia, ib, h1, h2, h3⟩ := mx_n_ge_ok hb
      obtain ⟨x, hx, h4, h5⟩ := mx_rng_ok hK h1
      cases h2
      exact ⟨x, hx, (h3 x.toInt 0 h4 h5 (Int.le_refl _) (Int.le_refl _)).trans mx_z_ge.symm⟩
    rcases mx_bra_some e with ⟨ho, e⟩ | ⟨ho, e⟩
    · refine mx_G.step (hk _ _ _ _ _ e) (fun p e s m args below meth c R H locs cells slots Q la A hl K => ?_)
      obtain ⟨x, hx, hp⟩ := key _ s A.2.2.2.2.2.2.2.2 ho
      show W _ _ _ _ _ _ _ _ _ _ _ _ _ _ _ (F0 m pc la (mx_v B.2.1.1 (.float t) :: rest.map (mx_v B.2.1.1)))
      rw [hx]
      exact lv_if_ge A.1 A.2.1 hd ht (fun _ => K) (fun z => absurd (hp.mp rfl) z)
    · refine mx_G.step (hk _ _ _ _ _ e) (fun p e s m args below meth c R H locs cells slots Q la A hl K => ?_)
      obtain ⟨x, hx, hp⟩ := key _ s A.2.2.2.2.2.2.2.2 ho
      show W _ _ _ _ _ _ _ _ _ _ _ _ _ _ _ (F0 m pc la (mx_v B.2.1.1 (.float t) :: rest.map (mx_v B.2.1.1)))
      rw [hx]
      exact lv_if_ge A.1 A.2.1 hd ht (fun z => absurd (hp.mpr z) (by decide)) (fun _ => K)
  · cases e
theorem mx_s_icmp_ge {off : Int} {tg : Nat} (hd : decode M.1 pc = .ok (.if_icmp .ge off, 3)) (ht : (pc : Int) + off = (tg : Int)) : mx_Sn B M pc (mx_icmp_ge tg (pc + 3)) := by
  intro d k call hk hc ls st h r e
  unfold mx_icmp_ge at e
  split at e
  · split at e
    · rename_i hP
      exact mx_G.step (hk _ _ _ _ _ e) (fun p e s m args below meth c R H locs cells slots Q la A hl K => lv_icmp_ge A.1 A.2.1 hd ht (fun _ => K) (fun z => absurd hP z))
    · rename_i hP
      exact mx_G.step (hk _ _ _ _ _ e) (fun p e s m args below meth c R H locs cells slots Q la A hl K => lv_icmp_ge A.1 A.2.1 hd ht (fun z => absurd z hP) (fun _ => K))
  · rename_i bb aa rest hno
    have key : ∀ (b : Bool) (s : State), mx_KK B.2.1 s → mx_n_ge (mx_rng aa) (mx_rng bb) = some b → ∃ x y : Int32, mx_v B.2.1.1 aa = .int x ∧ mx_v B.2.1.1 bb = .int y ∧ (b = true ↔ y ≤ x) := by
      intro b s hK hb
      obtain ⟨ia, ib, h1, h2, h3⟩ := mx_n_ge_ok hb
      obtain ⟨x, hx, h4, h5⟩ := mx_rng_ok hK h1
      obtain ⟨y, hy, h6, h7⟩ := mx_rng_ok hK h2
      exact ⟨x, y, hx, hy, (h3 x.toInt y.toInt h4 h5 h6 h7).trans Int32.le_iff_toInt_le.symm⟩
    rcases mx_bra_some e with ⟨ho, e⟩ | ⟨ho, e⟩
    · refine mx_G.step (hk _ _ _ _ _ e) (fun p e s m args below meth c R H locs cells slots Q la A hl K => ?_)
      obtain ⟨x, y, hx, hy, hp⟩ := key _ s A.2.2.2.2.2.2.2.2 ho
      show W _ _ _ _ _ _ _ _ _ _ _ _ _ _ _ (F0 m pc la (mx_v B.2.1.1 bb :: mx_v B.2.1.1 aa :: rest.map (mx_v B.2.1.1)))
      rw [hx, hy]
      exact lv_icmp_ge A.1 A.2.1 hd ht (fun _ => K) (fun z => absurd (hp.mp rfl) z)
    · refine mx_G.step (hk _ _ _ _ _ e) (fun p e s m args below meth c R H locs cells slots Q la A hl K => ?_)
      obtain ⟨x, y, hx, hy, hp⟩ := key _ s A.2.2.2.2.2.2.2.2 ho
      show W _ _ _ _ _ _ _ _ _ _ _ _ _ _ _ (F0 m pc la (mx_v B.2.1.1 bb :: mx_v B.2.1.1 aa :: rest.map (mx_v B.2.1.1)))
      rw [hx, hy]
      exact lv_icmp_ge A.1 A.2.1 hd ht (fun z => absurd (hp.mpr z) (by decide)) (fun _ => K)
  · cases e
theorem mx_s_lif_ge {off : Int} {tg nx : Nat} (hd1 : decode M.1 pc = .ok (.lcmp, 1)) (hd : decode M.1 (pc + 1) = .ok (.ifCond .ge off, 3)) (ht : ((pc + 1 : Nat) : Int) + off = (tg : Int)) (hn : pc + 1 + 3 = nx) : mx_Sn B M pc (mx_lif_ge tg nx) := by
  subst hn
  intro d k call hk hc ls st h r e
  unfold mx_lif_ge at e
  split at e
  · split at e
    · rename_i hP
      exact mx_G.step (hk _ _ _ _ _ e) (fun p e s m args below meth c R H locs cells slots Q la A hl K => W.lcmp A.1 A.2.1 hd1 (lv_if_ge A.1 A.2.1 hd ht (fun _ => K) (fun z => absurd hP z)))
    · rename_i hP
      exact mx_G.step (hk _ _ _ _ _ e) (fun p e s m args below meth c R H locs cells slots Q la A hl K => W.lcmp A.1 A.2.1 hd1 (lv_if_ge A.1 A.2.1 hd ht (fun z => absurd z hP) (fun _ => K)))
  · rename_i bb aa rest hno
    have key : ∀ (b : Bool) (s : State), mx_KK B.2.1 s → mx_n_ge (mx_rngL aa) (mx_rngL bb) = some b → ∃ x y : Int64, mx_v B.2.1.1 aa = .long x ∧ mx_v B.2.1.1 bb = .long y ∧ (b = true ↔ 0 ≤ lg_cmp x y) := by
      intro b s hK hb
      obtain ⟨ia, ib, h1, h2, h3⟩ := mx_n_ge_ok hb
      obtain ⟨x, hx, h4, h5⟩ := mx_rngL_ok hK h1
      obtain ⟨y, hy, h6, h7⟩ := mx_rngL_ok hK h2
      exact ⟨x, y, hx, hy, (h3 x.toInt y.toInt h4 h5 h6 h7).trans (mx_nltI.trans ((not_congr mx_lg_lt).trans Int.not_lt)).symm⟩
    rcases mx_bra_some e with ⟨ho, e⟩ | ⟨ho, e⟩
    · refine mx_G.step (hk _ _ _ _ _ e) (fun p e s m args below meth c R H locs cells slots Q la A hl K => ?_)
      obtain ⟨x, y, hx, hy, hp⟩ := key _ s A.2.2.2.2.2.2.2.2 ho
      show W _ _ _ _ _ _ _ _ _ _ _ _ _ _ _ (F0 m pc la (mx_v B.2.1.1 bb :: mx_v B.2.1.1 aa :: rest.map (mx_v B.2.1.1)))
      rw [hx, hy]
      exact W.lcmp A.1 A.2.1 hd1 (lv_if_ge A.1 A.2.1 hd ht (fun _ => K) (fun z => absurd (hp.mp rfl) z))
    · refine mx_G.step (hk _ _ _ _ _ e) (fun p e s m args below meth c R H locs cells slots Q la A hl K => ?_)
      obtain ⟨x, y, hx, hy, hp⟩ := key _ s A.2.2.2.2.2.2.2.2 ho
      show W _ _ _ _ _ _ _ _ _ _ _ _ _ _ _ (F0 m pc la (mx_v B.2.1.1 bb :: mx_v B.2.1.1 aa :: rest.map (mx_v B.2.1.1)))
      rw [hx, hy]
      exact W.lcmp A.1 A.2.1 hd1 (lv_if_ge A.1 A.2.1 hd ht (fun z => absurd (hp.mpr z) (by decide)) (fun _ => K))
  · cases e
theorem mx_s_if_gt {off : Int} {tg : Nat} (hd : decode M.1 pc = .ok (.ifCond .gt off, 3)) (ht : (pc : Int) + off = (tg : Int)) : mx_Sn B M pc (mx_if_gt tg (pc + 3)) := by
  intro d k call hk hc ls st h r e
  unfold mx_if_gt at e
  split at e
  · split at e
    · rename_i hP
      exact mx_G.step (hk _ _ _ _ _ e) (fun p e s m args below meth c R H locs cells slots Q la A hl K => lv_if_gt A.1 A.2.1 hd ht (fun _ => K) (fun z => absurd hP z))
    · rename_i hP
      exact mx_G.step (hk _ _ _ _ _ e) (fun p e s m args below meth c R H locs cells slots Q la A hl K => lv_if_gt A.1 A.2.1 hd ht (fun z => absurd z hP) (fun _ => K))
  · rename_i t rest
    have key : ∀ (b : Bool) (s : State), mx_KK B.2.1 s → mx_n_gt (mx_rng (.float t)) (some (0, 0)) = some b → ∃ x : Int32, mx_v B.2.1.1 (.float t) = .int x ∧ (b = true ↔ 0 < x) := by
      intro b s hK hb
      obtain ⟨ia, ib, h1, h2, h3⟩ := mx_n_gt_ok hb
      obtain ⟨x, hx, h4, h5⟩ := mx_rng_ok hK h1
      cases h2
      exact ⟨x, hx, (h3 x.toInt 0 h4 h5 (Int.le_refl _) (Int.le_refl _)).trans mx_z_gt.symm⟩
    rcases mx_bra_some e with ⟨ho, e⟩ | ⟨ho, e⟩
    · refine mx_G.step (hk _ _ _ _ _ e) (fun p e s m args below meth c R H locs cells slots Q la A hl K => ?_)
      obtain ⟨x, hx, hp⟩ := key _ s A.2.2.2.2.2.2.2.2 ho
      show W _ _ _ _ _ _ _ _ _ _ _ _ _ _ _ (F0 m pc la (mx_v B.2.1.1 (.float t) :: rest.map (mx_v B.2.1.1)))
      rw [hx]
      exact lv_if_gt A.1 A.2.1 hd ht (fun _ => K) (fun z => absurd (hp.mp rfl) z)
    · refine mx_G.step (hk _ _ _ _ _ e) (fun p e s m args below meth c R H locs cells slots Q la A hl K => ?_)
      obtain ⟨x, hx, hp⟩ := key _ s A.2.2.2.2.2.2.2.2 ho
      show W _ _ _ _ _ _ _ _ _ _ _ _ _ _ _ (F0 m pc la (mx_v B.2.1.1 (.float t) :: rest.map (mx_v B.2.1.1)))
      rw [hx]
      exact lv_if_gt A.1 A.2.1 hd ht (fun z => absurd (hp.mpr z) (by decide)) (fun _ => K)
  · cases e
theorem mx_s_icmp_gt {off : Int} {tg : Nat} (hd : decode M.1 pc = .ok (.if_icmp .gt off, 3)) (ht : (pc : Int) + off = (tg : Int)) : mx_Sn B M pc (mx_icmp_gt tg (pc + 3)) := by
  intro d k call hk hc ls st h r e
  unfold mx_icmp_gt at e
  split at e
  · split at e
    · rename_i hP
      exact mx_G.step (hk _ _ _ _ _ e) (fun p e s m args below meth c R H locs cells slots Q la A hl K => lv_icmp_gt A.1 A.2.1 hd ht (fun _ => K) (fun z => absurd hP z))
    · rename_i hP
      exact mx_G.step (hk _ _ _ _ _ e) (fun p e s m args below meth c R H locs cells slots Q la A hl K => lv_icmp_gt A.1 A.2.1 hd ht (fun z => absurd z hP) (fun _ => K))
  · rename_i bb aa rest hno
    have key : ∀ (b : Bool) (s : State), mx_KK B.2.1 s → mx_n_gt (mx_rng aa) (mx_rng bb) = some b → ∃ x y : Int32, mx_v B.2.1.1 aa = .int x ∧ mx_v B.2.1.1 bb = .int y ∧ (b = true ↔ y < x) := by
      intro b s hK hb
      obtain ⟨ia, ib, h1, h2, h3⟩ := mx_n_gt_ok hb
      obtain ⟨x, hx, h4, h5⟩ := mx_rng_ok hK h1
      obtain ⟨y, hy, h6, h7⟩ := mx_rng_ok hK h2
      exact ⟨x, y, hx, hy, (h3 x.toInt y.toInt h4 h5 h6 h7).trans Int32.lt_iff_toInt_lt.symm⟩
    rcases mx_bra_some e with ⟨ho, e⟩ | ⟨ho, e⟩
    · refine mx_G.step (hk _ _ _ _ _ e) (fun p e s m args below meth c R H locs cells slots Q la A hl K => ?_)
      obtain ⟨x, y, hx, hy, hp⟩ := key _ s A.2.2.2.2.2.2.2.2 ho
      show W _ _ _ _ _ _ _ _ _ _ _ _ _ _ _ (F0 m pc la (mx_v B.2.1.1 bb :: mx_v B.2.1.1 aa :: rest.map (mx_v B.2.1.1)))
      rw [hx, hy]
      exact lv_icmp_gt A.1 A.2.1 hd ht (fun _ => K) (fun z => absurd (hp.mp rfl) z)
    · refine mx_G.step (hk _ _ _ _ _ e) (fun p e s m args below meth c R H locs cells slots Q la A hl K => ?_)
      obtain ⟨x, y, hx, hy, hp⟩ := key _ s A.2.2.2.2.2.2.2.2 ho
      show W _ _ _ _ _ _ _ _ _ _ _ _ _ _ _ (F0 m pc la (mx_v B.2.1.1 bb :: mx_v B.2.1.1 aa :: rest.map (mx_v B.2.1.1)))
      rw [hx, hy]
      exact lv_icmp_gt A.1 A.2.1 hd ht (fun z => absurd (hp.mpr z) (by decide)) (fun _ => K)
  · cases e
theorem mx_s_lif_gt {off : Int} {tg nx : Nat} (hd1 : decode M.1 pc = .ok (.lcmp, 1)) (hd : decode M.1 (pc + 1) = .ok (.ifCond .gt off, 3)) (ht : ((pc + 1 : Nat) : Int) + off = (tg : Int)) (hn : pc + 1 + 3 = nx) : mx_Sn B M pc (mx_lif_gt tg nx) := by
  subst hn
  intro d k call hk hc ls st h r e
  unfold mx_lif_gt at e
  split at e
  · split at e
    · rename_i hP
      exact mx_G.step (hk _ _ _ _ _ e) (fun p e s m args below meth c R H locs cells slots Q la A hl K => W.lcmp A.1 A.2.1 hd1 (lv_if_gt A.1 A.2.1 hd ht (fun _ => K) (fun z => absurd hP z)))
    · rename_i hP
      exact mx_G.step (hk _ _ _ _ _ e) (fun p e s m args below meth c R H locs cells slots Q la A hl K => W.lcmp A.1 A.2.1 hd1 (lv_if_gt A.1 A.2.1 hd ht (fun z => absurd z hP) (fun _ => K)))
  · rename_i bb aa rest hno
    have key : ∀ (b : Bool) (s : State), mx_KK B.2.1 s → mx_n_gt (mx_rngL aa) (mx_rngL bb) = some b → ∃ x y : Int64, mx_v B.2.1.1 aa = .long x ∧ mx_v B.2.1.1 bb = .long y ∧ (b = true ↔ 0 < lg_cmp x y) := by
      intro b s hK hb
      obtain ⟨ia, ib, h1, h2, h3⟩ := mx_n_gt_ok hb
      obtain ⟨x, hx, h4, h5⟩ := mx_rngL_ok hK h1
      obtain ⟨y, hy, h6, h7⟩ := mx_rngL_ok hK h2
      exact ⟨x, y, hx, hy, (h3 x.toInt y.toInt h4 h5 h6 h7).trans mx_lg_gt.symm⟩
    rcases mx_bra_some e with ⟨ho, e⟩ | ⟨ho, e⟩
    · refine mx_G.step (hk _ _ _ _ _ e) (fun p e s m args below meth c R H locs cells slots Q la A hl K => ?_)
      obtain ⟨x, y, hx, hy, hp⟩ := key _ s A.2.2.2.2.2.2.2.2 ho
      show W _ _ _ _ _ _ _ _ _ _ _ _ _ _ _ (F0 m pc la (mx_v B.2.1.1 bb :: mx_v B.2.1.1 aa :: rest.map (mx_v B.2.1.1)))
      rw [hx, hy]
      exact W.lcmp A.1 A.2.1 hd1 (lv_if_gt A.1 A.2.1 hd ht (fun _ => K) (fun z => absurd (hp.mp rfl) z))
    · refine mx_G.step (hk _ _ _ _ _ e) (fun p e s m args below meth c R H locs cells slots Q la A hl K => ?_)
      obtain ⟨x, y, hx, hy, hp⟩ := key _ s A.2.2.2.2.2.2.2.2 ho
      show W _ _ _ _ _ _ _ _ _ _ _ _ _ _ _ (F0 m pc la (mx_v B.2.1.1 bb :: mx_v B.2.1.1 aa :: rest.map (mx_v B.2.1.1)))
      rw [hx, hy]
      exact W.lcmp A.1 A.2.1 hd1 (lv_if_gt A.1 A.2.1 hd ht (fun z => absurd (hp.mpr z) (by decide)) (fun _ => K))
  · cases e
theorem mx_s_if_le {off : Int} {tg : Nat} (hd : decode M.1 pc = .ok (.ifCond .le off, 3)) (ht : (pc : Int) + off = (tg : Int)) : mx_Sn B M pc (mx_if_le tg (pc + 3)) := by
  intro d k call hk hc ls st h r e
  unfold mx_if_le at e
  split at e
  · split at e
    · rename_i hP
      exact mx_G.step (hk _ _ _ _ _ e) (fun p e s m args below meth c R H locs cells slots Q la A hl K => lv_if_le A.1 A.2.1 hd ht (fun _ => K) (fun z => absurd hP z))
    · rename_i hP
      exact mx_G.step (hk _ _ _ _ _ e) (fun p e s m args below meth c R H locs cells slots Q la A hl K => lv_if_le A.1 A.2.1 hd ht (fun z => absurd z hP) (fun _ => K))
  · rename_i t rest
    have key : ∀ (b : Bool) (s : State), mx_KK B.2.1 s → mx_n_le (mx_rng (.float t)) (some (0, 0)) = some b → ∃ x : Int32, mx_v B.2.1.1 (.float t) = .int x ∧ (b = true ↔ x ≤ 0) := by
      intro b s hK hb
      obtain ⟨ia, ib, h1, h2, h3⟩ := mx_n_le_ok hb
      obtain ⟨x, hx, h4, h5⟩ := mx_rng_ok hK h1
      cases h2
      exact ⟨x, hx, (h3 x.toInt 0 h4 h5 (Int.le_refl _) (Int.le_refl _)).trans mx_z_le.symm⟩
    rcases mx_bra_some e with ⟨ho, e⟩ | ⟨ho, e⟩
    · refine mx_G.step (hk _ _ _ _ _ e) (fun p e s m args below meth c R H locs cells slots Q la A hl K => ?_)
      obtain ⟨x, hx, hp⟩ := key _ s A.2.2.2.2.2.2.2.2 ho
      show W _ _ _ _ _ _ _ _ _ _ _ _ _ _ _ (F0 m pc la (mx_v B.2.1.1 (.float t) :: rest.map (mx_v B.2.1.1)))
      rw [hx]
      exact lv_if_le A.1 A.2.1 hd ht (fun _ => K) (fun z => absurd (hp.mp rfl) z)
    · refine mx_G.step (hk _ _ _ _ _ e) (fun p e s m args below meth c R H locs cells slots Q la A hl K => ?_)
      obtain ⟨x, hx, hp⟩ := key _ s A.2.2.2.2.2.2.2.2 ho
      show W _ _ _ _ _ _ _ _ _ _ _ _ _ _ _ (F0 m pc la (mx_v B.2.1.1 (.float t) :: rest.map (mx_v B.2.1.1)))
      rw [hx]
      exact lv_if_le A.1 A.2.1 hd ht (fun z => absurd (hp.mpr z) (by decide)) (fun _ => K)
  · cases e
theorem mx_s_icmp_le {off : Int} {tg : Nat} (hd : decode M.1 pc = .ok (.if_icmp .le off, 3)) (ht : (pc : Int) + off = (tg : Int)) : mx_Sn B M pc (mx_icmp_le tg (pc + 3)) := by
  intro d k call hk hc ls st h r e
  unfold mx_icmp_le at e
  split at e
  · split at e
    · rename_i hP
      exact mx_G.step (hk _ _ _ _ _ e) (fun p e s m args below meth c R H locs cells slots Q la A hl K => lv_icmp_le A.1 A.2.1 hd ht (fun _ => K) (fun z => absurd hP z))
    · rename_i hP
      exact mx_G.step (hk _ _ _ _ _ e) (fun p e s m args below meth c R H locs cells slots Q la A hl K => lv_icmp_le A.1 A.2.1 hd ht (fun z => absurd z hP) (fun _ => K))
  · rename_i bb aa rest hno
    have key : ∀ (b : Bool) (s : State), mx_KK B.2.1 s → mx_n_le (mx_rng aa) (mx_rng bb) = some b → ∃ x y : Int32, mx_v B.2.1.1 aa = .int x ∧ mx_v B.2.1.1 bb = .int y ∧ (b = true ↔ x ≤ y) := by
      intro b s hK hb
      obtain ⟨ia, ib, h1, h2, h3⟩ := mx_n_le_ok hb
      obtain ⟨x, hx, h4, h5⟩ := mx_rng_ok hK h1
      obtain ⟨y, hy, h6, h7⟩ := mx_rng_ok hK h2
      exact ⟨x, y, hx, hy, (h3 x.toInt y.toInt h4 h5 h6 h7).trans Int32.le_iff_toInt_le.symm⟩
    rcases mx_bra_some e with ⟨ho, e⟩ | ⟨ho, e⟩
    · refine mx_G.step (hk _ _ _ _ _ e) (fun p e s m args below meth c R H locs cells slots Q la A hl K => ?_)
      obtain ⟨x, y, hx, hy, hp⟩ := key _ s A.2.2.2.2.2.2.2.2 ho
      show W _ _ _ _ _ _ _ _ _ _ _ _ _ _ _ (F0 m pc la (mx_v B.2.1.1 bb :: mx_v B.2.1.1 aa :: rest.map (mx_v B.2.1.1)))
      rw [hx, hy]
      exact lv_icmp_le A.1 A.2.1 hd ht (fun _ => K) (fun z => absurd (hp.mp rfl) z)
    · refine mx_G.step (hk _ _ _ _ _ e) (fun p e s m args below meth c R H locs cells slots Q la A hl K => ?_)
      obtain ⟨x, y, hx, hy, hp⟩ := key _ s A.2.2.2.2.2.2.2.2 ho
      show W _ _ _ _ _ _ _ _ _ _ _ _ _ _ _ (F0 m pc la (mx_v B.2.1.1 bb :: mx_v B.2.1.1 aa :: rest.map (mx_v B.2.1.1)))
      rw [hx, hy]
      exact lv_icmp_le A.1 A.2.1 hd ht (fun z => absurd (hp.mpr z) (by decide)) (fun _ => K)
  · cases e
theorem mx_s_lif_le {off : Int} {tg nx : Nat} (hd1 : decode M.1 pc = .ok (.lcmp, 1)) (hd : decode M.1 (pc + 1) = .ok (.ifCond .le off, 3)) (ht : ((pc + 1 : Nat) : Int) + off = (tg : Int)) (hn : pc + 1 + 3 = nx) : mx_Sn B M pc (mx_lif_le tg nx) := by
  subst hn
  intro d k call hk hc ls st h r e
  unfold mx_lif_le at e
  split at e
  · split at e
    · rename_i hP
      exact mx_G.step (hk _ _ _ _ _ e) (fun p e s m args below meth c R H locs cells slots Q la A hl K => W.lcmp A.1 A.2.1 hd1 (lv_if_le A.1 A.2.1 hd ht (fun _ => K) (fun z => absurd hP z)))
    · rename_i hP
      exact mx_G.step (hk _ _ _ _ _ e) (fun p e s m args below meth c R H locs cells slots Q la A hl K => W.lcmp A.1 A.2.1 hd1 (lv_if_le A.1 A.2.1 hd ht (fun z => absurd z hP) (fun _ => K)))
  · rename_i bb aa rest hno
    have key : ∀ (b : Bool) (s : State), mx_KK B.2.1 s → mx_n_le (mx_rngL aa) (mx_rngL bb) = some b → ∃ x y : Int64, mx_v B.2.1.1 aa = .long x ∧ mx_v B.2.1.1 bb = .long y ∧ (b = true ↔ lg_cmp x y ≤ 0) := by
      intro b s hK hb
      obtain ⟨ia, ib, h1, h2, h3⟩ := mx_n_le_ok hb
      obtain ⟨x, hx, h4, h5⟩ := mx_rngL_ok hK h1
      obtain ⟨y, hy, h6, h7⟩ := mx_rngL_ok hK h2
      exact ⟨x, y, hx, hy, (h3 x.toInt y.toInt h4 h5 h6 h7).trans (mx_nleI.trans ((not_congr mx_lg_gt).trans Int.not_lt)).symm⟩
    rcases mx_bra_some e with ⟨ho, e⟩ | ⟨ho, e⟩
    · refine mx_G.step (hk _ _ _ _ _ e) (fun p e s m args below meth c R H locs cells slots Q la A hl K => ?_)
      obtain ⟨x, y, hx, hy, hp⟩ := key _ s A.2.2.2.2.2.2.2.2 ho
      show W _ _ _ _ _ _ _ _ _ _ _ _ _ _ _ (F0 m pc la (mx_v B.2.1.1 bb :: mx_v B.2.1.1 aa :: rest.map (mx_v B.2.1.1)))
      rw [hx, hy]
      exact W.lcmp A.1 A.2.1 hd1 (lv_if_le A.1 A.2.1 hd ht (fun _ => K) (fun z => absurd (hp.mp rfl) z))
    · refine mx_G.step (hk _ _ _ _ _ e) (fun p e s m args below meth c R H locs cells slots Q la A hl K => ?_)
      obtain ⟨x, y, hx, hy, hp⟩ := key _ s A.2.2.2.2.2.2.2.2 ho
      show W _ _ _ _ _ _ _ _ _ _ _ _ _ _ _ (F0 m pc la (mx_v B.2.1.1 bb :: mx_v B.2.1.1 aa :: rest.map (mx_v B.2.1.1)))
      rw [hx, hy]
      exact W.lcmp A.1 A.2.1 hd1 (lv_if_le A.1 A.2.1 hd ht (fun z => absurd (hp.mpr z) (by decide)) (fun _ => K))
  · cases e
theorem mx_s_goto {off : Int} {tg : Nat} (hd : decode M.1 pc = .ok (.goto off, 3)) (ht : (pc : Int) + off = (tg : Int)) : mx_Sn B M pc (mx_goto tg) := by
  intro d k call hk hc ls st h r e
  exact mx_G.step (hk _ _ _ _ _ e) (fun p e s m args below meth c R H locs cells slots Q la A hl K => lv_goto A.1 A.2.1 hd ht K)
theorem mx_s_ifnull {off : Int} {tg : Nat} (hd : decode M.1 pc = .ok (.ifnull off, 3)) (ht : (pc : Int) + off = (tg : Int)) : mx_Sn B M pc (mx_ifnull tg (pc + 3)) := by
  intro d k call hk hc ls st h r e
  unfold mx_ifnull at e
  split at e
  · exact mx_G.step (hk _ _ _ _ _ e) (fun p e s m args below meth c R H locs cells slots Q la A hl K => lv_ifnullN A.1 A.2.1 hd ht K)
  · exact mx_G.step (hk _ _ _ _ _ e) (fun p e s m args below meth c R H locs cells slots Q la A hl K => lv_ifnull A.1 A.2.1 hd K)
  · cases e
theorem mx_s_ifnonnull {off : Int} {tg : Nat} (hd : decode M.1 pc = .ok (.ifnonnull off, 3)) (ht : (pc : Int) + off = (tg : Int)) : mx_Sn B M pc (mx_ifnonnull tg (pc + 3)) := by
  intro d k call hk hc ls st h r e
  unfold mx_ifnonnull at e
  split at e
  · exact mx_G.step (hk _ _ _ _ _ e) (fun p e s m args below meth c R H locs cells slots Q la A hl K => lv_ifnonnullN A.1 A.2.1 hd K)
  · exact mx_G.step (hk _ _ _ _ _ e) (fun p e s m args below meth c R H locs cells slots Q la A hl K => lv_ifnonnull A.1 A.2.1 hd ht K)
  · cases e
theorem mx_c1_v {E : mx_E} {v : Value} (h : mx_c1 v = true) : (mx_v E v).category = 1 := by
  cases v <;> first | rfl | (simp [mx_c1] at h)
theorem mx_c2_v {E : mx_E} {v : Value} (h : mx_c1 v = false) : (mx_v E v).category = 2 := by
  cases v <;> first | rfl | (simp [mx_c1] at h)
theorem mx_and {a b : Bool} (h : (a && b) = true) : a = true ∧ b = true := by
  cases a <;> cases b <;> simp at h ⊢
theorem mx_s_dup (hd : decode M.1 pc = .ok (.dup, 1)) : mx_Sn B M pc (mx_dup (pc + 1)) := by
  intro d k call hk hc ls st h r e
  unfold mx_dup at e
  split at e
  · obtain ⟨b1, e⟩ := mx_bt e
    exact mx_G.step (hk _ _ _ _ _ e) (fun p e s m args below meth c R H locs cells slots Q la A hl K => lv_dup A.1 A.2.1 hd (mx_c1_v b1) K)
  · cases e
theorem mx_s_pop (hd : decode M.1 pc = .ok (.pop, 1)) : mx_Sn B M pc (mx_pop (pc + 1)) := by
  intro d k call hk hc ls st h r e
  unfold mx_pop at e
  split at e
  · obtain ⟨b1, e⟩ := mx_bt e
    exact mx_G.step (hk _ _ _ _ _ e) (fun p e s m args below meth c R H locs cells slots Q la A hl K => lv_pop A.1 A.2.1 hd (mx_c1_v b1) K)
  · cases e
theorem mx_s_dup_x1 (hd : decode M.1 pc = .ok (.dup_x1, 1)) : mx_Sn B M pc (mx_dup_x1 (pc + 1)) := by
  intro d k call hk hc ls st h r e
  unfold mx_dup_x1 at e
  split at e
  · obtain ⟨b1, e⟩ := mx_bt e
    obtain ⟨b1, b2⟩ := mx_and b1
    exact mx_G.step (hk _ _ _ _ _ e) (fun p e s m args below meth c R H locs cells slots Q la A hl K => lv_dup_x1 A.1 A.2.1 hd (mx_c1_v b1) (mx_c1_v b2) K)
  · cases e
theorem mx_s_dup_x2 (hd : decode M.1 pc = .ok (.dup_x2, 1)) : mx_Sn B M pc (mx_dup_x2 (pc + 1)) := by
  intro d k call hk hc ls st h r e
  unfold mx_dup_x2 at e
  split at e
  · obtain ⟨b1, e⟩ := mx_bt e
    obtain ⟨b1, b2⟩ := mx_and b1
    obtain ⟨b2, b3⟩ := mx_and b2
    exact mx_G.step (hk _ _ _ _ _ e) (fun p e s m args below meth c R H locs cells slots Q la A hl K => lv_dup_x2 A.1 A.2.1 hd (mx_c1_v b1) (mx_c1_v b2) (mx_c1_v b3) K)
  · cases e
theorem mx_s_dup2a (hd : decode M.1 pc = .ok (.dup2, 1)) : mx_Sn B M pc (mx_dup2a (pc + 1)) := by
  intro d k call hk hc ls st h r e
  unfold mx_dup2a at e
  split at e
  · obtain ⟨b1, e⟩ := mx_bt e
    obtain ⟨b1, b2⟩ := mx_and b1
    exact mx_G.step (hk _ _ _ _ _ e) (fun p e s m args below meth c R H locs cells slots Q la A hl K => lv_dup2_11 A.1 A.2.1 hd (mx_c1_v b1) (mx_c1_v b2) K)
  · cases e
theorem mx_s_dup2b (hd : decode M.1 pc = .ok (.dup2, 1)) : mx_Sn B M pc (mx_dup2b (pc + 1)) := by
  intro d k call hk hc ls st h r e
  unfold mx_dup2b at e
  split at e
  · obtain ⟨b1, e⟩ := mx_bf e
    exact mx_G.step (hk _ _ _ _ _ e) (fun p e s m args below meth c R H locs cells slots Q la A hl K => lv_dup2_2 A.1 A.2.1 hd (mx_c2_v b1) K)
  · cases e
theorem mx_s_pop2a (hd : decode M.1 pc = .ok (.pop2, 1)) : mx_Sn B M pc (mx_pop2a (pc + 1)) := by
  intro d k call hk hc ls st h r e
  unfold mx_pop2a at e
  split at e
  · obtain ⟨b1, e⟩ := mx_bt e
    obtain ⟨b1, b2⟩ := mx_and b1
    exact mx_G.step (hk _ _ _ _ _ e) (fun p e s m args below meth c R H locs cells slots Q la A hl K => lv_pop2_11 A.1 A.2.1 hd (mx_c1_v b1) (mx_c1_v b2) K)
  · cases e
theorem mx_s_pop2b (hd : decode M.1 pc = .ok (.pop2, 1)) : mx_Sn B M pc (mx_pop2b (pc + 1)) := by
  intro d k call hk hc ls st h r e
  unfold mx_pop2b at e
  split at e
  · obtain ⟨b1, e⟩ := mx_bf e
    exact mx_G.step (hk _ _ _ _ _ e) (fun p e s m args below meth c R H locs cells slots Q la A hl K => lv_pop2_2 A.1 A.2.1 hd (mx_c2_v b1) K)
  · cases e
theorem mx_s_dup2x1 (hd : decode M.1 pc = .ok (.dup2_x1, 1)) : mx_Sn B M pc (mx_dup2x1 (pc + 1)) := by
  intro d k call hk hc ls st h r e
  unfold mx_dup2x1 at e
  split at e
  · obtain ⟨b1, e⟩ := mx_bf e
    obtain ⟨b2, e⟩ := mx_bt e
    exact mx_G.step (hk _ _ _ _ _ e) (fun p e s m args below meth c R H locs cells slots Q la A hl K => lv_dup2_x1_2 A.1 A.2.1 hd (mx_c2_v b1) (mx_c1_v b2) K)
  · cases e
theorem mx_s_dup2x2 (hd : decode M.1 pc = .ok (.dup2_x2, 1)) : mx_Sn B M pc (mx_dup2x2 (pc + 1)) := by
  intro d k call hk hc ls st h r e
  unfold mx_dup2x2 at e
  split at e
  · obtain ⟨b1, e⟩ := mx_bf e
    obtain ⟨b2, e⟩ := mx_bt e
    obtain ⟨b2, b3⟩ := mx_and b2
    exact mx_G.step (hk _ _ _ _ _ e) (fun p e s m args below meth c R H locs cells slots Q la A hl K => lv_dup2_x2_2 A.1 A.2.1 hd (mx_c2_v b1) (mx_c1_v b2) (mx_c1_v b3) K)
  · cases e
end MXS
end
section
/-! cells: fields, arrays, new ones -/
section MXH
variable {B : mx_B} {M : mx_M} {pc : Nat}
theorem mx_toClamp {j : Int32} {n : Nat} (h0 : ¬ j < 0) (h : Nat.blt j.toNatClampNeg n = true) : ¬ (j < 0 ∨ n ≤ j.toNatClampNeg) := by
  have := mx_blt h
  rintro (q | q)
  · exact h0 q
  · omega
theorem mx_toClampLe {j : Int32} {n m : Nat} (h0 : ¬ j < 0) (h : Nat.blt j.toNatClampNeg n = true) (hm : n ≤ m) : ¬ (j < 0 ∨ m ≤ j.toNatClampNeg) := by
  have := mx_blt h
  rintro (q | q)
  · exact h0 q
  · omega
theorem mx_nblt {a b : Nat} (h : Nat.blt a b = false) : ¬ a < b := fun q => by
  have : Nat.blt a b = true := Nat.ble_eq.mpr q
  rw [this] at h; cases h
def mx_pl : Value → Bool
  | .int _ | .long _ | .null => true
  | _ => false
theorem mx_pl_v {E : mx_E} {v : Value} (h : mx_pl v = true) : mx_v E v = v := by
  cases v <;> first | rfl | cases h
/-- what an object's cell is -/
theorem mx_obj {E : mx_E} {U : State} {h : mx_H} {H : Heap} {a ci : Nat} {fs : List Value} {r : vw_C} (hR : mx_Rp E U h H) (e : mx_cell h a = some (.inl (ci, fs))) (hcl : E.1[ci]? = some r) :
    fs.length = r.2.2 ∧ ∃ cell : Cell, H[mx_rho E a]? = some cell ∧ cell.cls = E.2.1.1 ci ∧ cell.vm = .none ∧ ∀ k, k < r.2.2 → cell.slots[E.2.1.2 ci k]? = some (vp_V (fs.map (mx_v E)) k) := by
  obtain ⟨r', hr', hlen, cell, q1, q2, q3, q4⟩ := hR.at e
  cases hr'.symm.trans hcl
  exact ⟨hlen, cell, q1, q2, q3, q4⟩
theorem mx_vpV {E : mx_E} {fs : List Value} {f : Nat} {v : Value} (h : fs[f]? = some v) : vp_V (fs.map (mx_v E)) f = mx_v E v := by
  simp [vp_V, h]
/-- a class of ours, and what its words say -/
def mx_Cs (B : mx_B) (ci : Nat) (r : vw_C) : Prop := B.2.1.1.1[ci]? = some r ∧ (∀ w ∈ u_ws r.1 r.2.1 r.2.2, w ∈ B.2.1.2.1) ∧ (∀ a, a < r.2.2 → ∀ b, b < r.2.2 → a ≠ b → (r.2.1 a).2.1 ≠ (r.2.1 b).2.1) ∧ ∃ ty : Nat → FieldType, ∀ k, k < r.2.2 → parseFieldDescriptor (r.2.1 k).2.2.1 = some (ty k)
theorem mx_apart {s : State} {args : Array Value} {ci : Nat} {r : vw_C} (hts : ∀ w ∈ B.2.1.2.1, w.before args s = true) (hK : va_K B.2.1.1.2.1 B.2.1.1.1 [] s) (hcs : mx_Cs B ci r) : ∀ x y, x < r.2.2 → y < r.2.2 → x ≠ y → B.2.1.1.2.1.2 ci x ≠ B.2.1.1.2.1.2 ci y := by
  obtain ⟨h1, h2, h3, ty, h4⟩ := hcs
  obtain ⟨C, T, N⟩ := r
  exact va_apart (own := C) hts h2 ty h4 h3 hK h1
theorem mx_locs {V : mx_Ev} {a i : Nat} {locs : List Loc} (ha : ¬ a < V.1.2.2.1) (hL : ∀ q ∈ locs, mx_up V q.base) : ∀ q ∈ locs ++ [(⟨mx_rho V.1 a, i⟩ : Loc)], mx_up V q.base := by
  intro q hq
  rcases List.mem_append.mp hq with hq | hq
  · exact hL q hq
  · cases List.mem_singleton.mp hq
    show _ ≤ mx_rho V.1 a
    rw [mx_rho_hi ha]; exact Nat.le_add_right _ _
theorem mx_s_getf {i ci f : Nat} {r : vw_C} (hd : decode M.1 pc = .ok (.getfield i, 3)) (hcs : mx_Cs B ci r) (hf : f < r.2.2) (hlink : Cond.fieldLink M.2.2.1 i (r.2.1 f).1 (r.2.1 f).2.1 (r.2.1 f).2.2.1 ∈ B.2.1.2.1) : mx_Sn B M pc (mx_getf ci f (pc + 3)) := by
  intro d k call hk hcl ls st h rr e
  unfold mx_getf at e
  split at e
  · rename_i a rest
    split at e
    · rename_i cz fs hcell
      replace e := mx_bt e
      obtain ⟨hb, e⟩ := e
      have hci : cz = ci := Nat.eq_of_beq_eq_true hb
      subst hci
      split at e
      · rename_i v hv
        have G := hk _ _ _ _ _ e
        refine ⟨G.1, fun p e s m args below meth c hc hs H locs la A h1 h2 hR hL hl => ?_⟩
        obtain ⟨hlen, cell, q1, q2, q3, q4⟩ := mx_obj hR hcell hcs.1
        obtain ⟨hS, hfc, kC, hkC, hkind⟩ := A.2.2.2.2.2.2.2.2.1.1 _ _ hcs.1
        obtain ⟨cf, kf, fi, fd, hi, hsl⟩ := hS f hf
        refine W.getf A.1 A.2.1 A.2.2.2.1 (A.2.2.2.2.1 _ hlink) hi (u_facts hfc hkC (u_lays A.2.2.2.2.1 hcs.2.1 hf) hi).1 q1 (by rw [q3]; exact fun h => by cases h) (v := mx_v B.2.1.1 v) ?_ rfl rfl hd (G.2 p e s m args below meth c hc hs H locs la A h1 h2 hR hL hl)
        rw [hsl, q4 f hf, mx_vpV (by rw [← mx_nth_eq]; exact hv)]
      · cases e
    · cases e
  · cases e
theorem mx_fit_v {E : mx_E} {ty : FieldType} {v : Value} (h : mx_fit ty v = true) : narrow ty (mx_v E v) = mx_v E v ∧ fits ty (mx_v E v) = true := by
  cases ty <;> cases v <;> simp [mx_fit, mx_v, narrow, fits] at h ⊢
  rename_i x
  rcases h with h | h
  · subst h; decide +kernel
  · subst h; decide +kernel
theorem mx_s_putf {i ci f : Nat} {ty : FieldType} {r : vw_C} (hd : decode M.1 pc = .ok (.putfield i, 3)) (hcs : mx_Cs B ci r) (hf : f < r.2.2) (hty : parseFieldDescriptor (r.2.1 f).2.2.1 = some ty) (hlink : Cond.fieldLink M.2.2.1 i (r.2.1 f).1 (r.2.1 f).2.1 (r.2.1 f).2.2.1 ∈ B.2.1.2.1) (hfin : (r.2.1 f).2.2.2 = false) : mx_Sn B M pc (mx_putf B.2.1.1.2.2.1 ci f ty (pc + 3)) := by
  intro d k call hk hcl ls st h rr e
  unfold mx_putf at e
  split at e
  · rename_i v a rest
    replace e := mx_bf e
    obtain ⟨ha, e⟩ := e
    have ha2 := mx_nblt ha
    split at e
    · rename_i cz fs hcell
      replace e := mx_bt e
      obtain ⟨hb, e⟩ := e
      obtain ⟨hb1, hb2⟩ := mx_and hb
      obtain ⟨hb2, hb3⟩ := mx_and hb2
      have hci : cz = ci := Nat.eq_of_beq_eq_true hb1
      subst hci
      have hfl := mx_blt hb2
      have G := hk _ _ _ _ _ e
      refine ⟨G.1, fun p e s m args below meth c hc hs H locs la A h1 h2 hR hL hl => ?_⟩
      have hfit := mx_fit_v (E := B.2.1.1) hb3
      obtain ⟨hlen, cell, q1, q2, q3, q4⟩ := mx_obj hR hcell hcs.1
      obtain ⟨hS, hfc, kC, hkC, hkind⟩ := A.2.2.2.2.2.2.2.2.1.1 _ _ hcs.1
      have hap := mx_apart A.2.2.2.2.1 A.2.2.2.2.2.2.2.2.1 hcs
      obtain ⟨cf, kf, fi, fd, hi, hsl⟩ := hS f hf
      have hlay := A.2.2.2.2.1 _ (hcs.2.1 _ (u_in_lay hf))
      unfold u_lay at hlay
      rw [if_neg (by rw [hfin]; decide)] at hlay
      have hst := (u_facts hfc hkC (u_lays A.2.2.2.2.1 hcs.2.1 hf) hi).1
      have h6 := u_store hfc hkC hkind hlay hi hty hfit.1 hfit.2
      refine W.putK A.1 A.2.1 (f := fd) ⟨A.2.2.2.1, A.2.2.2.2.1 _ hlink, ⟨_, _, _, hi⟩, hst⟩ (by rw [q2]; exact h6) q1 q3 (by rw [hsl]; exact k2_hasslot (q4 f hf)) rfl rfl hd fun H1 e1 e2 e3 => ?_
      rw [hsl] at e1
      refine G.2 p e s m args below meth c hc hs H1 _ la A h1 h2 (hR.put ha2 (mx_cell_some hcell).1 ⟨r, hcs.1, by rw [mx_upd_eq, List.length_set]; exact hlen, t_OB.to (V := updV (vp_V (fs.map (mx_v B.2.1.1))) f (mx_v B.2.1.1 v)) ⟨_, e1, q2, q3, t_set q4 hap hf _⟩ (fun j _ => ?_)⟩ e2 e3) (mx_locs ha2 hL) hl
      rw [vp_updV_set (by rw [List.length_map]; exact hfl), mx_upd_eq, List.map_set]
    · cases e
  · cases e
theorem mx_s_putfF {i ci f : Nat} {ty : FieldType} {r : vw_C} (hd : decode M.1 pc = .ok (.putfield i, 3)) (hcs : mx_Cs B ci r) (hf : f < r.2.2) (hty : parseFieldDescriptor (r.2.1 f).2.2.1 = some ty) (hlink : Cond.fieldLink M.2.2.1 i (r.2.1 f).1 (r.2.1 f).2.1 (r.2.1 f).2.2.1 ∈ B.2.1.2.1) (hfin : (r.2.1 f).2.2.2 = true) (hini : M.2.2.2.1 = "<init>") (hdecl : (r.2.1 f).1 = M.2.2.1) : mx_Sn B M pc (mx_putf B.2.1.1.2.2.1 ci f ty (pc + 3)) := by
  intro d k call hk hcl ls st h rr e
  unfold mx_putf at e
  split at e
  · rename_i v a rest
    replace e := mx_bf e
    obtain ⟨ha, e⟩ := e
    have ha2 := mx_nblt ha
    split at e
    · rename_i cz fs hcell
      replace e := mx_bt e
      obtain ⟨hb, e⟩ := e
      obtain ⟨hb1, hb2⟩ := mx_and hb
      obtain ⟨hb2, hb3⟩ := mx_and hb2
      have hci : cz = ci := Nat.eq_of_beq_eq_true hb1
      subst hci
      have hfl := mx_blt hb2
      have G := hk _ _ _ _ _ e
      refine ⟨G.1, fun p e s m args below meth c hc hs H locs la A h1 h2 hR hL hl => ?_⟩
      have hfit := mx_fit_v (E := B.2.1.1) hb3
      obtain ⟨hlen, cell, q1, q2, q3, q4⟩ := mx_obj hR hcell hcs.1
      obtain ⟨hS, hfc, kC, hkC, hkind⟩ := A.2.2.2.2.2.2.2.2.1.1 _ _ hcs.1
      have hap := mx_apart A.2.2.2.2.1 A.2.2.2.2.2.2.2.2.1 hcs
      obtain ⟨cf, kf, fi, fd, hi, hsl⟩ := hS f hf
      have hlay := A.2.2.2.2.1 _ (hcs.2.1 _ (u_in_lay hf))
      unfold u_lay at hlay
      rw [if_pos hfin] at hlay
      have hst := (u_facts hfc hkC (u_lays A.2.2.2.2.1 hcs.2.1 hf) hi).1
      have hcf : m.cls = cf := by
        obtain ⟨_, _, c', _, _, _, -, -, hf', -, -, -, hown2, -⟩ := Cond.laysFinal_spec hlay
        have e1 : c' = cf := by have := hi.symm.trans hf'; simp at this; exact this.1.symm
        rw [hdecl] at hown2
        rw [← e1]; exact Option.some.inj (A.2.2.2.1.symm.trans hown2)
      have h6 := u_fits hfc hkC hkind (Or.inr hlay) hi hty hfit.1 hfit.2
      refine W.putFinK A.1 A.2.1 A.2.2.2.1 (A.2.2.2.2.1 _ hlink) hi hst hcf (by rw [A.2.2.2.2.2.2.2.1]; exact hini) (by rw [q2]; exact h6) q1 q3 (by rw [hsl]; exact k2_hasslot (q4 f hf)) rfl rfl hd fun H1 e1 e2 e3 => ?_
      rw [hsl] at e1
      refine G.2 p e s m args below meth c hc hs H1 _ la A h1 h2 (hR.put ha2 (mx_cell_some hcell).1 ⟨r, hcs.1, by rw [mx_upd_eq, List.length_set]; exact hlen, t_OB.to (V := updV (vp_V (fs.map (mx_v B.2.1.1))) f (mx_v B.2.1.1 v)) ⟨_, e1, q2, q3, t_set q4 hap hf _⟩ (fun j _ => ?_)⟩ e2 e3) (mx_locs ha2 hL) hl
      rw [vp_updV_set (by rw [List.length_map]; exact hfl), mx_upd_eq, List.map_set]
    · cases e
  · cases e
theorem mx_s_new {i ci n : Nat} {fs : List Value} {r : vw_C} (hd : decode M.1 pc = .ok (.new i, 3)) (hcs : mx_Cs B ci r) (hn : r.2.2 = n) (hlink : Cond.classLink M.2.2.1 i r.1 ∈ B.2.1.2.1) (hinst : Cond.instantiable r.1 n ∈ B.2.1.2.1) (hini : Cond.initialized r.1 ∈ B.2.1.2.1)
    (hpl : fs.all mx_pl = true) (hfs : fs.length = n ∧ ∀ (k : Nat) (ty : FieldType), k < n → parseFieldDescriptor (r.2.1 k).2.2.1 = some ty → fs[k]? = some (defaultValue ty)) : mx_Sn B M pc (mx_new ci n fs (pc + 3)) := by
  intro d k call hk hcl ls st h rr e
  unfold mx_new at e
  replace e := mx_bt e
  obtain ⟨hb, e⟩ := e
  have hb := mx_blt hb
  have G := hk _ _ _ _ _ e
  have g1 : h.1 + 1 ≤ rr.2.1 := G.1.1
  have g2 : h.2.1 + n ≤ rr.2.2.1 := G.1.2
  subst hn
  refine ⟨⟨by omega, by omega⟩, fun p e s m args below meth c hc hs H locs la A h1 h2 hR hL hl => ?_⟩
  obtain ⟨hcs1, hcs2, hcs3, ty, hty⟩ := hcs
  have hKn := A.2.2.2.2.2.2.2.2.1.1 _ _ hcs1
  refine W.newcK A.1 A.2.1 A.2.2.2.1 (A.2.2.2.2.1 _ hlink) (A.2.2.2.2.1 _ hinst) (A.2.2.2.2.1 _ hini) rfl hd (by show _ ≤ rr.2.1 - hc; omega) (by show _ ≤ rr.2.2.1 - hs; omega) hKn.2.1 rfl fun H1 kC hkC e1 z1 o1 => ?_
  have hP := hR.push (n := r.2.2) (c := .inl (ci, fs)) hb ⟨r, hcs1, hfs.1, (u_born ty A.2.2.2.2.1 hcs2 hKn hkC e1 hty).to (fun j hj => ?_)⟩ z1 o1
  · have G2 := G.2 p e s m args below meth c hc hs H1 locs la A (by show hc ≤ h.1 + 1; omega) (by show hs ≤ h.2.1 + _; omega) hP hL hl
    have z2 : (mx_push h r.2.2 (.inl (ci, fs))).1 - hc = h.1 - hc + 1 := by show h.1 + 1 - hc = _; omega
    have z3 : (mx_push h r.2.2 (.inl (ci, fs))).2.1 - hs = h.2.1 - hs + r.2.2 := by show h.2.1 + r.2.2 - hs = _; omega
    rw [z2, z3] at G2
    have z4 : ((Value.ref h.1 :: st).map (mx_v B.2.1.1)) = .ref H.size :: st.map (mx_v B.2.1.1) := by
      show Value.ref (mx_rho B.2.1.1 h.1) :: _ = _
      rw [mx_rho_new hR]
    rw [z4] at G2
    exact G2
  · have h9 := hfs.2 j (ty j) hj (hty j hj)
    rw [mx_vpV h9, mx_pl_v (List.all_eq_true.mp hpl _ (List.mem_of_getElem? h9))]
theorem mx_s_newa {aty : ArrayType} {ty : FieldType} {dv : Value} (hd : decode M.1 pc = .ok (.newarray aty, 2)) (hty : newarray.typeOf aty = ty) (hdv : defaultValue ty = dv) (hfl : ¬ ty = .float) (hpl : mx_pl dv = true) (hw : Cond.arrayClass ty ∈ B.2.1.2.1) : mx_Sn B M pc (mx_newa ty dv (pc + 2)) := by
  intro d k call hk hcl ls st h rr e
  unfold mx_newa at e
  split at e
  · rename_i n rest
    split at e
    · cases e
    · rename_i hn0
      replace e := mx_bt e
      obtain ⟨hb, e⟩ := e
      obtain ⟨hb, hb2⟩ := mx_and hb
      have hb := mx_blt hb
      have hb2 := Nat.ble_eq.mp hb2
      have G := hk _ _ _ _ _ e
      generalize hN : n.toNatClampNeg = N at hb2 e G
      have g1 : h.1 + 1 ≤ rr.2.1 := G.1.1
      have g2 : h.2.1 + N ≤ rr.2.2.1 := G.1.2
      subst hty
      subst hdv
      refine ⟨⟨by omega, by omega⟩, fun p e s m args below meth c hc hs H locs la A h1 h2 hR hL hl => ?_⟩
      refine va_newaK A.1 A.2.1 (A.2.2.2.2.1 _ hw) rfl hd rfl hn0 hN (by cases aty <;> simp [newarray.typeOf, componentBytes] <;> omega) (by show _ ≤ rr.2.1 - hc; omega) (by show _ ≤ rr.2.2.1 - hs; omega) rfl fun H1 cA e1 z1 o1 hAr hNm => ?_
      have hP := hR.push (n := N) (c := .inr (newarray.typeOf aty, N, mx_rep (defaultValue (newarray.typeOf aty)) 13)) hb (Or.inr ⟨hfl, _, e1, hAr _ _, (fun h => by cases h), ⟨by rw [arrV_size]; exact Nat.le_refl _, by rw [arrV_size]⟩, hb2, (fun j hj => by rw [arrV_read _ _ hj, mx_get_rep, mx_pl_v hpl]), (fun C hC => by cases aty <;> cases hC)⟩) z1 o1
      have G2 := G.2 p e s m args below meth c hc hs H1 locs la A (by show hc ≤ h.1 + 1; omega) (by show hs ≤ h.2.1 + _; omega) hP hL hl
      have z2 : (mx_push h N (.inr (newarray.typeOf aty, N, mx_rep (defaultValue (newarray.typeOf aty)) 13))).1 - hc = h.1 - hc + 1 := by show h.1 + 1 - hc = _; omega
      have z3 : (mx_push h N (.inr (newarray.typeOf aty, N, mx_rep (defaultValue (newarray.typeOf aty)) 13))).2.1 - hs = h.2.1 - hs + N := by show h.2.1 + N - hs = _; omega
      rw [z2, z3] at G2
      have z4 : ((Value.ref h.1 :: rest).map (mx_v B.2.1.1)) = .ref H.size :: rest.map (mx_v B.2.1.1) := by
        show Value.ref (mx_rho B.2.1.1 h.1) :: _ = _
        rw [mx_rho_new hR]
      rw [z4] at G2
      exact G2
  · cases e
theorem mx_s_anew {i : Nat} {C : String} (hd : decode M.1 pc = .ok (.anewarray i, 3)) (hlink : Cond.classLink M.2.2.1 i C ∈ B.2.1.2.1) (hov : C ∈ B.2.1.2.2.1) : mx_Sn B M pc (mx_newa (.object C) .null (pc + 3)) := by
  intro d k call hk hcl ls st h rr e
  unfold mx_newa at e
  split at e
  · rename_i n rest
    split at e
    · cases e
    · rename_i hn0
      replace e := mx_bt e
      obtain ⟨hb, e⟩ := e
      obtain ⟨hb, hb2⟩ := mx_and hb
      have hb := mx_blt hb
      have hb2 := Nat.ble_eq.mp hb2
      have G := hk _ _ _ _ _ e
      have g1 : h.1 + 1 ≤ rr.2.1 := G.1.1
      have g2 : h.2.1 + n.toNatClampNeg ≤ rr.2.2.1 := G.1.2
      refine ⟨⟨by omega, by omega⟩, fun p e s m args below meth c hc hs H locs la A h1 h2 hR hL hl => ?_⟩
      refine W.anew A.1 A.2.1 A.2.2.2.1 (A.2.2.2.2.1 _ hlink) (va_AO.use (A.2.2.2.2.2.2.2.2.2.1 _ hov)) rfl hd rfl hn0 (by omega) (by show _ ≤ rr.2.1 - hc; omega) (by show _ ≤ rr.2.2.1 - hs; omega) fun cA kA comp k1 k2 k3 k4 => ?_
      have hP := hR.push (H1 := H.push { cls := cA, slots := Array.replicate n.toNatClampNeg .null, vm := .none }) (n := n.toNatClampNeg) (c := .inr (.object C, n.toNatClampNeg, mx_rep .null 13)) hb (Or.inr ⟨(by intro h; cases h), { cls := cA, slots := Array.replicate n.toNatClampNeg .null, vm := .none }, (by simp), ⟨fun k h => (by cases h), kA, k2, comp, k3⟩, (fun h => by cases h), ⟨by simp, by simp⟩, hb2, (fun j hj => by rw [mx_get_rep]; simp [hj, mx_v]), (fun C2 hC => by cases hC; exact ⟨kA, comp, k2, k3, k4, k1⟩)⟩) (by simp) (fun q hq => by rw [Array.getElem?_push, if_neg (Nat.ne_of_lt hq)])
      have G2 := G.2 p e s m args below meth c hc hs _ locs la A (by show hc ≤ h.1 + 1; omega) (by show hs ≤ h.2.1 + _; omega) hP hL hl
      have z2 : (mx_push h n.toNatClampNeg (.inr (.object C, n.toNatClampNeg, mx_rep .null 13))).1 - hc = h.1 - hc + 1 := by show h.1 + 1 - hc = _; omega
      have z3 : (mx_push h n.toNatClampNeg (.inr (.object C, n.toNatClampNeg, mx_rep .null 13))).2.1 - hs = h.2.1 - hs + n.toNatClampNeg := by show h.2.1 + n.toNatClampNeg - hs = _; omega
      rw [z2, z3] at G2
      have z4 : ((Value.ref h.1 :: rest).map (mx_v B.2.1.1)) = .ref H.size :: rest.map (mx_v B.2.1.1) := by
        show Value.ref (mx_rho B.2.1.1 h.1) :: _ = _
        rw [mx_rho_new hR]
      rw [z4] at G2
      exact G2
  · cases e
theorem mx_s_iald (hd : decode M.1 pc = .ok (.iaload, 1)) : mx_Sn B M pc (mx_iald (pc + 1)) := by
  intro d k call hk hcl ls st h rr e
  unfold mx_iald at e
  split at e
  · rename_i j a rest
    split at e
    · rename_i n cc hcell
      split at e
      · cases e
      · rename_i hj0
        replace e := mx_bt e
        obtain ⟨hb, e⟩ := e
        have G := hk _ _ _ _ _ e
        refine ⟨G.1, fun p e s m args below meth c hc hs H locs la A h1 h2 hR hL hl => ?_⟩
        obtain ⟨cell, q1, q2, q3, q4, q5, q6, q7⟩ := hR.arr hcell (by intro h; cases h)
        exact W.iald A.1 A.2.1 q1 q2 q3 (mx_toClampLe hj0 hb q4.1) (q6 _ (mx_blt hb)) rfl rfl hd (G.2 p e s m args below meth c hc hs H locs la A h1 h2 hR hL hl)
    · cases e
  · cases e
theorem mx_s_lald (hd : decode M.1 pc = .ok (.laload, 1)) : mx_Sn B M pc (mx_lald (pc + 1)) := by
  intro d k call hk hcl ls st h rr e
  unfold mx_lald at e
  split at e
  · rename_i j a rest
    split at e
    · rename_i n cc hcell
      split at e
      · cases e
      · rename_i hj0
        replace e := mx_bt e
        obtain ⟨hb, e⟩ := e
        have G := hk _ _ _ _ _ e
        refine ⟨G.1, fun p e s m args below meth c hc hs H locs la A h1 h2 hR hL hl => ?_⟩
        obtain ⟨cell, q1, q2, q3, q4, q5, q6, q7⟩ := hR.arr hcell (by intro h; cases h)
        exact W.lald A.1 A.2.1 q1 q2 q3 (mx_toClampLe hj0 hb q4.1) (q6 _ (mx_blt hb)) rfl rfl hd (G.2 p e s m args below meth c hc hs H locs la A h1 h2 hR hL hl)
    · cases e
  · cases e
theorem mx_s_bald (hd : decode M.1 pc = .ok (.baload, 1)) : mx_Sn B M pc (mx_bald (pc + 1)) := by
  intro d k call hk hcl ls st h rr e
  unfold mx_bald at e
  split at e
  · rename_i j a rest
    split at e
    · rename_i n cc hcell
      split at e
      · cases e
      · rename_i hj0
        replace e := mx_bt e
        obtain ⟨hb, e⟩ := e
        have G := hk _ _ _ _ _ e
        refine ⟨G.1, fun p e s m args below meth c hc hs H locs la A h1 h2 hR hL hl => ?_⟩
        obtain ⟨cell, q1, q2, q3, q4, q5, q6, q7⟩ := hR.arr hcell (by intro h; cases h)
        exact W.bald A.1 A.2.1 q1 q2 q3 (mx_toClampLe hj0 hb q4.1) (q6 _ (mx_blt hb)) rfl rfl hd (G.2 p e s m args below meth c hc hs H locs la A h1 h2 hR hL hl)
    · cases e
  · cases e
theorem mx_s_zald (hd : decode M.1 pc = .ok (.baload, 1)) : mx_Sn B M pc (mx_zald (pc + 1)) := by
  intro d k call hk hcl ls st h rr e
  unfold mx_zald at e
  split at e
  · rename_i j a rest
    split at e
    · rename_i n cc hcell
      split at e
      · cases e
      · rename_i hj0
        replace e := mx_bt e
        obtain ⟨hb, e⟩ := e
        have G := hk _ _ _ _ _ e
        refine ⟨G.1, fun p e s m args below meth c hc hs H locs la A h1 h2 hR hL hl => ?_⟩
        obtain ⟨cell, q1, q2, q3, q4, q5, q6, q7⟩ := hR.arr hcell (by intro h; cases h)
        exact W.zald A.1 A.2.1 q1 q2 q3 (mx_toClampLe hj0 hb q4.1) (q6 _ (mx_blt hb)) rfl rfl hd (G.2 p e s m args below meth c hc hs H locs la A h1 h2 hR hL hl)
    · cases e
  · cases e
theorem mx_s_cald (hd : decode M.1 pc = .ok (.caload, 1)) : mx_Sn B M pc (mx_cald (pc + 1)) := by
  intro d k call hk hcl ls st h rr e
  unfold mx_cald at e
  split at e
  · rename_i j a rest
    split at e
    · rename_i n cc hcell
      split at e
      · cases e
      · rename_i hj0
        replace e := mx_bt e
        obtain ⟨hb, e⟩ := e
        have G := hk _ _ _ _ _ e
        refine ⟨G.1, fun p e s m args below meth c hc hs H locs la A h1 h2 hR hL hl => ?_⟩
        obtain ⟨cell, q1, q2, q3, q4, q5, q6, q7⟩ := hR.arr hcell (by intro h; cases h)
        exact W.cald A.1 A.2.1 q1 q2 q3 (mx_toClampLe hj0 hb q4.1) (q6 _ (mx_blt hb)) rfl rfl hd (G.2 p e s m args below meth c hc hs H locs la A h1 h2 hR hL hl)
    · cases e
  · cases e
theorem mx_s_sald (hd : decode M.1 pc = .ok (.saload, 1)) : mx_Sn B M pc (mx_sald (pc + 1)) := by
  intro d k call hk hcl ls st h rr e
  unfold mx_sald at e
  split at e
  · rename_i j a rest
    split at e
    · rename_i n cc hcell
      split at e
      · cases e
      · rename_i hj0
        replace e := mx_bt e
        obtain ⟨hb, e⟩ := e
        have G := hk _ _ _ _ _ e
        refine ⟨G.1, fun p e s m args below meth c hc hs H locs la A h1 h2 hR hL hl => ?_⟩
        obtain ⟨cell, q1, q2, q3, q4, q5, q6, q7⟩ := hR.arr hcell (by intro h; cases h)
        exact W.sald A.1 A.2.1 q1 q2 q3 (mx_toClampLe hj0 hb q4.1) (q6 _ (mx_blt hb)) rfl rfl hd (G.2 p e s m args below meth c hc hs H locs la A h1 h2 hR hL hl)
    · cases e
  · cases e
theorem mx_s_aald (hd : decode M.1 pc = .ok (.aaload, 1)) : mx_Sn B M pc (mx_aald (pc + 1)) := by
  intro d k call hk hcl ls st h rr e
  unfold mx_aald at e
  split at e
  · rename_i j a rest
    split at e
    · rename_i CC n cc hcell
      split at e
      · cases e
      · rename_i hj0
        replace e := mx_bt e
        obtain ⟨hb, e⟩ := e
        have G := hk _ _ _ _ _ e
        refine ⟨G.1, fun p e s m args below meth c hc hs H locs la A h1 h2 hR hL hl => ?_⟩
        obtain ⟨cell, q1, q2, q3, q4, q5, q6, q7⟩ := hR.arr hcell (by intro h; cases h)
        exact W.aald A.1 A.2.1 q1 q2 rfl q3 (mx_toClampLe hj0 hb q4.1) (q6 _ (mx_blt hb)) rfl rfl hd (G.2 p e s m args below meth c hc hs H locs la A h1 h2 hR hL hl)
    · cases e
  · cases e
/-- an array with one place changed -/
theorem mx_arr_put {E : mx_E} {U : State} {H1 : Heap} {a n k : Nat} {ty : FieldType} {t : mx_A} {cell : Cell} {v : Value} (q2 : U.isArrayOf cell ty) (q3 : cell.vm ≠ .unknown) (q4 : n ≤ cell.slots.size ∧ cell.slots.size.toInt32 = Int32.ofNat n) (q5 : n ≤ 8192) (q6 : ∀ j, j < n → cell.slots[j]? = some (mx_v E (mx_get 13 t j))) (q7 : ∀ C, ty = .object C → va_RA U cell.cls ty) (hk : k < n)
    (e1 : H1[a]? = some (cell.setSlot k (mx_v E v))) (hf : ¬ ty = .float) : mx_ok E U H1 a (.inr (ty, n, mx_set 13 t k v)) := by
  refine Or.inr ⟨hf, _, e1, q2, q3, by rw [k2_slotsz]; exact q4, q5, fun j hj => ?_, q7⟩
  rw [mx_get_set v 13 t k j (by show k < 8192; omega) (by show j < 8192; omega)]
  by_cases hjk : j = k
  · rw [if_pos hjk, hjk]
    exact Cell.slots_setSlot_self _ (Nat.lt_of_lt_of_le hk q4.1)
  · rw [if_neg hjk, slot_ne _ _ (Ne.symm hjk)]
    exact q6 j hj
theorem mx_s_iast (hd : decode M.1 pc = .ok (.iastore, 1)) : mx_Sn B M pc (mx_iast B.2.1.1.2.2.1 (pc + 1)) := by
  intro d k call hk hcl ls st h rr e
  unfold mx_iast at e
  split at e
  · rename_i x j a rest
    replace e := mx_bf e
    obtain ⟨ha, e⟩ := e
    have ha2 := mx_nblt ha
    split at e
    · rename_i n cc hcell
      split at e
      · cases e
      · rename_i hj0
        replace e := mx_bt e
        obtain ⟨hb, e⟩ := e
        have G := hk _ _ _ _ _ e
        refine ⟨G.1, fun p e s m args below meth c hc hs H locs la A h1 h2 hR hL hl => ?_⟩
        obtain ⟨cell, q1, q2, q3, q4, q5, q6, q7⟩ := hR.arr hcell (by intro h; cases h)
        refine W.iast A.1 A.2.1 q1 q2 q3 (mx_toClampLe hj0 hb q4.1) rfl rfl hd fun H1 e1 e2 e3 => ?_
        exact G.2 p e s m args below meth c hc hs H1 _ la A h1 h2 (hR.put ha2 (mx_cell_some hcell).1 (mx_arr_put q2 q3 q4 q5 q6 q7 (mx_blt hb) e1 (by intro h; cases h)) e2 e3) (mx_locs ha2 hL) hl
    · cases e
  · rename_i x j a rest
    replace e := mx_bf e
    obtain ⟨ha, e⟩ := e
    have ha2 := mx_nblt ha
    split at e
    · rename_i n cc hcell
      split at e
      · cases e
      · rename_i hj0
        replace e := mx_bt e
        obtain ⟨hb, e⟩ := e
        have G := hk _ _ _ _ _ e
        refine ⟨G.1, fun p e s m args below meth c hc hs H locs la A h1 h2 hR hL hl => ?_⟩
        obtain ⟨cell, q1, q2, q3, q4, q5, q6, q7⟩ := hR.arr hcell (by intro h; cases h)
        refine W.iast A.1 A.2.1 q1 q2 q3 (mx_toClampLe hj0 hb q4.1) rfl rfl hd fun H1 e1 e2 e3 => ?_
        exact G.2 p e s m args below meth c hc hs H1 _ la A h1 h2 (hR.put ha2 (mx_cell_some hcell).1 (mx_arr_put (v := .float x) q2 q3 q4 q5 q6 q7 (mx_blt hb) e1 (by intro h; cases h)) e2 e3) (mx_locs ha2 hL) hl
    · cases e
  · cases e
theorem mx_s_last (hd : decode M.1 pc = .ok (.lastore, 1)) : mx_Sn B M pc (mx_last B.2.1.1.2.2.1 (pc + 1)) := by
  intro d k call hk hcl ls st h rr e
  unfold mx_last at e
  split at e
  · rename_i x j a rest
    replace e := mx_bf e
    obtain ⟨ha, e⟩ := e
    have ha2 := mx_nblt ha
    split at e
    · rename_i n cc hcell
      split at e
      · cases e
      · rename_i hj0
        replace e := mx_bt e
        obtain ⟨hb, e⟩ := e
        have G := hk _ _ _ _ _ e
        refine ⟨G.1, fun p e s m args below meth c hc hs H locs la A h1 h2 hR hL hl => ?_⟩
        obtain ⟨cell, q1, q2, q3, q4, q5, q6, q7⟩ := hR.arr hcell (by intro h; cases h)
        refine W.last A.1 A.2.1 q1 q2 q3 (mx_toClampLe hj0 hb q4.1) rfl rfl hd fun H1 e1 e2 e3 => ?_
        exact G.2 p e s m args below meth c hc hs H1 _ la A h1 h2 (hR.put ha2 (mx_cell_some hcell).1 (mx_arr_put q2 q3 q4 q5 q6 q7 (mx_blt hb) e1 (by intro h; cases h)) e2 e3) (mx_locs ha2 hL) hl
    · cases e
  · rename_i x j a rest
    replace e := mx_bf e
    obtain ⟨ha, e⟩ := e
    have ha2 := mx_nblt ha
    split at e
    · rename_i n cc hcell
      split at e
      · cases e
      · rename_i hj0
        replace e := mx_bt e
        obtain ⟨hb, e⟩ := e
        have G := hk _ _ _ _ _ e
        refine ⟨G.1, fun p e s m args below meth c hc hs H locs la A h1 h2 hR hL hl => ?_⟩
        obtain ⟨cell, q1, q2, q3, q4, q5, q6, q7⟩ := hR.arr hcell (by intro h; cases h)
        refine W.last A.1 A.2.1 q1 q2 q3 (mx_toClampLe hj0 hb q4.1) rfl rfl hd fun H1 e1 e2 e3 => ?_
        exact G.2 p e s m args below meth c hc hs H1 _ la A h1 h2 (hR.put ha2 (mx_cell_some hcell).1 (mx_arr_put (v := .double x) q2 q3 q4 q5 q6 q7 (mx_blt hb) e1 (by intro h; cases h)) e2 e3) (mx_locs ha2 hL) hl
    · cases e
  · cases e
theorem mx_s_bast (hd : decode M.1 pc = .ok (.bastore, 1)) : mx_Sn B M pc (mx_bast B.2.1.1.2.2.1 (pc + 1)) := by
  intro d k call hk hcl ls st h rr e
  unfold mx_bast at e
  split at e
  · rename_i x j a rest
    replace e := mx_bf e
    obtain ⟨ha, e⟩ := e
    have ha2 := mx_nblt ha
    split at e
    · rename_i n cc hcell
      split at e
      · cases e
      · rename_i hj0
        replace e := mx_bt e
        obtain ⟨hb, e⟩ := e
        have G := hk _ _ _ _ _ e
        refine ⟨G.1, fun p e s m args below meth c hc hs H locs la A h1 h2 hR hL hl => ?_⟩
        obtain ⟨cell, q1, q2, q3, q4, q5, q6, q7⟩ := hR.arr hcell (by intro h; cases h)
        refine W.bast A.1 A.2.1 q1 q2 q3 (mx_toClampLe hj0 hb q4.1) rfl rfl hd fun H1 e1 e2 e3 => ?_
        exact G.2 p e s m args below meth c hc hs H1 _ la A h1 h2 (hR.put ha2 (mx_cell_some hcell).1 (mx_arr_put q2 q3 q4 q5 q6 q7 (mx_blt hb) e1 (by intro h; cases h)) e2 e3) (mx_locs ha2 hL) hl
    · cases e
  · cases e
theorem mx_s_zast (hd : decode M.1 pc = .ok (.bastore, 1)) : mx_Sn B M pc (mx_zast B.2.1.1.2.2.1 (pc + 1)) := by
  intro d k call hk hcl ls st h rr e
  unfold mx_zast at e
  split at e
  · rename_i x j a rest
    replace e := mx_bf e
    obtain ⟨ha, e⟩ := e
    have ha2 := mx_nblt ha
    split at e
    · rename_i n cc hcell
      split at e
      · cases e
      · rename_i hj0
        replace e := mx_bt e
        obtain ⟨hb, e⟩ := e
        have G := hk _ _ _ _ _ e
        refine ⟨G.1, fun p e s m args below meth c hc hs H locs la A h1 h2 hR hL hl => ?_⟩
        obtain ⟨cell, q1, q2, q3, q4, q5, q6, q7⟩ := hR.arr hcell (by intro h; cases h)
        refine W.zast A.1 A.2.1 q1 q2 q3 (mx_toClampLe hj0 hb q4.1) rfl rfl hd fun H1 e1 e2 e3 => ?_
        exact G.2 p e s m args below meth c hc hs H1 _ la A h1 h2 (hR.put ha2 (mx_cell_some hcell).1 (mx_arr_put q2 q3 q4 q5 q6 q7 (mx_blt hb) e1 (by intro h; cases h)) e2 e3) (mx_locs ha2 hL) hl
    · cases e
  · cases e
theorem mx_s_cast (hd : decode M.1 pc = .ok (.castore, 1)) : mx_Sn B M pc (mx_cast B.2.1.1.2.2.1 (pc + 1)) := by
  intro d k call hk hcl ls st h rr e
  unfold mx_cast at e
  split at e
  · rename_i x j a rest
    replace e := mx_bf e
    obtain ⟨ha, e⟩ := e
    have ha2 := mx_nblt ha
    split at e
    · rename_i n cc hcell
      split at e
      · cases e
      · rename_i hj0
        replace e := mx_bt e
        obtain ⟨hb, e⟩ := e
        have G := hk _ _ _ _ _ e
        refine ⟨G.1, fun p e s m args below meth c hc hs H locs la A h1 h2 hR hL hl => ?_⟩
        obtain ⟨cell, q1, q2, q3, q4, q5, q6, q7⟩ := hR.arr hcell (by intro h; cases h)
        refine W.cast A.1 A.2.1 q1 q2 q3 (mx_toClampLe hj0 hb q4.1) rfl rfl hd fun H1 e1 e2 e3 => ?_
        exact G.2 p e s m args below meth c hc hs H1 _ la A h1 h2 (hR.put ha2 (mx_cell_some hcell).1 (mx_arr_put q2 q3 q4 q5 q6 q7 (mx_blt hb) e1 (by intro h; cases h)) e2 e3) (mx_locs ha2 hL) hl
    · cases e
  · cases e
theorem mx_s_sast (hd : decode M.1 pc = .ok (.sastore, 1)) : mx_Sn B M pc (mx_sast B.2.1.1.2.2.1 (pc + 1)) := by
  intro d k call hk hcl ls st h rr e
  unfold mx_sast at e
  split at e
  · rename_i x j a rest
    replace e := mx_bf e
    obtain ⟨ha, e⟩ := e
    have ha2 := mx_nblt ha
    split at e
    · rename_i n cc hcell
      split at e
      · cases e
      · rename_i hj0
        replace e := mx_bt e
        obtain ⟨hb, e⟩ := e
        have G := hk _ _ _ _ _ e
        refine ⟨G.1, fun p e s m args below meth c hc hs H locs la A h1 h2 hR hL hl => ?_⟩
        obtain ⟨cell, q1, q2, q3, q4, q5, q6, q7⟩ := hR.arr hcell (by intro h; cases h)
        refine W.sast A.1 A.2.1 q1 q2 q3 (mx_toClampLe hj0 hb q4.1) rfl rfl hd fun H1 e1 e2 e3 => ?_
        exact G.2 p e s m args below meth c hc hs H1 _ la A h1 h2 (hR.put ha2 (mx_cell_some hcell).1 (mx_arr_put q2 q3 q4 q5 q6 q7 (mx_blt hb) e1 (by intro h; cases h)) e2 e3) (mx_locs ha2 hL) hl
    · cases e
  · cases e
theorem mx_s_aast {ci : Nat} {r : vw_C} (hd : decode M.1 pc = .ok (.aastore, 1)) (hcs : mx_Cs B ci r) : mx_Sn B M pc (mx_aast B.2.1.1.2.2.1 ci (pc + 1) r.1) := by
  intro d k call hk hcl ls st h rr e
  unfold mx_aast at e
  split at e
  · rename_i b j a rest
    replace e := mx_bf e
    obtain ⟨ha, e⟩ := e
    have ha2 := mx_nblt ha
    split at e
    · rename_i cz fs hcellb
      replace e := mx_bt e
      obtain ⟨hb, e⟩ := e
      have hci : cz = ci := Nat.eq_of_beq_eq_true hb
      subst hci
      split at e
      · rename_i D n cc hcell
        split at e
        · rename_i hDC
          subst hDC
          split at e
          · cases e
          · rename_i hj0
            replace e := mx_bt e
            obtain ⟨hb2, e⟩ := e
            have G := hk _ _ _ _ _ e
            refine ⟨G.1, fun p e s m args below meth c hc hs H locs la A h1 h2 hR hL hl => ?_⟩
            obtain ⟨cell, q1, q2, q3, q4, q5, q6, q7⟩ := hR.arr hcell (by intro h; cases h)
            obtain ⟨hlen, cellV, g1, g2, g3, -⟩ := mx_obj hR hcellb hcs.1
            have hcls := (A.2.2.2.2.2.2.2.2.1.1 _ _ hcs.1).2
            obtain ⟨kA, comp, k1, k2, k3, -⟩ := q7 _ rfl
            have hcomp : comp = B.2.1.1.2.1.1 cz := Option.some.inj (k3.symm.trans hcls.1)
            subst hcomp
            obtain ⟨kC, hkC, -⟩ := hcls.2
            refine W.aast A.1 A.2.1 q1 (fun q => q2.1 q) q3 k1 k2 rfl hkC ⟨hj0, Nat.lt_of_lt_of_le (mx_blt hb2) q4.1⟩ g1 (fun q h => by rw [g3] at h; cases h) (by rw [g2]; exact hkC) (by rw [g2]; exact va_assign hcls) rfl rfl hd fun H1 e1 e2 e3 => ?_
            exact G.2 p e s m args below meth c hc hs H1 _ la A h1 h2 (hR.put ha2 (mx_cell_some hcell).1 (mx_arr_put (v := .ref b) q2 q3 q4 q5 q6 q7 (mx_blt hb2) e1 (by intro h; cases h)) e2 e3) (mx_locs ha2 hL) hl
        · cases e
      · cases e
    · cases e
  · cases e
theorem mx_s_alen (hd : decode M.1 pc = .ok (.arraylength, 1)) : mx_Sn B M pc (mx_alen (pc + 1)) := by
  intro d k call hk hcl ls st h rr e
  unfold mx_alen at e
  split at e
  · rename_i a rest
    split at e
    · cases e
    · rename_i ty n cc hno hcell
      have G := hk _ _ _ _ _ e
      refine ⟨G.1, fun p e s m args below meth c hc hs H locs la A h1 h2 hR hL hl => ?_⟩
      obtain ⟨cell, q1, q2, q3, q4, q5, q6, q7⟩ := hR.arr hcell (fun hf => by subst hf; exact hno _ _ rfl)
      exact W.alen A.1 A.2.1 q1 q2 q4.2 rfl rfl hd (G.2 p e s m args below meth c hc hs H locs la A h1 h2 hR hL hl)
    · cases e
  · cases e
end MXH
end
