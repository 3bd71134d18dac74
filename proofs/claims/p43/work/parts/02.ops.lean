/-! the small machine's instructions; 'nx' is the next pc, 'tg' a target -/
noncomputable def mx_nth {α : Type} (l : List α) : Nat → Option α := List.rec (motive := fun _ => Nat → Option α) (fun _ => none) (fun a _ ih i => Nat.rec (motive := fun _ => Option α) (some a) (fun j _ => ih j) i) l
noncomputable def mx_upd {α : Type} (l : List α) : Nat → α → List α := List.rec (motive := fun _ => Nat → α → List α) (fun _ _ => []) (fun a t ih i v => Nat.rec (motive := fun _ => List α) (v :: t) (fun j _ => a :: ih j v) i) l
theorem mx_nth_eq {α : Type} : ∀ (l : List α) (i : Nat), mx_nth l i = l[i]?
  | [], i => by simp [mx_nth]
  | a :: t, 0 => rfl
  | a :: t, i + 1 => by
    rw [List.getElem?_cons_succ, ← mx_nth_eq t i]; rfl
theorem mx_upd_eq {α : Type} (v : α) : ∀ (l : List α) (i : Nat), mx_upd l i v = l.set i v
  | [], i => by simp [mx_upd]
  | a :: t, 0 => rfl
  | a :: t, i + 1 => by
    rw [List.set_cons_succ, ← mx_upd_eq v t i]; rfl
noncomputable def mx_lg (ls : mx_L) (i : Nat) : Option Value := match mx_nth ls i with
  | some (some v) => some v
  | _ => none
/-- a long whose second half is overwritten is forgotten -/
noncomputable def mx_cl (ls : mx_L) (i : Nat) : mx_L := match i with
  | 0 => ls
  | j + 1 => match mx_lg ls j with
    | some (.long _) | some (.double _) => mx_upd ls j none
    | _ => ls
noncomputable def mx_st1 (ls : mx_L) (i : Nat) (v : Value) : mx_L := mx_upd (mx_cl ls i) i (some v)
noncomputable def mx_st2 (ls : mx_L) (i : Nat) (v : Value) : mx_L := mx_upd (mx_upd (mx_cl ls i) (i + 1) none) i (some v)
noncomputable def mx_cell (h : mx_H) (a : Nat) : Option mx_C := bif Nat.blt a h.1 then some (mx_get 12 h.2.2 a) else none
noncomputable def mx_put (h : mx_H) (a : Nat) (c : mx_C) : mx_H := (h.1, h.2.1, mx_set 12 h.2.2 a c)
noncomputable def mx_push (h : mx_H) (n : Nat) (c : mx_C) : mx_H := (h.1 + 1, h.2.1 + n, mx_set 12 h.2.2 h.1 c)
noncomputable def mx_c1 : Value → Bool
  | .long _ | .double _ => false
  | _ => true
noncomputable def mx_fit : FieldType → Value → Bool
  | .int, .int _ => true
  | .int, .float _ => true
  | .long, .long _ => true
  | .long, .double _ => true
  | .boolean, .int v => v == 0 || v == 1
  | .object _, .null | .object _, .ref _ | .array _, .null | .array _, .ref _ => true
  | _, _ => false
/-- how much room the operands below a call take -/
noncomputable def mx_cat : List Value → Nat
  | [] => 0
  | v :: r => (bif mx_c1 v then 1 else 2) + mx_cat r
noncomputable def mx_const (v : Value) (nx : Nat) : mx_O := fun k _ ls st h => k nx ls (v :: st) h
noncomputable def mx_iload (i nx : Nat) : mx_O := fun k _ ls st h => match mx_lg ls i with
  | some (.int x) => k nx ls (.int x :: st) h
  | some (.float t) => k nx ls (.float t :: st) h
  | _ => none
noncomputable def mx_lload (i nx : Nat) : mx_O := fun k _ ls st h => match mx_lg ls i with
  | some (.long x) => k nx ls (.long x :: st) h
  | some (.double t) => k nx ls (.double t :: st) h
  | _ => none
noncomputable def mx_aload (i nx : Nat) : mx_O := fun k _ ls st h => match mx_lg ls i with
  | some (.ref x) => k nx ls (.ref x :: st) h
  | some .null => k nx ls (.null :: st) h
  | _ => none
noncomputable def mx_istore (i nx : Nat) : mx_O := fun k _ ls st h => match st with
  | .int x :: r => bif Nat.blt i ls.length then k nx (mx_st1 ls i (.int x)) r h else none
  | .float t :: r => bif Nat.blt i ls.length then k nx (mx_st1 ls i (.float t)) r h else none
  | _ => none
noncomputable def mx_lstore (i nx : Nat) : mx_O := fun k _ ls st h => match st with
  | .long x :: r => bif Nat.blt (i + 1) ls.length then k nx (mx_st2 ls i (.long x)) r h else none
  | .double t :: r => bif Nat.blt (i + 1) ls.length then k nx (mx_st2 ls i (.double t)) r h else none
  | _ => none
noncomputable def mx_astore (i nx : Nat) : mx_O := fun k _ ls st h => match st with
  | .ref x :: r => bif Nat.blt i ls.length then k nx (mx_st1 ls i (.ref x)) r h else none
  | _ => none
noncomputable def mx_iinc (i : Nat) (c : Int32) (nx : Nat) : mx_O := fun k _ ls st h => match mx_lg ls i with
  | some (.int x) => bif Nat.blt i ls.length then k nx (mx_st1 ls i (.int (x + c))) st h else none
  | _ => none
/-- bytes of a number that isn't known: its code c says which -/
noncomputable def mx_sy (n : Nat) : Int32 := bif Nat.beq n 0 then 24 else bif Nat.beq n 1 then 16 else bif Nat.beq n 2 then 8 else 0
noncomputable def mx_sx (y : Int32) : Option Nat := if y = 24 then some 0 else if y = 16 then some 1 else if y = 8 then some 2 else if y = 0 then some 3 else none
noncomputable def mx_ap (c : Nat) (x : Int32) : Int32 := bif Nat.blt c 5 then x >>> (mx_sy (c - 1) &&& 31) else bif Nat.blt c 9 then (x.toUInt32 >>> ((mx_sy (c - 5)).toUInt32 &&& Int32.toUInt32 31)).toInt32 else bif Nat.blt c 13 then (x >>> (mx_sy (c - 9) &&& 31)) &&& 255 else ((x.toUInt32 >>> ((mx_sy (c - 13)).toUInt32 &&& Int32.toUInt32 31)).toInt32).toInt8.toInt32
noncomputable def mx_fl (tau : Nat → Int64) (t : Nat) : Int32 := if t < 65536 then (tau t).toInt32 else mx_ap (t / 65536) (tau (t % 65536)).toInt32
noncomputable def mx_dv (t : UInt32) (c : Nat) : UInt32 := UInt32.ofNat (t.toNat + 65536 * c)
noncomputable def mx_iadd (nx : Nat) : mx_O := fun k _ ls st h => match st with
  | .int y :: .int x :: r => k nx ls (.int (x + y) :: r) h
  | _ => none
noncomputable def mx_isub (nx : Nat) : mx_O := fun k _ ls st h => match st with
  | .int y :: .int x :: r => k nx ls (.int (x - y) :: r) h
  | _ => none
noncomputable def mx_imul (nx : Nat) : mx_O := fun k _ ls st h => match st with
  | .int y :: .int x :: r => k nx ls (.int (x * y) :: r) h
  | _ => none
noncomputable def mx_iand (nx : Nat) : mx_O := fun k _ ls st h => match st with
  | .int y :: .int x :: r => k nx ls (.int (x &&& y) :: r) h
  | .int y :: .float t :: r => if y = 255 then bif Nat.ble 1 (t.toNat / 65536) && Nat.blt (t.toNat / 65536) 5 then k nx ls (.float (mx_dv t 8) :: r) h else none else none
  | _ => none
noncomputable def mx_ior (nx : Nat) : mx_O := fun k _ ls st h => match st with
  | .int y :: .int x :: r => k nx ls (.int (x ||| y) :: r) h
  | _ => none
noncomputable def mx_ixor (nx : Nat) : mx_O := fun k _ ls st h => match st with
  | .int y :: .int x :: r => k nx ls (.int (x ^^^ y) :: r) h
  | _ => none
noncomputable def mx_ishl (nx : Nat) : mx_O := fun k _ ls st h => match st with
  | .int y :: .int x :: r => k nx ls (.int (x <<< (y &&& 31)) :: r) h
  | _ => none
noncomputable def mx_ishr (nx : Nat) : mx_O := fun k _ ls st h => match st with
  | .int y :: .int x :: r => k nx ls (.int (x >>> (y &&& 31)) :: r) h
  | .int y :: .float t :: r => bif Nat.blt t.toNat 65536 then match mx_sx y with
    | some n => k nx ls (.float (mx_dv t (1 + n)) :: r) h
    | none => none
    else none
  | _ => none
noncomputable def mx_iushr (nx : Nat) : mx_O := fun k _ ls st h => match st with
  | .int y :: .int x :: r => k nx ls (.int ((x.toUInt32 >>> (y.toUInt32 &&& Int32.toUInt32 31)).toInt32) :: r) h
  | .int y :: .float t :: r => bif Nat.blt t.toNat 65536 then match mx_sx y with
    | some n => k nx ls (.float (mx_dv t (5 + n)) :: r) h
    | none => none
    else none
  | _ => none
noncomputable def mx_idiv (nx : Nat) : mx_O := fun k _ ls st h => match st with
  | .int y :: .int x :: r => if y = 0 then none else k nx ls (.int (x / y) :: r) h
  | _ => none
noncomputable def mx_irem (nx : Nat) : mx_O := fun k _ ls st h => match st with
  | .int y :: .int x :: r => if y = 0 then none else k nx ls (.int (x - x / y * y) :: r) h
  | _ => none
noncomputable def mx_lsub (nx : Nat) : mx_O := fun k _ ls st h => match st with
  | .long y :: .long x :: r => k nx ls (.long (x - y) :: r) h
  | .long y :: .double t :: r => if y = 0 then k nx ls (.double t :: r) h else none
  | _ => none
noncomputable def mx_lrem (nx : Nat) : mx_O := fun k _ ls st h => match st with
  | .long y :: .long x :: r => if y = 0 then none else k nx ls (.long (x - x / y * y) :: r) h
  | .long y :: .double t :: r => if y = 1 then k nx ls (.long 0 :: r) h else none
  | _ => none
noncomputable def mx_ladd (nx : Nat) : mx_O := fun k _ ls st h => match st with
  | .long y :: .long x :: r => k nx ls (.long (x + y) :: r) h
  | _ => none
noncomputable def mx_lmul (nx : Nat) : mx_O := fun k _ ls st h => match st with
  | .long y :: .long x :: r => k nx ls (.long (x * y) :: r) h
  | _ => none
noncomputable def mx_land (nx : Nat) : mx_O := fun k _ ls st h => match st with
  | .long y :: .long x :: r => k nx ls (.long (x &&& y) :: r) h
  | _ => none
noncomputable def mx_lor (nx : Nat) : mx_O := fun k _ ls st h => match st with
  | .long y :: .long x :: r => k nx ls (.long (x ||| y) :: r) h
  | _ => none
noncomputable def mx_lxor (nx : Nat) : mx_O := fun k _ ls st h => match st with
  | .long y :: .long x :: r => k nx ls (.long (x ^^^ y) :: r) h
  | _ => none
noncomputable def mx_ldiv (nx : Nat) : mx_O := fun k _ ls st h => match st with
  | .long y :: .long x :: r => if y = 0 then none else k nx ls (.long (x / y) :: r) h
  | _ => none
noncomputable def mx_lshl (nx : Nat) : mx_O := fun k _ ls st h => match st with
  | .int y :: .long x :: r => k nx ls (.long (x <<< (y.toInt64 &&& 63)) :: r) h
  | _ => none
noncomputable def mx_lshr (nx : Nat) : mx_O := fun k _ ls st h => match st with
  | .int y :: .long x :: r => k nx ls (.long (x >>> (y.toInt64 &&& 63)) :: r) h
  | _ => none
noncomputable def mx_lushr (nx : Nat) : mx_O := fun k _ ls st h => match st with
  | .int y :: .long x :: r => k nx ls (.long ((x.toUInt64 >>> (y.toInt64.toUInt64 &&& Int64.toUInt64 63)).toInt64) :: r) h
  | _ => none
noncomputable def mx_lcmp (nx : Nat) : mx_O := fun k _ ls st h => match st with
  | .long y :: .long x :: r => k nx ls (.int (lg_cmp x y) :: r) h
  | _ => none
noncomputable def mx_ineg (nx : Nat) : mx_O := fun k _ ls st h => match st with
  | .int x :: r => k nx ls (.int (-x) :: r) h
  | _ => none
noncomputable def mx_lneg (nx : Nat) : mx_O := fun k _ ls st h => match st with
  | .long x :: r => k nx ls (.long (-x) :: r) h
  | _ => none
noncomputable def mx_l2i (nx : Nat) : mx_O := fun k _ ls st h => match st with
  | .long x :: r => k nx ls (.int (x.toInt32) :: r) h
  | _ => none
noncomputable def mx_i2b (nx : Nat) : mx_O := fun k _ ls st h => match st with
  | .int x :: r => k nx ls (.int (x.toInt8.toInt32) :: r) h
  | .float t :: r => bif Nat.ble 5 (t.toNat / 65536) && Nat.blt (t.toNat / 65536) 9 then k nx ls (.float (mx_dv t 8) :: r) h else none
  | _ => none
noncomputable def mx_i2s (nx : Nat) : mx_O := fun k _ ls st h => match st with
  | .int x :: r => k nx ls (.int (x.toInt16.toInt32) :: r) h
  | _ => none
noncomputable def mx_i2c (nx : Nat) : mx_O := fun k _ ls st h => match st with
  | .int x :: r => k nx ls (.int ((x.toUInt32 % 65536).toInt32) :: r) h
  | _ => none
/-- bounds of numbers that aren't known: a number t stands for one between two bounds -/
noncomputable def mx_bd (k : Nat) : Int := if k < 56 then (k : Int) - 2 else [99, 100, 2147483647, -2147483648, -9223372036854775808, 9223372036854775807, 1000000000000000, 1000000000000001].getD (k - 56) 0
noncomputable def mx_iv (t : Nat) : Int × Int := (mx_bd (t / 8 % 64), mx_bd (t / 512))
noncomputable def mx_rng : Value → Option (Int × Int)
  | .int x => some (x.toInt, x.toInt)
  | .float t => if (mx_iv t.toNat).1 ≤ (mx_iv t.toNat).2 ∧ -2147483648 ≤ (mx_iv t.toNat).1 ∧ (mx_iv t.toNat).2 ≤ 2147483647 ∧ t.toNat < 65536 then some (mx_iv t.toNat) else none
  | _ => none
noncomputable def mx_rngL : Value → Option (Int × Int)
  | .long x => some (x.toInt, x.toInt)
  | .double t => if (mx_iv t.toNat).1 ≤ (mx_iv t.toNat).2 then some (mx_iv t.toNat) else none
  | _ => none
noncomputable def mx_nlt (a b : Option (Int × Int)) : Option Bool := match a, b with
  | some p, some q => if p.2 < q.1 then some true else if q.2 ≤ p.1 then some false else none
  | _, _ => none
noncomputable def mx_neq (a b : Option (Int × Int)) : Option Bool := match a, b with
  | some p, some q => if p.2 < q.1 ∨ q.2 < p.1 then some false else if p.1 = p.2 ∧ q.1 = q.2 ∧ p.1 = q.1 then some true else none
  | _, _ => none
noncomputable def mx_n_lt (a b : Option (Int × Int)) : Option Bool := mx_nlt a b
noncomputable def mx_n_ge (a b : Option (Int × Int)) : Option Bool := (mx_nlt a b).map (fun c => !c)
noncomputable def mx_n_gt (a b : Option (Int × Int)) : Option Bool := mx_nlt b a
noncomputable def mx_n_le (a b : Option (Int × Int)) : Option Bool := (mx_nlt b a).map (fun c => !c)
noncomputable def mx_n_eq (a b : Option (Int × Int)) : Option Bool := mx_neq a b
noncomputable def mx_n_ne (a b : Option (Int × Int)) : Option Bool := (mx_neq a b).map (fun c => !c)
noncomputable def mx_bra (k : mx_K) (tg nx : Nat) (ls : mx_L) (r : List Value) (h : mx_H) : Option Bool → Option mx_R
  | some true => k tg ls r h
  | some false => k nx ls r h
  | none => none
noncomputable def mx_i2l (nx : Nat) : mx_O := fun k _ ls st h => match st with
  | .int x :: r => k nx ls (.long x.toInt64 :: r) h
  | .float t :: r => match mx_rng (.float t) with
    | some _ => k nx ls (.double (UInt64.ofNat t.toNat) :: r) h
    | none => none
  | _ => none
noncomputable def mx_if_eq (tg nx : Nat) : mx_O := fun k _ ls st h => match st with
  | .int x :: r => if x = 0 then k tg ls r h else k nx ls r h
  | .float t :: r => mx_bra k tg nx ls r h (mx_n_eq (mx_rng (.float t)) (some (0, 0)))
  | _ => none
noncomputable def mx_icmp_eq (tg nx : Nat) : mx_O := fun k _ ls st h => match st with
  | .int y :: .int x :: r => if x = y then k tg ls r h else k nx ls r h
  | b :: a :: r => mx_bra k tg nx ls r h (mx_n_eq (mx_rng a) (mx_rng b))
  | _ => none
noncomputable def mx_lif_eq (tg nx : Nat) : mx_O := fun k _ ls st h => match st with
  | .long y :: .long x :: r => if lg_cmp x y = 0 then k tg ls r h else k nx ls r h
  | b :: a :: r => mx_bra k tg nx ls r h (mx_n_eq (mx_rngL a) (mx_rngL b))
  | _ => none
noncomputable def mx_if_ne (tg nx : Nat) : mx_O := fun k _ ls st h => match st with
  | .int x :: r => if ¬ x = 0 then k tg ls r h else k nx ls r h
  | .float t :: r => mx_bra k tg nx ls r h (mx_n_ne (mx_rng (.float t)) (some (0, 0)))
  | _ => none
noncomputable def mx_icmp_ne (tg nx : Nat) : mx_O := fun k _ ls st h => match st with
  | .int y :: .int x :: r => if ¬ x = y then k tg ls r h else k nx ls r h
  | b :: a :: r => mx_bra k tg nx ls r h (mx_n_ne (mx_rng a) (mx_rng b))
  | _ => none
noncomputable def mx_lif_ne (tg nx : Nat) : mx_O := fun k _ ls st h => match st with
  | .long y :: .long x :: r => if ¬ lg_cmp x y = 0 then k tg ls r h else k nx ls r h
  | b :: a :: r => mx_bra k tg nx ls r h (mx_n_ne (mx_rngL a) (mx_rngL b))
  | _ => none
noncomputable def mx_if_lt (tg nx : Nat) : mx_O := fun k _ ls st h => match st with
  | .int x :: r => if x < 0 then k tg ls r h else k nx ls r h
  | .float t :: r => mx_bra k tg nx ls r h (mx_n_lt (mx_rng (.float t)) (some (0, 0)))
  | _ => none
noncomputable def mx_icmp_lt (tg nx : Nat) : mx_O := fun k _ ls st h => match st with
  | .int y :: .int x :: r => if x < y then k tg ls r h else k nx ls r h
  | b :: a :: r => mx_bra k tg nx ls r h (mx_n_lt (mx_rng a) (mx_rng b))
  | _ => none
noncomputable def mx_lif_lt (tg nx : Nat) : mx_O := fun k _ ls st h => match st with
  | .long y :: .long x :: r => if lg_cmp x y < 0 then k tg ls r h else k nx ls r h
  | b :: a :: r => mx_bra k tg nx ls r h (mx_n_lt (mx_rngL a) (mx_rngL b))
  | _ => none
noncomputable def mx_if_ge (tg nx : Nat) : mx_O := fun k _ ls st h => match st with
  | .int x :: r => if 0 ≤ x then k tg ls r h else k nx ls r h
  | .float t :: r => mx_bra k tg nx ls r h (mx_n_ge (mx_rng (.float t)) (some (0, 0)))
  | _ => none
noncomputable def mx_icmp_ge (tg nx : Nat) : mx_O := fun k _ ls st h => match st with
  | .int y :: .int x :: r => if y ≤ x then k tg ls r h else k nx ls r h
  | b :: a :: r => mx_bra k tg nx ls r h (mx_n_ge (mx_rng a) (mx_rng b))
  | _ => none
noncomputable def mx_lif_ge (tg nx : Nat) : mx_O := fun k _ ls st h => match st with
  | .long y :: .long x :: r => if 0 ≤ lg_cmp x y then k tg ls r h else k nx ls r h
  | b :: a :: r => mx_bra k tg nx ls r h (mx_n_ge (mx_rngL a) (mx_rngL b))
  | _ => none
noncomputable def mx_if_gt (tg nx : Nat) : mx_O := fun k _ ls st h => match st with
  | .int x :: r => if 0 < x then k tg ls r h else k nx ls r h
  | .float t :: r => mx_bra k tg nx ls r h (mx_n_gt (mx_rng (.float t)) (some (0, 0)))
  | _ => none
noncomputable def mx_icmp_gt (tg nx : Nat) : mx_O := fun k _ ls st h => match st with
  | .int y :: .int x :: r => if y < x then k tg ls r h else k nx ls r h
  | b :: a :: r => mx_bra k tg nx ls r h (mx_n_gt (mx_rng a) (mx_rng b))
  | _ => none
noncomputable def mx_lif_gt (tg nx : Nat) : mx_O := fun k _ ls st h => match st with
  | .long y :: .long x :: r => if 0 < lg_cmp x y then k tg ls r h else k nx ls r h
  | b :: a :: r => mx_bra k tg nx ls r h (mx_n_gt (mx_rngL a) (mx_rngL b))
  | _ => none
noncomputable def mx_if_le (tg nx : Nat) : mx_O := fun k _ ls st h => match st with
  | .int x :: r => if x ≤ 0 then k tg ls r h else k nx ls r h
  | .float t :: r => mx_bra k tg nx ls r h (mx_n_le (mx_rng (.float t)) (some (0, 0)))
  | _ => none
noncomputable def mx_icmp_le (tg nx : Nat) : mx_O := fun k _ ls st h => match st with
  | .int y :: .int x :: r => if x ≤ y then k tg ls r h else k nx ls r h
  | b :: a :: r => mx_bra k tg nx ls r h (mx_n_le (mx_rng a) (mx_rng b))
  | _ => none
noncomputable def mx_lif_le (tg nx : Nat) : mx_O := fun k _ ls st h => match st with
  | .long y :: .long x :: r => if lg_cmp x y ≤ 0 then k tg ls r h else k nx ls r h
  | b :: a :: r => mx_bra k tg nx ls r h (mx_n_le (mx_rngL a) (mx_rngL b))
  | _ => none
noncomputable def mx_goto (tg : Nat) : mx_O := fun k _ ls st h => k tg ls st h
noncomputable def mx_ifnull (tg nx : Nat) : mx_O := fun k _ ls st h => match st with
  | .null :: r => k tg ls r h
  | .ref _ :: r => k nx ls r h
  | _ => none
noncomputable def mx_ifnonnull (tg nx : Nat) : mx_O := fun k _ ls st h => match st with
  | .null :: r => k nx ls r h
  | .ref _ :: r => k tg ls r h
  | _ => none
noncomputable def mx_dup (nx : Nat) : mx_O := fun k _ ls st h => match st with
  | a :: r => bif mx_c1 a then k nx ls (a :: a :: r) h else none
  | _ => none
noncomputable def mx_pop (nx : Nat) : mx_O := fun k _ ls st h => match st with
  | a :: r => bif mx_c1 a then k nx ls r h else none
  | _ => none
noncomputable def mx_dup_x1 (nx : Nat) : mx_O := fun k _ ls st h => match st with
  | a :: b :: r => bif mx_c1 a && mx_c1 b then k nx ls (a :: b :: a :: r) h else none
  | _ => none
noncomputable def mx_dup_x2 (nx : Nat) : mx_O := fun k _ ls st h => match st with
  | a :: b :: d :: r => bif mx_c1 a && (mx_c1 b && mx_c1 d) then k nx ls (a :: b :: d :: a :: r) h else none
  | _ => none
noncomputable def mx_dup2a (nx : Nat) : mx_O := fun k _ ls st h => match st with
  | a :: b :: r => bif mx_c1 a && mx_c1 b then k nx ls (a :: b :: a :: b :: r) h else none
  | _ => none
noncomputable def mx_dup2b (nx : Nat) : mx_O := fun k _ ls st h => match st with
  | a :: r => bif mx_c1 a then none else k nx ls (a :: a :: r) h
  | _ => none
noncomputable def mx_pop2a (nx : Nat) : mx_O := fun k _ ls st h => match st with
  | a :: b :: r => bif mx_c1 a && mx_c1 b then k nx ls r h else none
  | _ => none
noncomputable def mx_pop2b (nx : Nat) : mx_O := fun k _ ls st h => match st with
  | a :: r => bif mx_c1 a then none else k nx ls r h
  | _ => none
noncomputable def mx_dup2x1 (nx : Nat) : mx_O := fun k _ ls st h => match st with
  | a :: b :: r => bif mx_c1 a then none else bif mx_c1 b then k nx ls (a :: b :: a :: r) h else none
  | _ => none
noncomputable def mx_dup2x2 (nx : Nat) : mx_O := fun k _ ls st h => match st with
  | a :: b :: d :: r => bif mx_c1 a then none else bif mx_c1 b && mx_c1 d then k nx ls (a :: b :: d :: a :: r) h else none
  | _ => none
noncomputable def mx_tsw (lo hi : Int) (ts : List Nat) (df : Nat) : mx_O := fun k _ ls st h => match st with
  | .int x :: r => if x.toInt < lo ∨ hi < x.toInt then k df ls r h else match ts[(x.toInt - lo).toNat]? with
    | some t => k t ls r h
    | none => none
  | .float t :: r => match mx_rng (.float t) with
    | some iv => if iv.2 < lo ∨ hi < iv.1 then k df ls r h else none
    | none => none
  | _ => none
noncomputable def mx_find : List (Int × Nat) → Nat → Int → Nat
  | [], df, _ => df
  | (a, t) :: r, df, x => if x = a then t else mx_find r df x
noncomputable def mx_lsw (ps : List (Int × Nat)) (df : Nat) : mx_O := fun k _ ls st h => match st with
  | .int x :: r => k (mx_find ps df x.toInt) ls r h
  | _ => none
noncomputable def mx_getf (ci f nx : Nat) : mx_O := fun k _ ls st h => match st with
  | .ref a :: r => match mx_cell h a with
    | some (.inl (c, fs)) => bif Nat.beq c ci then match mx_nth fs f with
        | some v => k nx ls (v :: r) h
        | none => none
      else none
    | _ => none
  | _ => none
noncomputable def mx_putf (KC ci f : Nat) (ty : FieldType) (nx : Nat) : mx_O := fun k _ ls st h => match st with
  | v :: .ref a :: r => bif Nat.blt a KC then none else match mx_cell h a with
    | some (.inl (c, fs)) => bif Nat.beq c ci && (Nat.blt f fs.length && mx_fit ty v) then k nx ls r (mx_put h a (.inl (c, mx_upd fs f v))) else none
    | _ => none
  | _ => none
noncomputable def mx_new (ci n : Nat) (fs : List Value) (nx : Nat) : mx_O := fun k _ ls st h => bif Nat.blt h.1 4096 then k nx ls (.ref h.1 :: st) (mx_push h n (.inl (ci, fs))) else none
noncomputable def mx_newa (ty : FieldType) (d : Value) (nx : Nat) : mx_O := fun k _ ls st h => match st with
  | .int n :: r => if n < 0 then none else bif Nat.blt h.1 4096 && Nat.ble n.toNatClampNeg 8192 then k nx ls (.ref h.1 :: r) (mx_push h n.toNatClampNeg (.inr (ty, n.toNatClampNeg, mx_rep d 13))) else none
  | _ => none
noncomputable def mx_iald (nx : Nat) : mx_O := fun k _ ls st h => match st with
  | .int j :: .ref a :: r => match mx_cell h a with
    | some (.inr (.int, n, c)) => if j < 0 then none else bif Nat.blt j.toNatClampNeg n then k nx ls (mx_get 13 c j.toNatClampNeg :: r) h else none
    | _ => none
  | _ => none
noncomputable def mx_lald (nx : Nat) : mx_O := fun k _ ls st h => match st with
  | .int j :: .ref a :: r => match mx_cell h a with
    | some (.inr (.long, n, c)) => if j < 0 then none else bif Nat.blt j.toNatClampNeg n then k nx ls (mx_get 13 c j.toNatClampNeg :: r) h else none
    | _ => none
  | _ => none
noncomputable def mx_bald (nx : Nat) : mx_O := fun k _ ls st h => match st with
  | .int j :: .ref a :: r => match mx_cell h a with
    | some (.inr (.byte, n, c)) => if j < 0 then none else bif Nat.blt j.toNatClampNeg n then k nx ls (mx_get 13 c j.toNatClampNeg :: r) h else none
    | _ => none
  | _ => none
noncomputable def mx_zald (nx : Nat) : mx_O := fun k _ ls st h => match st with
  | .int j :: .ref a :: r => match mx_cell h a with
    | some (.inr (.boolean, n, c)) => if j < 0 then none else bif Nat.blt j.toNatClampNeg n then k nx ls (mx_get 13 c j.toNatClampNeg :: r) h else none
    | _ => none
  | _ => none
noncomputable def mx_cald (nx : Nat) : mx_O := fun k _ ls st h => match st with
  | .int j :: .ref a :: r => match mx_cell h a with
    | some (.inr (.char, n, c)) => if j < 0 then none else bif Nat.blt j.toNatClampNeg n then k nx ls (mx_get 13 c j.toNatClampNeg :: r) h else none
    | _ => none
  | _ => none
noncomputable def mx_sald (nx : Nat) : mx_O := fun k _ ls st h => match st with
  | .int j :: .ref a :: r => match mx_cell h a with
    | some (.inr (.short, n, c)) => if j < 0 then none else bif Nat.blt j.toNatClampNeg n then k nx ls (mx_get 13 c j.toNatClampNeg :: r) h else none
    | _ => none
  | _ => none
noncomputable def mx_aald (nx : Nat) : mx_O := fun k _ ls st h => match st with
  | .int j :: .ref a :: r => match mx_cell h a with
    | some (.inr (.object _, n, c)) => if j < 0 then none else bif Nat.blt j.toNatClampNeg n then k nx ls (mx_get 13 c j.toNatClampNeg :: r) h else none
    | _ => none
  | _ => none
noncomputable def mx_iast (KC nx : Nat) : mx_O := fun k _ ls st h => match st with
  | .int x :: .int j :: .ref a :: r => bif Nat.blt a KC then none else match mx_cell h a with
    | some (.inr (.int, n, c)) => if j < 0 then none else bif Nat.blt j.toNatClampNeg n then k nx ls r (mx_put h a (.inr (.int, n, mx_set 13 c j.toNatClampNeg (.int x)))) else none
    | _ => none
  | .float x :: .int j :: .ref a :: r => bif Nat.blt a KC then none else match mx_cell h a with
    | some (.inr (.int, n, c)) => if j < 0 then none else bif Nat.blt j.toNatClampNeg n then k nx ls r (mx_put h a (.inr (.int, n, mx_set 13 c j.toNatClampNeg (.float x)))) else none
    | _ => none
  | _ => none
noncomputable def mx_last (KC nx : Nat) : mx_O := fun k _ ls st h => match st with
  | .long x :: .int j :: .ref a :: r => bif Nat.blt a KC then none else match mx_cell h a with
    | some (.inr (.long, n, c)) => if j < 0 then none else bif Nat.blt j.toNatClampNeg n then k nx ls r (mx_put h a (.inr (.long, n, mx_set 13 c j.toNatClampNeg (.long x)))) else none
    | _ => none
  | .double x :: .int j :: .ref a :: r => bif Nat.blt a KC then none else match mx_cell h a with
    | some (.inr (.long, n, c)) => if j < 0 then none else bif Nat.blt j.toNatClampNeg n then k nx ls r (mx_put h a (.inr (.long, n, mx_set 13 c j.toNatClampNeg (.double x)))) else none
    | _ => none
  | _ => none
noncomputable def mx_bast (KC nx : Nat) : mx_O := fun k _ ls st h => match st with
  | .int x :: .int j :: .ref a :: r => bif Nat.blt a KC then none else match mx_cell h a with
    | some (.inr (.byte, n, c)) => if j < 0 then none else bif Nat.blt j.toNatClampNeg n then k nx ls r (mx_put h a (.inr (.byte, n, mx_set 13 c j.toNatClampNeg (.int x.toInt8.toInt32)))) else none
    | _ => none
  | .float x :: .int j :: .ref a :: r => bif Nat.blt a KC then none else match mx_cell h a with
    | some (.inr (.byte, n, c)) => if j < 0 then none else bif Nat.ble 13 (x.toNat / 65536) && Nat.blt (x.toNat / 65536) 17 then bif Nat.blt j.toNatClampNeg n then k nx ls r (mx_put h a (.inr (.byte, n, mx_set 13 c j.toNatClampNeg (.float x)))) else none else none
    | _ => none
  | _ => none
noncomputable def mx_zast (KC nx : Nat) : mx_O := fun k _ ls st h => match st with
  | .int x :: .int j :: .ref a :: r => bif Nat.blt a KC then none else match mx_cell h a with
    | some (.inr (.boolean, n, c)) => if j < 0 then none else bif Nat.blt j.toNatClampNeg n then k nx ls r (mx_put h a (.inr (.boolean, n, mx_set 13 c j.toNatClampNeg (.int (x &&& 1))))) else none
    | _ => none
  | _ => none
noncomputable def mx_cast (KC nx : Nat) : mx_O := fun k _ ls st h => match st with
  | .int x :: .int j :: .ref a :: r => bif Nat.blt a KC then none else match mx_cell h a with
    | some (.inr (.char, n, c)) => if j < 0 then none else bif Nat.blt j.toNatClampNeg n then k nx ls r (mx_put h a (.inr (.char, n, mx_set 13 c j.toNatClampNeg (.int x.toUInt32.toUInt16.toUInt32.toInt32)))) else none
    | _ => none
  | _ => none
noncomputable def mx_sast (KC nx : Nat) : mx_O := fun k _ ls st h => match st with
  | .int x :: .int j :: .ref a :: r => bif Nat.blt a KC then none else match mx_cell h a with
    | some (.inr (.short, n, c)) => if j < 0 then none else bif Nat.blt j.toNatClampNeg n then k nx ls r (mx_put h a (.inr (.short, n, mx_set 13 c j.toNatClampNeg (.int x.toInt16.toInt32)))) else none
    | _ => none
  | _ => none
/-- a reference comes into an array of class C: an object of class ci, whose name is C -/
noncomputable def mx_aast (KC ci nx : Nat) (C : String) : mx_O := fun k _ ls st h => match st with
  | .ref b :: .int j :: .ref a :: r => bif Nat.blt a KC then none else match mx_cell h b with
    | some (.inl (c2, _)) => bif Nat.beq c2 ci then match mx_cell h a with
      | some (.inr (.object D, n, c)) => if D = C then if j < 0 then none else bif Nat.blt j.toNatClampNeg n then k nx ls r (mx_put h a (.inr (.object D, n, mx_set 13 c j.toNatClampNeg (.ref b)))) else none else none
      | _ => none
      else none
    | _ => none
  | _ => none
noncomputable def mx_alen (nx : Nat) : mx_O := fun k _ ls st h => match st with
  | .ref a :: r => match mx_cell h a with
    | some (.inr (.float, _, _)) => none
    | some (.inr (_, n, _)) => k nx ls (.int (Int32.ofNat n) :: r) h
    | _ => none
  | _ => none
noncomputable def mx_ret1 (k : mx_K) (nx : Nat) (ls : mx_L) (rest : List Value) : mx_R → Option mx_R
  | (some v, h) => k nx ls (v :: rest) h
  | (none, h) => k nx ls rest h
/-- calls: mi the method, nt how many operands (the receiver too), ci the receiver's class -/
noncomputable def mx_callv (mi nt ci nx : Nat) : mx_O := fun k call ls st h => match (st.take nt).reverse with
  | .ref b :: as => match mx_cell h b with
    | some (.inl (c, _)) => bif Nat.beq c ci && (Nat.beq as.length (nt - 1) && Nat.ble (mx_cat (st.drop nt)) 8) then match call mi (.ref b :: as) h with
        | some r => mx_ret1 k nx ls (st.drop nt) r
        | none => none
      else none
    | _ => none
  | _ => none
noncomputable def mx_calls (mi nt nx : Nat) : mx_O := fun k call ls st h => bif Nat.beq (st.take nt).length nt && Nat.ble (mx_cat (st.drop nt)) 8 then match call mi (st.take nt).reverse h with
    | some r => mx_ret1 k nx ls (st.drop nt) r
    | none => none
  else none
noncomputable def mx_calli (mi nt nx : Nat) : mx_O := fun k call ls st h => match (st.take nt).reverse with
  | .ref b :: as => bif Nat.beq as.length (nt - 1) && Nat.ble (mx_cat (st.drop nt)) 8 then match call mi (.ref b :: as) h with
        | some r => bif r.1.isNone then k nx ls (st.drop nt) r.2 else none
        | none => none
      else none
  | _ => none
/-- Object(): nothing; the call of method 0 only shows that there is a frame left -/
noncomputable def mx_objinit (nx : Nat) : mx_O := fun k call ls st h => match st with
  | .ref _ :: r => bif Nat.ble (mx_cat r) 8 then match call 0 [] h with
      | some _ => k nx ls r h
      | none => none
    else none
  | _ => none
noncomputable def mx_mmax (nx : Nat) : mx_O := fun k call ls st h => match st with
  | .int y :: .int x :: r => bif Nat.ble (mx_cat r) 8 then match call 0 [] h with
      | some _ => k nx ls (.int (if x < y then y else x) :: r) h
      | none => none
    else none
  | _ => none
noncomputable def mx_mmin (nx : Nat) : mx_O := fun k call ls st h => match st with
  | .int y :: .int x :: r => bif Nat.ble (mx_cat r) 8 then match call 0 [] h with
      | some _ => k nx ls (.int (if y < x then y else x) :: r) h
      | none => none
    else none
  | _ => none
noncomputable def mx_iret : mx_O := fun _ _ _ st h => match st with
  | [.int v] => some (some (.int v), h)
  | _ => none
noncomputable def mx_zret : mx_O := fun _ _ _ st h => match st with
  | [.int v] => if v = 0 ∨ v = 1 then some (some (.int v), h) else none
  | _ => none
noncomputable def mx_lret : mx_O := fun _ _ _ st h => match st with
  | [.long v] => some (some (.long v), h)
  | _ => none
noncomputable def mx_aret : mx_O := fun _ _ _ st h => match st with
  | [.ref v] => some (some (.ref v), h)
  | [.null] => some (some .null, h)
  | _ => none
noncomputable def mx_vret : mx_O := fun _ _ _ st h => match st with
  | [] => some (none, h)
  | _ => none
