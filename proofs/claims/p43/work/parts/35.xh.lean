/-! heaps whose cells hold numbers: a shape for each cell, a number for each of its places -/
section XHa
abbrev xI (z : Int) : Value := .int (Int32.ofInt z)
abbrev xL (z : Int) : Value := .long (Int64.ofInt z)
noncomputable def vl (t : Nat) (z : Int) : Value := match t with
  | 0 => xI z
  | 1 => xL z
  | _ => .ref z.toNat
/-- an object: its class, the kinds of its places (0 int, 1 long, 2 reference); an array: type, length, kind -/
abbrev xS : Type := (Nat × List Nat) ⊕ (FieldType × Nat × Nat)
abbrev xZ : Type := Nat → Int → Int
noncomputable def fl : List Nat → (Int → Int) → Nat → List Value
  | [], _, _ => []
  | t :: ks, f, i => vl t (f (i : Int)) :: fl ks f (i + 1)
theorem fl_nth {f : Int → Int} : ∀ {ks : List Nat} {i j t : Nat}, mx_nth ks j = some t → mx_nth (fl ks f i) j = some (vl t (f ((i + j : Nat) : Int)))
  | [], i, j, t, h => by cases h
  | k :: ks, i, 0, t, h => by
    have h : some k = some t := h
    cases h; rfl
  | k :: ks, i, j + 1, t, h => by
    have h : mx_nth ks j = some t := h
    have e := fl_nth (f := f) (ks := ks) (i := i + 1) h
    show mx_nth (fl ks f (i + 1)) j = _
    rw [e, show i + 1 + j = i + (j + 1) by omega]
theorem fl_len {f : Int → Int} : ∀ {ks : List Nat} {i : Nat}, (fl ks f i).length = ks.length
  | [], _ => rfl
  | _ :: ks, i => by show (fl ks f (i + 1)).length + 1 = _; rw [fl_len]; rfl
theorem fl_upd {f f2 : Int → Int} : ∀ {ks : List Nat} {i j t : Nat} {z : Int}, mx_nth ks j = some t → f2 ((i + j : Nat) : Int) = z → (∀ q : Nat, q ≠ i + j → f2 (q : Int) = f (q : Int)) → mx_upd (fl ks f i) j (vl t z) = fl ks f2 i
  | [], i, j, t, z, h, _, _ => by cases h
  | k :: ks, i, 0, t, z, h, e, hn => by
    have h : some k = some t := h
    cases h
    have hr : ∀ (l : List Nat) (q : Nat), i < q → fl l f q = fl l f2 q := by
      intro l
      induction l with
      | nil => intro q _; rfl
      | cons a l ih => intro q hq; show vl a (f q) :: fl l f (q + 1) = vl a (f2 q) :: fl l f2 (q + 1); rw [ih (q + 1) (by omega), hn q (by omega)]
    show vl k z :: fl ks f (i + 1) = vl k (f2 (i : Int)) :: fl ks f2 (i + 1)
    rw [hr ks (i + 1) (by omega), ← e]; rfl
  | k :: ks, i, j + 1, t, z, h, e, hn => by
    have h : mx_nth ks j = some t := h
    show vl k (f (i : Int)) :: mx_upd (fl ks f (i + 1)) j (vl t z) = vl k (f2 (i : Int)) :: fl ks f2 (i + 1)
    rw [fl_upd (f := f) (f2 := f2) h (by rw [show i + 1 + j = i + (j + 1) by omega]; exact e) (fun q hq => hn q (by omega)), hn i (by omega)]
def cR (sh : xS) (f : Int → Int) (c : mx_C) : Prop := match sh with
  | .inl (ci, ks) => c = .inl (ci, fl ks f 0)
  | .inr (ty, len, t) => ∃ T, c = .inr (ty, len, T) ∧ len ≤ 8192 ∧ ∀ j : Nat, j < len → mx_get 13 T j = vl t (f (j : Int))
def XH (n s : Nat) (S : Nat → xS) (Z : xZ) (h : mx_H) : Prop := h.1 = n ∧ h.2.1 = s ∧ n ≤ 4096 ∧ ∀ k, k < n → cR (S k) (Z k) (mx_get 12 h.2.2 k)
noncomputable def up (Z : xZ) (a : Nat) (g z : Int) : xZ := fun k i => if k = a ∧ i = g then z else Z k i
theorem up_at {Z Z2 : xZ} {a : Nat} {g z : Int} (h : Z2 = up Z a g z) : Z2 a g = z := by rw [h]; exact if_pos ⟨rfl, rfl⟩
theorem up_nk {Z Z2 : xZ} {a k : Nat} {g z i : Int} (h : Z2 = up Z a g z) (hk : Nat.beq k a = false) : Z2 k i = Z k i := by
  rw [h]; exact if_neg (fun q => by rw [q.1, Nat.beq_refl] at hk; cases hk)
theorem up_ni {Z Z2 : xZ} {a k : Nat} {g z i : Int} (h : Z2 = up Z a g z) (hk : ¬ i = g) : Z2 k i = Z k i := by
  rw [h]; exact if_neg (fun q => hk q.2)
/-- which places may be written: a cell and a place, or (a cell, -1) for all of its places -/
noncomputable def mm (M : List (Nat × Int)) (k : Nat) (i : Int) : Bool := List.rec (motive := fun _ => Bool) false (fun q _ b => (Nat.beq k q.1 && (decide (q.2 = -1) || decide (i = q.2))) || b) M
def fr' (M : List (Nat × Int)) (Z Z2 : xZ) : Prop := ∀ k i, mm M k i = false → Z2 k i = Z k i
theorem fr_rf {M : List (Nat × Int)} {Z : xZ} : fr' M Z Z := fun _ _ _ => rfl
theorem mm_in : ∀ {M : List (Nat × Int)} {q : Nat × Int} {k : Nat} {i : Int}, q ∈ M → k = q.1 → (q.2 = -1 ∨ i = q.2) → mm M k i = true
  | [], q, _, _, h, _, _ => by cases h
  | p :: M, q, k, i, h, hk, hi => by
    show ((Nat.beq k p.1 && (decide (p.2 = -1) || decide (i = p.2))) || mm M k i) = true
    rcases List.mem_cons.mp h with h | h
    · rw [← h, hk, Nat.beq_refl]
      rcases hi with e | e
      · rw [show decide (q.2 = -1) = true from decide_eq_true e]; rfl
      · rw [show decide (i = q.2) = true from decide_eq_true e, Bool.or_true]; rfl
    · rw [mm_in h hk hi, Bool.or_true]
theorem mm_ex : ∀ {M : List (Nat × Int)} {k : Nat} {i : Int}, mm M k i = true → ∃ q ∈ M, k = q.1 ∧ (q.2 = -1 ∨ i = q.2)
  | [], _, _, h => by cases h
  | p :: M, k, i, h => by
    have h : ((Nat.beq k p.1 && (decide (p.2 = -1) || decide (i = p.2))) || mm M k i) = true := h
    rw [Bool.or_eq_true] at h
    rcases h with h | h
    · rw [Bool.and_eq_true, Bool.or_eq_true] at h
      exact ⟨p, List.mem_cons_self, Nat.eq_of_beq_eq_true h.1, h.2.imp of_decide_eq_true of_decide_eq_true⟩
    · obtain ⟨q, h1, h2⟩ := mm_ex h
      exact ⟨q, List.mem_cons_of_mem _ h1, h2⟩
/-- M is within N -/
noncomputable def mi' (M N : List (Nat × Int)) : Bool := List.rec (motive := fun _ => Bool) true (fun q _ b => (mm N q.1 q.2 || mm N q.1 (-1)) && b) M
theorem mi_ok {N : List (Nat × Int)} : ∀ {M : List (Nat × Int)}, mi' M N = true → ∀ k i, mm N k i = false → mm M k i = false
  | [], _, _, _, _ => rfl
  | p :: M, h, k, i, hn => by
    have h : ((mm N p.1 p.2 || mm N p.1 (-1)) && mi' M N) = true := h
    rw [Bool.and_eq_true] at h
    have ih := mi_ok h.2 k i hn
    cases hm : mm (p :: M) k i with
    | false => rfl
    | true =>
      exfalso
      have hm : ((Nat.beq k p.1 && (decide (p.2 = -1) || decide (i = p.2))) || mm M k i) = true := hm
      rw [ih, Bool.or_false, Bool.and_eq_true, Bool.or_eq_true] at hm
      obtain ⟨hk, hi⟩ := hm
      have hk := Nat.eq_of_beq_eq_true hk
      have h1 := h.1
      have key : ∀ x, (x = p.2 ∨ x = -1) → mm N p.1 x = true → False := by
        intro x hx hN
        obtain ⟨q, q1, q2, q3⟩ := mm_ex hN
        have : mm N k i = true := by
          refine mm_in q1 (hk.trans q2) ?_
          rcases q3 with e | e
          · exact Or.inl e
          · rcases hx with hx | hx
            · rcases hi with hi | hi
              · have hi := of_decide_eq_true hi; exact Or.inl (by rw [← e, hx, hi])
              · have hi := of_decide_eq_true hi; exact Or.inr (by rw [hi, ← e, hx])
            · exact Or.inl (by rw [← e, hx])
        rw [hn] at this; cases this
      rw [Bool.or_eq_true] at h1
      rcases h1 with h1 | h1
      · exact key _ (Or.inl rfl) h1
      · exact key _ (Or.inr rfl) h1
theorem fr_tr {M1 M2 M : List (Nat × Int)} {Z Z1 Z2 : xZ} (h1 : fr' M1 Z Z1) (h2 : fr' M2 Z1 Z2) (e1 : mi' M1 M = true) (e2 : mi' M2 M = true) : fr' M Z Z2 := fun k i hk => (h2 k i (mi_ok e2 k i hk)).trans (h1 k i (mi_ok e1 k i hk))
theorem fr_up {Z Z2 : xZ} {a : Nat} {g z : Int} (h : Z2 = up Z a g z) : fr' [(a, g)] Z Z2 := fun k i hk => by
  rw [h]
  refine if_neg (fun q => ?_)
  rw [mm_in (M := [(a, g)]) (q := (a, g)) List.mem_cons_self q.1 (Or.inr q.2)] at hk
  cases hk
theorem fr_ua {Z Z2 : xZ} {a : Nat} {g z : Int} (h : Z2 = up Z a g z) : fr' [(a, -1)] Z Z2 := fun k i hk => by
  rw [h]
  refine if_neg (fun q => ?_)
  rw [mm_in (M := [(a, -1)]) (q := (a, -1)) List.mem_cons_self q.1 (Or.inl rfl)] at hk
  cases hk
end XHa
