/-! closed runs over a few told cells with numbers that aren't known, and what they say of a heap that has those cells -/
noncomputable def sg (tau : Nat → Int64) : Value → Value
  | .float t => .int (mx_fl tau t.toNat)
  | .double t => .long (tau t.toNat)
  | v => v
noncomputable def mx_mapT {α : Type} (g : α → α) (n : Nat) : mx_T α n → mx_T α n := Nat.rec (motive := fun n => mx_T α n → mx_T α n) (fun t => g t) (fun n ih (t : mx_T α n × mx_T α n) => ((ih t.1, ih t.2) : mx_T α n × mx_T α n)) n
theorem mx_get_map {α : Type} (g : α → α) : ∀ (n : Nat) (t : mx_T α n) (i : Nat), mx_get n (mx_mapT g n t) i = g (mx_get n t i)
  | 0, _, _ => rfl
  | n + 1, t, i => by
    have h1 := mx_get_map g n (Prod.fst (α := mx_T α n) (β := mx_T α n) t) (Nat.div i 2)
    have h2 := mx_get_map g n (Prod.snd (α := mx_T α n) (β := mx_T α n) t) (Nat.div i 2)
    show (bif Nat.beq (Nat.mod i 2) 0 then mx_get n (mx_mapT g n (Prod.fst (α := mx_T α n) (β := mx_T α n) t)) (Nat.div i 2) else mx_get n (mx_mapT g n (Prod.snd (α := mx_T α n) (β := mx_T α n) t)) (Nat.div i 2)) = g (bif Nat.beq (Nat.mod i 2) 0 then mx_get n (Prod.fst (α := mx_T α n) (β := mx_T α n) t) (Nat.div i 2) else mx_get n (Prod.snd (α := mx_T α n) (β := mx_T α n) t) (Nat.div i 2))
    cases Nat.beq (Nat.mod i 2) 0
    · exact h2
    · exact h1
noncomputable def sgC (tau : Nat → Int64) : mx_C → mx_C
  | .inl q => .inl (q.1, q.2.map (sg tau))
  | .inr q => .inr (q.1, q.2.1, mx_mapT (sg tau) 13 q.2.2)
theorem sgC_nj {tau : Nat → Int64} {c : mx_C} : mx_nj (sgC tau c) = mx_nj c := by
  cases c with
  | inl o => rfl
  | inr o => rfl
/-- the same cell, as far as it reaches -/
def mx_pe (c c2 : mx_C) : Prop := c = c2 ∨ ∃ (ty : FieldType) (n : Nat) (t t2 : mx_A), c = .inr (ty, n, t) ∧ c2 = .inr (ty, n, t2) ∧ ∀ j, j < n → mx_get 13 t j = mx_get 13 t2 j
theorem mx_pe.rfl' {c : mx_C} : mx_pe c c := Or.inl rfl
theorem mx_pe_ok {E : mx_E} {U : State} {H : Heap} {a : Nat} {c c2 : mx_C} (h : mx_pe c c2) (hb : mx_ok E U H a c2) : mx_ok E U H a c := by
  rcases h with h | ⟨ty, n, t, t2, h1, h2, h3⟩
  · rw [h]; exact hb
  · rw [h2] at hb
    rw [h1]
    rcases hb with hb | ⟨hf, cc, q1, q2, q3, q4, q5, q6, q7⟩
    · exact Or.inl hb
    · exact Or.inr ⟨hf, cc, q1, q2, q3, q4, q5, fun j hj => by rw [h3 j hj]; exact q6 j hj, q7⟩
theorem mx_pe.symm {c c2 : mx_C} (h : mx_pe c c2) : mx_pe c2 c := by
  rcases h with h | ⟨ty, n, t, t2, h1, h2, h3⟩
  · exact Or.inl h.symm
  · exact Or.inr ⟨ty, n, t2, t, h2, h1, fun j hj => (h3 j hj).symm⟩
theorem mx_pe.trans {c c2 c3 : mx_C} (h : mx_pe c c2) (h' : mx_pe c2 c3) : mx_pe c c3 := by
  rcases h with h | ⟨ty, n, t, t2, h1, h2, h3⟩
  · rw [h]; exact h'
  · rcases h' with h' | ⟨ty', n', t', t2', h1', h2', h3'⟩
    · rw [← h']; exact Or.inr ⟨ty, n, t, t2, h1, h2, h3⟩
    · rw [h2] at h1'
      injection h1' with h1'
      injection h1' with a1 a2
      injection a2 with a2 a3
      subst a1; subst a2; subst a3
      exact Or.inr ⟨_, _, t, t2', h1, h2', fun j hj => (h3 j hj).trans (h3' j hj)⟩
section TR
variable {l : Launch} {D : va_G} {b0 : Nat} {ad : Nat → Nat} {Hb Hb2 : Heap} {tau tau2 : Nat → Int64}
theorem sg_v (v : Value) : mx_v (tB l D b0 ad Hb tau).2.1.1 (sg tau2 v) = mx_v (tB l D b0 ad Hb2 tau2).2.1.1 v := by
  cases v <;> rfl
theorem sgC_ok1 {U : State} {H : Heap} {a : Nat} {c : mx_C} (hn : mx_nj c = true) (h : mx_ok (tB l D b0 ad Hb2 tau2).2.1.1 U H a c) : mx_ok (tB l D b0 ad Hb tau).2.1.1 U H a (sgC tau2 c) := by
  cases c with
  | inl o =>
    obtain ⟨ci, fs⟩ := o
    obtain ⟨r, h1, h2, h3⟩ := h
    refine ⟨r, h1, by rw [List.length_map]; exact h2, ?_⟩
    have e : ((fs.map (sg tau2)).map (mx_v (tB l D b0 ad Hb tau).2.1.1)) = fs.map (mx_v (tB l D b0 ad Hb2 tau2).2.1.1) := by
      rw [List.map_map]
      exact List.map_congr_left (fun v _ => sg_v v)
    show t_OB a _ _ _ H (vp_V ((fs.map (sg tau2)).map (mx_v (tB l D b0 ad Hb tau).2.1.1)))
    rw [e]
    exact h3
  | inr o =>
    obtain ⟨ty, n, t⟩ := o
    have hty : ¬ ty = .float := mx_nj_ne hn
    rcases h with ⟨hf, -⟩ | ⟨hf, cc, q1, q2, q3, q4, q5, q6, q7⟩
    · exact absurd hf hty
    · exact Or.inr ⟨hf, cc, q1, q2, q3, q4, q5, fun j hj => by rw [mx_get_map, sg_v (Hb2 := Hb2)]; exact q6 j hj, q7⟩
theorem sgC_ok2 {U : State} {H : Heap} {a : Nat} {c : mx_C} (hn : mx_nj c = true) (h : mx_ok (tB l D b0 ad Hb tau).2.1.1 U H a (sgC tau2 c)) : mx_ok (tB l D b0 ad Hb2 tau2).2.1.1 U H a c := by
  cases c with
  | inl o =>
    obtain ⟨ci, fs⟩ := o
    obtain ⟨r, h1, h2, h3⟩ := h
    rw [List.length_map] at h2
    refine ⟨r, h1, h2, ?_⟩
    have e : ((fs.map (sg tau2)).map (mx_v (tB l D b0 ad Hb tau).2.1.1)) = fs.map (mx_v (tB l D b0 ad Hb2 tau2).2.1.1) := by
      rw [List.map_map]
      exact List.map_congr_left (fun v _ => sg_v v)
    have h3 : t_OB a _ _ _ H (vp_V ((fs.map (sg tau2)).map (mx_v (tB l D b0 ad Hb tau).2.1.1))) := h3
    rw [e] at h3
    exact h3
  | inr o =>
    obtain ⟨ty, n, t⟩ := o
    have hty : ¬ ty = .float := mx_nj_ne hn
    rcases h with ⟨hf, -⟩ | ⟨hf, cc, q1, q2, q3, q4, q5, q6, q7⟩
    · exact absurd hf hty
    · exact Or.inr ⟨hf, cc, q1, q2, q3, q4, q5, fun j hj => by have := q6 j hj; rw [mx_get_map, sg_v (Hb2 := Hb2)] at this; exact this, q7⟩
end TR
/-- a heap of told cells alone -/
noncomputable def hT (p : List (Nat × mx_C)) : mx_T mx_C 9 := List.rec (motive := fun _ => mx_T mx_C 9) (mx_rep mx_jk 9) (fun q _ t => mx_set 9 t q.1 q.2) p
noncomputable def hL (n s : Nat) (p : List (Nat × mx_C)) : mx_H := (n, s, hT p)
noncomputable def kin (p : List (Nat × mx_C)) (k : Nat) : Bool := List.rec (motive := fun _ => Bool) false (fun q _ b => bif Nat.beq q.1 k then true else b) p
theorem kin_ok : ∀ {p : List (Nat × mx_C)} {k : Nat}, kin p k = true → ∃ q ∈ p, q.1 = k
  | [], _, h => by cases h
  | q :: p, k, h => by
    have h : (bif Nat.beq q.1 k then true else kin p k) = true := h
    cases hb : Nat.beq q.1 k with
    | true => exact ⟨q, List.mem_cons_self, Nat.eq_of_beq_eq_true hb⟩
    | false =>
      rw [hb] at h
      obtain ⟨q2, h1, h2⟩ := kin_ok (p := p) h
      exact ⟨q2, List.mem_cons_of_mem _ h1, h2⟩
theorem kin_no : ∀ {p : List (Nat × mx_C)} {k : Nat}, kin p k = false → ∀ q ∈ p, q.1 ≠ k
  | [], _, _, q, hq => by cases hq
  | q0 :: p, k, h, q, hq => by
    have h : (bif Nat.beq q0.1 k then true else kin p k) = false := h
    cases hb : Nat.beq q0.1 k with
    | true => rw [hb] at h; cases h
    | false =>
      rw [hb] at h
      rcases List.mem_cons.mp hq with rfl | hq
      · intro e; rw [e, Nat.beq_refl] at hb; cases hb
      · exact kin_no (p := p) h q hq
theorem kin_mem : ∀ {p : List (Nat × mx_C)} {q : Nat × mx_C}, q ∈ p → kin p q.1 = true := by
  intro p q hq
  cases hb : kin p q.1 with
  | true => rfl
  | false => exact absurd rfl (kin_no hb q hq)
theorem hT_get : ∀ {p : List (Nat × mx_C)} {k : Nat}, (∀ q ∈ p, q.1 < 512) → k < 512 → (∃ q ∈ p, q.1 = k ∧ mx_get 9 (hT p) k = q.2) ∨ (kin p k = false ∧ mx_get 9 (hT p) k = mx_jk)
  | [], k, _, _ => Or.inr ⟨rfl, mx_get_rep _ 9 k⟩
  | q0 :: p, k, hp, hk => by
    have h0 : q0.1 < 2 ^ 9 := hp q0 List.mem_cons_self
    have e : mx_get 9 (hT (q0 :: p)) k = if k = q0.1 then q0.2 else mx_get 9 (hT p) k := mx_get_set _ 9 _ _ _ h0 hk
    by_cases hkq : k = q0.1
    · rw [if_pos hkq] at e
      exact Or.inl ⟨q0, List.mem_cons_self, hkq.symm, e⟩
    · rw [if_neg hkq] at e
      rcases hT_get (p := p) (fun q hq => hp q (List.mem_cons_of_mem _ hq)) hk with ⟨q, h1, h2, h3⟩ | ⟨h1, h2⟩
      · exact Or.inl ⟨q, List.mem_cons_of_mem _ h1, h2, e.trans h3⟩
      · refine Or.inr ⟨?_, e.trans h2⟩
        show (bif Nat.beq q0.1 k then true else kin p k) = false
        cases hb : Nat.beq q0.1 k with
        | true => exact absurd (Nat.eq_of_beq_eq_true hb).symm hkq
        | false => exact h1
/-- sameness by evaluation -/
noncomputable def vq : Value → Value → Bool
  | .int a, .int b => decide (a = b)
  | .long a, .long b => decide (a = b)
  | .ref a, .ref b => Nat.beq a b
  | .float a, .float b => decide (a = b)
  | .null, .null => true
  | _, _ => false
theorem vq_ok {a b : Value} (h : vq a b = true) : a = b := by
  unfold vq at h
  split at h
  · rw [of_decide_eq_true h]
  · rw [of_decide_eq_true h]
  · rw [Nat.eq_of_beq_eq_true h]
  · rw [of_decide_eq_true h]
  · rfl
  · cases h
noncomputable def tq (n : Nat) : mx_T Value n → mx_T Value n → Bool := Nat.rec (motive := fun n => mx_T Value n → mx_T Value n → Bool) (fun a b => vq a b) (fun n ih (a b : mx_T Value n × mx_T Value n) => ih a.1 b.1 && ih a.2 b.2) n
theorem tq_ok : ∀ (n : Nat) (a b : mx_T Value n), tq n a b = true → ∀ i, mx_get n a i = mx_get n b i
  | 0, a, b, h, i => vq_ok h
  | n + 1, a, b, h, i => by
    obtain ⟨h1, h2⟩ := mx_and (show (tq n (Prod.fst (α := mx_T Value n) (β := mx_T Value n) a) (Prod.fst (α := mx_T Value n) (β := mx_T Value n) b) && tq n (Prod.snd (α := mx_T Value n) (β := mx_T Value n) a) (Prod.snd (α := mx_T Value n) (β := mx_T Value n) b)) = true from h)
    have k1 := tq_ok n _ _ h1 (Nat.div i 2)
    have k2 := tq_ok n _ _ h2 (Nat.div i 2)
    show (bif Nat.beq (Nat.mod i 2) 0 then mx_get n (Prod.fst (α := mx_T Value n) (β := mx_T Value n) a) (Nat.div i 2) else mx_get n (Prod.snd (α := mx_T Value n) (β := mx_T Value n) a) (Nat.div i 2)) = (bif Nat.beq (Nat.mod i 2) 0 then mx_get n (Prod.fst (α := mx_T Value n) (β := mx_T Value n) b) (Nat.div i 2) else mx_get n (Prod.snd (α := mx_T Value n) (β := mx_T Value n) b) (Nat.div i 2))
    cases Nat.beq (Nat.mod i 2) 0
    · exact k2
    · exact k1
noncomputable def tyq : FieldType → FieldType → Bool
  | .int, .int => true
  | .long, .long => true
  | .byte, .byte => true
  | .boolean, .boolean => true
  | _, _ => false
theorem tyq_ok {a b : FieldType} (h : tyq a b = true) : a = b := by
  unfold tyq at h
  split at h
  · rfl
  · rfl
  · rfl
  · rfl
  · cases h
noncomputable def lq (a : List Value) : List Value → Bool := List.rec (motive := fun _ => List Value → Bool) (fun b => b.isEmpty) (fun x _ ih b => match b with
  | [] => false
  | y :: b => vq x y && ih b) a
theorem lq_ok : ∀ {a b : List Value}, lq a b = true → a = b
  | [], b, h => by
    cases b with
    | nil => rfl
    | cons y b => cases h
  | x :: a, b, h => by
    cases b with
    | nil => cases h
    | cons y b =>
      obtain ⟨h1, h2⟩ := mx_and (show (vq x y && lq a b) = true from h)
      rw [vq_ok h1, lq_ok (a := a) h2]
noncomputable def cq : mx_C → mx_C → Bool
  | .inl a, .inl b => Nat.beq a.1 b.1 && lq a.2 b.2
  | .inr a, .inr b => tyq a.1 b.1 && (Nat.beq a.2.1 b.2.1 && (bif Nat.ble a.2.1 64 then (List.range a.2.1).all (fun j => vq (mx_get 13 a.2.2 j) (mx_get 13 b.2.2 j)) else tq 13 a.2.2 b.2.2))
  | _, _ => false
theorem cq_ok {a b : mx_C} (h : cq a b = true) : mx_pe a b ∧ mx_nj a = true := by
  cases a with
  | inl a =>
    cases b with
    | inl b =>
      obtain ⟨a1, a2⟩ := a
      obtain ⟨b1, b2⟩ := b
      obtain ⟨h1, h2⟩ := mx_and (show (Nat.beq a1 b1 && lq a2 b2) = true from h)
      rw [Nat.eq_of_beq_eq_true h1, lq_ok h2]
      exact ⟨Or.inl rfl, rfl⟩
    | inr b => cases h
  | inr a =>
    cases b with
    | inl b => cases h
    | inr b =>
      obtain ⟨a1, a2, a3⟩ := a
      obtain ⟨b1, b2, b3⟩ := b
      obtain ⟨h1, h2⟩ := mx_and (show (tyq a1 b1 && (Nat.beq a2 b2 && (bif Nat.ble a2 64 then (List.range a2).all (fun j => vq (mx_get 13 a3 j) (mx_get 13 b3 j)) else tq 13 a3 b3))) = true from h)
      obtain ⟨h2, h3⟩ := mx_and h2
      refine ⟨Or.inr ⟨a1, a2, a3, b3, rfl, by rw [tyq_ok h1, Nat.eq_of_beq_eq_true h2], fun j hj => ?_⟩, ?_⟩
      · cases hb : Nat.ble a2 64 with
        | true =>
          rw [hb, cond_true] at h3
          exact vq_ok (List.all_eq_true.mp h3 j (List.mem_range.mpr hj))
        | false =>
          rw [hb, cond_false] at h3
          exact tq_ok 13 _ _ h3 j
      unfold tyq at h1
      split at h1
      · rfl
      · rfl
      · rfl
      · rfl
      · cases h1
noncomputable def oq : Option Value → Option Value → Bool
  | none, none => true
  | some a, some b => vq a b
  | _, _ => false
theorem oq_ok {a b : Option Value} (h : oq a b = true) : a = b := by
  unfold oq at h
  split at h
  · rfl
  · rw [vq_ok h]
  · cases h
/-- h has the told cells, as tau2 tells the numbers that aren't known -/
def Mt (tau2 : Nat → Int64) (n s : Nat) (p : List (Nat × mx_C)) (h : mx_H) : Prop := h.1 = n ∧ h.2.1 = s ∧ (∀ q ∈ p, q.1 < n ∧ mx_nj q.2 = true ∧ mx_pe (mx_get 9 h.2.2 q.1) (sgC tau2 q.2))
noncomputable def rc2 (n s : Nat) (p : List (Nat × mx_C)) (v : Option Value) (p2 : List (Nat × mx_C)) (o : Option mx_R) : Bool := match o with
  | some r => oq r.1 v && (Nat.beq r.2.1 n && (Nat.beq r.2.2.1 s && ((p2.all fun q => cq (mx_get 9 r.2.2.2 q.1) q.2 && (mx_nj q.2 && Nat.blt q.1 n)) && ((List.range n).all fun k => bif kin p k then kin p2 k else !(mx_nj (mx_get 9 r.2.2.2 k))))))
  | none => false
noncomputable def rck (d mi : Nat) (as : List Value) (n s : Nat) (p : List (Nat × mx_C)) (v : Option Value) (p2 : List (Nat × mx_C)) : Bool := rc2 n s p v p2 (mx_ev (mx_pg tinfo) 100000 d mi as (hL n s p))
section TR2
variable {l : Launch} {D : va_G} {b0 : Nat} {ad : Nat → Nat} {Hb : Heap} {tau tau2 : Nat → Int64}
theorem mx_KK_tau {U : State} (ht2 : ∀ t, (mx_iv t).1 ≤ (mx_iv t).2 → (mx_iv t).1 ≤ (tau2 t).toInt ∧ (tau2 t).toInt ≤ (mx_iv t).2) (hK : mx_KK (tB l D b0 ad Hb tau).2.1 U) : mx_KK (tB l D b0 ad Hb tau2).2.1 U := by
  obtain ⟨k1, k2, k3, k5, k4⟩ := hK
  refine ⟨k1, k2, k3, ht2, fun z hz => ?_⟩
  have h4 := k4 z hz
  obtain rfl : z = zs_0 := List.mem_singleton.mp hz
  exact h4
theorem sg_o {Hb2 : Heap} (o : Option Value) : o.map (mx_v (tB l D b0 ad Hb2 tau2).2.1.1) = (o.map (sg tau2)).map (mx_v (tB l D b0 ad Hb tau).2.1.1) := by
  cases o with
  | none => simp only [Option.map_none]
  | some w => simp only [Option.map_some, sg_v (Hb2 := Hb2)]
theorem mx_trC (ht2 : ∀ t, (mx_iv t).1 ≤ (mx_iv t).2 → (mx_iv t).1 ≤ (tau2 t).toInt ∧ (tau2 t).toInt ≤ (mx_iv t).2) {d mi : Nat} {as : List Value} {hj h hr : mx_H} {rj : mx_R} (hev : ∀ Hb2 t2, mx_Ca (tB l D b0 ad Hb2 t2) d mi as hj rj) (f : Nat → Bool) (n1 : hj.1 = h.1) (n2 : hj.2.1 = h.2.1) (n3 : rj.2.1 = hr.1) (n4 : rj.2.2.1 = hr.2.1)
    (hv1 : ∀ k, k < h.1 → f k = true → mx_nj (mx_get 9 hj.2.2 k) = true ∧ mx_pe (mx_get 9 h.2.2 k) (sgC tau2 (mx_get 9 hj.2.2 k))) (hh1 : ∀ k, k < h.1 → f k = false → mx_nj (mx_get 9 hj.2.2 k) = false) (hv2 : ∀ k, k < hr.1 → f k = true → mx_nj (mx_get 9 rj.2.2.2 k) = true ∧ mx_get 9 hr.2.2 k = sgC tau2 (mx_get 9 rj.2.2.2 k)) (hh2 : ∀ k, k < hr.1 → f k = false → k < h.1 ∧ mx_nj (mx_get 9 rj.2.2.2 k) = false ∧ mx_get 9 hr.2.2 k = mx_get 9 h.2.2 k) :
    mx_Ca (tB l D b0 ad Hb tau) d mi (as.map (sg tau2)) h (rj.1.map (sg tau2), hr) := by
  refine mx_conv (as2 := as) (hj := hj) (rj := rj) hev n1 n2 n3 n4 ?_
  intro U hR hK
  obtain ⟨r1, r2, r3, r4, r5, r6⟩ := hR
  refine ⟨U.heap, tau2, ?_, ?_, mx_KK_tau ht2 (mx_KK.at hK r4), ?_, ?_⟩
  · rw [List.map_map]
    exact List.map_congr_left (fun v _ => sg_v v)
  · refine ⟨by rw [n1]; exact r1, by rw [n1]; exact r2, by rw [n1]; exact r3, fun q hq => rfl, r5, fun k hk => ?_⟩
    have hk2 : k < h.1 := by rw [← n1]; exact hk
    cases hf : f k with
    | true =>
      obtain ⟨b1, b2⟩ := hv1 k hk2 hf
      exact sgC_ok2 (Hb := Hb) (tau := tau) b1 (mx_pe_ok b2.symm (r6 k hk2))
    | false => exact (mx_nj_fl (hh1 k hk2 hf)).mpr rfl
  · exact sg_o rj.1
  · intro t hal hR2
    obtain ⟨t1, t2, t3, t4, t5, t6⟩ := hR2
    refine ⟨by show _ ≤ hr.1; rw [← n3]; exact t1, by show hr.1 ≤ _; rw [← n3]; exact t2, by show _ = _ + (hr.1 - _); rw [← n3]; exact t3, fun q hq => (t4 q hq).trans (r4 q hq), t5, fun k hk => ?_⟩
    have hk2 : k < hr.1 := hk
    have hok := t6 k (by rw [n3]; exact hk2)
    show mx_ok _ t t.heap _ (mx_get 9 hr.2.2 k)
    cases hf : f k with
    | true =>
      obtain ⟨b1, b2⟩ := hv2 k hk2 hf
      rw [b2]
      exact sgC_ok1 b1 hok
    | false =>
      obtain ⟨c0, b1, b2⟩ := hh2 k hk2 hf
      rw [b2]
      have hsame : t.heap[mx_rho (tB l D b0 ad Hb tau).2.1.1 k]? = U.heap[mx_rho (tB l D b0 ad Hb tau).2.1.1 k]? := (mx_nj_fl b1).mp hok
      exact ((r6 k c0).moved hal).kept hsame
theorem mx_tr (ht2 : ∀ t, (mx_iv t).1 ≤ (mx_iv t).2 → (mx_iv t).1 ≤ (tau2 t).toInt ∧ (tau2 t).toInt ≤ (mx_iv t).2) {d mi : Nat} {as : List Value} {n s : Nat} {p p2 : List (Nat × mx_C)} {v : Option Value} {h : mx_H} (hk : rck d mi as n s p v p2 = true) (hn : n ≤ 512) (hM : Mt tau2 n s p h) :
    ∃ h2, mx_Ca (tB l D b0 ad Hb tau) d mi (as.map (sg tau2)) h (v.map (sg tau2), h2) ∧ Mt tau2 n s p2 h2 ∧ (∀ k, k < n → kin p k = false → mx_get 9 h2.2.2 k = mx_get 9 h.2.2 k) ∧ ∀ k, k < n → kin p k = true → kin p2 k = true := by
  obtain ⟨m1, m2, m3⟩ := hM
  unfold rck at hk
  cases he : mx_ev (mx_pg tinfo) 100000 d mi as (hL n s p) with
  | none => rw [he] at hk; cases hk
  | some rj =>
    rw [he] at hk
    obtain ⟨g1, g2⟩ := mx_and (show (oq rj.1 v && (Nat.beq rj.2.1 n && (Nat.beq rj.2.2.1 s && ((p2.all fun q => cq (mx_get 9 rj.2.2.2 q.1) q.2 && (mx_nj q.2 && Nat.blt q.1 n)) && ((List.range n).all fun k => bif kin p k then kin p2 k else !(mx_nj (mx_get 9 rj.2.2.2 k))))))) = true from hk)
    obtain ⟨g2, g3⟩ := mx_and g2
    obtain ⟨g3, g4⟩ := mx_and g3
    obtain ⟨g4, g5⟩ := mx_and g4
    have c1 : rj.2.1 = n := Nat.eq_of_beq_eq_true g2
    have c2 : rj.2.2.1 = s := Nat.eq_of_beq_eq_true g3
    have hv : rj.1 = v := oq_ok g1
    have hp512 : ∀ q ∈ p, q.1 < 512 := fun q hq => by have := (m3 q hq).1; omega
    have hvis : ∀ k, k < n → kin p k = true → ∃ q ∈ p2, q.1 = k ∧ mx_pe (mx_get 9 rj.2.2.2 k) q.2 ∧ mx_nj q.2 = true ∧ mx_nj (mx_get 9 rj.2.2.2 k) = true := by
      intro k hk hkin
      have h1 := List.all_eq_true.mp g5 k (List.mem_range.mpr hk)
      rw [hkin, cond_true] at h1
      obtain ⟨q, hq, hqk⟩ := kin_ok h1
      obtain ⟨a1, a2⟩ := mx_and (List.all_eq_true.mp g4 q hq)
      obtain ⟨a2, -⟩ := mx_and a2
      rw [hqk] at a1
      exact ⟨q, hq, hqk, (cq_ok a1).1, a2, (cq_ok a1).2⟩
    have hhid : ∀ k, k < n → kin p k = false → mx_nj (mx_get 9 rj.2.2.2 k) = false := by
      intro k hk hkin
      have h1 := List.all_eq_true.mp g5 k (List.mem_range.mpr hk)
      rw [hkin, cond_false, Bool.not_eq_true'] at h1
      exact h1
    let fh : Nat → Bool := fun k => !(kin p k)
    let hm : mx_H := (rj.2.1, rj.2.2.1, mx_mapT (sgC tau2) 9 rj.2.2.2)
    have hget : ∀ k, k < 512 → mx_get 9 (mx_mix fh h hm).2.2 k = if fh k = true then mx_get 9 h.2.2 k else sgC tau2 (mx_get 9 rj.2.2.2 k) := by
      intro k hk
      rw [mx_mix_at fh h hm hk]
      by_cases hf : fh k = true
      · rw [if_pos hf, if_pos hf]
      · rw [if_neg hf, if_neg hf]
        exact mx_get_map (sgC tau2) 9 rj.2.2.2 k
    have hfh : ∀ k, (fh k = true ↔ kin p k = false) := fun k => by show (!(kin p k)) = true ↔ _; rw [Bool.not_eq_true']
    refine ⟨mx_mix fh h hm, ?_, ⟨?_, ?_, ?_⟩, ?_, ?_⟩
    · rw [← hv]
      refine mx_trC ht2 (hj := hL n s p) (hr := mx_mix fh h hm) (fun Hb2 t2 => mx_Ca.of (ev_all 100000 d) he) (kin p) m1.symm m2.symm rfl rfl ?_ ?_ ?_ ?_
      · intro k hk hf
        rw [m1] at hk
        show mx_nj (mx_get 9 (hT p) k) = true ∧ mx_pe (mx_get 9 h.2.2 k) (sgC tau2 (mx_get 9 (hT p) k))
        rcases hT_get hp512 (show k < 512 by omega) with ⟨q, hq, hqk, he2⟩ | ⟨hno, he2⟩
        · obtain ⟨b1, b2, b3⟩ := m3 q hq
          rw [he2]
          rw [hqk] at b3
          exact ⟨b2, b3⟩
        · rw [hf] at hno; cases hno
      · intro k hk hf
        rw [m1] at hk
        show mx_nj (mx_get 9 (hT p) k) = false
        rcases hT_get hp512 (show k < 512 by omega) with ⟨q, hq, hqk, he2⟩ | ⟨hno, he2⟩
        · have := kin_mem hq; rw [hqk, hf] at this; cases this
        · rw [he2]; rfl
      · intro k hk hf
        have hk3 : k < n := by rw [← c1]; exact hk
        obtain ⟨q, -, -, -, -, hnj⟩ := hvis k hk3 hf
        refine ⟨hnj, ?_⟩
        rw [hget k (by omega), if_neg (fun z => by have := (hfh k).mp z; rw [hf] at this; cases this)]
      · intro k hk hf
        have hk3 : k < n := by rw [← c1]; exact hk
        exact ⟨by rw [m1]; exact hk3, hhid k hk3 hf, by rw [hget k (by omega), if_pos ((hfh k).mpr hf)]⟩
    · exact c1
    · exact c2
    · intro q hq
      obtain ⟨a1, a2⟩ := mx_and (List.all_eq_true.mp g4 q hq)
      obtain ⟨a2, a3⟩ := mx_and a2
      have hqn : q.1 < n := mx_blt a3
      refine ⟨hqn, a2, ?_⟩
      rw [hget q.1 (by omega)]
      cases hkin : kin p q.1 with
      | true =>
        rw [if_neg (fun z => by have := (hfh q.1).mp z; rw [hkin] at this; cases this)]
        rcases (cq_ok a1).1 with e | ⟨ty, n', t, t', e1, e2, e3⟩
        · rw [e]; exact Or.inl rfl
        · rw [e1, e2]
          exact Or.inr ⟨ty, n', _, _, rfl, rfl, fun j hj => by rw [mx_get_map, mx_get_map, e3 j hj]⟩
      | false =>
        have h1 := hhid q.1 hqn hkin
        rw [(cq_ok a1).2] at h1
        cases h1
    · intro k hk hkin
      rw [hget k (by omega), if_pos ((hfh k).mpr hkin)]
    · intro k hk hkin
      have h1 := List.all_eq_true.mp g5 k (List.mem_range.mpr hk)
      rw [hkin, cond_true] at h1
      exact h1
end TR2
/-- what a heap is, cell by cell -/
def YH (n s : Nat) (V : Nat → mx_C) (h : mx_H) : Prop := h.1 = n ∧ h.2.1 = s ∧ n ≤ 512 ∧ ∀ k, k < n → mx_pe (mx_get 9 h.2.2 k) (V k)
noncomputable def upV (V : Nat → mx_C) (a : Nat) (c : mx_C) : Nat → mx_C := fun k => bif Nat.beq k a then c else V k
noncomputable def ovl (tau2 : Nat → Int64) (p : List (Nat × mx_C)) (V : Nat → mx_C) : Nat → mx_C := fun k => List.rec (motive := fun _ => mx_C) (V k) (fun q _ c => bif Nat.beq q.1 k then sgC tau2 q.2 else c) p
theorem ovl_no {tau2 : Nat → Int64} {V : Nat → mx_C} {k : Nat} : ∀ {p : List (Nat × mx_C)}, kin p k = false → ovl tau2 p V k = V k
  | [], _ => rfl
  | q :: p, h => by
    have h : (bif Nat.beq q.1 k then true else kin p k) = false := h
    show (bif Nat.beq q.1 k then sgC tau2 q.2 else ovl tau2 p V k) = V k
    cases hb : Nat.beq q.1 k with
    | true => rw [hb] at h; cases h
    | false => rw [hb] at h; exact ovl_no (p := p) h
theorem ovl_in {tau2 : Nat → Int64} {V : Nat → mx_C} {k : Nat} : ∀ {p : List (Nat × mx_C)}, kin p k = true → ∃ q ∈ p, q.1 = k ∧ ovl tau2 p V k = sgC tau2 q.2
  | [], h => by cases h
  | q :: p, h => by
    have h : (bif Nat.beq q.1 k then true else kin p k) = true := h
    cases hb : Nat.beq q.1 k with
    | true => exact ⟨q, List.mem_cons_self, Nat.eq_of_beq_eq_true hb, by show (bif Nat.beq q.1 k then sgC tau2 q.2 else ovl tau2 p V k) = _; rw [hb]; rfl⟩
    | false =>
      rw [hb] at h
      obtain ⟨q2, h1, h2, h3⟩ := ovl_in (tau2 := tau2) (V := V) (p := p) h
      exact ⟨q2, List.mem_cons_of_mem _ h1, h2, by show (bif Nat.beq q.1 k then sgC tau2 q.2 else ovl tau2 p V k) = _; rw [hb]; exact h3⟩
theorem YH.mono {n s : Nat} {V V2 : Nat → mx_C} {h : mx_H} (hY : YH n s V h) (hv : ∀ k, k < n → mx_pe (V k) (V2 k)) : YH n s V2 h := by
  obtain ⟨h1, h2, h3, h4⟩ := hY
  exact ⟨h1, h2, h3, fun k hk => (h4 k hk).trans (hv k hk)⟩
theorem YH.congr {n s : Nat} {V V2 : Nat → mx_C} {h : mx_H} (hY : YH n s V h) (hv : ∀ k, V k = V2 k) : YH n s V2 h := hY.mono (fun k _ => Or.inl (hv k))
theorem YH.tr {l : Launch} {D : va_G} {b0 : Nat} {ad : Nat → Nat} {Hb : Heap} {tau tau2 : Nat → Int64} (ht2 : ∀ t, (mx_iv t).1 ≤ (mx_iv t).2 → (mx_iv t).1 ≤ (tau2 t).toInt ∧ (tau2 t).toInt ≤ (mx_iv t).2) {d mi : Nat} {as : List Value} {n s : Nat} {p p2 : List (Nat × mx_C)} {v : Option Value} {h : mx_H} {V : Nat → mx_C} (hk : rck d mi as n s p v p2 = true) (hY : YH n s V h) (hp : ∀ q ∈ p, q.1 < n ∧ mx_nj q.2 = true ∧ mx_pe (V q.1) (sgC tau2 q.2)) :
    ∃ h2, mx_Ca (tB l D b0 ad Hb tau) d mi (as.map (sg tau2)) h (v.map (sg tau2), h2) ∧ YH n s (ovl tau2 p2 V) h2 := by
  obtain ⟨y1, y2, y3, y4⟩ := hY
  obtain ⟨h2, hca, ⟨m1, m2, m3⟩, hs, hkk⟩ := mx_tr (l := l) (D := D) (b0 := b0) (ad := ad) (Hb := Hb) (tau := tau) ht2 hk y3 (h := h) ⟨y1, y2, fun q hq => ⟨(hp q hq).1, (hp q hq).2.1, (y4 q.1 (hp q hq).1).trans (hp q hq).2.2⟩⟩
  refine ⟨h2, hca, m1, m2, y3, fun k hk => ?_⟩
  cases hb : kin p2 k with
  | true =>
    obtain ⟨q, hq, hqk, e⟩ := ovl_in (tau2 := tau2) (V := V) hb
    rw [e]
    have := (m3 q hq).2.2
    rw [hqk] at this
    exact this
  | false =>
    rw [ovl_no hb]
    have hb2 : kin p k = false := by
      cases hc : kin p k with
      | false => rfl
      | true => have := hkk k hk hc; rw [hb] at this; cases this
    rw [hs k hk hb2]
    exact y4 k hk
