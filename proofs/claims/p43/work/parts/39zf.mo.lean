/-! what a heap gives, what a moon brings: as functions of the laws, of all together, of the season, of a stand -/
abbrev LW := List Int × List Int
section MOa
/-- what a law is worth -/
noncomputable def wval (E : Int → Int) (ws : List Int) : Int := (evl E ws []).headD 0
def OKw (lw : LW) : Prop := (lw.1 = [] ∨ OKc 33 lw.1 false) ∧ (lw.2 = [] ∨ OKc 36 lw.2 true)
noncomputable def gen (size place heaps all season : Int) : Int → Int := fun i => if i = 0 then size else if i = 1 then place else if i = 2 then heaps else if i = 3 then all else season
noncomputable def gf (lw : LW) (N t size place heaps : Int) : Int :=
  if ¬ lw.2 = [] ∧ wval (gen size place heaps N t) lw.2 = 0 then 0
  else if lw.1 = [] then 1
  else if wval (gen size place heaps N t) lw.1 < 0 then 0
  else if size < wval (gen size place heaps N t) lw.1 then size
  else wval (gen size place heaps N t) lw.1
theorem gf_b {lw : LW} {N t size place heaps : Int} (h : 1 ≤ size) : 0 ≤ gf lw N t size place heaps ∧ gf lw N t size place heaps ≤ size := by
  unfold gf
  split
  · omega
  · split
    · omega
    · split
      · omega
      · split <;> omega
/-- heaps behind a moon: what is left of the first p, what they gave -/
def mpl (a g : Int → Int) : Nat → List Int
  | 0 => []
  | p + 1 => mpl a g p ++ [a (p : Int) - g (p : Int)]
def mgs (g : Int → Int) : Nat → Int
  | 0 => 0
  | p + 1 => mgs g p + g (p : Int)
theorem mpl_l (a g : Int → Int) : ∀ p, (mpl a g p).length = p
  | 0 => rfl
  | p + 1 => by show (mpl a g p ++ [a (p : Int) - g (p : Int)]).length = p + 1; rw [List.length_append, mpl_l a g p]; rfl
theorem mpl_c {a b g k : Int → Int} : ∀ p : Nat, (∀ j : Nat, j < p → a (j : Int) = b (j : Int) ∧ g (j : Int) = k (j : Int)) → mpl a g p = mpl b k p ∧ mgs g p = mgs k p
  | 0, _ => ⟨rfl, rfl⟩
  | p + 1, h => by
    have ih := mpl_c p (fun j hj => h j (by omega))
    have e := h p (by omega)
    refine ⟨?_, ?_⟩
    · show mpl a g p ++ [a (p : Int) - g (p : Int)] = mpl b k p ++ [b (p : Int) - k (p : Int)]
      rw [ih.1, e.1, e.2]
    · show mgs g p + g (p : Int) = mgs k p + k (p : Int)
      rw [ih.2, e.2]
noncomputable def hln (N s : Int) : Int := ((hpl N s).length : Int)
/-- what the heap of a place gives, if one place is spared (below 0: none) -/
noncomputable def gsp (lw : LW) (N t s sp : Int) : Int → Int := fun k => if k = sp then 0 else gf lw N t (hpk N s k) k (hln N s)
noncomputable def ml (lw : LW) (N t s sp : Int) : List Int := mpl (hpk N s) (gsp lw N t s sp) (hpl N s).length ++ [mgs (gsp lw N t s sp) (hpl N s).length]
noncomputable def mo (lw : LW) (N t s sp : Int) : Int := nmN N (fun v => ctl v (ml lw N t s sp))
/-- the first place of a size; none: -1 -/
noncomputable def plF (l : List Int) (d : Int) (k : Int) : Int := match l with
  | [] => -1
  | a :: r => if a = d then k else plF r d (k + 1)
noncomputable def plc (N s d : Int) : Int := plF (hpl N s) d 0
noncomputable def bh (lw : LW) (N t s d : Int) : Int := if d = 0 then mo lw N t s (-1) else if plc N s d < 0 then -1 else mo lw N t s (plc N s d)
/-- all together of a list -/
def lsm : List Int → Int
  | [] => 0
  | a :: l => a + lsm l
theorem lsm_a : ∀ l r : List Int, lsm (l ++ r) = lsm l + lsm r
  | [], r => by show lsm r = 0 + lsm r; omega
  | a :: l, r => by show a + lsm (l ++ r) = a + lsm l + lsm r; rw [lsm_a l r]; omega
theorem wsm_add (f g : Int → Int) : ∀ m, wsm (fun v => f v + g v) m = wsm f m + wsm g m
  | 0 => rfl
  | m + 1 => by
    show ((m + 1 : Nat) : Int) * (f ((m + 1 : Nat) : Int) + g ((m + 1 : Nat) : Int)) + wsm (fun v => f v + g v) m = ((m + 1 : Nat) : Int) * f ((m + 1 : Nat) : Int) + wsm f m + (((m + 1 : Nat) : Int) * g ((m + 1 : Nat) : Int) + wsm g m)
    rw [wsm_add f g m, Int.mul_add]; omega
theorem wsm_1 {a : Int} : ∀ m : Nat, 0 ≤ a → a ≤ (m : Int) → wsm (fun v => if a = v then 1 else 0) m = a
  | 0, h0, h1 => by show (0 : Int) = a; omega
  | m + 1, h0, h1 => by
    show ((m + 1 : Nat) : Int) * (if a = ((m + 1 : Nat) : Int) then 1 else 0) + wsm (fun v => if a = v then 1 else 0) m = a
    by_cases e : a = ((m + 1 : Nat) : Int)
    · rw [if_pos e, Int.mul_one]
      have z : wsm (fun v => if a = v then 1 else 0) m = wsm (fun _ => 0) m := wsm_c m (fun v v1 v2 => if_neg (by omega))
      have z0 : ∀ k : Nat, wsm (fun _ => (0 : Int)) k = 0 := by
        intro k
        induction k with
        | zero => rfl
        | succ k ih => show ((k + 1 : Nat) : Int) * 0 + wsm (fun _ => 0) k = 0; rw [ih, Int.mul_zero]; rfl
      rw [z, z0]; omega
    · rw [if_neg e, Int.mul_zero, wsm_1 m h0 (by omega)]; omega
theorem wsm_l : ∀ l : List Int, (∀ a ∈ l, 0 ≤ a ∧ a ≤ 18) → wsm (fun v => ctl v l) 18 = lsm l
  | [], _ => by decide
  | a :: l, h => by
    have e : wsm (fun v => ctl v (a :: l)) 18 = wsm (fun v => (if a = v then 1 else 0) + ctl v l) 18 := rfl
    rw [e, wsm_add, wsm_1 18 (h a List.mem_cons_self).1 (h a List.mem_cons_self).2, wsm_l l (fun b hb => h b (List.mem_cons_of_mem _ hb))]
    rfl
/-- what the heaps of a stand are together -/
def asm (a : Int → Int) : Nat → Int
  | 0 => 0
  | p + 1 => asm a p + a (p : Int)
theorem mpl_s (a g : Int → Int) : ∀ p, lsm (mpl a g p) + mgs g p = asm a p
  | 0 => rfl
  | p + 1 => by
    have ih := mpl_s a g p
    show lsm (mpl a g p ++ [a (p : Int) - g (p : Int)]) + (mgs g p + g (p : Int)) = asm a p + a (p : Int)
    rw [lsm_a]
    show lsm (mpl a g p) + (a (p : Int) - g (p : Int) + 0) + (mgs g p + g (p : Int)) = _
    omega
theorem asm_l : ∀ l : List Int, asm (fun k => l.getD k.toNat 0) l.length = lsm l := by
  have key : ∀ (l r : List Int), asm (fun k => (r ++ l).getD k.toNat 0) (r.length + l.length) = asm (fun k => (r ++ l).getD k.toNat 0) r.length + lsm l := by
    intro l
    induction l with
    | nil => intro r; show asm _ (r.length + 0) = _ + 0; rw [Nat.add_zero, Int.add_zero]
    | cons a l ih =>
      intro r
      have q := ih (r ++ [a])
      rw [List.append_assoc] at q
      rw [show (r ++ [a]).length = r.length + 1 by rw [List.length_append]; rfl] at q
      rw [show r.length + (a :: l).length = r.length + 1 + l.length by show r.length + (l.length + 1) = _; omega]
      have q : asm (fun k => (r ++ a :: l).getD k.toNat 0) (r.length + 1 + l.length) = asm (fun k => (r ++ a :: l).getD k.toNat 0) (r.length + 1) + lsm l := q
      rw [q]
      have g : (r ++ a :: l).getD ((r.length : Nat) : Int).toNat 0 = a := by
        rw [Int.toNat_natCast]
        have gen : ∀ (r : List Int), (r ++ a :: l).getD r.length 0 = a := by
          intro r
          induction r with
          | nil => rfl
          | cons b r ih => exact ih
        exact gen r
      show asm (fun k => (r ++ a :: l).getD k.toNat 0) r.length + (r ++ a :: l).getD ((r.length : Nat) : Int).toNat 0 + lsm l = _ + (a + lsm l)
      rw [g]; omega
  intro l
  have q := key l []
  rw [show ([] : List Int).length + l.length = l.length by show 0 + l.length = l.length; omega] at q
  have q : asm (fun k => l.getD k.toNat 0) l.length = 0 + lsm l := q
  rw [q]; omega
theorem lsm_r : ∀ l : List Int, lsm l.reverse = lsm l
  | [] => rfl
  | a :: l => by
    rw [List.reverse_cons, lsm_a, lsm_r l]
    show lsm l + (a + 0) = a + lsm l
    omega
theorem lsm_f : ∀ l : List Int, l.foldr (· + ·) 0 = lsm l
  | [] => rfl
  | a :: l => by show a + l.foldr (· + ·) 0 = a + lsm l; rw [lsm_f l]
theorem hpl_s {N s : Int} (hN : 1 ≤ N ∧ N ≤ 18) (h0 : 0 ≤ s) (h1 : s < pN N) : lsm (hpl N s) = N := by
  have v := (vb_l (vb_at hN h0 h1)).2.2.2
  unfold hpl
  rw [lsm_r, ← lsm_f]; exact v
theorem hpk_m {N s k : Int} (k0 : 0 ≤ k) (k1 : k < hln N s) : hpk N s k ∈ hpl N s := by
  unfold hpk
  unfold hln at k1
  have gen : ∀ (l : List Int) (j : Nat), j < l.length → l.getD j 0 ∈ l := by
    intro l
    induction l with
    | nil => intro j h; exact absurd h (Nat.not_lt_zero j)
    | cons a l ih =>
      intro j h
      cases j with
      | zero => exact List.mem_cons_self
      | succ j => exact List.mem_cons_of_mem _ (ih j (Nat.lt_of_succ_lt_succ h))
  exact gen _ _ (by omega)
theorem lsm_g : ∀ l : List Int, (∀ a ∈ l, 1 ≤ a) → ∀ a ∈ l, a ≤ lsm l
  | [], _, a, h => by cases h
  | b :: l, h, a, ha => by
    have p : 0 ≤ lsm l := by
      have gen : ∀ l : List Int, (∀ a ∈ l, 1 ≤ a) → 0 ≤ lsm l := by
        intro l
        induction l with
        | nil => intro _; exact Int.le_refl _
        | cons c l ih =>
          intro hc
          have := ih (fun x hx => hc x (List.mem_cons_of_mem _ hx))
          have := hc c List.mem_cons_self
          show 0 ≤ c + lsm l
          omega
      exact gen l (fun x hx => h x (List.mem_cons_of_mem _ hx))
    show a ≤ b + lsm l
    rcases List.mem_cons.mp ha with e | e
    · omega
    · have := lsm_g l (fun x hx => h x (List.mem_cons_of_mem _ hx)) a e
      have := h b List.mem_cons_self
      omega
theorem hpk_b {N s k : Int} (hN : 1 ≤ N ∧ N ≤ 18) (h0 : 0 ≤ s) (h1 : s < pN N) (k0 : 0 ≤ k) (k1 : k < hln N s) : 1 ≤ hpk N s k ∧ hpk N s k ≤ 18 := by
  have m := hpk_m k0 k1
  have b := (hpl_l hN h0 h1).2.2
  have g := lsm_g _ b _ m
  rw [hpl_s hN h0 h1] at g
  exact ⟨b _ m, by omega⟩
/-- heaps behind a moon are as much together -/
theorem ml_s {lw : LW} {N t s sp : Int} (hN : 1 ≤ N ∧ N ≤ 18) (h0 : 0 ≤ s) (h1 : s < pN N) : wsm (fun v => ctl v (ml lw N t s sp)) 18 = N := by
  have hs := hpl_s hN h0 h1
  have e1 := mpl_s (hpk N s) (gsp lw N t s sp) (hpl N s).length
  have e2 : asm (hpk N s) (hpl N s).length = N := (asm_l (hpl N s)).trans hs
  have gb : ∀ j : Nat, j < (hpl N s).length → 0 ≤ gsp lw N t s sp (j : Int) ∧ gsp lw N t s sp (j : Int) ≤ hpk N s (j : Int) := fun j hj => by
    have b := hpk_b hN h0 h1 (k := (j : Int)) (by omega) (by unfold hln; omega)
    unfold gsp
    split
    · omega
    · exact gf_b b.1
  have parts : ∀ p : Nat, p ≤ (hpl N s).length → (∀ a ∈ mpl (hpk N s) (gsp lw N t s sp) p, 0 ≤ a ∧ a ≤ 18) ∧ 0 ≤ mgs (gsp lw N t s sp) p := by
    intro p
    induction p with
    | zero => intro _; exact ⟨fun a ha => (by cases ha), Int.le_refl _⟩
    | succ p ih =>
      intro hp
      obtain ⟨i1, i2⟩ := ih (by omega)
      have g := gb p (by omega)
      have b := hpk_b hN h0 h1 (k := (p : Int)) (by omega) (by unfold hln; omega)
      refine ⟨fun a ha => ?_, by show 0 ≤ mgs (gsp lw N t s sp) p + gsp lw N t s sp (p : Int); omega⟩
      rcases List.mem_append.mp ha with q | q
      · exact i1 a q
      · rw [List.mem_singleton.mp q]; omega
  obtain ⟨p1, p2⟩ := parts _ (Nat.le_refl _)
  have nn : 0 ≤ lsm (mpl (hpk N s) (gsp lw N t s sp) (hpl N s).length) := by
    have gen : ∀ l : List Int, (∀ a ∈ l, 0 ≤ a ∧ a ≤ 18) → 0 ≤ lsm l := by
      intro l
      induction l with
      | nil => intro _; exact Int.le_refl _
      | cons c l ih =>
        intro hc
        have := ih (fun x hx => hc x (List.mem_cons_of_mem _ hx))
        have := hc c List.mem_cons_self
        show 0 ≤ c + lsm l
        omega
    exact gen _ p1
  rw [wsm_l (ml lw N t s sp) (fun a ha => by
    rcases List.mem_append.mp ha with q | q
    · exact p1 a q
    · rw [List.mem_singleton.mp q]; omega)]
  show lsm (mpl (hpk N s) (gsp lw N t s sp) (hpl N s).length ++ [mgs (gsp lw N t s sp) (hpl N s).length]) = N
  rw [lsm_a]
  show lsm (mpl (hpk N s) (gsp lw N t s sp) (hpl N s).length) + (mgs (gsp lw N t s sp) (hpl N s).length + 0) = N
  omega
theorem mo_b {lw : LW} {N t s sp : Int} (hN : 1 ≤ N ∧ N ≤ 18) (h0 : 0 ≤ s) (h1 : s < pN N) : 0 ≤ mo lw N t s sp ∧ mo lw N t s sp < pN N ∧ ∀ v : Int, 1 ≤ v → v ≤ 18 → ctl v (hpl N (mo lw N t s sp)) = ctl v (ml lw N t s sp) := nm_ex hN (fun v => ctl_p v _) (ml_s hN h0 h1)
end MOa
