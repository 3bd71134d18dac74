/-! which heaps come ahead; rows of numbers in their order, found by halves -/
section LXa
/-- the one comes behind the other -/
noncomputable def lxl : List Int → List Int → Bool
  | a :: l, b :: r => decide (a < b) || (decide (a = b) && lxl l r)
  | _, _ => false
theorem lxl_t : ∀ {a b c : List Int}, lxl a b = true → lxl b c = true → lxl a c = true
  | [], _, _, h, _ => by cases h
  | _ :: _, [], _, h, _ => by cases h
  | _ :: _, _ :: _, [], _, h => by cases h
  | a :: l, b :: r, c :: q, h1, h2 => by
    have h1 : (decide (a < b) || (decide (a = b) && lxl l r)) = true := h1
    have h2 : (decide (b < c) || (decide (b = c) && lxl r q)) = true := h2
    show (decide (a < c) || (decide (a = c) && lxl l q)) = true
    rw [Bool.or_eq_true, Bool.and_eq_true] at h1 h2 ⊢
    rcases h1 with h1 | ⟨e1, h1⟩
    · have h1 := of_decide_eq_true h1
      rcases h2 with h2 | ⟨e2, h2⟩
      · have h2 := of_decide_eq_true h2
        exact Or.inl (decide_eq_true (by omega))
      · have e2 := of_decide_eq_true e2
        exact Or.inl (decide_eq_true (by omega))
    · have e1 := of_decide_eq_true e1
      rcases h2 with h2 | ⟨e2, h2⟩
      · have h2 := of_decide_eq_true h2
        exact Or.inl (decide_eq_true (by omega))
      · have e2 := of_decide_eq_true e2
        exact Or.inr ⟨decide_eq_true (by omega), lxl_t h1 h2⟩
/-- the same of rows of numbers -/
def lxb (a b : Int → Int) : Prop := ∃ k : Int, 0 ≤ k ∧ k < 18 ∧ (∀ j : Int, 0 ≤ j → j < k → a j = b j) ∧ a k < b k
theorem lxb_i {a b : Int → Int} (h : ∀ k : Int, 0 ≤ k → k < 18 → a k = b k) : ¬ lxb a b := fun q => by
  obtain ⟨k, k0, k1, _, k2⟩ := q
  have := h k k0 k1
  omega
theorem lxb_n {a b : Int → Int} (h : lxb a b) : ¬ lxb b a := fun q => by
  obtain ⟨k, k0, k1, k2, k3⟩ := h
  obtain ⟨m, m0, m1, m2, m3⟩ := q
  by_cases c : k < m
  · have := m2 k k0 c; omega
  · by_cases c2 : m < k
    · have := k2 m m0 c2; omega
    · have e : m = k := by omega
      rw [e] at m3; omega
theorem lxb_c {a b a2 b2 : Int → Int} (ha : ∀ k : Int, 0 ≤ k → k < 18 → a2 k = a k) (hb : ∀ k : Int, 0 ≤ k → k < 18 → b2 k = b k) (h : lxb a b) : lxb a2 b2 := by
  obtain ⟨k, k0, k1, k2, k3⟩ := h
  exact ⟨k, k0, k1, fun j j0 j1 => by rw [ha j j0 (by omega), hb j j0 (by omega)]; exact k2 j j0 j1, by rw [ha k k0 k1, hb k k0 k1]; exact k3⟩
theorem gd_s (a : Int) (l : List Int) {j : Int} (h : 0 < j) : (a :: l).getD j.toNat 0 = l.getD (j - 1).toNat 0 := by
  rw [show j.toNat = (j - 1).toNat + 1 by omega]; rfl
theorem gd_00 (a : Int) (l : List Int) : (a :: l).getD (0 : Int).toNat 0 = a := rfl
theorem lxl_b : ∀ {a b : List Int}, a.length ≤ 18 → lxl a b = true → lxb (fun k => a.getD k.toNat 0) (fun k => b.getD k.toNat 0)
  | [], _, _, h => by cases h
  | _ :: _, [], _, h => by cases h
  | a :: l, b :: r, hl, h => by
    have h : (decide (a < b) || (decide (a = b) && lxl l r)) = true := h
    have hl : l.length + 1 ≤ 18 := hl
    rw [Bool.or_eq_true, Bool.and_eq_true] at h
    rcases h with h | ⟨e, h⟩
    · exact ⟨0, by decide, by decide, fun j j0 j1 => absurd j1 (by omega), of_decide_eq_true h⟩
    · have e := of_decide_eq_true e
      have key : ∀ (l r : List Int), lxl l r = true → ∃ k : Nat, k < l.length ∧ (∀ j : Nat, j < k → l.getD j 0 = r.getD j 0) ∧ l.getD k 0 < r.getD k 0 := by
        intro l
        induction l with
        | nil => intro r h; cases h
        | cons a l ih =>
          intro r h
          cases r with
          | nil => cases h
          | cons b r =>
            have h : (decide (a < b) || (decide (a = b) && lxl l r)) = true := h
            rw [Bool.or_eq_true, Bool.and_eq_true] at h
            rcases h with h | ⟨e, h⟩
            · exact ⟨0, Nat.succ_pos _, fun j hj => absurd hj (Nat.not_lt_zero j), of_decide_eq_true h⟩
            · obtain ⟨k, k1, k2, k3⟩ := ih r h
              refine ⟨k + 1, Nat.succ_lt_succ k1, fun j hj => ?_, k3⟩
              cases j with
              | zero => exact of_decide_eq_true e
              | succ j => exact k2 j (by omega)
      obtain ⟨k, k1, k2, k3⟩ := key l r h
      refine ⟨((k + 1 : Nat) : Int), by omega, by omega, fun j j0 j1 => ?_, ?_⟩
      · show (a :: l).getD j.toNat 0 = (b :: r).getD j.toNat 0
        by_cases c : j = 0
        · subst c; exact e
        · rw [gd_s a l (by omega), gd_s b r (by omega)]; exact k2 _ (by omega)
      · show (a :: l).getD (((k + 1 : Nat) : Int)).toNat 0 < (b :: r).getD (((k + 1 : Nat) : Int)).toNat 0
        rw [Int.toNat_natCast]; exact k3
noncomputable def ckX : List (List Int) → Bool
  | a :: b :: ls => lxl b a && ckX (b :: ls)
  | _ => true
theorem ckX_at : ∀ (ls : List (List Int)), ckX ls = true → ∀ (i j : Nat) (a b : List Int), i < j → ls[i]? = some a → ls[j]? = some b → lxl b a = true
  | [], _, i, _, _, _, _, h, _ => by cases h
  | [x], _, i, j, a, b, hij, h1, h2 => by
    match j, hij, h2 with
    | j + 1, _, h2 => cases h2
  | x :: y :: ls, h, i, j, a, b, hij, h1, h2 => by
    have h : (lxl y x && ckX (y :: ls)) = true := h
    rw [Bool.and_eq_true] at h
    match i, j, hij, h1, h2 with
    | 0, j + 1, _, h1, h2 =>
      have h1 : some x = some a := h1
      cases h1
      have h2 : (y :: ls)[j]? = some b := h2
      by_cases c : j = 0
      · subst c
        have h2 : some y = some b := h2
        cases h2
        exact h.1
      · exact lxl_t (ckX_at (y :: ls) h.2 0 j y b (by omega) rfl h2) h.1
    | i + 1, j + 1, hij, h1, h2 => exact ckX_at (y :: ls) h.2 i j a b (by omega) h1 h2
set_option maxRecDepth 100000 in
theorem PLx : ∀ N, N < 19 → 1 ≤ N → ckX (PL 37 N 18) = true := by decide +kernel
/-- what lies at a place of a stand's heaps -/
noncomputable def hpk (N s k : Int) : Int := (hpl N s).getD k.toNat 0
theorem hpl_l {N s : Int} (hN : 1 ≤ N ∧ N ≤ 18) (h0 : 0 ≤ s) (h1 : s < pN N) : 1 ≤ (hpl N s).length ∧ (hpl N s).length ≤ 18 ∧ (∀ a ∈ hpl N s, 1 ≤ a) := by
  have v := vb_l (vb_at hN h0 h1)
  unfold hpl
  rw [List.length_reverse]
  exact ⟨v.1, v.2.1, fun a ha => v.2.2.1 a (List.mem_reverse.mp ha)⟩
theorem hp_lt {N s t : Int} (hN : 1 ≤ N ∧ N ≤ 18) (h0 : 0 ≤ s) (h1 : s < t) (h2 : t < pN N) : lxb (hpk N t) (hpk N s) := by
  have h := PLx N.toNat (by omega) (by omega)
  have a := PL_at hN h0 (show s < pN N by omega)
  have b := PL_at hN (show 0 ≤ t by omega) h2
  exact lxl_b (hpl_l hN (by omega) h2).2.1 (ckX_at _ h s.toNat t.toNat _ _ (by omega) a b)
/-- the middle lies ahead of heaps just if its number is less -/
theorem hp_mid {N s m : Int} {a : Int → Int} (hN : 1 ≤ N ∧ N ≤ 18) (h0 : 0 ≤ s) (h1 : s < pN N) (m0 : 0 ≤ m) (m1 : m < pN N) (ha : ∀ k : Int, 0 ≤ k → k < 18 → a k = hpk N s k) : lxb a (hpk N m) ↔ m < s := by
  constructor
  · intro h
    have h2 : lxb (hpk N s) (hpk N m) := lxb_c (fun k k0 k1 => (ha k k0 k1).symm) (fun _ _ _ => rfl) h
    by_cases c : m < s
    · exact c
    · by_cases e : m = s
      · subst e; exact absurd h2 (lxb_i (fun _ _ _ => rfl))
      · exact absurd h2 (lxb_n (hp_lt hN h0 (by omega) m1))
  · intro h
    exact lxb_c ha (fun _ _ _ => rfl) (hp_lt hN m0 h h1)
end LXa
/-! rows in order with the same numbers in them are the same -/
section LXb
/-- how many of the first k numbers of a row are v at least -/
def cge (a : Int → Int) (v : Int) : Nat → Int
  | 0 => 0
  | k + 1 => (if v ≤ a (k : Int) then 1 else 0) + cge a v k
theorem cge_all {a : Int → Int} {v : Int} : ∀ (k : Nat), (∀ j : Nat, j < k → v ≤ a (j : Int)) → cge a v k = (k : Int)
  | 0, _ => rfl
  | k + 1, h => by
    show (if v ≤ a (k : Int) then 1 else 0) + cge a v k = ((k + 1 : Nat) : Int)
    rw [if_pos (h k (Nat.lt_succ_self k)), cge_all k (fun j hj => h j (by omega))]; omega
theorem cge_le {a : Int → Int} {v : Int} {k : Nat} : ∀ (n : Nat), (∀ j : Nat, k ≤ j → j < n → a (j : Int) < v) → cge a v n ≤ (k : Int) ∨ n ≤ k
  | 0, _ => Or.inr (Nat.zero_le _)
  | n + 1, h => by
    by_cases c : n + 1 ≤ k
    · exact Or.inr c
    · left
      have e : cge a v (n + 1) = (if v ≤ a (n : Int) then 1 else 0) + cge a v n := rfl
      have q := h n (by omega) (Nat.lt_succ_self n)
      rw [e, if_neg (by omega)]
      rcases cge_le n (fun j h1 h2 => h j h1 (by omega)) with r | r
      · omega
      · have : cge a v n ≤ (n : Int) := by
          have gen : ∀ m : Nat, cge a v m ≤ (m : Int) := by
            intro m
            induction m with
            | zero => exact Int.le_refl _
            | succ m ih =>
              show (if v ≤ a (m : Int) then 1 else 0) + cge a v m ≤ _
              split <;> omega
          exact gen n
        omega
theorem cge_m {a : Int → Int} {v : Int} {k : Nat} : ∀ (n : Nat), k ≤ n → cge a v k ≤ cge a v n
  | 0, h => by rw [show k = 0 by omega]; exact Int.le_refl _
  | n + 1, h => by
    by_cases c : k = n + 1
    · rw [c]; exact Int.le_refl _
    · have q := cge_m (a := a) (v := v) (k := k) n (by omega)
      show _ ≤ (if v ≤ a (n : Int) then 1 else 0) + cge a v n
      split <;> omega
def dsc (a : Int → Int) (n : Nat) : Prop := ∀ i j : Nat, i ≤ j → j < n → a (j : Int) ≤ a (i : Int)
theorem dsc_u {a b : Int → Int} {n : Nat} (ha : dsc a n) (hb : dsc b n) (h : ∀ v, 1 ≤ v → cge a v n = cge b v n) (pa : ∀ j : Nat, j < n → 0 ≤ a (j : Int)) (pb : ∀ j : Nat, j < n → 0 ≤ b (j : Int)) : ∀ k : Nat, k < n → a (k : Int) = b (k : Int) := by
  have half : ∀ (a b : Int → Int), dsc a n → dsc b n → (∀ v, 1 ≤ v → cge a v n = cge b v n) → (∀ j : Nat, j < n → 0 ≤ b (j : Int)) → ∀ k : Nat, k < n → ¬ b (k : Int) < a (k : Int) := by
    intro a b ha hb h pb k hk q
    have p := pb k hk
    have e := h (a (k : Int)) (by omega)
    have c1 := cge_all (a := a) (v := a (k : Int)) (k + 1) (fun j hj => ha j k (by omega) hk)
    have c2 := cge_m (a := a) (v := a (k : Int)) (k := k + 1) n (by omega)
    have c3 := cge_le (a := b) (v := a (k : Int)) (k := k) n (fun j h1 h2 => by have := hb k j h1 h2; omega)
    omega
  intro k hk
  have x := half a b ha hb h pb k hk
  have y := half b a hb ha (fun v hv => (h v hv).symm) pa k hk
  omega
end LXb
