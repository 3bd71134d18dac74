/-! numbers that aren't known: which ones stand for a script's; a list of them that leaves none out -/
noncomputable def mx_tau (ag : Nat → Int64) (t : Nat) : Int64 := if (mx_iv t).1 ≤ (ag (t % 8)).toInt ∧ (ag (t % 8)).toInt ≤ (mx_iv t).2 then ag (t % 8) else Int64.ofInt (mx_iv t).1
theorem mx_bd_in (k : Nat) : -9223372036854775808 ≤ mx_bd k ∧ mx_bd k ≤ 9223372036854775807 := by
  unfold mx_bd
  by_cases h : k < 56
  · rw [if_pos h]; omega
  · rw [if_neg h]
    generalize k - 56 = j
    match j with
    | 0 | 1 | 2 | 3 | 4 | 5 | 6 | 7 => decide
    | j + 8 => simp
theorem mx_tau_in (ag : Nat → Int64) (t : Nat) (h : (mx_iv t).1 ≤ (mx_iv t).2) : (mx_iv t).1 ≤ (mx_tau ag t).toInt ∧ (mx_tau ag t).toInt ≤ (mx_iv t).2 := by
  unfold mx_tau
  by_cases hc : (mx_iv t).1 ≤ (ag (t % 8)).toInt ∧ (ag (t % 8)).toInt ≤ (mx_iv t).2
  · rw [if_pos hc]; exact hc
  · rw [if_neg hc]
    have h1 := mx_bd_in (t / 8 % 64)
    have h2 : (mx_iv t).1 = mx_bd (t / 8 % 64) := rfl
    have h3 : (Int64.ofInt (mx_iv t).1).toInt = (mx_iv t).1 := by
      rw [Int64.toInt_ofInt, show Int64.size = 18446744073709551616 from rfl]
      exact Int.bmod_eq_of_le (by rw [h2]; omega) (by rw [h2]; omega)
    rw [h3]; exact ⟨Int.le_refl _, h⟩
theorem mx_tau_eq {ag : Nat → Int64} {t : Nat} (h1 : (mx_iv t).1 ≤ (ag (t % 8)).toInt) (h2 : (ag (t % 8)).toInt ≤ (mx_iv t).2) : mx_tau ag t = ag (t % 8) := by
  unfold mx_tau
  rw [if_pos ⟨h1, h2⟩]
/-- the number of position p between bounds a and b (by their places) -/
noncomputable def mx_t (p a b : Nat) : UInt32 := UInt32.ofNat (p + 8 * a + 512 * b)
noncomputable def mx_tl (p a b : Nat) : UInt64 := UInt64.ofNat (p + 8 * a + 512 * b)
noncomputable def mx_pos (p : Nat) : Value → Bool
  | .int _ => true
  | .long _ => true
  | .float t => Nat.beq (t.toNat % 8) p
  | .double t => Nat.beq (t.toNat % 8) p
  | _ => false
noncomputable def mx_cov (p : Nat) : Int → List Value → Bool
  | c, [] => decide (c = 2147483648)
  | c, av :: r => match mx_rng av with
    | some iv => decide (iv.1 = c) && (mx_pos p av && mx_cov p (iv.2 + 1) r)
    | none => false
noncomputable def mx_covL (p : Nat) : Int → List Value → Bool
  | c, [] => decide (c = 9223372036854775808)
  | c, av :: r => match mx_rngL av with
    | some iv => decide (iv.1 = c) && (mx_pos p av && mx_covL p (iv.2 + 1) r)
    | none => false
theorem mx_cov_ok {E : mx_E} {ag : Nat → Int64} (hE : E.2.2.2.2.2.2 = mx_tau ag) {p : Nat} {x : Int32} (hx : ag p = x.toInt64) : ∀ (l : List Value) (c : Int), c ≤ x.toInt → mx_cov p c l = true → ∃ av ∈ l, mx_v E av = .int x
  | [], c, hc, h => by
    unfold mx_cov at h
    have h1 := of_decide_eq_true h
    have h2 : x.toInt < 2147483648 := Int32.toInt_lt x
    omega
  | av :: r, c, hc, h => by
    unfold mx_cov at h
    split at h
    · rename_i iv hiv
      obtain ⟨h1, h2⟩ := mx_and h
      obtain ⟨h7, h3⟩ := mx_and h2
      have h1 := of_decide_eq_true h1
      by_cases hle : x.toInt ≤ iv.2
      · refine ⟨av, List.mem_cons_self, ?_⟩
        cases av with
        | int y =>
          simp only [mx_rng] at hiv
          cases hiv
          have hxy : x = y := Int32.toInt_inj.mp (by dsimp only at h1 hle; omega)
          rw [hxy]; rfl
        | float t =>
          simp only [mx_rng] at hiv
          split at hiv
          · rename_i hcc
            cases hiv
            have hp : t.toNat % 8 = p := Nat.eq_of_beq_eq_true h7
            have hxx : (ag (t.toNat % 8)).toInt = x.toInt := by rw [hp, hx, Int32.toInt_toInt64]
            show Value.int (mx_fl E.2.2.2.2.2.2 t.toNat) = .int x
            rw [mx_fl_lo hcc.2.2.2, hE, mx_tau_eq (by rw [hxx]; omega) (by rw [hxx]; exact hle), hp, hx]
            congr 1
            exact Int32.toInt32_toInt64 x
          · cases hiv
        | long _ => cases hiv
        | double _ => cases hiv
        | null => cases hiv
        | ref _ => cases hiv
        | retAddr _ => cases hiv
      · obtain ⟨a2, h4, h5⟩ := mx_cov_ok hE hx r (iv.2 + 1) (by omega) h3
        exact ⟨a2, List.mem_cons_of_mem _ h4, h5⟩
    · cases h
theorem mx_covL_ok {E : mx_E} {ag : Nat → Int64} (hE : E.2.2.2.2.2.2 = mx_tau ag) {p : Nat} {x : Int64} (hx : ag p = x) : ∀ (l : List Value) (c : Int), c ≤ x.toInt → mx_covL p c l = true → ∃ av ∈ l, mx_v E av = .long x
  | [], c, hc, h => by
    unfold mx_covL at h
    have h1 := of_decide_eq_true h
    have h2 : x.toInt < 9223372036854775808 := Int64.toInt_lt x
    omega
  | av :: r, c, hc, h => by
    unfold mx_covL at h
    split at h
    · rename_i iv hiv
      obtain ⟨h1, h2⟩ := mx_and h
      obtain ⟨h7, h3⟩ := mx_and h2
      have h1 := of_decide_eq_true h1
      by_cases hle : x.toInt ≤ iv.2
      · refine ⟨av, List.mem_cons_self, ?_⟩
        cases av with
        | long y =>
          simp only [mx_rngL] at hiv
          cases hiv
          have hxy : x = y := Int64.toInt_inj.mp (by dsimp only at h1 hle; omega)
          rw [hxy]; rfl
        | double t =>
          simp only [mx_rngL] at hiv
          split at hiv
          · rename_i hcc
            cases hiv
            have hp : t.toNat % 8 = p := Nat.eq_of_beq_eq_true h7
            have hxx : (ag (t.toNat % 8)).toInt = x.toInt := by rw [hp, hx]
            show Value.long (E.2.2.2.2.2.2 t.toNat) = .long x
            rw [hE, mx_tau_eq (by rw [hxx]; omega) (by rw [hxx]; exact hle), hp, hx]
          · cases hiv
        | int _ => cases hiv
        | float _ => cases hiv
        | null => cases hiv
        | ref _ => cases hiv
        | retAddr _ => cases hiv
      · obtain ⟨a2, h4, h5⟩ := mx_covL_ok hE hx r (iv.2 + 1) (by omega) h3
        exact ⟨a2, List.mem_cons_of_mem _ h4, h5⟩
    · cases h
theorem mx_cov_all {E : mx_E} {ag : Nat → Int64} (hE : E.2.2.2.2.2.2 = mx_tau ag) {p : Nat} {x : Int32} (hx : ag p = x.toInt64) {l : List Value} (h : mx_cov p (-2147483648) l = true) : ∃ av ∈ l, mx_v E av = .int x :=
  mx_cov_ok hE hx l _ (Int32.le_toInt x) h
theorem mx_covL_all {E : mx_E} {ag : Nat → Int64} (hE : E.2.2.2.2.2.2 = mx_tau ag) {p : Nat} {x : Int64} (hx : ag p = x) {l : List Value} (h : mx_covL p (-9223372036854775808) l = true) : ∃ av ∈ l, mx_v E av = .long x :=
  mx_covL_ok hE hx l _ (Int64.le_toInt x) h
