noncomputable def LBm : List (Nat × mx_C) := LB.drop 54
set_option maxRecDepth 1000000 in
theorem ex_7a : ∀ n, n < 45 → rcx 30 96 [.ref 1, .int (nI (1 + n))] 83 62985 LBc (some (.int 1)) = true := by decide +kernel
set_option maxRecDepth 1000000 in
theorem ex_7b : ∀ n, n < 20 → rcx 30 96 [.ref 1, .int (nI (46 + n))] 83 62985 LBc (some (.int 1)) = true := by decide +kernel
set_option maxRecDepth 1000000 in
theorem ex_7c : ∀ n, n < 18 → rcx 30 96 [.ref 1, .int (nI (66 + n))] 83 62985 LBc (some (.int 1)) = true := by decide +kernel
set_option maxRecDepth 1000000 in
theorem ex_7d : ∀ n, n < 16 → rcx 30 96 [.ref 1, .int (nI (84 + n))] 83 62985 LBc (some (.int 1)) = true := by decide +kernel
theorem ex_7 {n : Nat} (h1 : 1 ≤ n) (hn : n < 100) : rcx 30 96 [.ref 1, .int (nI n)] 83 62985 LBc (some (.int 1)) = true := by
  by_cases a : n < 46
  · have := ex_7a (n - 1) (by omega); rw [show 1 + (n - 1) = n by omega] at this; exact this
  · by_cases b : n < 66
    · have := ex_7b (n - 46) (by omega); rw [show 46 + (n - 46) = n by omega] at this; exact this
    · by_cases c : n < 84
      · have := ex_7c (n - 66) (by omega); rw [show 66 + (n - 66) = n by omega] at this; exact this
      · have := ex_7d (n - 84) (by omega); rw [show 84 + (n - 84) = n by omega] at this; exact this
set_option maxRecDepth 1000000 in
theorem em_21 : ∀ n, n < 10 → rcx 30 245 [.ref 56, .int 1, .int (nI n)] 83 62985 LBm (some (.long (0 + pw2 n))) = true ∧ rcx 30 245 [.ref 56, .float (mx_t 1 4 20), .int (nI n)] 83 62985 LBm (some (.long (0 + 0))) = true := by decide +kernel
