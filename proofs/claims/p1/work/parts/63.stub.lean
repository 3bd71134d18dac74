section TW2
variable {s : State} {l : Launch} {D : va_G} {a0 : Nat} {ag : Nat → Int64} {xs : Nat → Int32}
theorem tw_14 (hag : (∀ i, 1 ≤ i → i ≤ 5 → ag i = (xs i).toInt64) ∧ ag 6 = ((xs 1).toInt64 <<< ((32 : Int32).toInt64 &&& 63) ||| ((xs 2).toInt64 &&& 4294967295)) ∧ ag 7 = ((xs 3).toInt64 <<< ((32 : Int32).toInt64 &&& 63) ||| ((xs 4).toInt64 &&& 4294967295))) : ∃ as : List Value, as.map (mx_v (tB l D s.heap.size (fun _ => a0) s.heap (mx_tau ag)).2.1.1) = [.int (xs 1), .int (xs 2)] ∧ as.length = 2 ∧ mx_Tw (tB l D s.heap.size (fun _ => a0) s.heap (mx_tau ag)) false 103 225 as := by
  sorry
end TW2
