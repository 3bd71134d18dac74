set_option maxRecDepth 1000000 in
theorem ok_all : h_2.1 = 56 ∧ h_4.1 = 83 ∧ h_4.2.1 ≤ 1000000 ∧ isc h_4 1 11 = true ∧ isc h_4 56 12 = true ∧ isv (tev 88 [.ref 1] h_1) = true ∧ isv (tev 155 [.ref 56] h_3) = true := by decide +kernel
theorem ok_v1 : tev 88 [.ref 1] h_1 = some (none, h_2) := isv_ok ok_all.2.2.2.2.2.1
theorem ok_v2 : tev 155 [.ref 56] h_3 = some (none, h_4) := isv_ok ok_all.2.2.2.2.2.2
