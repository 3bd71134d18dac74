set_option maxRecDepth 1000000 in
theorem ok_ctor : (isv (tev 88 [.ref 1] h_1) && (Nat.beq h_2.1 56 && (isv (tev 155 [.ref 56] h_3) && (Nat.beq h_4.1 83 && (Nat.ble h_4.2.1 1000000 && (isc h_4 1 11 && isc h_4 56 12)))))) = true := by decide +kernel
