set_option maxRecDepth 1000000 in
theorem ek_7_1 : ((cw_7_1).all fun a => ck3 false 96 207 [a]) = true := by decide +kernel
