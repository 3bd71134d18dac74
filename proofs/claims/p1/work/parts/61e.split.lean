set_option maxRecDepth 1000000 in
theorem ek_8_1 : ((cw_8_1).all fun a => (cv_8_2).all fun b => ck3 false 97 211 [a, b]) = true := by decide +kernel
