set_option maxRecDepth 1000000 in
theorem ek_5_1 : ((cw_5_1).all fun a => (cv_5_2).all fun b => ck3 false 94 201 [a, b]) = true := by decide +kernel
