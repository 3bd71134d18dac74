set_option maxRecDepth 1000000 in
theorem ek_21_1 : ((cv_21_1).all fun a => (cw_21_1).all fun b => ck3 true 110 245 [a, b]) = true := by decide +kernel
