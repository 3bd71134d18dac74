set_option maxRecDepth 1000000 in
theorem ek_38_1 : ((cw_38_1).all fun a => (cv_38_2).all fun b => ck3 false 127 276 [a, b]) = true := by decide +kernel
