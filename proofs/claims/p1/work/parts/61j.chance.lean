set_option maxRecDepth 1000000 in
theorem ek_37_1 : ((cv_37_1).all fun a => (cw_37_1).all fun b => (cv_37_3).all fun c => ck3 false 126 275 [a, b, c]) = true := by decide +kernel
