set_option maxRecDepth 1000000 in
theorem ek_39_2 : ((cw_39_2).all fun a => (cv_39_2).all fun b => (cv_39_3).all fun c => ck3 false 128 278 [a, b, c]) = true := by decide +kernel
