set_option maxRecDepth 1000000 in
theorem ek_39_1 : ((cw_39_1).all fun a => (cv_39_2).all fun b => (cv_39_3).all fun c => ck3 false 128 278 [a, b, c]) = true := by decide +kernel
set_option maxRecDepth 1000000 in
theorem ek_39_2 : ((cw_39_2).all fun a => (cv_39_2).all fun b => (cv_39_3).all fun c => ck3 false 128 278 [a, b, c]) = true := by decide +kernel
set_option maxRecDepth 1000000 in
theorem ek_39_3 : ((cw_39_3).all fun a => (cv_39_2).all fun b => (cv_39_3).all fun c => ck3 false 128 278 [a, b, c]) = true := by decide +kernel
set_option maxRecDepth 1000000 in
theorem ek_39_4 : ((cw_39_4).all fun a => (cv_39_2).all fun b => (cv_39_3).all fun c => ck3 false 128 278 [a, b, c]) = true := by decide +kernel
