set_option maxRecDepth 1000000 in
theorem ek_5_1 : ((cw_5_1).all fun a => (cv_5_2).all fun b => ck3 false 94 201 [a, b]) = true := by decide +kernel
set_option maxRecDepth 1000000 in
theorem ek_8_1 : ((cw_8_1).all fun a => (cv_8_2).all fun b => ck3 false 97 211 [a, b]) = true := by decide +kernel
set_option maxRecDepth 1000000 in
theorem ek_8_2 : ((cw_8_2).all fun a => (cv_8_2).all fun b => ck3 false 97 211 [a, b]) = true := by decide +kernel
set_option maxRecDepth 1000000 in
theorem ek_8_3 : ((cw_8_3).all fun a => (cv_8_2).all fun b => ck3 false 97 211 [a, b]) = true := by decide +kernel
