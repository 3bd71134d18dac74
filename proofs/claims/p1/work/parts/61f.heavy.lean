set_option maxRecDepth 1000000 in
theorem ek_9_1 : ((cw_9_1).all fun a => (cv_9_2).all fun b => ck3 false 98 214 [a, b]) = true := by decide +kernel
set_option maxRecDepth 1000000 in
theorem ek_9_2 : ((cw_9_2).all fun a => (cv_9_2).all fun b => ck3 false 98 214 [a, b]) = true := by decide +kernel
set_option maxRecDepth 1000000 in
theorem ek_9_3 : ((cw_9_3).all fun a => (cv_9_2).all fun b => ck3 false 98 214 [a, b]) = true := by decide +kernel
set_option maxRecDepth 1000000 in
theorem ek_9_4 : ((cw_9_4).all fun a => (cv_9_2).all fun b => ck3 false 98 214 [a, b]) = true := by decide +kernel
set_option maxRecDepth 1000000 in
theorem ek_9_5 : ((cw_9_5).all fun a => (cv_9_2).all fun b => ck3 false 98 214 [a, b]) = true := by decide +kernel
