set_option maxRecDepth 1000000 in
theorem ek_7_1 : ((cw_7_1).all fun a => ck3 false 96 207 [a]) = true := by sorry
set_option maxRecDepth 1000000 in
theorem ek_21_1 : ((cv_21_1).all fun a => (cw_21_1).all fun b => ck3 true 110 245 [a, b]) = true := by sorry
set_option maxRecDepth 1000000 in
theorem ek_37_1 : ((cv_37_1).all fun a => (cw_37_1).all fun b => (cv_37_3).all fun c => ck3 false 126 275 [a, b, c]) = true := by sorry
set_option maxRecDepth 1000000 in
theorem ek_38_1 : ((cw_38_1).all fun a => (cv_38_2).all fun b => ck3 false 127 276 [a, b]) = true := by sorry
