set_option maxRecDepth 1000000 in
theorem eg_4 : (((cv_34_1).all fun a => ck2 false 123 268 [a]) &&
  (((cv_35_1).all fun a => ck2 false 124 269 [a]) &&
  (((cv_36_1).all fun a => ck2 false 125 270 [a]) &&
  (((cv_40_1).all fun a => (cv_40_2).all fun b => (cv_40_3).all fun c => ck2 true 129 279 [a, b, c]) &&
  (((cv_41_1).all fun a => (cv_41_2).all fun b => ck2 false 130 280 [a, b]) &&
  (((cv_42_1).all fun a => ck2 false 131 281 [a]) &&
  (((cv_43_1).all fun a => ck2 false 132 282 [a]) &&
  ((cv_44_1).all fun a => ck2 false 133 283 [a])))))))) = true := by decide +kernel
theorem ek_34 : ((cv_34_1).all fun a => ck2 false 123 268 [a]) = true := (mx_and eg_4).1
theorem ek_35 : ((cv_35_1).all fun a => ck2 false 124 269 [a]) = true := (mx_and (mx_and eg_4).2).1
theorem ek_36 : ((cv_36_1).all fun a => ck2 false 125 270 [a]) = true := (mx_and (mx_and (mx_and eg_4).2).2).1
theorem ek_40 : ((cv_40_1).all fun a => (cv_40_2).all fun b => (cv_40_3).all fun c => ck2 true 129 279 [a, b, c]) = true := (mx_and (mx_and (mx_and (mx_and eg_4).2).2).2).1
theorem ek_41 : ((cv_41_1).all fun a => (cv_41_2).all fun b => ck2 false 130 280 [a, b]) = true := (mx_and (mx_and (mx_and (mx_and (mx_and eg_4).2).2).2).2).1
theorem ek_42 : ((cv_42_1).all fun a => ck2 false 131 281 [a]) = true := (mx_and (mx_and (mx_and (mx_and (mx_and (mx_and eg_4).2).2).2).2).2).1
theorem ek_43 : ((cv_43_1).all fun a => ck2 false 132 282 [a]) = true := (mx_and (mx_and (mx_and (mx_and (mx_and (mx_and (mx_and eg_4).2).2).2).2).2).2).1
theorem ek_44 : ((cv_44_1).all fun a => ck2 false 133 283 [a]) = true := (mx_and (mx_and (mx_and (mx_and (mx_and (mx_and (mx_and eg_4).2).2).2).2).2).2).2
