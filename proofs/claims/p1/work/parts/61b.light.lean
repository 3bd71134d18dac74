set_option maxRecDepth 1000000 in
theorem eg_2 : (((cv_17_1).all fun a => ck2 false 106 233 [a]) &&
  (((cv_18_1).all fun a => ck2 false 107 234 [a]) &&
  (((cv_19_1).all fun a => ck2 false 108 241 [a]) &&
  ((cv_20_1).all fun a => (cv_20_2).all fun b => ck2 false 109 242 [a, b])))) = true := by decide +kernel
theorem ek_17 : ((cv_17_1).all fun a => ck2 false 106 233 [a]) = true := (mx_and eg_2).1
theorem ek_18 : ((cv_18_1).all fun a => ck2 false 107 234 [a]) = true := (mx_and (mx_and eg_2).2).1
theorem ek_19 : ((cv_19_1).all fun a => ck2 false 108 241 [a]) = true := (mx_and (mx_and (mx_and eg_2).2).2).1
theorem ek_20 : ((cv_20_1).all fun a => (cv_20_2).all fun b => ck2 false 109 242 [a, b]) = true := (mx_and (mx_and (mx_and eg_2).2).2).2
