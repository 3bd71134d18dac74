set_option maxRecDepth 1000000 in
theorem eg_3 : (((cv_22_1).all fun a => ck2 false 111 247 [a]) &&
  ((ck2 false 112 248 []) &&
  (((cv_24_1).all fun a => ck2 false 113 249 [a]) &&
  (((cv_25_1).all fun a => (cv_25_2).all fun b => ck2 false 114 250 [a, b]) &&
  ((ck2 false 115 251 []) &&
  (((cv_27_1).all fun a => ck2 false 116 253 [a]) &&
  ((ck2 false 117 254 []) &&
  (((cv_29_1).all fun a => ck2 true 118 258 [a]) &&
  (((cv_30_1).all fun a => (cv_30_2).all fun b => ck2 false 119 259 [a, b]) &&
  (((cv_31_1).all fun a => (cv_31_2).all fun b => ck2 false 120 260 [a, b]) &&
  (((cv_32_1).all fun a => ck2 false 121 262 [a]) &&
  ((cv_33_1).all fun a => ck2 false 122 264 [a])))))))))))) = true := by decide +kernel
theorem ek_22 : ((cv_22_1).all fun a => ck2 false 111 247 [a]) = true := (mx_and eg_3).1
theorem ek_23 : (ck2 false 112 248 []) = true := (mx_and (mx_and eg_3).2).1
theorem ek_24 : ((cv_24_1).all fun a => ck2 false 113 249 [a]) = true := (mx_and (mx_and (mx_and eg_3).2).2).1
theorem ek_25 : ((cv_25_1).all fun a => (cv_25_2).all fun b => ck2 false 114 250 [a, b]) = true := (mx_and (mx_and (mx_and (mx_and eg_3).2).2).2).1
theorem ek_26 : (ck2 false 115 251 []) = true := (mx_and (mx_and (mx_and (mx_and (mx_and eg_3).2).2).2).2).1
theorem ek_27 : ((cv_27_1).all fun a => ck2 false 116 253 [a]) = true := (mx_and (mx_and (mx_and (mx_and (mx_and (mx_and eg_3).2).2).2).2).2).1
theorem ek_28 : (ck2 false 117 254 []) = true := (mx_and (mx_and (mx_and (mx_and (mx_and (mx_and (mx_and eg_3).2).2).2).2).2).2).1
theorem ek_29 : ((cv_29_1).all fun a => ck2 true 118 258 [a]) = true := (mx_and (mx_and (mx_and (mx_and (mx_and (mx_and (mx_and (mx_and eg_3).2).2).2).2).2).2).2).1
theorem ek_30 : ((cv_30_1).all fun a => (cv_30_2).all fun b => ck2 false 119 259 [a, b]) = true := (mx_and (mx_and (mx_and (mx_and (mx_and (mx_and (mx_and (mx_and (mx_and eg_3).2).2).2).2).2).2).2).2).1
theorem ek_31 : ((cv_31_1).all fun a => (cv_31_2).all fun b => ck2 false 120 260 [a, b]) = true := (mx_and (mx_and (mx_and (mx_and (mx_and (mx_and (mx_and (mx_and (mx_and (mx_and eg_3).2).2).2).2).2).2).2).2).2).1
theorem ek_32 : ((cv_32_1).all fun a => ck2 false 121 262 [a]) = true := (mx_and (mx_and (mx_and (mx_and (mx_and (mx_and (mx_and (mx_and (mx_and (mx_and (mx_and eg_3).2).2).2).2).2).2).2).2).2).2).1
theorem ek_33 : ((cv_33_1).all fun a => ck2 false 122 264 [a]) = true := (mx_and (mx_and (mx_and (mx_and (mx_and (mx_and (mx_and (mx_and (mx_and (mx_and (mx_and eg_3).2).2).2).2).2).2).2).2).2).2).2
