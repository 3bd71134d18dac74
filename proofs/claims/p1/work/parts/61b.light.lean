set_option maxRecDepth 1000000 in
theorem eg_2 : (((cv_22_1).all fun a => ck2 false 111 247 [a]) &&
  ((ck2 false 112 248 []) &&
  (((cv_24_1).all fun a => ck2 false 113 249 [a]) &&
  (((cv_25_1).all fun a => (cv_25_2).all fun b => ck2 false 114 250 [a, b]) &&
  ((ck2 false 115 251 []) &&
  (((cv_27_1).all fun a => ck2 false 116 253 [a]) &&
  ((ck2 false 117 254 []) &&
  (((cv_29_1).all fun a => ck2 true 118 258 [a]) &&
  (((cv_30_1).all fun a => (cv_30_2).all fun b => ck2 false 119 259 [a, b]) &&
  (((cv_31_1).all fun a => (cv_31_2).all fun b => ck2 false 120 260 [a, b]) &&
  (((cv_32_1).all fun a => ck2 false 121 262 [a]) &&
  (((cv_33_1).all fun a => ck2 false 122 264 [a]) &&
  (((cv_34_1).all fun a => ck2 false 123 268 [a]) &&
  (((cv_35_1).all fun a => ck2 false 124 269 [a]) &&
  (((cv_36_1).all fun a => ck2 false 125 270 [a]) &&
  (((cv_40_1).all fun a => (cv_40_2).all fun b => (cv_40_3).all fun c => ck2 true 129 279 [a, b, c]) &&
  (((cv_41_1).all fun a => (cv_41_2).all fun b => ck2 false 130 280 [a, b]) &&
  (((cv_42_1).all fun a => ck2 false 131 281 [a]) &&
  (((cv_43_1).all fun a => ck2 false 132 282 [a]) &&
  ((cv_44_1).all fun a => ck2 false 133 283 [a])))))))))))))))))))) = true := by decide +kernel
theorem ek_22 : ((cv_22_1).all fun a => ck2 false 111 247 [a]) = true := (mx_and eg_2).1
theorem ek_23 : (ck2 false 112 248 []) = true := (mx_and (mx_and eg_2).2).1
theorem ek_24 : ((cv_24_1).all fun a => ck2 false 113 249 [a]) = true := (mx_and (mx_and (mx_and eg_2).2).2).1
theorem ek_25 : ((cv_25_1).all fun a => (cv_25_2).all fun b => ck2 false 114 250 [a, b]) = true := (mx_and (mx_and (mx_and (mx_and eg_2).2).2).2).1
theorem ek_26 : (ck2 false 115 251 []) = true := (mx_and (mx_and (mx_and (mx_and (mx_and eg_2).2).2).2).2).1
theorem ek_27 : ((cv_27_1).all fun a => ck2 false 116 253 [a]) = true := (mx_and (mx_and (mx_and (mx_and (mx_and (mx_and eg_2).2).2).2).2).2).1
theorem ek_28 : (ck2 false 117 254 []) = true := (mx_and (mx_and (mx_and (mx_and (mx_and (mx_and (mx_and eg_2).2).2).2).2).2).2).1
theorem ek_29 : ((cv_29_1).all fun a => ck2 true 118 258 [a]) = true := (mx_and (mx_and (mx_and (mx_and (mx_and (mx_and (mx_and (mx_and eg_2).2).2).2).2).2).2).2).1
theorem ek_30 : ((cv_30_1).all fun a => (cv_30_2).all fun b => ck2 false 119 259 [a, b]) = true := (mx_and (mx_and (mx_and (mx_and (mx_and (mx_and (mx_and (mx_and (mx_and eg_2).2).2).2).2).2).2).2).2).1
theorem ek_31 : ((cv_31_1).all fun a => (cv_31_2).all fun b => ck2 false 120 260 [a, b]) = true := (mx_and (mx_and (mx_and (mx_and (mx_and (mx_and (mx_and (mx_and (mx_and (mx_and eg_2).2).2).2).2).2).2).2).2).2).1
theorem ek_32 : ((cv_32_1).all fun a => ck2 false 121 262 [a]) = true := (mx_and (mx_and (mx_and (mx_and (mx_and (mx_and (mx_and (mx_and (mx_and (mx_and (mx_and eg_2).2).2).2).2).2).2).2).2).2).2).1
theorem ek_33 : ((cv_33_1).all fun a => ck2 false 122 264 [a]) = true := (mx_and (mx_and (mx_and (mx_and (mx_and (mx_and (mx_and (mx_and (mx_and (mx_and (mx_and (mx_and eg_2).2).2).2).2).2).2).2).2).2).2).2).1
theorem ek_34 : ((cv_34_1).all fun a => ck2 false 123 268 [a]) = true := (mx_and (mx_and (mx_and (mx_and (mx_and (mx_and (mx_and (mx_and (mx_and (mx_and (mx_and (mx_and (mx_and eg_2).2).2).2).2).2).2).2).2).2).2).2).2).1
theorem ek_35 : ((cv_35_1).all fun a => ck2 false 124 269 [a]) = true := (mx_and (mx_and (mx_and (mx_and (mx_and (mx_and (mx_and (mx_and (mx_and (mx_and (mx_and (mx_and (mx_and (mx_and eg_2).2).2).2).2).2).2).2).2).2).2).2).2).2).1
theorem ek_36 : ((cv_36_1).all fun a => ck2 false 125 270 [a]) = true := (mx_and (mx_and (mx_and (mx_and (mx_and (mx_and (mx_and (mx_and (mx_and (mx_and (mx_and (mx_and (mx_and (mx_and (mx_and eg_2).2).2).2).2).2).2).2).2).2).2).2).2).2).2).1
theorem ek_40 : ((cv_40_1).all fun a => (cv_40_2).all fun b => (cv_40_3).all fun c => ck2 true 129 279 [a, b, c]) = true := (mx_and (mx_and (mx_and (mx_and (mx_and (mx_and (mx_and (mx_and (mx_and (mx_and (mx_and (mx_and (mx_and (mx_and (mx_and (mx_and eg_2).2).2).2).2).2).2).2).2).2).2).2).2).2).2).2).1
theorem ek_41 : ((cv_41_1).all fun a => (cv_41_2).all fun b => ck2 false 130 280 [a, b]) = true := (mx_and (mx_and (mx_and (mx_and (mx_and (mx_and (mx_and (mx_and (mx_and (mx_and (mx_and (mx_and (mx_and (mx_and (mx_and (mx_and (mx_and eg_2).2).2).2).2).2).2).2).2).2).2).2).2).2).2).2).2).1
theorem ek_42 : ((cv_42_1).all fun a => ck2 false 131 281 [a]) = true := (mx_and (mx_and (mx_and (mx_and (mx_and (mx_and (mx_and (mx_and (mx_and (mx_and (mx_and (mx_and (mx_and (mx_and (mx_and (mx_and (mx_and (mx_and eg_2).2).2).2).2).2).2).2).2).2).2).2).2).2).2).2).2).2).1
theorem ek_43 : ((cv_43_1).all fun a => ck2 false 132 282 [a]) = true := (mx_and (mx_and (mx_and (mx_and (mx_and (mx_and (mx_and (mx_and (mx_and (mx_and (mx_and (mx_and (mx_and (mx_and (mx_and (mx_and (mx_and (mx_and (mx_and eg_2).2).2).2).2).2).2).2).2).2).2).2).2).2).2).2).2).2).2).1
theorem ek_44 : ((cv_44_1).all fun a => ck2 false 133 283 [a]) = true := (mx_and (mx_and (mx_and (mx_and (mx_and (mx_and (mx_and (mx_and (mx_and (mx_and (mx_and (mx_and (mx_and (mx_and (mx_and (mx_and (mx_and (mx_and (mx_and eg_2).2).2).2).2).2).2).2).2).2).2).2).2).2).2).2).2).2).2).2
