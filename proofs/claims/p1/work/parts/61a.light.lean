set_option maxRecDepth 1000000 in
theorem eg_1 : (((cv_0_1).all fun a => (cv_0_2).all fun b => (cv_0_3).all fun c => (cv_0_4).all fun d => (cv_0_5).all fun e => ck2 false 89 157 [a, b, c, d, e]) &&
  (((cv_1_1).all fun a => ck2 false 90 182 [a]) &&
  (((cv_2_1).all fun a => ck2 false 91 183 [a]) &&
  (((cv_3_1).all fun a => ck2 false 92 199 [a]) &&
  (((cv_4_1).all fun a => ck2 false 93 200 [a]) &&
  (((cv_6_1).all fun a => ck2 false 95 206 [a]) &&
  (((cv_10_1).all fun a => ck2 false 99 215 [a]) &&
  (((cv_11_1).all fun a => ck2 false 100 216 [a]) &&
  (((cv_12_1).all fun a => (cv_12_2).all fun b => ck2 false 101 221 [a, b]) &&
  (((cv_13_1).all fun a => ck2 false 102 222 [a]) &&
  (((cv_15_1).all fun a => ck2 false 104 228 [a]) &&
  ((cv_16_1).all fun a => ck2 false 105 229 [a])))))))))))) = true := by decide +kernel
theorem ek_0 : ((cv_0_1).all fun a => (cv_0_2).all fun b => (cv_0_3).all fun c => (cv_0_4).all fun d => (cv_0_5).all fun e => ck2 false 89 157 [a, b, c, d, e]) = true := (mx_and eg_1).1
theorem ek_1 : ((cv_1_1).all fun a => ck2 false 90 182 [a]) = true := (mx_and (mx_and eg_1).2).1
theorem ek_2 : ((cv_2_1).all fun a => ck2 false 91 183 [a]) = true := (mx_and (mx_and (mx_and eg_1).2).2).1
theorem ek_3 : ((cv_3_1).all fun a => ck2 false 92 199 [a]) = true := (mx_and (mx_and (mx_and (mx_and eg_1).2).2).2).1
theorem ek_4 : ((cv_4_1).all fun a => ck2 false 93 200 [a]) = true := (mx_and (mx_and (mx_and (mx_and (mx_and eg_1).2).2).2).2).1
theorem ek_6 : ((cv_6_1).all fun a => ck2 false 95 206 [a]) = true := (mx_and (mx_and (mx_and (mx_and (mx_and (mx_and eg_1).2).2).2).2).2).1
theorem ek_10 : ((cv_10_1).all fun a => ck2 false 99 215 [a]) = true := (mx_and (mx_and (mx_and (mx_and (mx_and (mx_and (mx_and eg_1).2).2).2).2).2).2).1
theorem ek_11 : ((cv_11_1).all fun a => ck2 false 100 216 [a]) = true := (mx_and (mx_and (mx_and (mx_and (mx_and (mx_and (mx_and (mx_and eg_1).2).2).2).2).2).2).2).1
theorem ek_12 : ((cv_12_1).all fun a => (cv_12_2).all fun b => ck2 false 101 221 [a, b]) = true := (mx_and (mx_and (mx_and (mx_and (mx_and (mx_and (mx_and (mx_and (mx_and eg_1).2).2).2).2).2).2).2).2).1
theorem ek_13 : ((cv_13_1).all fun a => ck2 false 102 222 [a]) = true := (mx_and (mx_and (mx_and (mx_and (mx_and (mx_and (mx_and (mx_and (mx_and (mx_and eg_1).2).2).2).2).2).2).2).2).2).1
theorem ek_15 : ((cv_15_1).all fun a => ck2 false 104 228 [a]) = true := (mx_and (mx_and (mx_and (mx_and (mx_and (mx_and (mx_and (mx_and (mx_and (mx_and (mx_and eg_1).2).2).2).2).2).2).2).2).2).2).1
theorem ek_16 : ((cv_16_1).all fun a => ck2 false 105 229 [a]) = true := (mx_and (mx_and (mx_and (mx_and (mx_and (mx_and (mx_and (mx_and (mx_and (mx_and (mx_and eg_1).2).2).2).2).2).2).2).2).2).2).2
