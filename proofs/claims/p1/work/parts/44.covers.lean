noncomputable def cv_0_1 : List Value := [.float (mx_t 1 59 58)]
set_option maxRecDepth 1000000 in
theorem cc_0_1 : mx_cov 1 (-2147483648) cv_0_1 = true := by decide +kernel
noncomputable def cv_0_2 : List Value := [.float (mx_t 2 59 58)]
set_option maxRecDepth 1000000 in
theorem cc_0_2 : mx_cov 2 (-2147483648) cv_0_2 = true := by decide +kernel
noncomputable def cv_0_3 : List Value := [.float (mx_t 3 59 58)]
set_option maxRecDepth 1000000 in
theorem cc_0_3 : mx_cov 3 (-2147483648) cv_0_3 = true := by decide +kernel
noncomputable def cv_0_4 : List Value := [.float (mx_t 4 59 58)]
set_option maxRecDepth 1000000 in
theorem cc_0_4 : mx_cov 4 (-2147483648) cv_0_4 = true := by decide +kernel
noncomputable def cv_0_5 : List Value := [.float (mx_t 5 59 58)]
set_option maxRecDepth 1000000 in
theorem cc_0_5 : mx_cov 5 (-2147483648) cv_0_5 = true := by decide +kernel
noncomputable def cw_7_1 : List Value := [.float (mx_t 1 59 2)] ++ (pts 1 99 ++ ([.float (mx_t 1 57 58)]))
noncomputable def cv_7_1 : List Value := cw_7_1
set_option maxRecDepth 1000000 in
theorem cc_7_1 : mx_cov 1 (-2147483648) cv_7_1 = true := by decide +kernel
noncomputable def cv_1_1 : List Value := [.float (mx_t 1 59 1)] ++ (pts 0 1 ++ ([.float (mx_t 1 3 58)]))
set_option maxRecDepth 1000000 in
theorem cc_1_1 : mx_cov 1 (-2147483648) cv_1_1 = true := by decide +kernel
noncomputable def cv_2_1 : List Value := [.float (mx_t 1 59 1)] ++ (pts 0 2 ++ ([.float (mx_t 1 4 58)]))
set_option maxRecDepth 1000000 in
theorem cc_2_1 : mx_cov 1 (-2147483648) cv_2_1 = true := by decide +kernel
noncomputable def cv_3_1 : List Value := [.float (mx_t 1 59 1)] ++ (pts 0 1 ++ ([.float (mx_t 1 3 58)]))
set_option maxRecDepth 1000000 in
theorem cc_3_1 : mx_cov 1 (-2147483648) cv_3_1 = true := by decide +kernel
noncomputable def cv_4_1 : List Value := [.float (mx_t 1 59 1)] ++ (pts 0 1 ++ ([.float (mx_t 1 3 58)]))
set_option maxRecDepth 1000000 in
theorem cc_4_1 : mx_cov 1 (-2147483648) cv_4_1 = true := by decide +kernel
noncomputable def cw_5_1 : List Value := [.float (mx_t 1 59 1)] ++ (pts 0 19 ++ ([.float (mx_t 1 21 58)]))
noncomputable def cv_5_1 : List Value := cw_5_1
set_option maxRecDepth 1000000 in
theorem cc_5_1 : mx_cov 1 (-2147483648) cv_5_1 = true := by decide +kernel
noncomputable def cv_5_2 : List Value := [.float (mx_t 2 59 1)] ++ (pts 0 3 ++ ([.float (mx_t 2 5 58)]))
set_option maxRecDepth 1000000 in
theorem cc_5_2 : mx_cov 2 (-2147483648) cv_5_2 = true := by decide +kernel
noncomputable def cv_6_1 : List Value := [.float (mx_t 1 59 1)] ++ (pts 0 19 ++ ([.float (mx_t 1 21 58)]))
set_option maxRecDepth 1000000 in
theorem cc_6_1 : mx_cov 1 (-2147483648) cv_6_1 = true := by decide +kernel
noncomputable def cw_8_1 : List Value := [.float (mx_t 1 59 2)] ++ (pts 1 6)
noncomputable def cw_8_2 : List Value := pts 7 6
noncomputable def cw_8_3 : List Value := pts 13 6 ++ ([.float (mx_t 1 21 58)])
noncomputable def cv_8_1 : List Value := cw_8_1 ++ (cw_8_2 ++ (cw_8_3))
set_option maxRecDepth 1000000 in
theorem cc_8_1 : mx_cov 1 (-2147483648) cv_8_1 = true := by decide +kernel
noncomputable def cv_8_2 : List Value := [.float (mx_t 2 59 2)] ++ (pts 1 17 ++ ([.float (mx_t 2 20 58)]))
set_option maxRecDepth 1000000 in
theorem cc_8_2 : mx_cov 2 (-2147483648) cv_8_2 = true := by decide +kernel
noncomputable def cw_9_1 : List Value := [.float (mx_t 1 59 2)] ++ (pts 1 4)
noncomputable def cw_9_2 : List Value := pts 5 4
noncomputable def cw_9_3 : List Value := pts 9 4
noncomputable def cw_9_4 : List Value := pts 13 3
noncomputable def cw_9_5 : List Value := pts 16 3 ++ ([.float (mx_t 1 21 58)])
noncomputable def cv_9_1 : List Value := cw_9_1 ++ (cw_9_2 ++ (cw_9_3 ++ (cw_9_4 ++ (cw_9_5))))
set_option maxRecDepth 1000000 in
theorem cc_9_1 : mx_cov 1 (-2147483648) cv_9_1 = true := by decide +kernel
noncomputable def cv_9_2 : List Value := [.float (mx_t 2 59 2)] ++ (pts 1 18 ++ ([.float (mx_t 2 21 58)]))
set_option maxRecDepth 1000000 in
theorem cc_9_2 : mx_cov 2 (-2147483648) cv_9_2 = true := by decide +kernel
noncomputable def cv_10_1 : List Value := [.float (mx_t 1 59 1)] ++ (pts 0 10 ++ ([.float (mx_t 1 12 58)]))
set_option maxRecDepth 1000000 in
theorem cc_10_1 : mx_cov 1 (-2147483648) cv_10_1 = true := by decide +kernel
noncomputable def cv_11_1 : List Value := [.float (mx_t 1 59 2)] ++ ([.float (mx_t 1 3 12)] ++ ([.float (mx_t 1 13 58)]))
set_option maxRecDepth 1000000 in
theorem cc_11_1 : mx_cov 1 (-2147483648) cv_11_1 = true := by decide +kernel
noncomputable def cv_12_1 : List Value := [.float (mx_t 1 59 1)] ++ (pts 0 4 ++ ([.float (mx_t 1 6 58)]))
set_option maxRecDepth 1000000 in
theorem cc_12_1 : mx_cov 1 (-2147483648) cv_12_1 = true := by decide +kernel
noncomputable def cv_12_2 : List Value := [.float (mx_t 2 59 1)] ++ ([.float (mx_t 2 2 5)] ++ ([.float (mx_t 2 6 58)]))
set_option maxRecDepth 1000000 in
theorem cc_12_2 : mx_cov 2 (-2147483648) cv_12_2 = true := by decide +kernel
noncomputable def cv_13_1 : List Value := [.float (mx_t 1 59 1)] ++ (pts 0 4 ++ ([.float (mx_t 1 6 58)]))
set_option maxRecDepth 1000000 in
theorem cc_13_1 : mx_cov 1 (-2147483648) cv_13_1 = true := by decide +kernel
noncomputable def cv_15_1 : List Value := [.double (mx_tl 6 60 1), .long 0, .double (mx_tl 6 3 62), .double (mx_tl 6 63 61)]
set_option maxRecDepth 1000000 in
theorem cc_15_1 : mx_covL 6 (-9223372036854775808) cv_15_1 = true := by decide +kernel
noncomputable def cv_16_1 : List Value := [.float (mx_t 1 59 1)] ++ (pts 0 2 ++ ([.float (mx_t 1 4 58)]))
set_option maxRecDepth 1000000 in
theorem cc_16_1 : mx_cov 1 (-2147483648) cv_16_1 = true := by decide +kernel
noncomputable def cv_17_1 : List Value := [.float (mx_t 1 59 1)] ++ (pts 0 6 ++ ([.float (mx_t 1 8 58)]))
set_option maxRecDepth 1000000 in
theorem cc_17_1 : mx_cov 1 (-2147483648) cv_17_1 = true := by decide +kernel
noncomputable def cv_18_1 : List Value := [.float (mx_t 1 59 1)] ++ (pts 0 10 ++ ([.float (mx_t 1 12 58)]))
set_option maxRecDepth 1000000 in
theorem cc_18_1 : mx_cov 1 (-2147483648) cv_18_1 = true := by decide +kernel
noncomputable def cv_19_1 : List Value := [.float (mx_t 1 59 1)] ++ (pts 0 4 ++ ([.float (mx_t 1 6 58)]))
set_option maxRecDepth 1000000 in
theorem cc_19_1 : mx_cov 1 (-2147483648) cv_19_1 = true := by decide +kernel
noncomputable def cv_20_1 : List Value := [.float (mx_t 1 59 1)] ++ (pts 0 4 ++ ([.float (mx_t 1 6 58)]))
set_option maxRecDepth 1000000 in
theorem cc_20_1 : mx_cov 1 (-2147483648) cv_20_1 = true := by decide +kernel
noncomputable def cv_20_2 : List Value := [.float (mx_t 2 59 58)]
set_option maxRecDepth 1000000 in
theorem cc_20_2 : mx_cov 2 (-2147483648) cv_20_2 = true := by decide +kernel
noncomputable def cv_21_1 : List Value := [.float (mx_t 1 59 2)] ++ (pts 1 1 ++ ([.float (mx_t 1 4 20)] ++ ([.float (mx_t 1 21 58)])))
set_option maxRecDepth 1000000 in
theorem cc_21_1 : mx_cov 1 (-2147483648) cv_21_1 = true := by decide +kernel
noncomputable def cw_21_1 : List Value := [.float (mx_t 2 59 1)] ++ (pts 0 10 ++ ([.float (mx_t 2 12 58)]))
noncomputable def cv_21_2 : List Value := cw_21_1
set_option maxRecDepth 1000000 in
theorem cc_21_2 : mx_cov 2 (-2147483648) cv_21_2 = true := by decide +kernel
noncomputable def cv_22_1 : List Value := [.float (mx_t 1 59 2)] ++ ([.float (mx_t 1 3 20)] ++ ([.float (mx_t 1 21 58)]))
set_option maxRecDepth 1000000 in
theorem cc_22_1 : mx_cov 1 (-2147483648) cv_22_1 = true := by decide +kernel
noncomputable def cv_24_1 : List Value := [.float (mx_t 1 59 1)] ++ (pts 0 4 ++ ([.float (mx_t 1 6 58)]))
set_option maxRecDepth 1000000 in
theorem cc_24_1 : mx_cov 1 (-2147483648) cv_24_1 = true := by decide +kernel
noncomputable def cv_25_1 : List Value := [.float (mx_t 1 59 2)] ++ ([.float (mx_t 1 3 20)] ++ ([.float (mx_t 1 21 58)]))
set_option maxRecDepth 1000000 in
theorem cc_25_1 : mx_cov 1 (-2147483648) cv_25_1 = true := by decide +kernel
noncomputable def cv_25_2 : List Value := [.float (mx_t 2 59 2)] ++ ([.float (mx_t 2 3 20)] ++ ([.float (mx_t 2 21 58)]))
set_option maxRecDepth 1000000 in
theorem cc_25_2 : mx_cov 2 (-2147483648) cv_25_2 = true := by decide +kernel
noncomputable def cv_27_1 : List Value := [.float (mx_t 1 59 1)] ++ (pts 0 4 ++ ([.float (mx_t 1 6 58)]))
set_option maxRecDepth 1000000 in
theorem cc_27_1 : mx_cov 1 (-2147483648) cv_27_1 = true := by decide +kernel
noncomputable def cv_29_1 : List Value := [.float (mx_t 1 59 1)] ++ (pts 0 4 ++ ([.float (mx_t 1 6 58)]))
set_option maxRecDepth 1000000 in
theorem cc_29_1 : mx_cov 1 (-2147483648) cv_29_1 = true := by decide +kernel
noncomputable def cv_30_1 : List Value := [.float (mx_t 1 59 1)] ++ (pts 0 4 ++ ([.float (mx_t 1 6 58)]))
set_option maxRecDepth 1000000 in
theorem cc_30_1 : mx_cov 1 (-2147483648) cv_30_1 = true := by decide +kernel
noncomputable def cv_30_2 : List Value := [.float (mx_t 2 59 58)]
set_option maxRecDepth 1000000 in
theorem cc_30_2 : mx_cov 2 (-2147483648) cv_30_2 = true := by decide +kernel
noncomputable def cv_31_1 : List Value := [.float (mx_t 1 59 1)] ++ (pts 0 4 ++ ([.float (mx_t 1 6 58)]))
set_option maxRecDepth 1000000 in
theorem cc_31_1 : mx_cov 1 (-2147483648) cv_31_1 = true := by decide +kernel
noncomputable def cv_31_2 : List Value := [.float (mx_t 2 59 58)]
set_option maxRecDepth 1000000 in
theorem cc_31_2 : mx_cov 2 (-2147483648) cv_31_2 = true := by decide +kernel
noncomputable def cv_32_1 : List Value := [.float (mx_t 1 59 1)] ++ (pts 0 4 ++ ([.float (mx_t 1 6 58)]))
set_option maxRecDepth 1000000 in
theorem cc_32_1 : mx_cov 1 (-2147483648) cv_32_1 = true := by decide +kernel
noncomputable def cv_33_1 : List Value := [.float (mx_t 1 59 1)] ++ (pts 0 4 ++ ([.float (mx_t 1 6 58)]))
set_option maxRecDepth 1000000 in
theorem cc_33_1 : mx_cov 1 (-2147483648) cv_33_1 = true := by decide +kernel
noncomputable def cv_34_1 : List Value := [.float (mx_t 1 59 2)] ++ ([.float (mx_t 1 3 20)] ++ ([.float (mx_t 1 21 58)]))
set_option maxRecDepth 1000000 in
theorem cc_34_1 : mx_cov 1 (-2147483648) cv_34_1 = true := by decide +kernel
noncomputable def cv_35_1 : List Value := [.float (mx_t 1 59 2)] ++ ([.float (mx_t 1 3 20)] ++ ([.float (mx_t 1 21 58)]))
set_option maxRecDepth 1000000 in
theorem cc_35_1 : mx_cov 1 (-2147483648) cv_35_1 = true := by decide +kernel
noncomputable def cv_36_1 : List Value := [.float (mx_t 1 59 1)] ++ (pts 0 2 ++ ([.float (mx_t 1 4 58)]))
set_option maxRecDepth 1000000 in
theorem cc_36_1 : mx_cov 1 (-2147483648) cv_36_1 = true := by decide +kernel
noncomputable def cv_37_1 : List Value := [.float (mx_t 1 59 2)] ++ ([.float (mx_t 1 3 20)] ++ ([.float (mx_t 1 21 58)]))
set_option maxRecDepth 1000000 in
theorem cc_37_1 : mx_cov 1 (-2147483648) cv_37_1 = true := by decide +kernel
noncomputable def cw_37_1 : List Value := [.float (mx_t 2 59 1)] ++ (pts 0 8 ++ ([.float (mx_t 2 10 58)]))
noncomputable def cv_37_2 : List Value := cw_37_1
set_option maxRecDepth 1000000 in
theorem cc_37_2 : mx_cov 2 (-2147483648) cv_37_2 = true := by decide +kernel
noncomputable def cv_37_3 : List Value := [.float (mx_t 3 59 1)] ++ (pts 0 2 ++ ([.float (mx_t 3 4 58)]))
set_option maxRecDepth 1000000 in
theorem cc_37_3 : mx_cov 3 (-2147483648) cv_37_3 = true := by decide +kernel
noncomputable def cw_38_1 : List Value := [.float (mx_t 1 59 1)] ++ (pts 0 8 ++ ([.float (mx_t 1 10 58)]))
noncomputable def cv_38_1 : List Value := cw_38_1
set_option maxRecDepth 1000000 in
theorem cc_38_1 : mx_cov 1 (-2147483648) cv_38_1 = true := by decide +kernel
noncomputable def cv_38_2 : List Value := [.float (mx_t 2 59 1)] ++ (pts 0 2 ++ ([.float (mx_t 2 4 58)]))
set_option maxRecDepth 1000000 in
theorem cc_38_2 : mx_cov 2 (-2147483648) cv_38_2 = true := by decide +kernel
noncomputable def cw_39_1 : List Value := [.float (mx_t 1 59 1)] ++ (pts 0 1)
noncomputable def cw_39_2 : List Value := pts 1 1
noncomputable def cw_39_3 : List Value := pts 2 1
noncomputable def cw_39_4 : List Value := pts 3 1 ++ ([.float (mx_t 1 6 58)])
noncomputable def cv_39_1 : List Value := cw_39_1 ++ (cw_39_2 ++ (cw_39_3 ++ (cw_39_4)))
set_option maxRecDepth 1000000 in
theorem cc_39_1 : mx_cov 1 (-2147483648) cv_39_1 = true := by decide +kernel
noncomputable def cv_39_2 : List Value := [.float (mx_t 2 59 1)] ++ ([.float (mx_t 2 2 5)] ++ ([.float (mx_t 2 6 58)]))
set_option maxRecDepth 1000000 in
theorem cc_39_2 : mx_cov 2 (-2147483648) cv_39_2 = true := by decide +kernel
noncomputable def cv_39_3 : List Value := [.float (mx_t 3 59 1)] ++ (pts 0 41 ++ ([.float (mx_t 3 43 58)]))
set_option maxRecDepth 1000000 in
theorem cc_39_3 : mx_cov 3 (-2147483648) cv_39_3 = true := by decide +kernel
noncomputable def cv_40_1 : List Value := [.float (mx_t 1 59 1)] ++ (pts 0 4 ++ ([.float (mx_t 1 6 58)]))
set_option maxRecDepth 1000000 in
theorem cc_40_1 : mx_cov 1 (-2147483648) cv_40_1 = true := by decide +kernel
noncomputable def cv_40_2 : List Value := [.float (mx_t 2 59 58)]
set_option maxRecDepth 1000000 in
theorem cc_40_2 : mx_cov 2 (-2147483648) cv_40_2 = true := by decide +kernel
noncomputable def cv_40_3 : List Value := [.double (mx_tl 7 60 61)]
set_option maxRecDepth 1000000 in
theorem cc_40_3 : mx_covL 7 (-9223372036854775808) cv_40_3 = true := by decide +kernel
noncomputable def cv_41_1 : List Value := [.float (mx_t 1 59 1)] ++ (pts 0 4 ++ ([.float (mx_t 1 6 58)]))
set_option maxRecDepth 1000000 in
theorem cc_41_1 : mx_cov 1 (-2147483648) cv_41_1 = true := by decide +kernel
noncomputable def cv_41_2 : List Value := [.float (mx_t 2 59 58)]
set_option maxRecDepth 1000000 in
theorem cc_41_2 : mx_cov 2 (-2147483648) cv_41_2 = true := by decide +kernel
noncomputable def cv_42_1 : List Value := [.float (mx_t 1 59 1)] ++ (pts 0 2 ++ ([.float (mx_t 1 4 58)]))
set_option maxRecDepth 1000000 in
theorem cc_42_1 : mx_cov 1 (-2147483648) cv_42_1 = true := by decide +kernel
noncomputable def cv_43_1 : List Value := [.float (mx_t 1 59 1)] ++ (pts 0 2 ++ ([.float (mx_t 1 4 58)]))
set_option maxRecDepth 1000000 in
theorem cc_43_1 : mx_cov 1 (-2147483648) cv_43_1 = true := by decide +kernel
noncomputable def cv_44_1 : List Value := [.float (mx_t 1 59 1)] ++ (pts 0 8 ++ ([.float (mx_t 1 10 58)]))
set_option maxRecDepth 1000000 in
theorem cc_44_1 : mx_cov 1 (-2147483648) cv_44_1 = true := by decide +kernel
