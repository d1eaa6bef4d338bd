/-! The entries decode. -/
set_option maxRecDepth 100000 in
theorem q_dc_5_0 : q_dec method_7_code ((qc_5.drop 0).take 100) = true := by decide +kernel
set_option maxRecDepth 100000 in
theorem q_dc_6_0 : q_dec method_8_code ((qc_6.drop 0).take 100) = true := by decide +kernel
set_option maxRecDepth 100000 in
theorem q_dc_7_0 : q_dec method_9_code ((qc_7.drop 0).take 100) = true := by decide +kernel
set_option maxRecDepth 100000 in
theorem q_dc_8_0 : q_dec method_10_code ((qc_8.drop 0).take 100) = true := by decide +kernel
set_option maxRecDepth 100000 in
theorem q_dc_9_0 : q_dec method_11_code ((qc_9.drop 0).take 100) = true := by decide +kernel
set_option maxRecDepth 100000 in
theorem q_dc_10_0 : q_dec method_12_code ((qc_10.drop 0).take 100) = true := by decide +kernel
set_option maxRecDepth 100000 in
theorem q_dc_11_0 : q_dec method_13_code ((qc_11.drop 0).take 100) = true := by decide +kernel
set_option maxRecDepth 100000 in
theorem q_dc_12_0 : q_dec method_14_code ((qc_12.drop 0).take 100) = true := by decide +kernel
set_option maxRecDepth 100000 in
theorem q_dc_13_0 : q_dec prog_1_method_1_code ((qc_13.drop 0).take 100) = true := by decide +kernel
set_option maxRecDepth 100000 in
theorem q_dc_14_0 : q_dec prog_1_method_2_code ((qc_14.drop 0).take 100) = true := by decide +kernel
set_option maxRecDepth 100000 in
theorem q_dc_15_0 : q_dec prog_1_method_3_code ((qc_15.drop 0).take 100) = true := by decide +kernel
set_option maxRecDepth 100000 in
theorem q_dc_16_0 : q_dec prog_1_method_4_code ((qc_16.drop 0).take 100) = true := by decide +kernel
set_option maxRecDepth 100000 in
theorem q_dc_17_0 : q_dec prog_1_method_5_code ((qc_17.drop 0).take 100) = true := by decide +kernel
set_option maxRecDepth 100000 in
theorem q_dc_18_0 : q_dec prog_1_method_6_code ((qc_18.drop 0).take 100) = true := by decide +kernel
set_option maxRecDepth 100000 in
theorem q_dc_19_0 : q_dec prog_1_method_7_code ((qc_19.drop 0).take 100) = true := by decide +kernel
set_option maxRecDepth 100000 in
theorem q_dc_20_0 : q_dec prog_1_method_8_code ((qc_20.drop 0).take 100) = true := by decide +kernel
set_option maxRecDepth 100000 in
theorem q_dc_21_0 : q_dec prog_1_method_9_code ((qc_21.drop 0).take 100) = true := by decide +kernel
set_option maxRecDepth 100000 in
theorem q_dc_22_0 : q_dec prog_1_method_10_code ((qc_22.drop 0).take 100) = true := by decide +kernel
set_option maxRecDepth 100000 in
theorem q_dc_23_0 : q_dec prog_1_method_11_code ((qc_23.drop 0).take 100) = true := by decide +kernel
set_option maxRecDepth 100000 in
theorem q_dc_24_0 : q_dec prog_1_method_12_code ((qc_24.drop 0).take 100) = true := by decide +kernel
set_option maxRecDepth 100000 in
theorem q_dc_25_0 : q_dec prog_1_method_13_code ((qc_25.drop 0).take 100) = true := by decide +kernel
set_option maxRecDepth 100000 in
theorem q_dc_26_0 : q_dec prog_1_method_14_code ((qc_26.drop 0).take 100) = true := by decide +kernel
set_option maxRecDepth 100000 in
theorem q_dc_27_0 : q_dec prog_1_method_15_code ((qc_27.drop 0).take 100) = true := by decide +kernel
set_option maxRecDepth 100000 in
theorem q_dc_28_0 : q_dec prog_1_method_16_code ((qc_28.drop 0).take 100) = true := by decide +kernel
set_option maxRecDepth 100000 in
theorem q_dc_29_0 : q_dec prog_1_method_17_code ((qc_29.drop 0).take 100) = true := by decide +kernel
set_option maxRecDepth 100000 in
theorem q_dc_30_0 : q_dec prog_1_method_18_code ((qc_30.drop 0).take 100) = true := by decide +kernel
set_option maxRecDepth 100000 in
theorem q_dc_31_0 : q_dec prog_1_method_19_code ((qc_31.drop 0).take 100) = true := by decide +kernel
set_option maxRecDepth 100000 in
theorem q_dc_32_0 : q_dec prog_1_method_20_code ((qc_32.drop 0).take 100) = true := by decide +kernel
set_option maxRecDepth 100000 in
theorem q_dc_33_0 : q_dec prog_1_method_21_code ((qc_33.drop 0).take 100) = true := by decide +kernel
set_option maxRecDepth 100000 in
theorem q_dc_34_0 : q_dec prog_1_method_22_code ((qc_34.drop 0).take 100) = true := by decide +kernel
set_option maxRecDepth 100000 in
theorem q_dc_35_0 : q_dec prog_1_method_23_code ((qc_35.drop 0).take 100) = true := by decide +kernel
set_option maxRecDepth 100000 in
theorem q_dc_36_0 : q_dec prog_1_method_24_code ((qc_36.drop 0).take 100) = true := by decide +kernel
set_option maxRecDepth 100000 in
theorem q_dc_37_0 : q_dec prog_1_method_25_code ((qc_37.drop 0).take 100) = true := by decide +kernel
set_option maxRecDepth 100000 in
theorem q_dc_38_0 : q_dec prog_1_method_26_code ((qc_38.drop 0).take 100) = true := by decide +kernel
set_option maxRecDepth 100000 in
theorem q_dc_39_0 : q_dec prog_1_method_27_code ((qc_39.drop 0).take 100) = true := by decide +kernel
set_option maxRecDepth 100000 in
theorem q_dc_40_0 : q_dec prog_1_method_28_code ((qc_40.drop 0).take 100) = true := by decide +kernel
set_option maxRecDepth 100000 in
theorem q_dc_41_0 : q_dec prog_1_method_29_code ((qc_41.drop 0).take 100) = true := by decide +kernel
set_option maxRecDepth 100000 in
theorem q_dc_42_0 : q_dec prog_1_method_30_code ((qc_42.drop 0).take 100) = true := by decide +kernel
set_option maxRecDepth 100000 in
theorem q_dc_43_0 : q_dec prog_1_method_31_code ((qc_43.drop 0).take 100) = true := by decide +kernel
set_option maxRecDepth 100000 in
theorem q_dc_44_0 : q_dec prog_14_method_1_code ((qc_44.drop 0).take 100) = true := by decide +kernel
set_option maxRecDepth 100000 in
theorem q_dc_44_1 : q_dec prog_14_method_1_code ((qc_44.drop 100).take 100) = true := by decide +kernel
set_option maxRecDepth 100000 in
theorem q_dc_45_0 : q_dec prog_14_method_2_code ((qc_45.drop 0).take 100) = true := by decide +kernel
set_option maxRecDepth 100000 in
theorem q_dc_46_0 : q_dec prog_14_method_3_code ((qc_46.drop 0).take 100) = true := by decide +kernel
set_option maxRecDepth 100000 in
theorem q_dc_47_0 : q_dec prog_14_method_4_code ((qc_47.drop 0).take 100) = true := by decide +kernel
set_option maxRecDepth 100000 in
theorem q_dc_48_0 : q_dec prog_14_method_5_code ((qc_48.drop 0).take 100) = true := by decide +kernel
set_option maxRecDepth 100000 in
theorem q_dc_49_0 : q_dec prog_14_method_6_code ((qc_49.drop 0).take 100) = true := by decide +kernel
set_option maxRecDepth 100000 in
theorem q_dc_50_0 : q_dec prog_14_method_7_code ((qc_50.drop 0).take 100) = true := by decide +kernel
set_option maxRecDepth 100000 in
theorem q_dc_51_0 : q_dec prog_14_method_8_code ((qc_51.drop 0).take 100) = true := by decide +kernel
