/-! The entries decode. -/
set_option maxRecDepth 100000 in
theorem q_dc_52_0 : q_dec prog_14_method_9_code ((qc_52.drop 0).take 100) = true := by decide +kernel
set_option maxRecDepth 100000 in
theorem q_dc_53_0 : q_dec prog_14_method_10_code ((qc_53.drop 0).take 100) = true := by decide +kernel
set_option maxRecDepth 100000 in
theorem q_dc_54_0 : q_dec prog_14_method_11_code ((qc_54.drop 0).take 100) = true := by decide +kernel
set_option maxRecDepth 100000 in
theorem q_dc_55_0 : q_dec prog_14_method_12_code ((qc_55.drop 0).take 100) = true := by decide +kernel
set_option maxRecDepth 100000 in
theorem q_dc_56_0 : q_dec prog_14_method_14_code ((qc_56.drop 0).take 100) = true := by decide +kernel
set_option maxRecDepth 100000 in
theorem q_dc_57_0 : q_dec prog_14_method_15_code ((qc_57.drop 0).take 100) = true := by decide +kernel
set_option maxRecDepth 100000 in
theorem q_dc_58_0 : q_dec prog_14_method_16_code ((qc_58.drop 0).take 100) = true := by decide +kernel
set_option maxRecDepth 100000 in
theorem q_dc_59_0 : q_dec prog_14_method_17_code ((qc_59.drop 0).take 100) = true := by decide +kernel
set_option maxRecDepth 100000 in
theorem q_dc_60_0 : q_dec prog_14_method_18_code ((qc_60.drop 0).take 100) = true := by decide +kernel
set_option maxRecDepth 100000 in
theorem q_dc_60_1 : q_dec prog_14_method_18_code ((qc_60.drop 100).take 100) = true := by decide +kernel
set_option maxRecDepth 100000 in
theorem q_dc_61_0 : q_dec prog_14_method_19_code ((qc_61.drop 0).take 100) = true := by decide +kernel
set_option maxRecDepth 100000 in
theorem q_dc_62_0 : q_dec prog_14_method_20_code ((qc_62.drop 0).take 100) = true := by decide +kernel
set_option maxRecDepth 100000 in
theorem q_dc_62_1 : q_dec prog_14_method_20_code ((qc_62.drop 100).take 100) = true := by decide +kernel
set_option maxRecDepth 100000 in
theorem q_dc_63_0 : q_dec prog_14_method_21_code ((qc_63.drop 0).take 100) = true := by decide +kernel
set_option maxRecDepth 100000 in
theorem q_dc_64_0 : q_dec prog_14_method_22_code ((qc_64.drop 0).take 100) = true := by decide +kernel
set_option maxRecDepth 100000 in
theorem q_dc_64_1 : q_dec prog_14_method_22_code ((qc_64.drop 100).take 100) = true := by decide +kernel
set_option maxRecDepth 100000 in
theorem q_dc_65_0 : q_dec prog_14_method_23_code ((qc_65.drop 0).take 100) = true := by decide +kernel
set_option maxRecDepth 100000 in
theorem q_dc_66_0 : q_dec prog_14_method_24_code ((qc_66.drop 0).take 100) = true := by decide +kernel
set_option maxRecDepth 100000 in
theorem q_dc_67_0 : q_dec prog_14_method_25_code ((qc_67.drop 0).take 100) = true := by decide +kernel
set_option maxRecDepth 100000 in
theorem q_dc_68_0 : q_dec prog_14_method_26_code ((qc_68.drop 0).take 100) = true := by decide +kernel
set_option maxRecDepth 100000 in
theorem q_dc_69_0 : q_dec prog_14_method_27_code ((qc_69.drop 0).take 100) = true := by decide +kernel
set_option maxRecDepth 100000 in
theorem q_dc_69_1 : q_dec prog_14_method_27_code ((qc_69.drop 100).take 100) = true := by decide +kernel
set_option maxRecDepth 100000 in
theorem q_dc_70_0 : q_dec prog_14_method_28_code ((qc_70.drop 0).take 100) = true := by decide +kernel
set_option maxRecDepth 100000 in
theorem q_dc_71_0 : q_dec prog_14_method_29_code ((qc_71.drop 0).take 100) = true := by decide +kernel
set_option maxRecDepth 100000 in
theorem q_dc_72_0 : q_dec prog_14_method_30_code ((qc_72.drop 0).take 100) = true := by decide +kernel
set_option maxRecDepth 100000 in
theorem q_dc_73_0 : q_dec prog_14_method_31_code ((qc_73.drop 0).take 100) = true := by decide +kernel
set_option maxRecDepth 100000 in
theorem q_dc_74_0 : q_dec prog_14_method_32_code ((qc_74.drop 0).take 100) = true := by decide +kernel
set_option maxRecDepth 100000 in
theorem q_dc_74_1 : q_dec prog_14_method_32_code ((qc_74.drop 100).take 100) = true := by decide +kernel
