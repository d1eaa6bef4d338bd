/-! The entries decode. -/
set_option maxRecDepth 100000 in
theorem q_dc_74_2 : q_dec prog_14_method_32_code ((qc_74.drop 200).take 100) = true := by decide +kernel
set_option maxRecDepth 100000 in
theorem q_dc_75_0 : q_dec prog_14_method_33_code ((qc_75.drop 0).take 100) = true := by decide +kernel
set_option maxRecDepth 100000 in
theorem q_dc_76_0 : q_dec prog_14_method_34_code ((qc_76.drop 0).take 100) = true := by decide +kernel
set_option maxRecDepth 100000 in
theorem q_dc_77_0 : q_dec prog_14_method_35_code ((qc_77.drop 0).take 100) = true := by decide +kernel
set_option maxRecDepth 100000 in
theorem q_dc_78_0 : q_dec prog_14_method_36_code ((qc_78.drop 0).take 100) = true := by decide +kernel
set_option maxRecDepth 100000 in
theorem q_dc_79_0 : q_dec prog_14_method_37_code ((qc_79.drop 0).take 100) = true := by decide +kernel
set_option maxRecDepth 100000 in
theorem q_dc_80_0 : q_dec prog_14_method_38_code ((qc_80.drop 0).take 100) = true := by decide +kernel
set_option maxRecDepth 100000 in
theorem q_dc_81_0 : q_dec prog_14_method_39_code ((qc_81.drop 0).take 100) = true := by decide +kernel
set_option maxRecDepth 100000 in
theorem q_dc_82_0 : q_dec prog_14_method_40_code ((qc_82.drop 0).take 100) = true := by decide +kernel
set_option maxRecDepth 100000 in
theorem q_dc_83_0 : q_dec prog_14_method_41_code ((qc_83.drop 0).take 100) = true := by decide +kernel
set_option maxRecDepth 100000 in
theorem q_dc_84_0 : q_dec prog_14_method_42_code ((qc_84.drop 0).take 100) = true := by decide +kernel
set_option maxRecDepth 100000 in
theorem q_dc_85_0 : q_dec prog_14_method_43_code ((qc_85.drop 0).take 100) = true := by decide +kernel
set_option maxRecDepth 100000 in
theorem q_dc_86_0 : q_dec prog_14_method_44_code ((qc_86.drop 0).take 100) = true := by decide +kernel
set_option maxRecDepth 100000 in
theorem q_dc_87_0 : q_dec prog_14_method_45_code ((qc_87.drop 0).take 100) = true := by decide +kernel
set_option maxRecDepth 100000 in
theorem q_dc_88_0 : q_dec prog_14_method_46_code ((qc_88.drop 0).take 100) = true := by decide +kernel
set_option maxRecDepth 100000 in
theorem q_dc_88_1 : q_dec prog_14_method_46_code ((qc_88.drop 100).take 100) = true := by decide +kernel
set_option maxRecDepth 100000 in
theorem q_dc_89_0 : q_dec prog_14_method_47_code ((qc_89.drop 0).take 100) = true := by decide +kernel
set_option maxRecDepth 100000 in
theorem q_dc_90_0 : q_dec prog_14_method_48_code ((qc_90.drop 0).take 100) = true := by decide +kernel
set_option maxRecDepth 100000 in
theorem q_dc_91_0 : q_dec prog_14_method_49_code ((qc_91.drop 0).take 100) = true := by decide +kernel
set_option maxRecDepth 100000 in
theorem q_dc_91_1 : q_dec prog_14_method_49_code ((qc_91.drop 100).take 100) = true := by decide +kernel
set_option maxRecDepth 100000 in
theorem q_dc_92_0 : q_dec prog_14_method_50_code ((qc_92.drop 0).take 100) = true := by decide +kernel
set_option maxRecDepth 100000 in
theorem q_dc_93_0 : q_dec prog_14_method_51_code ((qc_93.drop 0).take 100) = true := by decide +kernel
set_option maxRecDepth 100000 in
theorem q_dc_94_0 : q_dec prog_14_method_52_code ((qc_94.drop 0).take 100) = true := by decide +kernel
set_option maxRecDepth 100000 in
theorem q_dc_95_0 : q_dec prog_14_method_53_code ((qc_95.drop 0).take 100) = true := by decide +kernel
