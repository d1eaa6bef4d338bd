/-! The entries decode. -/
set_option maxRecDepth 100000 in
theorem q_dc_122_1 : q_dec prog_14_method_80_code ((qc_122.drop 100).take 100) = true := by decide +kernel
set_option maxRecDepth 100000 in
theorem q_dc_123_0 : q_dec prog_14_method_81_code ((qc_123.drop 0).take 100) = true := by decide +kernel
set_option maxRecDepth 100000 in
theorem q_dc_124_0 : q_dec prog_14_method_82_code ((qc_124.drop 0).take 100) = true := by decide +kernel
set_option maxRecDepth 100000 in
theorem q_dc_125_0 : q_dec prog_14_method_83_code ((qc_125.drop 0).take 100) = true := by decide +kernel
set_option maxRecDepth 100000 in
theorem q_dc_126_0 : q_dec prog_14_method_84_code ((qc_126.drop 0).take 100) = true := by decide +kernel
set_option maxRecDepth 100000 in
theorem q_dc_126_1 : q_dec prog_14_method_84_code ((qc_126.drop 100).take 100) = true := by decide +kernel
set_option maxRecDepth 100000 in
theorem q_dc_126_2 : q_dec prog_14_method_84_code ((qc_126.drop 200).take 100) = true := by decide +kernel
set_option maxRecDepth 100000 in
theorem q_dc_127_0 : q_dec prog_2_method_1_code ((qc_127.drop 0).take 100) = true := by decide +kernel
set_option maxRecDepth 100000 in
theorem q_dc_128_0 : q_dec prog_2_method_2_code ((qc_128.drop 0).take 100) = true := by decide +kernel
set_option maxRecDepth 100000 in
theorem q_dc_129_0 : q_dec prog_2_method_3_code ((qc_129.drop 0).take 100) = true := by decide +kernel
set_option maxRecDepth 100000 in
theorem q_dc_130_0 : q_dec prog_2_method_4_code ((qc_130.drop 0).take 100) = true := by decide +kernel
set_option maxRecDepth 100000 in
theorem q_dc_131_0 : q_dec prog_2_method_5_code ((qc_131.drop 0).take 100) = true := by decide +kernel
set_option maxRecDepth 100000 in
theorem q_dc_132_0 : q_dec prog_2_method_6_code ((qc_132.drop 0).take 100) = true := by decide +kernel
set_option maxRecDepth 100000 in
theorem q_dc_133_0 : q_dec prog_2_method_7_code ((qc_133.drop 0).take 100) = true := by decide +kernel
set_option maxRecDepth 100000 in
theorem q_dc_134_0 : q_dec prog_2_method_8_code ((qc_134.drop 0).take 100) = true := by decide +kernel
set_option maxRecDepth 100000 in
theorem q_dc_135_0 : q_dec prog_2_method_9_code ((qc_135.drop 0).take 100) = true := by decide +kernel
set_option maxRecDepth 100000 in
theorem q_dc_136_0 : q_dec prog_2_method_10_code ((qc_136.drop 0).take 100) = true := by decide +kernel
set_option maxRecDepth 100000 in
theorem q_dc_137_0 : q_dec prog_2_method_11_code ((qc_137.drop 0).take 100) = true := by decide +kernel
set_option maxRecDepth 100000 in
theorem q_dc_138_0 : q_dec prog_2_method_12_code ((qc_138.drop 0).take 100) = true := by decide +kernel
set_option maxRecDepth 100000 in
theorem q_dc_139_0 : q_dec prog_2_method_13_code ((qc_139.drop 0).take 100) = true := by decide +kernel
set_option maxRecDepth 100000 in
theorem q_dc_140_0 : q_dec prog_2_method_14_code ((qc_140.drop 0).take 100) = true := by decide +kernel
set_option maxRecDepth 100000 in
theorem q_dc_141_0 : q_dec prog_2_method_15_code ((qc_141.drop 0).take 100) = true := by decide +kernel
set_option maxRecDepth 100000 in
theorem q_dc_142_0 : q_dec prog_2_method_16_code ((qc_142.drop 0).take 100) = true := by decide +kernel
set_option maxRecDepth 100000 in
theorem q_dc_143_0 : q_dec prog_2_method_17_code ((qc_143.drop 0).take 100) = true := by decide +kernel
set_option maxRecDepth 100000 in
theorem q_dc_144_0 : q_dec prog_2_method_18_code ((qc_144.drop 0).take 100) = true := by decide +kernel
set_option maxRecDepth 100000 in
theorem q_dc_145_0 : q_dec prog_2_method_19_code ((qc_145.drop 0).take 100) = true := by decide +kernel
set_option maxRecDepth 100000 in
theorem q_dc_146_0 : q_dec prog_3_method_1_code ((qc_146.drop 0).take 100) = true := by decide +kernel
