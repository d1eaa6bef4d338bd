/-! The entries decode. -/
set_option maxRecDepth 100000 in
theorem q_dc_0_0 : q_dec code ((qc_0.drop 0).take 100) = true := by decide +kernel
set_option maxRecDepth 100000 in
theorem q_dc_0_1 : q_dec code ((qc_0.drop 100).take 100) = true := by decide +kernel
set_option maxRecDepth 100000 in
theorem q_dc_0_2 : q_dec code ((qc_0.drop 200).take 100) = true := by decide +kernel
set_option maxRecDepth 100000 in
theorem q_dc_0_3 : q_dec code ((qc_0.drop 300).take 100) = true := by decide +kernel
set_option maxRecDepth 100000 in
theorem q_dc_0_4 : q_dec code ((qc_0.drop 400).take 100) = true := by decide +kernel
set_option maxRecDepth 100000 in
theorem q_dc_0_5 : q_dec code ((qc_0.drop 500).take 100) = true := by decide +kernel
set_option maxRecDepth 100000 in
theorem q_dc_1_0 : q_dec method_3_code ((qc_1.drop 0).take 100) = true := by decide +kernel
set_option maxRecDepth 100000 in
theorem q_dc_2_0 : q_dec method_4_code ((qc_2.drop 0).take 100) = true := by decide +kernel
set_option maxRecDepth 100000 in
theorem q_dc_3_0 : q_dec method_5_code ((qc_3.drop 0).take 100) = true := by decide +kernel
set_option maxRecDepth 100000 in
theorem q_dc_4_0 : q_dec method_6_code ((qc_4.drop 0).take 100) = true := by decide +kernel
