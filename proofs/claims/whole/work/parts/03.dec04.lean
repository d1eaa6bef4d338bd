/-! The entries decode. -/
set_option maxRecDepth 100000 in
theorem q_dc_96_0 : q_dec prog_14_method_54_code ((qc_96.drop 0).take 100) = true := by decide +kernel
set_option maxRecDepth 100000 in
theorem q_dc_97_0 : q_dec prog_14_method_55_code ((qc_97.drop 0).take 100) = true := by decide +kernel
set_option maxRecDepth 100000 in
theorem q_dc_98_0 : q_dec prog_14_method_56_code ((qc_98.drop 0).take 100) = true := by decide +kernel
set_option maxRecDepth 100000 in
theorem q_dc_98_1 : q_dec prog_14_method_56_code ((qc_98.drop 100).take 100) = true := by decide +kernel
set_option maxRecDepth 100000 in
theorem q_dc_99_0 : q_dec prog_14_method_57_code ((qc_99.drop 0).take 100) = true := by decide +kernel
set_option maxRecDepth 100000 in
theorem q_dc_100_0 : q_dec prog_14_method_58_code ((qc_100.drop 0).take 100) = true := by decide +kernel
set_option maxRecDepth 100000 in
theorem q_dc_101_0 : q_dec prog_14_method_59_code ((qc_101.drop 0).take 100) = true := by decide +kernel
set_option maxRecDepth 100000 in
theorem q_dc_102_0 : q_dec prog_14_method_60_code ((qc_102.drop 0).take 100) = true := by decide +kernel
set_option maxRecDepth 100000 in
theorem q_dc_103_0 : q_dec prog_14_method_61_code ((qc_103.drop 0).take 100) = true := by decide +kernel
set_option maxRecDepth 100000 in
theorem q_dc_104_0 : q_dec prog_14_method_62_code ((qc_104.drop 0).take 100) = true := by decide +kernel
set_option maxRecDepth 100000 in
theorem q_dc_105_0 : q_dec prog_14_method_63_code ((qc_105.drop 0).take 100) = true := by decide +kernel
set_option maxRecDepth 100000 in
theorem q_dc_106_0 : q_dec prog_14_method_64_code ((qc_106.drop 0).take 100) = true := by decide +kernel
set_option maxRecDepth 100000 in
theorem q_dc_107_0 : q_dec prog_14_method_65_code ((qc_107.drop 0).take 100) = true := by decide +kernel
set_option maxRecDepth 100000 in
theorem q_dc_108_0 : q_dec prog_14_method_66_code ((qc_108.drop 0).take 100) = true := by decide +kernel
set_option maxRecDepth 100000 in
theorem q_dc_109_0 : q_dec prog_14_method_67_code ((qc_109.drop 0).take 100) = true := by decide +kernel
set_option maxRecDepth 100000 in
theorem q_dc_110_0 : q_dec prog_14_method_68_code ((qc_110.drop 0).take 100) = true := by decide +kernel
set_option maxRecDepth 100000 in
theorem q_dc_110_1 : q_dec prog_14_method_68_code ((qc_110.drop 100).take 100) = true := by decide +kernel
set_option maxRecDepth 100000 in
theorem q_dc_111_0 : q_dec prog_14_method_69_code ((qc_111.drop 0).take 100) = true := by decide +kernel
set_option maxRecDepth 100000 in
theorem q_dc_112_0 : q_dec prog_14_method_70_code ((qc_112.drop 0).take 100) = true := by decide +kernel
set_option maxRecDepth 100000 in
theorem q_dc_113_0 : q_dec prog_14_method_71_code ((qc_113.drop 0).take 100) = true := by decide +kernel
set_option maxRecDepth 100000 in
theorem q_dc_114_0 : q_dec prog_14_method_72_code ((qc_114.drop 0).take 100) = true := by decide +kernel
set_option maxRecDepth 100000 in
theorem q_dc_115_0 : q_dec prog_14_method_73_code ((qc_115.drop 0).take 100) = true := by decide +kernel
set_option maxRecDepth 100000 in
theorem q_dc_116_0 : q_dec prog_14_method_74_code ((qc_116.drop 0).take 100) = true := by decide +kernel
set_option maxRecDepth 100000 in
theorem q_dc_117_0 : q_dec prog_14_method_75_code ((qc_117.drop 0).take 100) = true := by decide +kernel
set_option maxRecDepth 100000 in
theorem q_dc_118_0 : q_dec prog_14_method_76_code ((qc_118.drop 0).take 100) = true := by decide +kernel
set_option maxRecDepth 100000 in
theorem q_dc_119_0 : q_dec prog_14_method_77_code ((qc_119.drop 0).take 100) = true := by decide +kernel
set_option maxRecDepth 100000 in
theorem q_dc_120_0 : q_dec prog_14_method_78_code ((qc_120.drop 0).take 100) = true := by decide +kernel
set_option maxRecDepth 100000 in
theorem q_dc_121_0 : q_dec prog_14_method_79_code ((qc_121.drop 0).take 100) = true := by decide +kernel
set_option maxRecDepth 100000 in
theorem q_dc_122_0 : q_dec prog_14_method_80_code ((qc_122.drop 0).take 100) = true := by decide +kernel
