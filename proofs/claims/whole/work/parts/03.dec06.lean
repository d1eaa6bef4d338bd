/-! The entries decode. -/
set_option maxRecDepth 100000 in
theorem q_dc_147_0 : q_dec prog_3_method_2_code ((qc_147.drop 0).take 100) = true := by decide +kernel
set_option maxRecDepth 100000 in
theorem q_dc_148_0 : q_dec prog_3_method_3_code ((qc_148.drop 0).take 100) = true := by decide +kernel
set_option maxRecDepth 100000 in
theorem q_dc_149_0 : q_dec prog_3_method_4_code ((qc_149.drop 0).take 100) = true := by decide +kernel
set_option maxRecDepth 100000 in
theorem q_dc_150_0 : q_dec prog_3_method_5_code ((qc_150.drop 0).take 100) = true := by decide +kernel
set_option maxRecDepth 100000 in
theorem q_dc_151_0 : q_dec prog_3_method_6_code ((qc_151.drop 0).take 100) = true := by decide +kernel
set_option maxRecDepth 100000 in
theorem q_dc_152_0 : q_dec prog_3_method_7_code ((qc_152.drop 0).take 100) = true := by decide +kernel
set_option maxRecDepth 100000 in
theorem q_dc_153_0 : q_dec prog_3_method_8_code ((qc_153.drop 0).take 100) = true := by decide +kernel
set_option maxRecDepth 100000 in
theorem q_dc_154_0 : q_dec prog_3_method_9_code ((qc_154.drop 0).take 100) = true := by decide +kernel
set_option maxRecDepth 100000 in
theorem q_dc_155_0 : q_dec prog_3_method_10_code ((qc_155.drop 0).take 100) = true := by decide +kernel
set_option maxRecDepth 100000 in
theorem q_dc_156_0 : q_dec prog_3_method_11_code ((qc_156.drop 0).take 100) = true := by decide +kernel
set_option maxRecDepth 100000 in
theorem q_dc_157_0 : q_dec prog_3_method_12_code ((qc_157.drop 0).take 100) = true := by decide +kernel
set_option maxRecDepth 100000 in
theorem q_dc_158_0 : q_dec prog_3_method_13_code ((qc_158.drop 0).take 100) = true := by decide +kernel
set_option maxRecDepth 100000 in
theorem q_dc_159_0 : q_dec prog_3_method_14_code ((qc_159.drop 0).take 100) = true := by decide +kernel
set_option maxRecDepth 100000 in
theorem q_dc_160_0 : q_dec prog_3_method_15_code ((qc_160.drop 0).take 100) = true := by decide +kernel
set_option maxRecDepth 100000 in
theorem q_dc_161_0 : q_dec prog_3_method_16_code ((qc_161.drop 0).take 100) = true := by decide +kernel
set_option maxRecDepth 100000 in
theorem q_dc_162_0 : q_dec prog_3_method_17_code ((qc_162.drop 0).take 100) = true := by decide +kernel
set_option maxRecDepth 100000 in
theorem q_dc_163_0 : q_dec prog_3_method_18_code ((qc_163.drop 0).take 100) = true := by decide +kernel
set_option maxRecDepth 100000 in
theorem q_dc_164_0 : q_dec prog_3_method_19_code ((qc_164.drop 0).take 100) = true := by decide +kernel
set_option maxRecDepth 100000 in
theorem q_dc_165_0 : q_dec prog_3_method_20_code ((qc_165.drop 0).take 100) = true := by decide +kernel
set_option maxRecDepth 100000 in
theorem q_dc_166_0 : q_dec prog_3_method_21_code ((qc_166.drop 0).take 100) = true := by decide +kernel
set_option maxRecDepth 100000 in
theorem q_dc_167_0 : q_dec prog_3_method_22_code ((qc_167.drop 0).take 100) = true := by decide +kernel
set_option maxRecDepth 100000 in
theorem q_dc_168_0 : q_dec prog_3_method_23_code ((qc_168.drop 0).take 100) = true := by decide +kernel
set_option maxRecDepth 100000 in
theorem q_dc_169_0 : q_dec prog_3_method_24_code ((qc_169.drop 0).take 100) = true := by decide +kernel
set_option maxRecDepth 100000 in
theorem q_dc_170_0 : q_dec prog_3_method_25_code ((qc_170.drop 0).take 100) = true := by decide +kernel
set_option maxRecDepth 100000 in
theorem q_dc_171_0 : q_dec prog_3_method_26_code ((qc_171.drop 0).take 100) = true := by decide +kernel
set_option maxRecDepth 100000 in
theorem q_dc_172_0 : q_dec prog_3_method_27_code ((qc_172.drop 0).take 100) = true := by decide +kernel
set_option maxRecDepth 100000 in
theorem q_dc_173_0 : q_dec prog_3_method_28_code ((qc_173.drop 0).take 100) = true := by decide +kernel
set_option maxRecDepth 100000 in
theorem q_dc_174_0 : q_dec prog_4_method_1_code ((qc_174.drop 0).take 100) = true := by decide +kernel
set_option maxRecDepth 100000 in
theorem q_dc_175_0 : q_dec prog_4_method_2_code ((qc_175.drop 0).take 100) = true := by decide +kernel
set_option maxRecDepth 100000 in
theorem q_dc_176_0 : q_dec prog_4_method_3_code ((qc_176.drop 0).take 100) = true := by decide +kernel
set_option maxRecDepth 100000 in
theorem q_dc_177_0 : q_dec prog_4_method_4_code ((qc_177.drop 0).take 100) = true := by decide +kernel
set_option maxRecDepth 100000 in
theorem q_dc_178_0 : q_dec prog_4_method_5_code ((qc_178.drop 0).take 100) = true := by decide +kernel
set_option maxRecDepth 100000 in
theorem q_dc_179_0 : q_dec prog_4_method_6_code ((qc_179.drop 0).take 100) = true := by decide +kernel
set_option maxRecDepth 100000 in
theorem q_dc_180_0 : q_dec prog_4_method_7_code ((qc_180.drop 0).take 100) = true := by decide +kernel
set_option maxRecDepth 100000 in
theorem q_dc_181_0 : q_dec prog_4_method_8_code ((qc_181.drop 0).take 100) = true := by decide +kernel
set_option maxRecDepth 100000 in
theorem q_dc_182_0 : q_dec prog_4_method_9_code ((qc_182.drop 0).take 100) = true := by decide +kernel
set_option maxRecDepth 100000 in
theorem q_dc_183_0 : q_dec prog_4_method_10_code ((qc_183.drop 0).take 100) = true := by decide +kernel
set_option maxRecDepth 100000 in
theorem q_dc_184_0 : q_dec prog_4_method_11_code ((qc_184.drop 0).take 100) = true := by decide +kernel
set_option maxRecDepth 100000 in
theorem q_dc_185_0 : q_dec prog_4_method_12_code ((qc_185.drop 0).take 100) = true := by decide +kernel
set_option maxRecDepth 100000 in
theorem q_dc_186_0 : q_dec prog_4_method_13_code ((qc_186.drop 0).take 100) = true := by decide +kernel
set_option maxRecDepth 100000 in
theorem q_dc_187_0 : q_dec prog_4_method_14_code ((qc_187.drop 0).take 100) = true := by decide +kernel
set_option maxRecDepth 100000 in
theorem q_dc_187_1 : q_dec prog_4_method_14_code ((qc_187.drop 100).take 100) = true := by decide +kernel
set_option maxRecDepth 100000 in
theorem q_dc_188_0 : q_dec prog_4_method_15_code ((qc_188.drop 0).take 100) = true := by decide +kernel
set_option maxRecDepth 100000 in
theorem q_dc_189_0 : q_dec prog_4_method_16_code ((qc_189.drop 0).take 100) = true := by decide +kernel
set_option maxRecDepth 100000 in
theorem q_dc_190_0 : q_dec prog_5_method_1_code ((qc_190.drop 0).take 100) = true := by decide +kernel
set_option maxRecDepth 100000 in
theorem q_dc_191_0 : q_dec prog_5_method_2_code ((qc_191.drop 0).take 100) = true := by decide +kernel
set_option maxRecDepth 100000 in
theorem q_dc_192_0 : q_dec prog_5_method_3_code ((qc_192.drop 0).take 100) = true := by decide +kernel
set_option maxRecDepth 100000 in
theorem q_dc_193_0 : q_dec prog_5_method_4_code ((qc_193.drop 0).take 100) = true := by decide +kernel
set_option maxRecDepth 100000 in
theorem q_dc_194_0 : q_dec prog_5_method_5_code ((qc_194.drop 0).take 100) = true := by decide +kernel
set_option maxRecDepth 100000 in
theorem q_dc_195_0 : q_dec prog_5_method_6_code ((qc_195.drop 0).take 100) = true := by decide +kernel
set_option maxRecDepth 100000 in
theorem q_dc_196_0 : q_dec prog_5_method_7_code ((qc_196.drop 0).take 100) = true := by decide +kernel
set_option maxRecDepth 100000 in
theorem q_dc_197_0 : q_dec prog_6_method_1_code ((qc_197.drop 0).take 100) = true := by decide +kernel
set_option maxRecDepth 100000 in
theorem q_dc_198_0 : q_dec prog_6_method_2_code ((qc_198.drop 0).take 100) = true := by decide +kernel
set_option maxRecDepth 100000 in
theorem q_dc_199_0 : q_dec prog_6_method_3_code ((qc_199.drop 0).take 100) = true := by decide +kernel
set_option maxRecDepth 100000 in
theorem q_dc_200_0 : q_dec prog_6_method_4_code ((qc_200.drop 0).take 100) = true := by decide +kernel
set_option maxRecDepth 100000 in
theorem q_dc_201_0 : q_dec prog_6_method_5_code ((qc_201.drop 0).take 100) = true := by decide +kernel
set_option maxRecDepth 100000 in
theorem q_dc_202_0 : q_dec prog_6_method_6_code ((qc_202.drop 0).take 100) = true := by decide +kernel
set_option maxRecDepth 100000 in
theorem q_dc_203_0 : q_dec prog_6_method_7_code ((qc_203.drop 0).take 100) = true := by decide +kernel
set_option maxRecDepth 100000 in
theorem q_dc_204_0 : q_dec prog_6_method_8_code ((qc_204.drop 0).take 100) = true := by decide +kernel
set_option maxRecDepth 100000 in
theorem q_dc_205_0 : q_dec prog_6_method_9_code ((qc_205.drop 0).take 100) = true := by decide +kernel
set_option maxRecDepth 100000 in
theorem q_dc_206_0 : q_dec prog_7_method_1_code ((qc_206.drop 0).take 100) = true := by decide +kernel
set_option maxRecDepth 100000 in
theorem q_dc_207_0 : q_dec prog_7_method_2_code ((qc_207.drop 0).take 100) = true := by decide +kernel
set_option maxRecDepth 100000 in
theorem q_dc_208_0 : q_dec prog_7_method_3_code ((qc_208.drop 0).take 100) = true := by decide +kernel
set_option maxRecDepth 100000 in
theorem q_dc_209_0 : q_dec prog_7_method_4_code ((qc_209.drop 0).take 100) = true := by decide +kernel
set_option maxRecDepth 100000 in
theorem q_dc_210_0 : q_dec prog_7_method_5_code ((qc_210.drop 0).take 100) = true := by decide +kernel
set_option maxRecDepth 100000 in
theorem q_dc_211_0 : q_dec prog_8_method_1_code ((qc_211.drop 0).take 100) = true := by decide +kernel
set_option maxRecDepth 100000 in
theorem q_dc_212_0 : q_dec prog_8_method_2_code ((qc_212.drop 0).take 100) = true := by decide +kernel
set_option maxRecDepth 100000 in
theorem q_dc_213_0 : q_dec prog_8_method_3_code ((qc_213.drop 0).take 100) = true := by decide +kernel
