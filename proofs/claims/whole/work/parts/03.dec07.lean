/-! The entries decode. -/
set_option maxRecDepth 100000 in
theorem q_dc_214_0 : q_dec prog_8_method_4_code ((qc_214.drop 0).take 100) = true := by decide +kernel
set_option maxRecDepth 100000 in
theorem q_dc_215_0 : q_dec prog_8_method_5_code ((qc_215.drop 0).take 100) = true := by decide +kernel
set_option maxRecDepth 100000 in
theorem q_dc_216_0 : q_dec prog_9_method_1_code ((qc_216.drop 0).take 100) = true := by decide +kernel
set_option maxRecDepth 100000 in
theorem q_dc_217_0 : q_dec prog_9_method_2_code ((qc_217.drop 0).take 100) = true := by decide +kernel
set_option maxRecDepth 100000 in
theorem q_dc_218_0 : q_dec prog_9_method_3_code ((qc_218.drop 0).take 100) = true := by decide +kernel
set_option maxRecDepth 100000 in
theorem q_dc_219_0 : q_dec prog_9_method_4_code ((qc_219.drop 0).take 100) = true := by decide +kernel
set_option maxRecDepth 100000 in
theorem q_dc_220_0 : q_dec prog_9_method_5_code ((qc_220.drop 0).take 100) = true := by decide +kernel
set_option maxRecDepth 100000 in
theorem q_dc_221_0 : q_dec prog_9_method_6_code ((qc_221.drop 0).take 100) = true := by decide +kernel
set_option maxRecDepth 100000 in
theorem q_dc_222_0 : q_dec prog_10_method_1_code ((qc_222.drop 0).take 100) = true := by decide +kernel
set_option maxRecDepth 100000 in
theorem q_dc_223_0 : q_dec prog_10_method_2_code ((qc_223.drop 0).take 100) = true := by decide +kernel
set_option maxRecDepth 100000 in
theorem q_dc_224_0 : q_dec prog_10_method_3_code ((qc_224.drop 0).take 100) = true := by decide +kernel
set_option maxRecDepth 100000 in
theorem q_dc_225_0 : q_dec prog_10_method_4_code ((qc_225.drop 0).take 100) = true := by decide +kernel
set_option maxRecDepth 100000 in
theorem q_dc_226_0 : q_dec prog_10_method_5_code ((qc_226.drop 0).take 100) = true := by decide +kernel
set_option maxRecDepth 100000 in
theorem q_dc_227_0 : q_dec prog_10_method_6_code ((qc_227.drop 0).take 100) = true := by decide +kernel
set_option maxRecDepth 100000 in
theorem q_dc_228_0 : q_dec prog_10_method_7_code ((qc_228.drop 0).take 100) = true := by decide +kernel
set_option maxRecDepth 100000 in
theorem q_dc_229_0 : q_dec prog_10_method_8_code ((qc_229.drop 0).take 100) = true := by decide +kernel
set_option maxRecDepth 100000 in
theorem q_dc_230_0 : q_dec prog_10_method_9_code ((qc_230.drop 0).take 100) = true := by decide +kernel
set_option maxRecDepth 100000 in
theorem q_dc_231_0 : q_dec prog_10_method_10_code ((qc_231.drop 0).take 100) = true := by decide +kernel
set_option maxRecDepth 100000 in
theorem q_dc_232_0 : q_dec prog_10_method_11_code ((qc_232.drop 0).take 100) = true := by decide +kernel
set_option maxRecDepth 100000 in
theorem q_dc_233_0 : q_dec prog_11_method_1_code ((qc_233.drop 0).take 100) = true := by decide +kernel
set_option maxRecDepth 100000 in
theorem q_dc_234_0 : q_dec prog_11_method_2_code ((qc_234.drop 0).take 100) = true := by decide +kernel
set_option maxRecDepth 100000 in
theorem q_dc_235_0 : q_dec prog_11_method_3_code ((qc_235.drop 0).take 100) = true := by decide +kernel
set_option maxRecDepth 100000 in
theorem q_dc_236_0 : q_dec prog_11_method_4_code ((qc_236.drop 0).take 100) = true := by decide +kernel
set_option maxRecDepth 100000 in
theorem q_dc_237_0 : q_dec prog_11_method_5_code ((qc_237.drop 0).take 100) = true := by decide +kernel
set_option maxRecDepth 100000 in
theorem q_dc_238_0 : q_dec prog_11_method_6_code ((qc_238.drop 0).take 100) = true := by decide +kernel
set_option maxRecDepth 100000 in
theorem q_dc_239_0 : q_dec prog_11_method_7_code ((qc_239.drop 0).take 100) = true := by decide +kernel
set_option maxRecDepth 100000 in
theorem q_dc_240_0 : q_dec prog_11_method_8_code ((qc_240.drop 0).take 100) = true := by decide +kernel
set_option maxRecDepth 100000 in
theorem q_dc_241_0 : q_dec prog_11_method_9_code ((qc_241.drop 0).take 100) = true := by decide +kernel
set_option maxRecDepth 100000 in
theorem q_dc_242_0 : q_dec prog_11_method_10_code ((qc_242.drop 0).take 100) = true := by decide +kernel
set_option maxRecDepth 100000 in
theorem q_dc_243_0 : q_dec prog_11_method_11_code ((qc_243.drop 0).take 100) = true := by decide +kernel
set_option maxRecDepth 100000 in
theorem q_dc_244_0 : q_dec prog_12_method_1_code ((qc_244.drop 0).take 100) = true := by decide +kernel
set_option maxRecDepth 100000 in
theorem q_dc_245_0 : q_dec prog_12_method_2_code ((qc_245.drop 0).take 100) = true := by decide +kernel
set_option maxRecDepth 100000 in
theorem q_dc_246_0 : q_dec prog_12_method_3_code ((qc_246.drop 0).take 100) = true := by decide +kernel
set_option maxRecDepth 100000 in
theorem q_dc_247_0 : q_dec prog_12_method_4_code ((qc_247.drop 0).take 100) = true := by decide +kernel
set_option maxRecDepth 100000 in
theorem q_dc_248_0 : q_dec prog_12_method_5_code ((qc_248.drop 0).take 100) = true := by decide +kernel
set_option maxRecDepth 100000 in
theorem q_dc_249_0 : q_dec prog_12_method_6_code ((qc_249.drop 0).take 100) = true := by decide +kernel
set_option maxRecDepth 100000 in
theorem q_dc_250_0 : q_dec prog_12_method_7_code ((qc_250.drop 0).take 100) = true := by decide +kernel
set_option maxRecDepth 100000 in
theorem q_dc_251_0 : q_dec prog_12_method_8_code ((qc_251.drop 0).take 100) = true := by decide +kernel
set_option maxRecDepth 100000 in
theorem q_dc_252_0 : q_dec prog_12_method_9_code ((qc_252.drop 0).take 100) = true := by decide +kernel
set_option maxRecDepth 100000 in
theorem q_dc_253_0 : q_dec prog_12_method_10_code ((qc_253.drop 0).take 100) = true := by decide +kernel
set_option maxRecDepth 100000 in
theorem q_dc_254_0 : q_dec prog_12_method_11_code ((qc_254.drop 0).take 100) = true := by decide +kernel
set_option maxRecDepth 100000 in
theorem q_dc_255_0 : q_dec prog_12_method_12_code ((qc_255.drop 0).take 100) = true := by decide +kernel
set_option maxRecDepth 100000 in
theorem q_dc_256_0 : q_dec prog_12_method_13_code ((qc_256.drop 0).take 100) = true := by decide +kernel
set_option maxRecDepth 100000 in
theorem q_dc_257_0 : q_dec prog_12_method_14_code ((qc_257.drop 0).take 100) = true := by decide +kernel
set_option maxRecDepth 100000 in
theorem q_dc_258_0 : q_dec prog_12_method_15_code ((qc_258.drop 0).take 100) = true := by decide +kernel
set_option maxRecDepth 100000 in
theorem q_dc_259_0 : q_dec prog_12_method_16_code ((qc_259.drop 0).take 100) = true := by decide +kernel
set_option maxRecDepth 100000 in
theorem q_dc_260_0 : q_dec prog_12_method_17_code ((qc_260.drop 0).take 100) = true := by decide +kernel
