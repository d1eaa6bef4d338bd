/-! The words of the entries. -/
set_option maxRecDepth 100000 in
theorem q_ok_248 : (q_chkM 248 && q_all 248 qc_248 qw_248) = true := by decide +kernel
set_option maxRecDepth 100000 in
theorem q_ok_249 : (q_chkM 249 && q_all 249 qc_249 qw_249) = true := by decide +kernel
set_option maxRecDepth 100000 in
theorem q_ok_250 : (q_chkM 250 && q_all 250 qc_250 qw_250) = true := by decide +kernel
set_option maxRecDepth 100000 in
theorem q_ok_251 : (q_chkM 251 && q_all 251 qc_251 qw_251) = true := by decide +kernel
set_option maxRecDepth 100000 in
theorem q_ok_252 : (q_chkM 252 && q_all 252 qc_252 qw_252) = true := by decide +kernel
set_option maxRecDepth 100000 in
theorem q_ok_253 : (q_chkM 253 && q_all 253 qc_253 qw_253) = true := by decide +kernel
set_option maxRecDepth 100000 in
theorem q_ok_254 : (q_chkM 254 && q_all 254 qc_254 qw_254) = true := by decide +kernel
set_option maxRecDepth 100000 in
theorem q_ok_255 : (q_chkM 255 && q_all 255 qc_255 qw_255) = true := by decide +kernel
set_option maxRecDepth 100000 in
theorem q_ok_256 : (q_chkM 256 && q_all 256 qc_256 qw_256) = true := by decide +kernel
set_option maxRecDepth 100000 in
theorem q_ok_257 : (q_chkM 257 && q_all 257 qc_257 qw_257) = true := by decide +kernel
set_option maxRecDepth 100000 in
theorem q_ok_258 : (q_chkM 258 && q_all 258 qc_258 qw_258) = true := by decide +kernel
set_option maxRecDepth 100000 in
theorem q_ok_259 : (q_chkM 259 && q_all 259 qc_259 qw_259) = true := by decide +kernel
set_option maxRecDepth 100000 in
theorem q_ok_260 : (q_chkM 260 && q_all 260 qc_260 qw_260) = true := by decide +kernel
