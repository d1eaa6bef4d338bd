/-! The words of the entries. -/
set_option maxRecDepth 100000 in
theorem q_ok_183 : (q_chkM 183 && q_all 183 qc_183 qw_183) = true := by decide +kernel
set_option maxRecDepth 100000 in
theorem q_ok_184 : (q_chkM 184 && q_all 184 qc_184 qw_184) = true := by decide +kernel
set_option maxRecDepth 100000 in
theorem q_ok_185 : (q_chkM 185 && q_all 185 qc_185 qw_185) = true := by decide +kernel
set_option maxRecDepth 100000 in
theorem q_ok_186 : (q_chkM 186 && q_all 186 qc_186 qw_186) = true := by decide +kernel
set_option maxRecDepth 100000 in
theorem q_ok_187 : (q_chkM 187 && q_all 187 qc_187 qw_187) = true := by decide +kernel
set_option maxRecDepth 100000 in
theorem q_ok_188 : (q_chkM 188 && q_all 188 qc_188 qw_188) = true := by decide +kernel
set_option maxRecDepth 100000 in
theorem q_ok_189 : (q_chkM 189 && q_all 189 qc_189 qw_189) = true := by decide +kernel
set_option maxRecDepth 100000 in
theorem q_ok_190 : (q_chkM 190 && q_all 190 qc_190 qw_190) = true := by decide +kernel
set_option maxRecDepth 100000 in
theorem q_ok_191 : (q_chkM 191 && q_all 191 qc_191 qw_191) = true := by decide +kernel
set_option maxRecDepth 100000 in
theorem q_ok_192 : (q_chkM 192 && q_all 192 qc_192 qw_192) = true := by decide +kernel
set_option maxRecDepth 100000 in
theorem q_ok_193 : (q_chkM 193 && q_all 193 qc_193 qw_193) = true := by decide +kernel
set_option maxRecDepth 100000 in
theorem q_ok_194 : (q_chkM 194 && q_all 194 qc_194 qw_194) = true := by decide +kernel
set_option maxRecDepth 100000 in
theorem q_ok_195 : (q_chkM 195 && q_all 195 qc_195 qw_195) = true := by decide +kernel
set_option maxRecDepth 100000 in
theorem q_ok_196 : (q_chkM 196 && q_all 196 qc_196 qw_196) = true := by decide +kernel
set_option maxRecDepth 100000 in
theorem q_ok_197 : (q_chkM 197 && q_all 197 qc_197 qw_197) = true := by decide +kernel
set_option maxRecDepth 100000 in
theorem q_ok_198 : (q_chkM 198 && q_all 198 qc_198 qw_198) = true := by decide +kernel
set_option maxRecDepth 100000 in
theorem q_ok_199 : (q_chkM 199 && q_all 199 qc_199 qw_199) = true := by decide +kernel
set_option maxRecDepth 100000 in
theorem q_ok_200 : (q_chkM 200 && q_all 200 qc_200 qw_200) = true := by decide +kernel
set_option maxRecDepth 100000 in
theorem q_ok_201 : (q_chkM 201 && q_all 201 qc_201 qw_201) = true := by decide +kernel
set_option maxRecDepth 100000 in
theorem q_ok_202 : (q_chkM 202 && q_all 202 qc_202 qw_202) = true := by decide +kernel
set_option maxRecDepth 100000 in
theorem q_ok_203 : (q_chkM 203 && q_all 203 qc_203 qw_203) = true := by decide +kernel
set_option maxRecDepth 100000 in
theorem q_ok_204 : (q_chkM 204 && q_all 204 qc_204 qw_204) = true := by decide +kernel
set_option maxRecDepth 100000 in
theorem q_ok_205 : (q_chkM 205 && q_all 205 qc_205 qw_205) = true := by decide +kernel
set_option maxRecDepth 100000 in
theorem q_ok_206 : (q_chkM 206 && q_all 206 qc_206 qw_206) = true := by decide +kernel
set_option maxRecDepth 100000 in
theorem q_ok_207 : (q_chkM 207 && q_all 207 qc_207 qw_207) = true := by decide +kernel
set_option maxRecDepth 100000 in
theorem q_ok_208 : (q_chkM 208 && q_all 208 qc_208 qw_208) = true := by decide +kernel
set_option maxRecDepth 100000 in
theorem q_ok_209 : (q_chkM 209 && q_all 209 qc_209 qw_209) = true := by decide +kernel
set_option maxRecDepth 100000 in
theorem q_ok_210 : (q_chkM 210 && q_all 210 qc_210 qw_210) = true := by decide +kernel
set_option maxRecDepth 100000 in
theorem q_ok_211 : (q_chkM 211 && q_all 211 qc_211 qw_211) = true := by decide +kernel
set_option maxRecDepth 100000 in
theorem q_ok_212 : (q_chkM 212 && q_all 212 qc_212 qw_212) = true := by decide +kernel
set_option maxRecDepth 100000 in
theorem q_ok_213 : (q_chkM 213 && q_all 213 qc_213 qw_213) = true := by decide +kernel
set_option maxRecDepth 100000 in
theorem q_ok_214 : (q_chkM 214 && q_all 214 qc_214 qw_214) = true := by decide +kernel
set_option maxRecDepth 100000 in
theorem q_ok_215 : (q_chkM 215 && q_all 215 qc_215 qw_215) = true := by decide +kernel
set_option maxRecDepth 100000 in
theorem q_ok_216 : (q_chkM 216 && q_all 216 qc_216 qw_216) = true := by decide +kernel
set_option maxRecDepth 100000 in
theorem q_ok_217 : (q_chkM 217 && q_all 217 qc_217 qw_217) = true := by decide +kernel
set_option maxRecDepth 100000 in
theorem q_ok_218 : (q_chkM 218 && q_all 218 qc_218 qw_218) = true := by decide +kernel
set_option maxRecDepth 100000 in
theorem q_ok_219 : (q_chkM 219 && q_all 219 qc_219 qw_219) = true := by decide +kernel
set_option maxRecDepth 100000 in
theorem q_ok_220 : (q_chkM 220 && q_all 220 qc_220 qw_220) = true := by decide +kernel
set_option maxRecDepth 100000 in
theorem q_ok_221 : (q_chkM 221 && q_all 221 qc_221 qw_221) = true := by decide +kernel
set_option maxRecDepth 100000 in
theorem q_ok_222 : (q_chkM 222 && q_all 222 qc_222 qw_222) = true := by decide +kernel
set_option maxRecDepth 100000 in
theorem q_ok_223 : (q_chkM 223 && q_all 223 qc_223 qw_223) = true := by decide +kernel
set_option maxRecDepth 100000 in
theorem q_ok_224 : (q_chkM 224 && q_all 224 qc_224 qw_224) = true := by decide +kernel
set_option maxRecDepth 100000 in
theorem q_ok_225 : (q_chkM 225 && q_all 225 qc_225 qw_225) = true := by decide +kernel
set_option maxRecDepth 100000 in
theorem q_ok_226 : (q_chkM 226 && q_all 226 qc_226 qw_226) = true := by decide +kernel
set_option maxRecDepth 100000 in
theorem q_ok_227 : (q_chkM 227 && q_all 227 qc_227 qw_227) = true := by decide +kernel
set_option maxRecDepth 100000 in
theorem q_ok_228 : (q_chkM 228 && q_all 228 qc_228 qw_228) = true := by decide +kernel
set_option maxRecDepth 100000 in
theorem q_ok_229 : (q_chkM 229 && q_all 229 qc_229 qw_229) = true := by decide +kernel
set_option maxRecDepth 100000 in
theorem q_ok_230 : (q_chkM 230 && q_all 230 qc_230 qw_230) = true := by decide +kernel
set_option maxRecDepth 100000 in
theorem q_ok_231 : (q_chkM 231 && q_all 231 qc_231 qw_231) = true := by decide +kernel
set_option maxRecDepth 100000 in
theorem q_ok_232 : (q_chkM 232 && q_all 232 qc_232 qw_232) = true := by decide +kernel
set_option maxRecDepth 100000 in
theorem q_ok_233 : (q_chkM 233 && q_all 233 qc_233 qw_233) = true := by decide +kernel
set_option maxRecDepth 100000 in
theorem q_ok_234 : (q_chkM 234 && q_all 234 qc_234 qw_234) = true := by decide +kernel
set_option maxRecDepth 100000 in
theorem q_ok_235 : (q_chkM 235 && q_all 235 qc_235 qw_235) = true := by decide +kernel
set_option maxRecDepth 100000 in
theorem q_ok_236 : (q_chkM 236 && q_all 236 qc_236 qw_236) = true := by decide +kernel
set_option maxRecDepth 100000 in
theorem q_ok_237 : (q_chkM 237 && q_all 237 qc_237 qw_237) = true := by decide +kernel
set_option maxRecDepth 100000 in
theorem q_ok_238 : (q_chkM 238 && q_all 238 qc_238 qw_238) = true := by decide +kernel
set_option maxRecDepth 100000 in
theorem q_ok_239 : (q_chkM 239 && q_all 239 qc_239 qw_239) = true := by decide +kernel
set_option maxRecDepth 100000 in
theorem q_ok_240 : (q_chkM 240 && q_all 240 qc_240 qw_240) = true := by decide +kernel
set_option maxRecDepth 100000 in
theorem q_ok_241 : (q_chkM 241 && q_all 241 qc_241 qw_241) = true := by decide +kernel
set_option maxRecDepth 100000 in
theorem q_ok_242 : (q_chkM 242 && q_all 242 qc_242 qw_242) = true := by decide +kernel
set_option maxRecDepth 100000 in
theorem q_ok_243 : (q_chkM 243 && q_all 243 qc_243 qw_243) = true := by decide +kernel
set_option maxRecDepth 100000 in
theorem q_ok_244 : (q_chkM 244 && q_all 244 qc_244 qw_244) = true := by decide +kernel
set_option maxRecDepth 100000 in
theorem q_ok_245 : (q_chkM 245 && q_all 245 qc_245 qw_245) = true := by decide +kernel
set_option maxRecDepth 100000 in
theorem q_ok_246 : (q_chkM 246 && q_all 246 qc_246 qw_246) = true := by decide +kernel
set_option maxRecDepth 100000 in
theorem q_ok_247 : (q_chkM 247 && q_all 247 qc_247 qw_247) = true := by decide +kernel
