set_option maxRecDepth 100000 in
theorem chk_195 : chkM 195 = true := by decide +kernel
set_option maxRecDepth 100000 in
theorem chk_196 : chkM 196 = true := by decide +kernel
set_option maxRecDepth 100000 in
theorem chk_197 : chkM 197 = true := by decide +kernel
set_option maxRecDepth 100000 in
theorem chk_198 : chkM 198 = true := by decide +kernel
set_option maxRecDepth 100000 in
theorem chk_199 : chkM 199 = true := by decide +kernel
set_option maxRecDepth 100000 in
theorem chk_200 : chkM 200 = true := by decide +kernel
set_option maxRecDepth 100000 in
theorem chk_201 : chkM 201 = true := by decide +kernel
set_option maxRecDepth 100000 in
theorem chk_202 : chkM 202 = true := by decide +kernel
set_option maxRecDepth 100000 in
theorem chk_203 : chkM 203 = true := by decide +kernel
set_option maxRecDepth 100000 in
theorem chk_204 : chkM 204 = true := by decide +kernel
set_option maxRecDepth 100000 in
theorem chk_205 : chkM 205 = true := by decide +kernel
set_option maxRecDepth 100000 in
theorem chk_206 : chkM 206 = true := by decide +kernel
set_option maxRecDepth 100000 in
theorem chk_207 : chkM 207 = true := by decide +kernel
set_option maxRecDepth 100000 in
theorem chk_208 : chkM 208 = true := by decide +kernel
set_option maxRecDepth 100000 in
theorem chk_209 : chkM 209 = true := by decide +kernel
set_option maxRecDepth 100000 in
theorem chk_210 : chkM 210 = true := by decide +kernel
set_option maxRecDepth 100000 in
theorem chk_211 : chkM 211 = true := by decide +kernel
set_option maxRecDepth 100000 in
theorem chk_212 : chkM 212 = true := by decide +kernel
set_option maxRecDepth 100000 in
theorem chk_213 : chkM 213 = true := by decide +kernel
set_option maxRecDepth 100000 in
theorem chk_214 : chkM 214 = true := by decide +kernel
set_option maxRecDepth 100000 in
theorem chk_215 : chkM 215 = true := by decide +kernel
set_option maxRecDepth 100000 in
theorem chk_216 : chkM 216 = true := by decide +kernel
set_option maxRecDepth 100000 in
theorem chk_217 : chkM 217 = true := by decide +kernel
set_option maxRecDepth 100000 in
theorem chk_218 : chkM 218 = true := by decide +kernel
set_option maxRecDepth 100000 in
theorem chk_219 : chkM 219 = true := by decide +kernel
set_option maxRecDepth 100000 in
theorem chk_220 : chkM 220 = true := by decide +kernel
set_option maxRecDepth 100000 in
theorem chk_221 : chkM 221 = true := by decide +kernel
set_option maxRecDepth 100000 in
theorem chk_222 : chkM 222 = true := by decide +kernel
set_option maxRecDepth 100000 in
theorem chk_223 : chkM 223 = true := by decide +kernel
set_option maxRecDepth 100000 in
theorem chk_224 : chkM 224 = true := by decide +kernel
set_option maxRecDepth 100000 in
theorem chk_225 : chkM 225 = true := by decide +kernel
set_option maxRecDepth 100000 in
theorem chk_226 : chkM 226 = true := by decide +kernel
set_option maxRecDepth 100000 in
theorem chk_227 : chkM 227 = true := by decide +kernel
set_option maxRecDepth 100000 in
theorem chk_228 : chkM 228 = true := by decide +kernel
set_option maxRecDepth 100000 in
theorem chk_229 : chkM 229 = true := by decide +kernel
set_option maxRecDepth 100000 in
theorem chk_230 : chkM 230 = true := by decide +kernel
set_option maxRecDepth 100000 in
theorem chk_231 : chkM 231 = true := by decide +kernel
set_option maxRecDepth 100000 in
theorem chk_232 : chkM 232 = true := by decide +kernel
set_option maxRecDepth 100000 in
theorem chk_233 : chkM 233 = true := by decide +kernel
set_option maxRecDepth 100000 in
theorem chk_234 : chkM 234 = true := by decide +kernel
set_option maxRecDepth 100000 in
theorem chk_235 : chkM 235 = true := by decide +kernel
set_option maxRecDepth 100000 in
theorem chk_236 : chkM 236 = true := by decide +kernel
set_option maxRecDepth 100000 in
theorem chk_237 : chkM 237 = true := by decide +kernel
set_option maxRecDepth 100000 in
theorem chk_238 : chkM 238 = true := by decide +kernel
set_option maxRecDepth 100000 in
theorem chk_239 : chkM 239 = true := by decide +kernel
set_option maxRecDepth 100000 in
theorem chk_240 : chkM 240 = true := by decide +kernel
set_option maxRecDepth 100000 in
theorem chk_241 : chkM 241 = true := by decide +kernel
set_option maxRecDepth 100000 in
theorem chk_242 : chkM 242 = true := by decide +kernel
set_option maxRecDepth 100000 in
theorem chk_243 : chkM 243 = true := by decide +kernel
set_option maxRecDepth 100000 in
theorem chk_244 : chkM 244 = true := by decide +kernel
set_option maxRecDepth 100000 in
theorem chk_245 : chkM 245 = true := by decide +kernel
set_option maxRecDepth 100000 in
theorem chk_246 : chkM 246 = true := by decide +kernel
set_option maxRecDepth 100000 in
theorem chk_247 : chkM 247 = true := by decide +kernel
