set_option maxRecDepth 100000 in
theorem bk_ok_180 : bk_okP (bk_m 180) P_180 = true ∧ 3 = (bk_m 180).2.2.1 := by decide +kernel
set_option maxRecDepth 100000 in
theorem bk_ok_181 : bk_okP (bk_m 181) P_181 = true ∧ 2 = (bk_m 181).2.2.1 := by decide +kernel
set_option maxRecDepth 100000 in
theorem bk_ok_182 : bk_okP (bk_m 182) P_182 = true ∧ 2 = (bk_m 182).2.2.1 := by decide +kernel
set_option maxRecDepth 100000 in
theorem bk_ok_183 : bk_okP (bk_m 183) P_183 = true ∧ 6 = (bk_m 183).2.2.1 := by decide +kernel
set_option maxRecDepth 100000 in
theorem bk_ok_184 : bk_okP (bk_m 184) P_184 = true ∧ 4 = (bk_m 184).2.2.1 := by decide +kernel
set_option maxRecDepth 100000 in
theorem bk_ok_185 : bk_okP (bk_m 185) P_185 = true ∧ 2 = (bk_m 185).2.2.1 := by decide +kernel
set_option maxRecDepth 100000 in
theorem bk_ok_186 : bk_okP (bk_m 186) P_186 = true ∧ 2 = (bk_m 186).2.2.1 := by decide +kernel
set_option maxRecDepth 100000 in
theorem bk_ok_187 : bk_okP (bk_m 187) P_187 = true ∧ 1 = (bk_m 187).2.2.1 := by decide +kernel
set_option maxRecDepth 100000 in
theorem bk_ok_188 : bk_okP (bk_m 188) P_188 = true ∧ 1 = (bk_m 188).2.2.1 := by decide +kernel
set_option maxRecDepth 100000 in
theorem bk_ok_189 : bk_okP (bk_m 189) P_189 = true ∧ 2 = (bk_m 189).2.2.1 := by decide +kernel
set_option maxRecDepth 100000 in
theorem bk_ok_190 : bk_okP (bk_m 190) P_190 = true ∧ 1 = (bk_m 190).2.2.1 := by decide +kernel
set_option maxRecDepth 100000 in
theorem bk_ok_191 : bk_okP (bk_m 191) P_191 = true ∧ 3 = (bk_m 191).2.2.1 := by decide +kernel
set_option maxRecDepth 100000 in
theorem bk_ok_192 : bk_okP (bk_m 192) P_192 = true ∧ 2 = (bk_m 192).2.2.1 := by decide +kernel
set_option maxRecDepth 100000 in
theorem bk_ok_193 : bk_okP (bk_m 193) P_193 = true ∧ 1 = (bk_m 193).2.2.1 := by decide +kernel
set_option maxRecDepth 100000 in
theorem bk_ok_194 : bk_okP (bk_m 194) P_194 = true ∧ 2 = (bk_m 194).2.2.1 := by decide +kernel
set_option maxRecDepth 100000 in
theorem bk_ok_195 : bk_okP (bk_m 195) P_195 = true ∧ 3 = (bk_m 195).2.2.1 := by decide +kernel
set_option maxRecDepth 100000 in
theorem bk_ok_196 : bk_okP (bk_m 196) P_196 = true ∧ 2 = (bk_m 196).2.2.1 := by decide +kernel
set_option maxRecDepth 100000 in
theorem bk_ok_197 : bk_okP (bk_m 197) P_197 = true ∧ 3 = (bk_m 197).2.2.1 := by decide +kernel
set_option maxRecDepth 100000 in
theorem bk_ok_198 : bk_okP (bk_m 198) P_198 = true ∧ 2 = (bk_m 198).2.2.1 := by decide +kernel
set_option maxRecDepth 100000 in
theorem bk_ok_199 : bk_okP (bk_m 199) P_199 = true ∧ 3 = (bk_m 199).2.2.1 := by decide +kernel
set_option maxRecDepth 100000 in
theorem bk_ok_200 : bk_okP (bk_m 200) P_200 = true ∧ 3 = (bk_m 200).2.2.1 := by decide +kernel
set_option maxRecDepth 100000 in
theorem bk_ok_201 : bk_okP (bk_m 201) P_201 = true ∧ 2 = (bk_m 201).2.2.1 := by decide +kernel
set_option maxRecDepth 100000 in
theorem bk_ok_202 : bk_okP (bk_m 202) P_202 = true ∧ 2 = (bk_m 202).2.2.1 := by decide +kernel
set_option maxRecDepth 100000 in
theorem bk_ok_203 : bk_okP (bk_m 203) P_203 = true ∧ 3 = (bk_m 203).2.2.1 := by decide +kernel
set_option maxRecDepth 100000 in
theorem bk_ok_204 : bk_okP (bk_m 204) P_204 = true ∧ 4 = (bk_m 204).2.2.1 := by decide +kernel
set_option maxRecDepth 100000 in
theorem bk_ok_205 : bk_okP (bk_m 205) P_205 = true ∧ 4 = (bk_m 205).2.2.1 := by decide +kernel
set_option maxRecDepth 100000 in
theorem bk_ok_206 : bk_okP (bk_m 206) P_206 = true ∧ 2 = (bk_m 206).2.2.1 := by decide +kernel
set_option maxRecDepth 100000 in
theorem bk_ok_207 : bk_okP (bk_m 207) P_207 = true ∧ 4 = (bk_m 207).2.2.1 := by decide +kernel
set_option maxRecDepth 100000 in
theorem bk_ok_208 : bk_okP (bk_m 208) P_208 = true ∧ 4 = (bk_m 208).2.2.1 := by decide +kernel
set_option maxRecDepth 100000 in
theorem bk_ok_209 : bk_okP (bk_m 209) P_209 = true ∧ 6 = (bk_m 209).2.2.1 := by decide +kernel
set_option maxRecDepth 100000 in
theorem bk_ok_210 : bk_okP (bk_m 210) P_210 = true ∧ 5 = (bk_m 210).2.2.1 := by decide +kernel
set_option maxRecDepth 100000 in
theorem bk_ok_211 : bk_okP (bk_m 211) P_211 = true ∧ 1 = (bk_m 211).2.2.1 := by decide +kernel
set_option maxRecDepth 100000 in
theorem bk_ok_212 : bk_okP (bk_m 212) P_212 = true ∧ 5 = (bk_m 212).2.2.1 := by decide +kernel
set_option maxRecDepth 100000 in
theorem bk_ok_213 : bk_okP (bk_m 213) P_213 = true ∧ 2 = (bk_m 213).2.2.1 := by decide +kernel
set_option maxRecDepth 100000 in
theorem bk_ok_214 : bk_okP (bk_m 214) P_214 = true ∧ 5 = (bk_m 214).2.2.1 := by decide +kernel
set_option maxRecDepth 100000 in
theorem bk_ok_215 : bk_okP (bk_m 215) P_215 = true ∧ 4 = (bk_m 215).2.2.1 := by decide +kernel
set_option maxRecDepth 100000 in
theorem bk_ok_216 : bk_okP (bk_m 216) P_216 = true ∧ 4 = (bk_m 216).2.2.1 := by decide +kernel
set_option maxRecDepth 100000 in
theorem bk_ok_217 : bk_okP (bk_m 217) P_217 = true ∧ 2 = (bk_m 217).2.2.1 := by decide +kernel
set_option maxRecDepth 100000 in
theorem bk_ok_218 : bk_okP (bk_m 218) P_218 = true ∧ 2 = (bk_m 218).2.2.1 := by decide +kernel
set_option maxRecDepth 100000 in
theorem bk_ok_219 : bk_okP (bk_m 219) P_219 = true ∧ 3 = (bk_m 219).2.2.1 := by decide +kernel
set_option maxRecDepth 100000 in
theorem bk_ok_220 : bk_okP (bk_m 220) P_220 = true ∧ 2 = (bk_m 220).2.2.1 := by decide +kernel
set_option maxRecDepth 100000 in
theorem bk_ok_221 : bk_okP (bk_m 221) P_221 = true ∧ 2 = (bk_m 221).2.2.1 := by decide +kernel
set_option maxRecDepth 100000 in
theorem bk_ok_222 : bk_okP (bk_m 222) P_222 = true ∧ 2 = (bk_m 222).2.2.1 := by decide +kernel
set_option maxRecDepth 100000 in
theorem bk_ok_223 : bk_okP (bk_m 223) P_223 = true ∧ 4 = (bk_m 223).2.2.1 := by decide +kernel
set_option maxRecDepth 100000 in
theorem bk_ok_224 : bk_okP (bk_m 224) P_224 = true ∧ 3 = (bk_m 224).2.2.1 := by decide +kernel
set_option maxRecDepth 100000 in
theorem bk_ok_225 : bk_okP (bk_m 225) P_225 = true ∧ 5 = (bk_m 225).2.2.1 := by decide +kernel
set_option maxRecDepth 100000 in
theorem bk_ok_226 : bk_okP (bk_m 226) P_226 = true ∧ 3 = (bk_m 226).2.2.1 := by decide +kernel
set_option maxRecDepth 100000 in
theorem bk_ok_227 : bk_okP (bk_m 227) P_227 = true ∧ 1 = (bk_m 227).2.2.1 := by decide +kernel
set_option maxRecDepth 100000 in
theorem bk_ok_228 : bk_okP (bk_m 228) P_228 = true ∧ 2 = (bk_m 228).2.2.1 := by decide +kernel
set_option maxRecDepth 100000 in
theorem bk_ok_229 : bk_okP (bk_m 229) P_229 = true ∧ 2 = (bk_m 229).2.2.1 := by decide +kernel
set_option maxRecDepth 100000 in
theorem bk_ok_230 : bk_okP (bk_m 230) P_230 = true ∧ 4 = (bk_m 230).2.2.1 := by decide +kernel
set_option maxRecDepth 100000 in
theorem bk_ok_231 : bk_okP (bk_m 231) P_231 = true ∧ 6 = (bk_m 231).2.2.1 := by decide +kernel
set_option maxRecDepth 100000 in
theorem bk_ok_232 : bk_okP (bk_m 232) P_232 = true ∧ 12 = (bk_m 232).2.2.1 := by decide +kernel
set_option maxRecDepth 100000 in
theorem bk_ok_233 : bk_okP (bk_m 233) P_233 = true ∧ 2 = (bk_m 233).2.2.1 := by decide +kernel
set_option maxRecDepth 100000 in
theorem bk_ok_234 : bk_okP (bk_m 234) P_234 = true ∧ 5 = (bk_m 234).2.2.1 := by decide +kernel
set_option maxRecDepth 100000 in
theorem bk_ok_235 : bk_okP (bk_m 235) P_235 = true ∧ 5 = (bk_m 235).2.2.1 := by decide +kernel
set_option maxRecDepth 100000 in
theorem bk_ok_236 : bk_okP (bk_m 236) P_236 = true ∧ 2 = (bk_m 236).2.2.1 := by decide +kernel
set_option maxRecDepth 100000 in
theorem bk_ok_237 : bk_okP (bk_m 237) P_237 = true ∧ 4 = (bk_m 237).2.2.1 := by decide +kernel
set_option maxRecDepth 100000 in
theorem bk_ok_238 : bk_okP (bk_m 238) P_238 = true ∧ 1 = (bk_m 238).2.2.1 := by decide +kernel
set_option maxRecDepth 100000 in
theorem bk_ok_239 : bk_okP (bk_m 239) P_239 = true ∧ 2 = (bk_m 239).2.2.1 := by decide +kernel
theorem bk_okT_200 : ∀ a, a < 200 → bk_ok1 a := lt_s (lt_s (lt_s (lt_s (lt_s (lt_s (lt_s (lt_s (lt_s (lt_s (lt_s (lt_s (lt_s (lt_s (lt_s (lt_s (lt_s (lt_s (lt_s (lt_s (bk_okT_180) bk_ok_180) bk_ok_181) bk_ok_182) bk_ok_183) bk_ok_184) bk_ok_185) bk_ok_186) bk_ok_187) bk_ok_188) bk_ok_189) bk_ok_190) bk_ok_191) bk_ok_192) bk_ok_193) bk_ok_194) bk_ok_195) bk_ok_196) bk_ok_197) bk_ok_198) bk_ok_199
theorem bk_okT_220 : ∀ a, a < 220 → bk_ok1 a := lt_s (lt_s (lt_s (lt_s (lt_s (lt_s (lt_s (lt_s (lt_s (lt_s (lt_s (lt_s (lt_s (lt_s (lt_s (lt_s (lt_s (lt_s (lt_s (lt_s (bk_okT_200) bk_ok_200) bk_ok_201) bk_ok_202) bk_ok_203) bk_ok_204) bk_ok_205) bk_ok_206) bk_ok_207) bk_ok_208) bk_ok_209) bk_ok_210) bk_ok_211) bk_ok_212) bk_ok_213) bk_ok_214) bk_ok_215) bk_ok_216) bk_ok_217) bk_ok_218) bk_ok_219
theorem bk_okT_240 : ∀ a, a < 240 → bk_ok1 a := lt_s (lt_s (lt_s (lt_s (lt_s (lt_s (lt_s (lt_s (lt_s (lt_s (lt_s (lt_s (lt_s (lt_s (lt_s (lt_s (lt_s (lt_s (lt_s (lt_s (bk_okT_220) bk_ok_220) bk_ok_221) bk_ok_222) bk_ok_223) bk_ok_224) bk_ok_225) bk_ok_226) bk_ok_227) bk_ok_228) bk_ok_229) bk_ok_230) bk_ok_231) bk_ok_232) bk_ok_233) bk_ok_234) bk_ok_235) bk_ok_236) bk_ok_237) bk_ok_238) bk_ok_239
