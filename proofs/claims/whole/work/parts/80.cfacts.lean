/-! printed by wip/whole/gen_face.py -/
theorem na_124 : xnargs 124 = 1 := by decide +kernel
theorem wv_124 : xSe.contains 124 = true ∧ xIn.contains 124 = true := by decide +kernel
theorem wc_124 : (xMn 124).cls = (xCl 13).1 := by decide +kernel
theorem na_129 : xnargs 129 = 0 := by decide +kernel
theorem wv_129 : xSe.contains 129 = true ∧ xIn.contains 129 = true := by decide +kernel
theorem wc_129 : (xMn 129).cls = (xCl 13).1 := by decide +kernel
theorem na_133 : xnargs 133 = 1 := by decide +kernel
theorem wv_133 : xSe.contains 133 = true ∧ xIn.contains 133 = true := by decide +kernel
theorem wc_133 : (xMn 133).cls = (xCl 13).1 := by decide +kernel
theorem na_136 : xnargs 136 = 0 := by decide +kernel
theorem wv_136 : xSe.contains 136 = true ∧ xIn.contains 136 = true := by decide +kernel
theorem wc_136 : (xMn 136).cls = (xCl 13).1 := by decide +kernel
theorem na_137 : xnargs 137 = 1 := by decide +kernel
theorem wv_137 : xSe.contains 137 = true ∧ xIn.contains 137 = true := by decide +kernel
theorem wc_137 : (xMn 137).cls = (xCl 13).1 := by decide +kernel
theorem na_148 : xnargs 148 = 0 := by decide +kernel
theorem wv_148 : xSe.contains 148 = true ∧ xIn.contains 148 = true := by decide +kernel
theorem wc_148 : (xMn 148).cls = (xCl 13).1 := by decide +kernel
theorem na_15 : xnargs 15 = 4 := by decide +kernel
theorem wv_15 : xSe.contains 15 = true ∧ xIn.contains 15 = true := by decide +kernel
theorem wc_15 : (xMn 15).cls = (xCl 4).1 := by decide +kernel
theorem na_16 : xnargs 16 = 3 := by decide +kernel
theorem wv_16 : xSe.contains 16 = true ∧ xIn.contains 16 = true := by decide +kernel
theorem wc_16 : (xMn 16).cls = (xCl 4).1 := by decide +kernel
theorem na_163 : xnargs 163 = 1 := by decide +kernel
theorem wv_163 : xSe.contains 163 = true ∧ xIn.contains 163 = true := by decide +kernel
theorem wc_163 : (xMn 163).cls = (xCl 13).1 := by decide +kernel
theorem na_181 : xnargs 181 = 1 := by decide +kernel
theorem wv_181 : xSe.contains 181 = true ∧ xIn.contains 181 = true := by decide +kernel
theorem wc_181 : (xMn 181).cls = (xCl 13).1 := by decide +kernel
theorem na_186 : xnargs 186 = 2 := by decide +kernel
theorem wv_186 : xSe.contains 186 = true ∧ xIn.contains 186 = true := by decide +kernel
theorem wc_186 : (xMn 186).cls = (xCl 14).1 := by decide +kernel
theorem na_187 : xnargs 187 = 1 := by decide +kernel
theorem wv_187 : xSe.contains 187 = true ∧ xIn.contains 187 = true := by decide +kernel
theorem wc_187 : (xMn 187).cls = (xCl 14).1 := by decide +kernel
theorem na_190 : xnargs 190 = 1 := by decide +kernel
theorem wv_190 : xSe.contains 190 = true ∧ xIn.contains 190 = true := by decide +kernel
theorem wc_190 : (xMn 190).cls = (xCl 14).1 := by decide +kernel
theorem na_205 : xnargs 205 = 1 := by decide +kernel
theorem wv_205 : xSe.contains 205 = true ∧ xIn.contains 205 = true := by decide +kernel
theorem wc_205 : (xMn 205).cls = (xCl 15).1 := by decide +kernel
theorem na_21 : xnargs 21 = 1 := by decide +kernel
theorem wv_21 : xSe.contains 21 = true ∧ xIn.contains 21 = true := by decide +kernel
theorem wc_21 : (xMn 21).cls = (xCl 5).1 := by decide +kernel
theorem na_217 : xnargs 217 = 1 := by decide +kernel
theorem wv_217 : xSe.contains 217 = true ∧ xIn.contains 217 = true := by decide +kernel
theorem wc_217 : (xMn 217).cls = (xCl 15).1 := by decide +kernel
theorem na_219 : xnargs 219 = 1 := by decide +kernel
theorem wv_219 : xSe.contains 219 = true ∧ xIn.contains 219 = true := by decide +kernel
theorem wc_219 : (xMn 219).cls = (xCl 15).1 := by decide +kernel
theorem na_221 : xnargs 221 = 4 := by decide +kernel
theorem mm_221 : ¬ 221 = xMax ∧ ¬ 221 = xMin := by decide
theorem ws_221 : xSt.contains 221 = true := by decide +kernel
theorem na_222 : xnargs 222 = 1 := by decide +kernel
theorem mm_222 : ¬ 222 = xMax ∧ ¬ 222 = xMin := by decide
theorem ws_222 : xSt.contains 222 = true := by decide +kernel
theorem na_226 : xnargs 226 = 2 := by decide +kernel
theorem wv_226 : xSe.contains 226 = true ∧ xIn.contains 226 = true := by decide +kernel
theorem wc_226 : (xMn 226).cls = (xCl 15).1 := by decide +kernel
theorem na_233 : xnargs 233 = 1 := by decide +kernel
theorem wv_233 : xSe.contains 233 = true ∧ xIn.contains 233 = true := by decide +kernel
theorem wc_233 : (xMn 233).cls = (xCl 15).1 := by decide +kernel
theorem na_50 : xnargs 50 = 2 := by decide +kernel
theorem wv_50 : xSe.contains 50 = true ∧ xIn.contains 50 = true := by decide +kernel
theorem wc_50 : (xMn 50).cls = (xCl 6).1 := by decide +kernel
theorem na_79 : xnargs 79 = 2 := by decide +kernel
theorem wv_79 : xSe.contains 79 = true ∧ xIn.contains 79 = true := by decide +kernel
theorem wc_79 : (xMn 79).cls = (xCl 10).1 := by decide +kernel
theorem na_80 : xnargs 80 = 2 := by decide +kernel
theorem wv_80 : xSe.contains 80 = true ∧ xIn.contains 80 = true := by decide +kernel
theorem wc_80 : (xMn 80).cls = (xCl 10).1 := by decide +kernel
theorem xc_15_108 : xcR 15 108 = some 1000000 := by decide +kernel
theorem xc_15_113 : xcR 15 113 = some 2147483647 := by decide +kernel
theorem xc_15_125 : xcR 15 125 = some 65536 := by decide +kernel
theorem rf_15_105 : xfR 15 105 = some (14, 0) := by decide +kernel
theorem rf_15_121 : xfR 15 121 = some (14, 12) := by decide +kernel
theorem rf_15_126 : xfR 15 126 = some (14, 5) := by decide +kernel
theorem rf_15_129 : xfR 15 129 = some (14, 6) := by decide +kernel
theorem rf_15_132 : xfR 15 132 = some (14, 7) := by decide +kernel
theorem rf_15_135 : xfR 15 135 = some (14, 8) := by decide +kernel
theorem rf_15_138 : xfR 15 138 = some (14, 9) := by decide +kernel
theorem rf_15_159 : xfR 15 159 = some (14, 13) := by decide +kernel
theorem rf_15_162 : xfR 15 162 = some (13, 0) := by decide +kernel
theorem rf_15_184 : xfR 15 184 = some (13, 3) := by decide +kernel
theorem rf_15_188 : xfR 15 188 = some (9, 7) := by decide +kernel
theorem rf_15_209 : xfR 15 209 = some (9, 3) := by decide +kernel
theorem rf_15_21 : xfR 15 21 = some (15, 4) := by decide +kernel
theorem rf_15_212 : xfR 15 212 = some (9, 4) := by decide +kernel
theorem rf_15_218 : xfR 15 218 = some (9, 1) := by decide +kernel
theorem rf_15_224 : xfR 15 224 = some (13, 2) := by decide +kernel
theorem rf_15_242 : xfR 15 242 = some (15, 7) := by decide +kernel
theorem rf_15_248 : xfR 15 248 = some (14, 15) := by decide +kernel
theorem rf_15_25 : xfR 15 25 = some (15, 6) := by decide +kernel
theorem rf_15_266 : xfR 15 266 = some (8, 4) := by decide +kernel
theorem rf_15_269 : xfR 15 269 = some (8, 5) := by decide +kernel
theorem rf_15_275 : xfR 15 275 = some (5, 4) := by decide +kernel
theorem rf_15_278 : xfR 15 278 = some (5, 5) := by decide +kernel
theorem rf_15_281 : xfR 15 281 = some (5, 6) := by decide +kernel
theorem rf_15_284 : xfR 15 284 = some (5, 7) := by decide +kernel
theorem rf_15_287 : xfR 15 287 = some (5, 8) := by decide +kernel
theorem rf_15_290 : xfR 15 290 = some (5, 12) := by decide +kernel
theorem rf_15_293 : xfR 15 293 = some (5, 13) := by decide +kernel
theorem rf_15_305 : xfR 15 305 = some (14, 3) := by decide +kernel
theorem rf_15_311 : xfR 15 311 = some (14, 2) := by decide +kernel
theorem rf_15_314 : xfR 15 314 = some (4, 1) := by decide +kernel
theorem rf_15_317 : xfR 15 317 = some (13, 4) := by decide +kernel
theorem rf_15_321 : xfR 15 321 = some (10, 4) := by decide +kernel
theorem rf_15_49 : xfR 15 49 = some (15, 1) := by decide +kernel
theorem rf_15_63 : xfR 15 63 = some (15, 5) := by decide +kernel
theorem rf_15_84 : xfR 15 84 = some (5, 3) := by decide +kernel
theorem rf_15_88 : xfR 15 88 = some (4, 0) := by decide +kernel
theorem rf_4_15 : xfR 4 15 = some (4, 3) := by decide +kernel
theorem xk_15_258 : xkR 15 258 = some 8 := by decide +kernel
theorem mr_15_102 : xmR 15 102 = some 22 := by decide +kernel
theorem mr_15_109 : xmR 15 109 = some 217 := by decide +kernel
theorem mr_15_114 : xmR 15 114 = some 222 := by decide +kernel
theorem mr_15_142 : xmR 15 142 = some 193 := by decide +kernel
theorem mr_15_145 : xmR 15 145 = some 190 := by decide +kernel
theorem mr_15_148 : xmR 15 148 = some 187 := by decide +kernel
theorem mr_15_151 : xmR 15 151 = some 186 := by decide +kernel
theorem mr_15_155 : xmR 15 155 = some 219 := by decide +kernel
theorem mr_15_168 : xmR 15 168 = some 133 := by decide +kernel
theorem mr_15_171 : xmR 15 171 = some 136 := by decide +kernel
theorem mr_15_174 : xmR 15 174 = some 129 := by decide +kernel
theorem mr_15_177 : xmR 15 177 = some 148 := by decide +kernel
theorem mr_15_181 : xmR 15 181 = some 124 := by decide +kernel
theorem mr_15_193 : xmR 15 193 = some 163 := by decide +kernel
theorem mr_15_196 : xmR 15 196 = some 147 := by decide +kernel
theorem mr_15_199 : xmR 15 199 = some 182 := by decide +kernel
theorem mr_15_203 : xmR 15 203 = some 137 := by decide +kernel
theorem mr_15_206 : xmR 15 206 = some 181 := by decide +kernel
theorem mr_15_215 : xmR 15 215 = some 67 := by decide +kernel
theorem mr_15_221 : xmR 15 221 = some 63 := by decide +kernel
theorem mr_15_228 : xmR 15 228 = some 50 := by decide +kernel
theorem mr_15_232 : xmR 15 232 = some 226 := by decide +kernel
theorem mr_15_236 : xmR 15 236 = some 79 := by decide +kernel
theorem mr_15_245 : xmR 15 245 = some 80 := by decide +kernel
theorem mr_15_252 : xmR 15 252 = some 6 := by decide +kernel
theorem mr_15_302 : xmR 15 302 = some 19 := by decide +kernel
theorem mr_15_303 : xmR 15 303 = some 14 := by decide +kernel
theorem mr_15_70 : xmR 15 70 = some 233 := by decide +kernel
theorem mr_15_76 : xmR 15 76 = some 205 := by decide +kernel
theorem mr_15_80 : xmR 15 80 = some 221 := by decide +kernel
theorem mr_15_91 : xmR 15 91 = some 15 := by decide +kernel
theorem mr_15_95 : xmR 15 95 = some 16 := by decide +kernel
theorem mr_15_99 : xmR 15 99 = some 21 := by decide +kernel
theorem mr_4_35 : xmR 4 35 = some 392 := by decide +kernel
theorem pf_14_5 : 5 < (xCl 14).2.2 ∧ ((xCl 14).2.1 5).2.2.2 = false ∧ xfty 14 5 = some .int := by decide +kernel
theorem pf_14_6 : 6 < (xCl 14).2.2 ∧ ((xCl 14).2.1 6).2.2.2 = false ∧ xfty 14 6 = some .int := by decide +kernel
theorem pf_14_7 : 7 < (xCl 14).2.2 ∧ ((xCl 14).2.1 7).2.2.2 = false ∧ xfty 14 7 = some .int := by decide +kernel
theorem pf_14_8 : 8 < (xCl 14).2.2 ∧ ((xCl 14).2.1 8).2.2.2 = false ∧ xfty 14 8 = some .int := by decide +kernel
theorem pf_15_5 : 5 < (xCl 15).2.2 ∧ ((xCl 15).2.1 5).2.2.2 = false ∧ xfty 15 5 = some .int := by decide +kernel
theorem pf_15_7 : 7 < (xCl 15).2.2 ∧ ((xCl 15).2.1 7).2.2.2 = false ∧ xfty 15 7 = some .int := by decide +kernel
theorem pf_4_3 : 3 < (xCl 4).2.2 ∧ ((xCl 4).2.1 3).2.2.2 = false ∧ xfty 4 3 = some (.array .byte) := by decide +kernel
theorem pf_4_4 : 4 < (xCl 4).2.2 ∧ ((xCl 4).2.1 4).2.2.2 = false ∧ xfty 4 4 = some .int := by decide +kernel
theorem yc_15_296 : xmR 15 296 = none ∧ xCp.contains (15, 296) = true := by decide +kernel
theorem yc_4_38 : xmR 4 38 = none ∧ xCp.contains (4, 38) = true := by decide +kernel
theorem kk_16 : kkA 16 = kT16 := rfl
theorem mo_16 : moA 16 = 4 := rfl
theorem ni_16 : decide ((xMn 16).name = "<init>") = false := by decide +kernel
set_option maxRecDepth 100000 in
theorem xm_16 : xM 16 = some (cX0_addBytes, 4, none, 3) := rfl
theorem kk_79 : kkA 79 = kT79 := rfl
theorem mo_79 : moA 79 = 10 := rfl
theorem ni_79 : decide ((xMn 79).name = "<init>") = false := by decide +kernel
set_option maxRecDepth 100000 in
theorem xm_79 : xM 79 = some (cX6_copyKey, 4, (some FieldType.int), 2) := rfl
theorem kk_80 : kkA 80 = kT80 := rfl
theorem mo_80 : moA 80 = 10 := rfl
theorem ni_80 : decide ((xMn 80).name = "<init>") = false := by decide +kernel
set_option maxRecDepth 100000 in
theorem xm_80 : xM 80 = some (cX6_copyValue, 4, (some FieldType.int), 2) := rfl
theorem kk_203 : kkA 203 = kT203 := rfl
theorem mo_203 : moA 203 = 15 := rfl
theorem ni_203 : decide ((xMn 203).name = "<init>") = false := by decide +kernel
set_option maxRecDepth 100000 in
theorem xm_203 : xM 203 = some (cX11_answer, 3, (some FieldType.int), 1) := rfl
theorem kk_204 : kkA 204 = kT204 := rfl
theorem mo_204 : moA 204 = 15 := rfl
theorem ni_204 : decide ((xMn 204).name = "<init>") = false := by decide +kernel
set_option maxRecDepth 100000 in
theorem xm_204 : xM 204 = some (cX11_ask, 8, (some FieldType.int), 4) := rfl
theorem kk_205 : kkA 205 = kT205 := rfl
theorem mo_205 : moA 205 = 15 := rfl
theorem ni_205 : decide ((xMn 205).name = "<init>") = false := by decide +kernel
set_option maxRecDepth 100000 in
theorem xm_205 : xM 205 = some (cX11_asker, 2, (some (FieldType.object "AgreedStore$Client")), 1) := rfl
theorem kk_206 : kkA 206 = kT206 := rfl
theorem mo_206 : moA 206 = 15 := rfl
theorem ni_206 : decide ((xMn 206).name = "<init>") = false := by decide +kernel
set_option maxRecDepth 100000 in
theorem xm_206 : xM 206 = some (cX11_byteAt, 2, (some FieldType.int), 1) := rfl
theorem kk_207 : kkA 207 = kT207 := rfl
theorem mo_207 : moA 207 = 15 := rfl
theorem ni_207 : decide ((xMn 207).name = "<init>") = false := by decide +kernel
set_option maxRecDepth 100000 in
theorem xm_207 : xM 207 = some (cX11_client, 4, (some FieldType.int), 2) := rfl
theorem kk_208 : kkA 208 = kT208 := rfl
theorem mo_208 : moA 208 = 15 := rfl
theorem ni_208 : decide ((xMn 208).name = "<init>") = false := by decide +kernel
set_option maxRecDepth 100000 in
theorem xm_208 : xM 208 = some (cX11_count, 2, (some FieldType.int), 1) := rfl
theorem kk_209 : kkA 209 = kT209 := rfl
theorem mo_209 : moA 209 = 15 := rfl
theorem ni_209 : decide ((xMn 209).name = "<init>") = false := by decide +kernel
set_option maxRecDepth 100000 in
theorem xm_209 : xM 209 = some (cX11_crash, 6, (some FieldType.boolean), 2) := rfl
theorem kk_210 : kkA 210 = kT210 := rfl
theorem mo_210 : moA 210 = 15 := rfl
theorem ni_210 : decide ((xMn 210).name = "<init>") = false := by decide +kernel
set_option maxRecDepth 100000 in
theorem xm_210 : xM 210 = some (cX11_delay, 6, (some FieldType.int), 3) := rfl
theorem kk_211 : kkA 211 = kT211 := rfl
theorem mo_211 : moA 211 = 15 := rfl
theorem ni_211 : decide ((xMn 211).name = "<init>") = false := by decide +kernel
set_option maxRecDepth 100000 in
theorem xm_211 : xM 211 = some (cX11_end, 2, (some FieldType.int), 1) := rfl
theorem kk_212 : kkA 212 = kT212 := rfl
theorem mo_212 : moA 212 = 15 := rfl
theorem ni_212 : decide ((xMn 212).name = "<init>") = false := by decide +kernel
set_option maxRecDepth 100000 in
theorem xm_212 : xM 212 = some (cX11_entry, 6, (some FieldType.int), 3) := rfl
theorem kk_213 : kkA 213 = kT213 := rfl
theorem mo_213 : moA 213 = 15 := rfl
theorem ni_213 : decide ((xMn 213).name = "<init>") = false := by decide +kernel
set_option maxRecDepth 100000 in
theorem xm_213 : xM 213 = some (cX11_feed, 6, (some FieldType.int), 5) := rfl
theorem kk_214 : kkA 214 = kT214 := rfl
theorem mo_214 : moA 214 = 15 := rfl
theorem ni_214 : decide ((xMn 214).name = "<init>") = false := by decide +kernel
set_option maxRecDepth 100000 in
theorem xm_214 : xM 214 = some (cX11_file, 5, (some FieldType.int), 3) := rfl
theorem kk_215 : kkA 215 = kT215 := rfl
theorem mo_215 : moA 215 = 15 := rfl
theorem ni_215 : decide ((xMn 215).name = "<init>") = false := by decide +kernel
set_option maxRecDepth 100000 in
theorem xm_215 : xM 215 = some (cX11_giveUp, 4, (some FieldType.boolean), 1) := rfl
theorem kk_216 : kkA 216 = kT216 := rfl
theorem mo_216 : moA 216 = 15 := rfl
theorem ni_216 : decide ((xMn 216).name = "<init>") = false := by decide +kernel
set_option maxRecDepth 100000 in
theorem xm_216 : xM 216 = some (cX11_hand, 4, (some FieldType.boolean), 2) := rfl
theorem kk_218 : kkA 218 = kT218 := rfl
theorem mo_218 : moA 218 = 15 := rfl
theorem ni_218 : decide ((xMn 218).name = "<init>") = false := by decide +kernel
set_option maxRecDepth 100000 in
theorem xm_218 : xM 218 = some (cX11_history, 3, (some FieldType.int), 2) := rfl
theorem kk_219 : kkA 219 = kT219 := rfl
theorem mo_219 : moA 219 = 15 := rfl
theorem ni_219 : decide ((xMn 219).name = "<init>") = false := by decide +kernel
set_option maxRecDepth 100000 in
theorem xm_219 : xM 219 = some (cX11_host, 2, (some (FieldType.object "AgreedStore$Server")), 1) := rfl
theorem kk_221 : kkA 221 = kT221 := rfl
theorem mo_221 : moA 221 = 15 := rfl
theorem ni_221 : decide ((xMn 221).name = "<init>") = false := by decide +kernel
set_option maxRecDepth 100000 in
theorem xm_221 : xM 221 = some (cX11_isAskable, 5, (some FieldType.boolean), 4) := rfl
theorem kk_222 : kkA 222 = kT222 := rfl
theorem mo_222 : moA 222 = 15 := rfl
theorem ni_222 : decide ((xMn 222).name = "<init>") = false := by decide +kernel
set_option maxRecDepth 100000 in
theorem xm_222 : xM 222 = some (cX11_isEndpoint, 1, (some FieldType.boolean), 1) := rfl
theorem kk_223 : kkA 223 = kT223 := rfl
theorem mo_223 : moA 223 = 15 := rfl
theorem ni_223 : decide ((xMn 223).name = "<init>") = false := by decide +kernel
set_option maxRecDepth 100000 in
theorem xm_223 : xM 223 = some (cX11_key, 4, (some FieldType.int), 2) := rfl
theorem kk_224 : kkA 224 = kT224 := rfl
theorem mo_224 : moA 224 = 15 := rfl
theorem ni_224 : decide ((xMn 224).name = "<init>") = false := by decide +kernel
set_option maxRecDepth 100000 in
theorem xm_224 : xM 224 = some (cX11_latency, 5, (some FieldType.int), 2) := rfl
theorem kk_225 : kkA 225 = kT225 := rfl
theorem mo_225 : moA 225 = 15 := rfl
theorem ni_225 : decide ((xMn 225).name = "<init>") = false := by decide +kernel
set_option maxRecDepth 100000 in
theorem xm_225 : xM 225 = some (cX11_learners, 5, (some FieldType.boolean), 2) := rfl
theorem kk_226 : kkA 226 = kT226 := rfl
theorem mo_226 : moA 226 = 15 := rfl
theorem ni_226 : decide ((xMn 226).name = "<init>") = false := by decide +kernel
set_option maxRecDepth 100000 in
theorem xm_226 : xM 226 = some (cX11_machineWith, 4, (some (FieldType.object "AgreedStore$Machine")), 2) := rfl
theorem kk_227 : kkA 227 = kT227 := rfl
theorem mo_227 : moA 227 = 15 := rfl
theorem ni_227 : decide ((xMn 227).name = "<init>") = false := by decide +kernel
set_option maxRecDepth 100000 in
theorem xm_227 : xM 227 = some (cX11_meddle, 4, (some FieldType.boolean), 3) := rfl
theorem kk_228 : kkA 228 = kT228 := rfl
theorem mo_228 : moA 228 = 15 := rfl
theorem ni_228 : decide ((xMn 228).name = "<init>") = false := by decide +kernel
set_option maxRecDepth 100000 in
theorem xm_228 : xM 228 = some (cX11_members, 6, (some FieldType.boolean), 2) := rfl
theorem kk_229 : kkA 229 = kT229 := rfl
theorem mo_229 : moA 229 = 15 := rfl
theorem ni_229 : decide ((xMn 229).name = "<init>") = false := by decide +kernel
set_option maxRecDepth 100000 in
theorem xm_229 : xM 229 = some (cX11_message, 4, (some FieldType.int), 2) := rfl
theorem kk_230 : kkA 230 = kT230 := rfl
theorem mo_230 : moA 230 = 15 := rfl
theorem ni_230 : decide ((xMn 230).name = "<init>") = false := by decide +kernel
set_option maxRecDepth 100000 in
theorem xm_230 : xM 230 = some (cX11_noise, 6, none, 4) := rfl
theorem kk_231 : kkA 231 = kT231 := rfl
theorem mo_231 : moA 231 = 15 := rfl
theorem ni_231 : decide ((xMn 231).name = "<init>") = false := by decide +kernel
set_option maxRecDepth 100000 in
theorem xm_231 : xM 231 = some (cX11_now, 1, (some FieldType.int), 0) := rfl
theorem kk_232 : kkA 232 = kT232 := rfl
theorem mo_232 : moA 232 = 15 := rfl
theorem ni_232 : decide ((xMn 232).name = "<init>") = false := by decide +kernel
set_option maxRecDepth 100000 in
theorem xm_232 : xM 232 = some (cX11_part, 3, (some FieldType.int), 1) := rfl
theorem kk_233 : kkA 233 = kT233 := rfl
theorem mo_233 : moA 233 = 15 := rfl
theorem ni_233 : decide ((xMn 233).name = "<init>") = false := by decide +kernel
set_option maxRecDepth 100000 in
theorem xm_233 : xM 233 = some (cX11_putOnTape, 3, none, 1) := rfl
theorem kk_234 : kkA 234 = kT234 := rfl
theorem mo_234 : moA 234 = 15 := rfl
theorem ni_234 : decide ((xMn 234).name = "<init>") = false := by decide +kernel
set_option maxRecDepth 100000 in
theorem xm_234 : xM 234 = some (cX11_run, 4, (some FieldType.int), 1) := rfl
theorem kk_235 : kkA 235 = kT235 := rfl
theorem mo_235 : moA 235 = 15 := rfl
theorem ni_235 : decide ((xMn 235).name = "<init>") = false := by decide +kernel
set_option maxRecDepth 100000 in
theorem xm_235 : xM 235 = some (cX11_server, 4, (some FieldType.int), 2) := rfl
theorem kk_236 : kkA 236 = kT236 := rfl
theorem mo_236 : moA 236 = 15 := rfl
theorem ni_236 : decide ((xMn 236).name = "<init>") = false := by decide +kernel
set_option maxRecDepth 100000 in
theorem xm_236 : xM 236 = some (cX11_start, 4, (some FieldType.boolean), 1) := rfl
theorem kk_237 : kkA 237 = kT237 := rfl
theorem mo_237 : moA 237 = 15 := rfl
theorem ni_237 : decide ((xMn 237).name = "<init>") = false := by decide +kernel
set_option maxRecDepth 100000 in
theorem xm_237 : xM 237 = some (cX11_step, 1, (some FieldType.int), 0) := rfl
theorem kk_238 : kkA 238 = kT238 := rfl
theorem mo_238 : moA 238 = 15 := rfl
theorem ni_238 : decide ((xMn 238).name = "<init>") = false := by decide +kernel
set_option maxRecDepth 100000 in
theorem xm_238 : xM 238 = some (cX11_stop, 4, (some FieldType.boolean), 1) := rfl
theorem kk_239 : kkA 239 = kT239 := rfl
theorem mo_239 : moA 239 = 15 := rfl
theorem ni_239 : decide ((xMn 239).name = "<init>") = false := by decide +kernel
set_option maxRecDepth 100000 in
theorem xm_239 : xM 239 = some (cX11_value, 4, (some FieldType.int), 2) := rfl
