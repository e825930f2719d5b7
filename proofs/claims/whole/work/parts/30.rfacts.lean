/-! printed by wip/whole/gen_ref.py -/
theorem rf_7 : xfR 16 7 = some (16, 4) := by decide +kernel
theorem rf_791 : xfR 16 791 = some (16, 5) := by decide +kernel
theorem pf_5 : ((xCl 16).2.1 5).2.2.2 = false ∧ xfty 16 5 = some .int := by decide +kernel
theorem kk_240 : kkA 240 = kT240 := rfl
theorem mo_240 : moA 240 = 16 := rfl
theorem ni_240 : decide ((xMn 240).name = "<init>") = false := by decide +kernel
set_option maxRecDepth 100000 in
theorem xm_240 : xM 240 = some (cX12_add, 3, none, 1) := rfl
theorem rf_421 : xfR 16 421 = some (16, 2) := by decide +kernel
theorem rf_62 : xfR 16 62 = some (16, 29) := by decide +kernel
theorem rf_65 : xfR 16 65 = some (16, 30) := by decide +kernel
theorem pf_2 : ((xCl 16).2.1 2).2.2.2 = false ∧ xfty 16 2 = some .int := by decide +kernel
theorem kk_241 : kkA 241 = kT241 := rfl
theorem mo_241 : moA 241 = 16 := rfl
theorem ni_241 : decide ((xMn 241).name = "<init>") = false := by decide +kernel
set_option maxRecDepth 100000 in
theorem xm_241 : xM 241 = some (cX12_alarm, 3, none, 2) := rfl
theorem kk_294 : kkA 294 = kT294 := rfl
theorem mo_294 : moA 294 = 16 := rfl
theorem ni_294 : decide ((xMn 294).name = "<init>") = false := by decide +kernel
set_option maxRecDepth 100000 in
theorem xm_294 : xM 294 = some (cX12_in, 6, (some FieldType.boolean), 3) := rfl
theorem rf_372 : xfR 16 372 = some (16, 138) := by decide +kernel
theorem rf_375 : xfR 16 375 = some (16, 139) := by decide +kernel
theorem rf_381 : xfR 16 381 = some (16, 143) := by decide +kernel
theorem rf_393 : xfR 16 393 = some (16, 0) := by decide +kernel
theorem rf_863 : xfR 16 863 = some (16, 144) := by decide +kernel
theorem xl_809 : xlR 16 809 = some 7 := by decide +kernel
theorem mr_799 : xmR 16 799 = some 294 := by decide +kernel
theorem pf_0 : ((xCl 16).2.1 0).2.2.2 = false ∧ xfty 16 0 = some .int := by decide +kernel
theorem pf_144 : ((xCl 16).2.1 144).2.2.2 = false ∧ xfty 16 144 = some .int := by decide +kernel
theorem na_294 : xnargs 294 = 3 := by decide +kernel
theorem mm_294 : ¬ 294 = xMax ∧ ¬ 294 = xMin := by decide
theorem ws_294 : xSt.contains 294 = true := by decide +kernel
theorem kk_242 : kkA 242 = kT242 := rfl
theorem mo_242 : moA 242 = 16 := rfl
theorem ni_242 : decide ((xMn 242).name = "<init>") = false := by decide +kernel
set_option maxRecDepth 100000 in
theorem xm_242 : xM 242 = some (cX12_answer, 3, (some FieldType.int), 1) := rfl
theorem rf_160 : xfR 16 160 = some (16, 65) := by decide +kernel
theorem kk_287 : kkA 287 = kT287 := rfl
theorem mo_287 : moA 287 = 16 := rfl
theorem ni_287 : decide ((xMn 287).name = "<init>") = false := by decide +kernel
set_option maxRecDepth 100000 in
theorem xm_287 : xM 287 = some (cX12_fresh, 2, (some FieldType.int), 1) := rfl
theorem kk_330 : kkA 330 = kT330 := rfl
theorem mo_330 : moA 330 = 16 := rfl
theorem ni_330 : decide ((xMn 330).name = "<init>") = false := by decide +kernel
set_option maxRecDepth 100000 in
theorem xm_330 : xM 330 = some (cX12_old, 2, (some FieldType.int), 1) := rfl
theorem kk_359 : kkA 359 = kT359 := rfl
theorem mo_359 : moA 359 = 16 := rfl
theorem ni_359 : decide ((xMn 359).name = "<init>") = false := by decide +kernel
set_option maxRecDepth 100000 in
theorem xm_359 : xM 359 = some (cX12_size, 3, (some FieldType.int), 1) := rfl
theorem mr_622 : xmR 16 622 = some 330 := by decide +kernel
theorem mr_625 : xmR 16 625 = some 287 := by decide +kernel
theorem mr_634 : xmR 16 634 = some 359 := by decide +kernel
theorem na_287 : xnargs 287 = 1 := by decide +kernel
theorem wv_287 : xSe.contains 287 = true ∧ xIn.contains 287 = true := by decide +kernel
theorem wc_287 : (xMn 287).cls = (xCl 16).1 := by decide +kernel
theorem na_330 : xnargs 330 = 1 := by decide +kernel
theorem wv_330 : xSe.contains 330 = true ∧ xIn.contains 330 = true := by decide +kernel
theorem wc_330 : (xMn 330).cls = (xCl 16).1 := by decide +kernel
theorem na_359 : xnargs 359 = 1 := by decide +kernel
theorem mm_359 : ¬ 359 = xMax ∧ ¬ 359 = xMin := by decide
theorem ws_359 : xSt.contains 359 = true := by decide +kernel
theorem kk_303 : kkA 303 = kT303 := rfl
theorem mo_303 : moA 303 = 16 := rfl
theorem ni_303 : decide ((xMn 303).name = "<init>") = false := by decide +kernel
set_option maxRecDepth 100000 in
theorem xm_303 : xM 303 = some (cX12_isMajority, 5, (some FieldType.boolean), 2) := rfl
theorem xc_637 : xcR 16 637 = some (-2147483647) := by decide +kernel
theorem rf_227 : xfR 16 227 = some (16, 87) := by decide +kernel
theorem rf_239 : xfR 16 239 = some (16, 91) := by decide +kernel
theorem rf_242 : xfR 16 242 = some (16, 92) := by decide +kernel
theorem mr_638 : xmR 16 638 = some 303 := by decide +kernel
theorem na_303 : xnargs 303 = 2 := by decide +kernel
theorem wv_303 : xSe.contains 303 = true ∧ xIn.contains 303 = true := by decide +kernel
theorem wc_303 : (xMn 303).cls = (xCl 16).1 := by decide +kernel
theorem kk_258 : kkA 258 = kT258 := rfl
theorem mo_258 : moA 258 = 16 := rfl
theorem ni_258 : decide ((xMn 258).name = "<init>") = false := by decide +kernel
set_option maxRecDepth 100000 in
theorem xm_258 : xM 258 = some (cX12_common, 9, (some FieldType.int), 2) := rfl
theorem rf_45 : xfR 16 45 = some (16, 16) := by decide +kernel
theorem xl_396 : xlR 16 396 = some 255 := by decide +kernel
theorem xl_398 : xlR 16 398 = some (-1) := by decide +kernel
theorem kk_315 : kkA 315 = kT315 := rfl
theorem mo_315 : moA 315 = 16 := rfl
theorem ni_315 : decide ((xMn 315).name = "<init>") = false := by decide +kernel
set_option maxRecDepth 100000 in
theorem xm_315 : xM 315 = some (cX12_layLetter, 4, none, 2) := rfl
theorem rf_13 : xfR 16 13 = some (16, 6) := by decide +kernel
theorem rf_17 : xfR 16 17 = some (16, 7) := by decide +kernel
theorem rf_20 : xfR 16 20 = some (16, 8) := by decide +kernel
theorem rf_23 : xfR 16 23 = some (16, 9) := by decide +kernel
theorem rf_26 : xfR 16 26 = some (16, 10) := by decide +kernel
theorem rf_29 : xfR 16 29 = some (16, 11) := by decide +kernel
theorem rf_32 : xfR 16 32 = some (16, 12) := by decide +kernel
theorem rf_35 : xfR 16 35 = some (16, 13) := by decide +kernel
theorem rf_38 : xfR 16 38 = some (16, 14) := by decide +kernel
theorem rf_41 : xfR 16 41 = some (16, 15) := by decide +kernel
theorem kk_262 : kkA 262 = kT262 := rfl
theorem mo_262 : moA 262 = 16 := rfl
theorem ni_262 : decide ((xMn 262).name = "<init>") = false := by decide +kernel
set_option maxRecDepth 100000 in
theorem xm_262 : xM 262 = some (cX12_copyLetter, 4, none, 2) := rfl
theorem rf_400 : xfR 16 400 = some (16, 24) := by decide +kernel
theorem kk_247 : kkA 247 = kT247 := rfl
theorem mo_247 : moA 247 = 16 := rfl
theorem ni_247 : decide ((xMn 247).name = "<init>") = false := by decide +kernel
set_option maxRecDepth 100000 in
theorem xm_247 : xM 247 = some (cX12_areParted, 3, (some FieldType.boolean), 2) := rfl
theorem rf_403 : xfR 16 403 = some (16, 28) := by decide +kernel
theorem xl_407 : xlR 16 407 = some 6364136223846793005 := by decide +kernel
theorem xl_409 : xlR 16 409 = some 1442695040888963407 := by decide +kernel
theorem pf_28 : ((xCl 16).2.1 28).2.2.2 = false ∧ xfty 16 28 = some .long := by decide +kernel
theorem kk_273 : kkA 273 = kT273 := rfl
theorem mo_273 : moA 273 = 16 := rfl
theorem ni_273 : decide ((xMn 273).name = "<init>") = false := by decide +kernel
set_option maxRecDepth 100000 in
theorem xm_273 : xM 273 = some (cX12_draw, 2, (some FieldType.int), 1) := rfl
theorem rf_411 : xfR 16 411 = some (16, 20) := by decide +kernel
theorem rf_414 : xfR 16 414 = some (16, 22) := by decide +kernel
theorem rf_424 : xfR 16 424 = some (16, 21) := by decide +kernel
theorem rf_49 : xfR 16 49 = some (16, 17) := by decide +kernel
theorem rf_53 : xfR 16 53 = some (16, 18) := by decide +kernel
theorem rf_56 : xfR 16 56 = some (16, 19) := by decide +kernel
theorem mr_417 : xmR 16 417 = some 262 := by decide +kernel
theorem pf_20 : ((xCl 16).2.1 20).2.2.2 = false ∧ xfty 16 20 = some .int := by decide +kernel
theorem pf_21 : ((xCl 16).2.1 21).2.2.2 = false ∧ xfty 16 21 = some .int := by decide +kernel
theorem pf_22 : ((xCl 16).2.1 22).2.2.2 = false ∧ xfty 16 22 = some .int := by decide +kernel
theorem na_262 : xnargs 262 = 2 := by decide +kernel
theorem wv_262 : xSe.contains 262 = true ∧ xIn.contains 262 = true := by decide +kernel
theorem wc_262 : (xMn 262).cls = (xCl 16).1 := by decide +kernel
theorem kk_284 : kkA 284 = kT284 := rfl
theorem mo_284 : moA 284 = 16 := rfl
theorem ni_284 : decide ((xMn 284).name = "<init>") = false := by decide +kernel
set_option maxRecDepth 100000 in
theorem xm_284 : xM 284 = some (cX12_fly, 4, none, 2) := rfl
theorem rf_431 : xfR 16 431 = some (16, 1) := by decide +kernel
theorem rf_434 : xfR 16 434 = some (16, 25) := by decide +kernel
theorem rf_437 : xfR 16 437 = some (16, 26) := by decide +kernel
theorem rf_440 : xfR 16 440 = some (16, 27) := by decide +kernel
theorem rf_59 : xfR 16 59 = some (16, 23) := by decide +kernel
theorem mr_427 : xmR 16 427 = some 247 := by decide +kernel
theorem mr_443 : xmR 16 443 = some 284 := by decide +kernel
theorem mr_446 : xmR 16 446 = some 273 := by decide +kernel
theorem na_247 : xnargs 247 = 2 := by decide +kernel
theorem wv_247 : xSe.contains 247 = true ∧ xIn.contains 247 = true := by decide +kernel
theorem wc_247 : (xMn 247).cls = (xCl 16).1 := by decide +kernel
theorem na_273 : xnargs 273 = 1 := by decide +kernel
theorem wv_273 : xSe.contains 273 = true ∧ xIn.contains 273 = true := by decide +kernel
theorem wc_273 : (xMn 273).cls = (xCl 16).1 := by decide +kernel
theorem na_284 : xnargs 284 = 2 := by decide +kernel
theorem wv_284 : xSe.contains 284 = true ∧ xIn.contains 284 = true := by decide +kernel
theorem wc_284 : (xMn 284).cls = (xCl 16).1 := by decide +kernel
theorem kk_356 : kkA 356 = kT356 := rfl
theorem mo_356 : moA 356 = 16 := rfl
theorem ni_356 : decide ((xMn 356).name = "<init>") = false := by decide +kernel
set_option maxRecDepth 100000 in
theorem xm_356 : xM 356 = some (cX12_sendOut, 6, none, 1) := rfl
theorem rf_179 : xfR 16 179 = some (16, 71) := by decide +kernel
theorem rf_221 : xfR 16 221 = some (16, 85) := by decide +kernel
theorem mr_450 : xmR 16 450 = some 356 := by decide +kernel
theorem na_356 : xnargs 356 = 1 := by decide +kernel
theorem wv_356 : xSe.contains 356 = true ∧ xIn.contains 356 = true := by decide +kernel
theorem wc_356 : (xMn 356).cls = (xCl 16).1 := by decide +kernel
theorem kk_339 : kkA 339 = kT339 := rfl
theorem mo_339 : moA 339 = 16 := rfl
theorem ni_339 : decide ((xMn 339).name = "<init>") = false := by decide +kernel
set_option maxRecDepth 100000 in
theorem xm_339 : xM 339 = some (cX12_post, 3, none, 2) := rfl
theorem kk_381 : kkA 381 = kT381 := rfl
theorem mo_381 : moA 381 = 16 := rfl
theorem ni_381 : decide ((xMn 381).name = "<init>") = false := by decide +kernel
set_option maxRecDepth 100000 in
theorem xm_381 : xM 381 = some (cX12_write, 6, none, 5) := rfl
theorem xc_690 : xcR 16 690 = some 540672 := by decide +kernel
theorem rf_266 : xfR 16 266 = some (16, 100) := by decide +kernel
theorem rf_269 : xfR 16 269 = some (16, 101) := by decide +kernel
theorem rf_327 : xfR 16 327 = some (16, 121) := by decide +kernel
theorem rf_570 : xfR 16 570 = some (16, 122) := by decide +kernel
theorem mr_647 : xmR 16 647 = some 381 := by decide +kernel
theorem mr_651 : xmR 16 651 = some 339 := by decide +kernel
theorem mr_691 : xmR 16 691 = some 315 := by decide +kernel
theorem na_315 : xnargs 315 = 2 := by decide +kernel
theorem wv_315 : xSe.contains 315 = true ∧ xIn.contains 315 = true := by decide +kernel
theorem wc_315 : (xMn 315).cls = (xCl 16).1 := by decide +kernel
theorem na_339 : xnargs 339 = 2 := by decide +kernel
theorem wv_339 : xSe.contains 339 = true ∧ xIn.contains 339 = true := by decide +kernel
theorem wc_339 : (xMn 339).cls = (xCl 16).1 := by decide +kernel
theorem na_381 : xnargs 381 = 5 := by decide +kernel
theorem wv_381 : xSe.contains 381 = true ∧ xIn.contains 381 = true := by decide +kernel
theorem wc_381 : (xMn 381).cls = (xCl 16).1 := by decide +kernel
theorem kk_340 : kkA 340 = kT340 := rfl
theorem mo_340 : moA 340 = 16 := rfl
theorem ni_340 : decide ((xMn 340).name = "<init>") = false := by decide +kernel
set_option maxRecDepth 100000 in
theorem xm_340 : xM 340 = some (cX12_postReply, 6, none, 4) := rfl
theorem rf_154 : xfR 16 154 = some (16, 63) := by decide +kernel
theorem kk_296 : kkA 296 = kT296 := rfl
theorem mo_296 : moA 296 = 16 := rfl
theorem ni_296 : decide ((xMn 296).name = "<init>") = false := by decide +kernel
set_option maxRecDepth 100000 in
theorem xm_296 : xM 296 = some (cX12_inLog, 2, (some FieldType.byte), 1) := rfl
theorem rf_281 : xfR 16 281 = some (16, 105) := by decide +kernel
theorem rf_308 : xfR 16 308 = some (16, 114) := by decide +kernel
theorem rf_314 : xfR 16 314 = some (16, 116) := by decide +kernel
theorem mr_530 : xmR 16 530 = some 296 := by decide +kernel
theorem na_296 : xnargs 296 = 1 := by decide +kernel
theorem wv_296 : xSe.contains 296 = true ∧ xIn.contains 296 = true := by decide +kernel
theorem wc_296 : (xMn 296).cls = (xCl 16).1 := by decide +kernel
theorem kk_260 : kkA 260 = kT260 := rfl
theorem mo_260 : moA 260 = 16 := rfl
theorem ni_260 : decide ((xMn 260).name = "<init>") = false := by decide +kernel
set_option maxRecDepth 100000 in
theorem xm_260 : xM 260 = some (cX12_compare, 8, (some FieldType.int), 4) := rfl
theorem rf_305 : xfR 16 305 = some (16, 113) := by decide +kernel
theorem rf_321 : xfR 16 321 = some (16, 118) := by decide +kernel
theorem mr_563 : xmR 16 563 = some 260 := by decide +kernel
theorem na_260 : xnargs 260 = 4 := by decide +kernel
theorem wv_260 : xSe.contains 260 = true ∧ xIn.contains 260 = true := by decide +kernel
theorem wc_260 : (xMn 260).cls = (xCl 16).1 := by decide +kernel
theorem kk_343 : kkA 343 = kT343 := rfl
theorem mo_343 : moA 343 = 16 := rfl
theorem ni_343 : decide ((xMn 343).name = "<init>") = false := by decide +kernel
set_option maxRecDepth 100000 in
theorem xm_343 : xM 343 = some (cX12_rank, 6, (some FieldType.int), 4) := rfl
theorem mr_567 : xmR 16 567 = some 343 := by decide +kernel
theorem na_343 : xnargs 343 = 4 := by decide +kernel
theorem wv_343 : xSe.contains 343 = true ∧ xIn.contains 343 = true := by decide +kernel
theorem wc_343 : (xMn 343).cls = (xCl 16).1 := by decide +kernel
theorem kk_281 : kkA 281 = kT281 := rfl
theorem mo_281 : moA 281 = 16 := rfl
theorem ni_281 : decide ((xMn 281).name = "<init>") = false := by decide +kernel
set_option maxRecDepth 100000 in
theorem xm_281 : xM 281 = some (cX12_find, 7, (some FieldType.int), 4) := rfl
theorem pf_122 : ((xCl 16).2.1 122).2.2.2 = false ∧ xfty 16 122 = some .int := by decide +kernel
theorem kk_353 : kkA 353 = kT353 := rfl
theorem mo_353 : moA 353 = 16 := rfl
theorem ni_353 : decide ((xMn 353).name = "<init>") = false := by decide +kernel
set_option maxRecDepth 100000 in
theorem xm_353 : xM 353 = some (cX12_say, 2, none, 1) := rfl
theorem rf_311 : xfR 16 311 = some (16, 115) := by decide +kernel
theorem rf_318 : xfR 16 318 = some (16, 117) := by decide +kernel
theorem kk_371 : kkA 371 = kT371 := rfl
theorem mo_371 : moA 371 = 16 := rfl
theorem ni_371 : decide ((xMn 371).name = "<init>") = false := by decide +kernel
set_option maxRecDepth 100000 in
theorem xm_371 : xM 371 = some (cX12_tellValue, 3, none, 1) := rfl
theorem rf_194 : xfR 16 194 = some (16, 76) := by decide +kernel
theorem rf_272 : xfR 16 272 = some (16, 102) := by decide +kernel
theorem rf_275 : xfR 16 275 = some (16, 103) := by decide +kernel
theorem rf_278 : xfR 16 278 = some (16, 104) := by decide +kernel
theorem rf_595 : xfR 16 595 = some (16, 123) := by decide +kernel
theorem rf_598 : xfR 16 598 = some (16, 120) := by decide +kernel
theorem mr_573 : xmR 16 573 = some 281 := by decide +kernel
theorem mr_579 : xmR 16 579 = some 353 := by decide +kernel
theorem mr_582 : xmR 16 582 = some 371 := by decide +kernel
theorem pf_120 : ((xCl 16).2.1 120).2.2.2 = false ∧ xfty 16 120 = some .int := by decide +kernel
theorem pf_123 : ((xCl 16).2.1 123).2.2.2 = false ∧ xfty 16 123 = some .int := by decide +kernel
theorem na_281 : xnargs 281 = 4 := by decide +kernel
theorem wv_281 : xSe.contains 281 = true ∧ xIn.contains 281 = true := by decide +kernel
theorem wc_281 : (xMn 281).cls = (xCl 16).1 := by decide +kernel
theorem na_353 : xnargs 353 = 1 := by decide +kernel
theorem wv_353 : xSe.contains 353 = true ∧ xIn.contains 353 = true := by decide +kernel
theorem wc_353 : (xMn 353).cls = (xCl 16).1 := by decide +kernel
theorem na_371 : xnargs 371 = 1 := by decide +kernel
theorem wv_371 : xSe.contains 371 = true ∧ xIn.contains 371 = true := by decide +kernel
theorem wc_371 : (xMn 371).cls = (xCl 16).1 := by decide +kernel
theorem kk_342 : kkA 342 = kT342 := rfl
theorem mo_342 : moA 342 = 16 := rfl
theorem ni_342 : decide ((xMn 342).name = "<init>") = false := by decide +kernel
set_option maxRecDepth 100000 in
theorem xm_342 : xM 342 = some (cX12_query, 8, none, 2) := rfl
theorem rf_248 : xfR 16 248 = some (16, 94) := by decide +kernel
theorem rf_251 : xfR 16 251 = some (16, 95) := by decide +kernel
theorem rf_254 : xfR 16 254 = some (16, 96) := by decide +kernel
theorem rf_257 : xfR 16 257 = some (16, 97) := by decide +kernel
theorem rf_263 : xfR 16 263 = some (16, 99) := by decide +kernel
theorem mr_654 : xmR 16 654 = some 258 := by decide +kernel
theorem mr_709 : xmR 16 709 = some 340 := by decide +kernel
theorem mr_724 : xmR 16 724 = some 342 := by decide +kernel
theorem na_258 : xnargs 258 = 2 := by decide +kernel
theorem wv_258 : xSe.contains 258 = true ∧ xIn.contains 258 = true := by decide +kernel
theorem wc_258 : (xMn 258).cls = (xCl 16).1 := by decide +kernel
theorem na_340 : xnargs 340 = 4 := by decide +kernel
theorem wv_340 : xSe.contains 340 = true ∧ xIn.contains 340 = true := by decide +kernel
theorem wc_340 : (xMn 340).cls = (xCl 16).1 := by decide +kernel
theorem na_342 : xnargs 342 = 2 := by decide +kernel
theorem wv_342 : xSe.contains 342 = true ∧ xIn.contains 342 = true := by decide +kernel
theorem wc_342 : (xMn 342).cls = (xCl 16).1 := by decide +kernel
theorem kk_243 : kkA 243 = kT243 := rfl
theorem mo_243 : moA 243 = 16 := rfl
theorem ni_243 : decide ((xMn 243).name = "<init>") = false := by decide +kernel
set_option maxRecDepth 100000 in
theorem xm_243 : xM 243 = some (cX12_answerReads, 5, none, 1) := rfl
theorem kk_280 : kkA 280 = kT280 := rfl
theorem mo_280 : moA 280 = 16 := rfl
theorem ni_280 : decide ((xMn 280).name = "<init>") = false := by decide +kernel
set_option maxRecDepth 100000 in
theorem xm_280 : xM 280 = some (cX12_fileOf, 2, (some FieldType.int), 2) := rfl
theorem kk_322 : kkA 322 = kT322 := rfl
theorem mo_322 : moA 322 = 16 := rfl
theorem ni_322 : decide ((xMn 322).name = "<init>") = false := by decide +kernel
set_option maxRecDepth 100000 in
theorem xm_322 : xM 322 = some (cX12_logOf, 2, (some FieldType.int), 2) := rfl
theorem mr_521 : xmR 16 521 = some 322 := by decide +kernel
theorem na_322 : xnargs 322 = 2 := by decide +kernel
theorem mm_322 : ¬ 322 = xMax ∧ ¬ 322 = xMin := by decide
theorem ws_322 : xSt.contains 322 = true := by decide +kernel
theorem kk_257 : kkA 257 = kT257 := rfl
theorem mo_257 : moA 257 = 16 := rfl
theorem ni_257 : decide ((xMn 257).name = "<init>") = false := by decide +kernel
set_option maxRecDepth 100000 in
theorem xm_257 : xM 257 = some (cX12_codeIn, 4, (some FieldType.int), 2) := rfl
theorem rf_129 : xfR 16 129 = some (16, 55) := by decide +kernel
theorem rf_132 : xfR 16 132 = some (16, 56) := by decide +kernel
theorem rf_138 : xfR 16 138 = some (16, 58) := by decide +kernel
theorem rf_144 : xfR 16 144 = some (16, 60) := by decide +kernel
theorem rf_157 : xfR 16 157 = some (16, 64) := by decide +kernel
theorem mr_536 : xmR 16 536 = some 257 := by decide +kernel
theorem na_257 : xnargs 257 = 2 := by decide +kernel
theorem wv_257 : xSe.contains 257 = true ∧ xIn.contains 257 = true := by decide +kernel
theorem wc_257 : (xMn 257).cls = (xCl 16).1 := by decide +kernel
theorem kk_282 : kkA 282 = kT282 := rfl
theorem mo_282 : moA 282 = 16 := rfl
theorem ni_282 : decide ((xMn 282).name = "<init>") = false := by decide +kernel
set_option maxRecDepth 100000 in
theorem xm_282 : xM 282 = some (cX12_findCode, 4, none, 1) := rfl
theorem rf_75 : xfR 16 75 = some (16, 36) := by decide +kernel
theorem kk_314 : kkA 314 = kT314 := rfl
theorem mo_314 : moA 314 = 16 := rfl
theorem ni_314 : decide ((xMn 314).name = "<init>") = false := by decide +kernel
set_option maxRecDepth 100000 in
theorem xm_314 : xM 314 = some (cX12_layDisk, 4, none, 2) := rfl
theorem rf_78 : xfR 16 78 = some (16, 37) := by decide +kernel
theorem mr_514 : xmR 16 514 = some 314 := by decide +kernel
theorem na_314 : xnargs 314 = 2 := by decide +kernel
theorem wv_314 : xSe.contains 314 = true ∧ xIn.contains 314 = true := by decide +kernel
theorem wc_314 : (xMn 314).cls = (xCl 16).1 := by decide +kernel
theorem kk_312 : kkA 312 = kT312 := rfl
theorem mo_312 : moA 312 = 16 := rfl
theorem ni_312 : decide ((xMn 312).name = "<init>") = false := by decide +kernel
set_option maxRecDepth 100000 in
theorem xm_312 : xM 312 = some (cX12_lay, 4, none, 2) := rfl
theorem rf_182 : xfR 16 182 = some (16, 72) := by decide +kernel
theorem rf_68 : xfR 16 68 = some (16, 31) := by decide +kernel
theorem rf_71 : xfR 16 71 = some (16, 32) := by decide +kernel
theorem kk_360 : kkA 360 = kT360 := rfl
theorem mo_360 : moA 360 = 16 := rfl
theorem ni_360 : decide ((xMn 360).name = "<init>") = false := by decide +kernel
set_option maxRecDepth 100000 in
theorem xm_360 : xM 360 = some (cX12_soil, 2, none, 1) := rfl
theorem rf_135 : xfR 16 135 = some (16, 57) := by decide +kernel
theorem rf_141 : xfR 16 141 = some (16, 59) := by decide +kernel
theorem kk_372 : kkA 372 = kT372 := rfl
theorem mo_372 : moA 372 = 16 := rfl
theorem ni_372 : decide ((xMn 372).name = "<init>") = false := by decide +kernel
set_option maxRecDepth 100000 in
theorem xm_372 : xM 372 = some (cX12_termAt, 3, (some FieldType.int), 2) := rfl
theorem rf_111 : xfR 16 111 = some (16, 49) := by decide +kernel
theorem rf_114 : xfR 16 114 = some (16, 50) := by decide +kernel
theorem rf_117 : xfR 16 117 = some (16, 51) := by decide +kernel
theorem rf_147 : xfR 16 147 = some (16, 61) := by decide +kernel
theorem rf_150 : xfR 16 150 = some (16, 62) := by decide +kernel
theorem rf_81 : xfR 16 81 = some (16, 38) := by decide +kernel
theorem rf_99 : xfR 16 99 = some (16, 44) := by decide +kernel
theorem mr_492 : xmR 16 492 = some 280 := by decide +kernel
theorem mr_505 : xmR 16 505 = some 360 := by decide +kernel
theorem mr_524 : xmR 16 524 = some 372 := by decide +kernel
theorem mr_527 : xmR 16 527 = some 312 := by decide +kernel
theorem mr_533 : xmR 16 533 = some 282 := by decide +kernel
theorem na_280 : xnargs 280 = 2 := by decide +kernel
theorem mm_280 : ¬ 280 = xMax ∧ ¬ 280 = xMin := by decide
theorem ws_280 : xSt.contains 280 = true := by decide +kernel
theorem na_282 : xnargs 282 = 1 := by decide +kernel
theorem wv_282 : xSe.contains 282 = true ∧ xIn.contains 282 = true := by decide +kernel
theorem wc_282 : (xMn 282).cls = (xCl 16).1 := by decide +kernel
theorem na_312 : xnargs 312 = 2 := by decide +kernel
theorem wv_312 : xSe.contains 312 = true ∧ xIn.contains 312 = true := by decide +kernel
theorem wc_312 : (xMn 312).cls = (xCl 16).1 := by decide +kernel
theorem na_360 : xnargs 360 = 1 := by decide +kernel
theorem wv_360 : xSe.contains 360 = true ∧ xIn.contains 360 = true := by decide +kernel
theorem wc_360 : (xMn 360).cls = (xCl 16).1 := by decide +kernel
theorem na_372 : xnargs 372 = 2 := by decide +kernel
theorem wv_372 : xSe.contains 372 = true ∧ xIn.contains 372 = true := by decide +kernel
theorem wc_372 : (xMn 372).cls = (xCl 16).1 := by decide +kernel
theorem kk_244 : kkA 244 = kT244 := rfl
theorem mo_244 : moA 244 = 16 := rfl
theorem ni_244 : decide ((xMn 244).name = "<init>") = false := by decide +kernel
set_option maxRecDepth 100000 in
theorem xm_244 : xM 244 = some (cX12_append, 11, none, 4) := rfl
theorem kk_316 : kkA 316 = kT316 := rfl
theorem mo_316 : moA 316 = 16 := rfl
theorem ni_316 : decide ((xMn 316).name = "<init>") = false := by decide +kernel
set_option maxRecDepth 100000 in
theorem xm_316 : xM 316 = some (cX12_layLog, 4, none, 2) := rfl
theorem kk_327 : kkA 327 = kT327 := rfl
theorem mo_327 : moA 327 = 16 := rfl
theorem ni_327 : decide ((xMn 327).name = "<init>") = false := by decide +kernel
set_option maxRecDepth 100000 in
theorem xm_327 : xM 327 = some (cX12_nextContent, 2, (some FieldType.int), 1) := rfl
theorem rf_123 : xfR 16 123 = some (16, 53) := by decide +kernel
theorem mr_553 : xmR 16 553 = some 316 := by decide +kernel
theorem mr_672 : xmR 16 672 = some 244 := by decide +kernel
theorem mr_703 : xmR 16 703 = some 327 := by decide +kernel
theorem na_244 : xnargs 244 = 4 := by decide +kernel
theorem wv_244 : xSe.contains 244 = true ∧ xIn.contains 244 = true := by decide +kernel
theorem wc_244 : (xMn 244).cls = (xCl 16).1 := by decide +kernel
theorem na_316 : xnargs 316 = 2 := by decide +kernel
theorem wv_316 : xSe.contains 316 = true ∧ xIn.contains 316 = true := by decide +kernel
theorem wc_316 : (xMn 316).cls = (xCl 16).1 := by decide +kernel
theorem na_327 : xnargs 327 = 1 := by decide +kernel
theorem wv_327 : xSe.contains 327 = true ∧ xIn.contains 327 = true := by decide +kernel
theorem wc_327 : (xMn 327).cls = (xCl 16).1 := by decide +kernel
theorem kk_245 : kkA 245 = kT245 := rfl
theorem mo_245 : moA 245 = 16 := rfl
theorem ni_245 : decide ((xMn 245).name = "<init>") = false := by decide +kernel
set_option maxRecDepth 100000 in
theorem xm_245 : xM 245 = some (cX12_appendCode, 4, none, 2) := rfl
theorem rf_164 : xfR 16 164 = some (16, 66) := by decide +kernel
theorem rf_613 : xfR 16 613 = some (16, 146) := by decide +kernel
theorem pf_146 : ((xCl 16).2.1 146).2.2.2 = false ∧ xfty 16 146 = some .int := by decide +kernel
theorem kk_334 : kkA 334 = kT334 := rfl
theorem mo_334 : moA 334 = 16 := rfl
theorem ni_334 : decide ((xMn 334).name = "<init>") = false := by decide +kernel
set_option maxRecDepth 100000 in
theorem xm_334 : xM 334 = some (cX12_pack, 5, none, 3) := rfl
theorem rf_167 : xfR 16 167 = some (16, 67) := by decide +kernel
theorem rf_284 : xfR 16 284 = some (16, 106) := by decide +kernel
theorem rf_287 : xfR 16 287 = some (16, 107) := by decide +kernel
theorem rf_290 : xfR 16 290 = some (16, 108) := by decide +kernel
theorem rf_293 : xfR 16 293 = some (16, 109) := by decide +kernel
theorem rf_296 : xfR 16 296 = some (16, 110) := by decide +kernel
theorem rf_299 : xfR 16 299 = some (16, 111) := by decide +kernel
theorem rf_302 : xfR 16 302 = some (16, 112) := by decide +kernel
theorem mr_616 : xmR 16 616 = some 334 := by decide +kernel
theorem na_334 : xnargs 334 = 3 := by decide +kernel
theorem wv_334 : xSe.contains 334 = true ∧ xIn.contains 334 = true := by decide +kernel
theorem wc_334 : (xMn 334).cls = (xCl 16).1 := by decide +kernel
theorem kk_335 : kkA 335 = kT335 := rfl
theorem mo_335 : moA 335 = 16 := rfl
theorem ni_335 : decide ((xMn 335).name = "<init>") = false := by decide +kernel
set_option maxRecDepth 100000 in
theorem xm_335 : xM 335 = some (cX12_packAll, 5, none, 1) := rfl
theorem rf_96 : xfR 16 96 = some (16, 43) := by decide +kernel
theorem kk_347 : kkA 347 = kT347 := rfl
theorem mo_347 : moA 347 = 16 := rfl
theorem ni_347 : decide ((xMn 347).name = "<init>") = false := by decide +kernel
set_option maxRecDepth 100000 in
theorem xm_347 : xM 347 = some (cX12_removeFile, 4, none, 2) := rfl
theorem mr_539 : xmR 16 539 = some 347 := by decide +kernel
theorem na_347 : xnargs 347 = 2 := by decide +kernel
theorem wv_347 : xSe.contains 347 = true ∧ xIn.contains 347 = true := by decide +kernel
theorem wc_347 : (xMn 347).cls = (xCl 16).1 := by decide +kernel
theorem kk_374 : kkA 374 = kT374 := rfl
theorem mo_374 : moA 374 = 16 := rfl
theorem ni_374 : decide ((xMn 374).name = "<init>") = false := by decide +kernel
set_option maxRecDepth 100000 in
theorem xm_374 : xM 374 = some (cX12_trim, 4, none, 1) := rfl
theorem kk_268 : kkA 268 = kT268 := rfl
theorem mo_268 : moA 268 = 16 := rfl
theorem ni_268 : decide ((xMn 268).name = "<init>") = false := by decide +kernel
set_option maxRecDepth 100000 in
theorem xm_268 : xM 268 = some (cX12_cut, 5, none, 3) := rfl
theorem rf_84 : xfR 16 84 = some (16, 39) := by decide +kernel
theorem rf_87 : xfR 16 87 = some (16, 40) := by decide +kernel
theorem rf_90 : xfR 16 90 = some (16, 41) := by decide +kernel
theorem rf_93 : xfR 16 93 = some (16, 42) := by decide +kernel
theorem kk_261 : kkA 261 = kT261 := rfl
theorem mo_261 : moA 261 = 16 := rfl
theorem ni_261 : decide ((xMn 261).name = "<init>") = false := by decide +kernel
set_option maxRecDepth 100000 in
theorem xm_261 : xM 261 = some (cX12_copyFile, 4, none, 2) := rfl
theorem mr_496 : xmR 16 496 = some 261 := by decide +kernel
theorem na_261 : xnargs 261 = 2 := by decide +kernel
theorem wv_261 : xSe.contains 261 = true ∧ xIn.contains 261 = true := by decide +kernel
theorem wc_261 : (xMn 261).cls = (xCl 16).1 := by decide +kernel
theorem kk_367 : kkA 367 = kT367 := rfl
theorem mo_367 : moA 367 = 16 := rfl
theorem ni_367 : decide ((xMn 367).name = "<init>") = false := by decide +kernel
set_option maxRecDepth 100000 in
theorem xm_367 : xM 367 = some (cX12_syncFile, 4, none, 2) := rfl
theorem rf_108 : xfR 16 108 = some (16, 47) := by decide +kernel
theorem mr_499 : xmR 16 499 = some 367 := by decide +kernel
theorem mr_508 : xmR 16 508 = some 268 := by decide +kernel
theorem na_268 : xnargs 268 = 3 := by decide +kernel
theorem wv_268 : xSe.contains 268 = true ∧ xIn.contains 268 = true := by decide +kernel
theorem wc_268 : (xMn 268).cls = (xCl 16).1 := by decide +kernel
theorem na_367 : xnargs 367 = 2 := by decide +kernel
theorem wv_367 : xSe.contains 367 = true ∧ xIn.contains 367 = true := by decide +kernel
theorem wc_367 : (xMn 367).cls = (xCl 16).1 := by decide +kernel
theorem kk_383 : kkA 383 = kT383 := rfl
theorem mo_383 : moA 383 = 16 := rfl
theorem ni_383 : decide ((xMn 383).name = "<init>") = false := by decide +kernel
set_option maxRecDepth 100000 in
theorem xm_383 : xM 383 = some (cX12_writeShot, 5, none, 1) := rfl
theorem rf_236 : xfR 16 236 = some (16, 90) := by decide +kernel
theorem mr_715 : xmR 16 715 = some 335 := by decide +kernel
theorem mr_718 : xmR 16 718 = some 383 := by decide +kernel
theorem mr_721 : xmR 16 721 = some 374 := by decide +kernel
theorem na_335 : xnargs 335 = 1 := by decide +kernel
theorem wv_335 : xSe.contains 335 = true ∧ xIn.contains 335 = true := by decide +kernel
theorem wc_335 : (xMn 335).cls = (xCl 16).1 := by decide +kernel
theorem na_374 : xnargs 374 = 1 := by decide +kernel
theorem wv_374 : xSe.contains 374 = true ∧ xIn.contains 374 = true := by decide +kernel
theorem wc_374 : (xMn 374).cls = (xCl 16).1 := by decide +kernel
theorem na_383 : xnargs 383 = 1 := by decide +kernel
theorem wv_383 : xSe.contains 383 = true ∧ xIn.contains 383 = true := by decide +kernel
theorem wc_383 : (xMn 383).cls = (xCl 16).1 := by decide +kernel
theorem kk_259 : kkA 259 = kT259 := rfl
theorem mo_259 : moA 259 = 16 := rfl
theorem ni_259 : decide ((xMn 259).name = "<init>") = false := by decide +kernel
set_option maxRecDepth 100000 in
theorem xm_259 : xM 259 = some (cX12_compact, 6, none, 1) := rfl
theorem kk_298 : kkA 298 = kT298 := rfl
theorem mo_298 : moA 298 = 16 := rfl
theorem ni_298 : decide ((xMn 298).name = "<init>") = false := by decide +kernel
set_option maxRecDepth 100000 in
theorem xm_298 : xM 298 = some (cX12_integer, 2, (some FieldType.int), 1) := rfl
theorem kk_263 : kkA 263 = kT263 := rfl
theorem mo_263 : moA 263 = 16 := rfl
theorem ni_263 : decide ((xMn 263).name = "<init>") = false := by decide +kernel
set_option maxRecDepth 100000 in
theorem xm_263 : xM 263 = some (cX12_copySession, 4, none, 2) := rfl
theorem mr_592 : xmR 16 592 = some 263 := by decide +kernel
theorem na_263 : xnargs 263 = 2 := by decide +kernel
theorem wv_263 : xSe.contains 263 = true ∧ xIn.contains 263 = true := by decide +kernel
theorem wc_263 : (xMn 263).cls = (xCl 16).1 := by decide +kernel
theorem kk_332 : kkA 332 = kT332 := rfl
theorem mo_332 : moA 332 = 16 := rfl
theorem ni_332 : decide ((xMn 332).name = "<init>") = false := by decide +kernel
set_option maxRecDepth 100000 in
theorem xm_332 : xM 332 = some (cX12_open, 5, none, 2) := rfl
theorem rf_324 : xfR 16 324 = some (16, 119) := by decide +kernel
theorem kk_286 : kkA 286 = kT286 := rfl
theorem mo_286 : moA 286 = 16 := rfl
theorem ni_286 : decide ((xMn 286).name = "<init>") = false := by decide +kernel
set_option maxRecDepth 100000 in
theorem xm_286 : xM 286 = some (cX12_forget, 5, none, 2) := rfl
theorem kk_375 : kkA 375 = kT375 := rfl
theorem mo_375 : moA 375 = 16 := rfl
theorem ni_375 : decide ((xMn 375).name = "<init>") = false := by decide +kernel
set_option maxRecDepth 100000 in
theorem xm_375 : xM 375 = some (cX12_units, 5, (some FieldType.int), 1) := rfl
theorem mr_576 : xmR 16 576 = some 375 := by decide +kernel
theorem na_375 : xnargs 375 = 1 := by decide +kernel
theorem wv_375 : xSe.contains 375 = true ∧ xIn.contains 375 = true := by decide +kernel
theorem wc_375 : (xMn 375).cls = (xCl 16).1 := by decide +kernel
theorem kk_307 : kkA 307 = kT307 := rfl
theorem mo_307 : moA 307 = 16 := rfl
theorem ni_307 : decide ((xMn 307).name = "<init>") = false := by decide +kernel
set_option maxRecDepth 100000 in
theorem xm_307 : xM 307 = some (cX12_keep, 11, (some FieldType.boolean), 5) := rfl
theorem mr_585 : xmR 16 585 = some 307 := by decide +kernel
theorem mr_589 : xmR 16 589 = some 286 := by decide +kernel
theorem na_286 : xnargs 286 = 2 := by decide +kernel
theorem wv_286 : xSe.contains 286 = true ∧ xIn.contains 286 = true := by decide +kernel
theorem wc_286 : (xMn 286).cls = (xCl 16).1 := by decide +kernel
theorem na_307 : xnargs 307 = 5 := by decide +kernel
theorem wv_307 : xSe.contains 307 = true ∧ xIn.contains 307 = true := by decide +kernel
theorem wc_307 : (xMn 307).cls = (xCl 16).1 := by decide +kernel
theorem kk_333 : kkA 333 = kT333 := rfl
theorem mo_333 : moA 333 = 16 := rfl
theorem ni_333 : decide ((xMn 333).name = "<init>") = false := by decide +kernel
set_option maxRecDepth 100000 in
theorem xm_333 : xM 333 = some (cX12_operate, 10, none, 6) := rfl
theorem kk_358 : kkA 358 = kT358 := rfl
theorem mo_358 : moA 358 = 16 := rfl
theorem ni_358 : decide ((xMn 358).name = "<init>") = false := by decide +kernel
set_option maxRecDepth 100000 in
theorem xm_358 : xM 358 = some (cX12_sessionOf, 4, (some FieldType.int), 2) := rfl
theorem mr_600 : xmR 16 600 = some 332 := by decide +kernel
theorem mr_603 : xmR 16 603 = some 298 := by decide +kernel
theorem mr_606 : xmR 16 606 = some 358 := by decide +kernel
theorem mr_609 : xmR 16 609 = some 333 := by decide +kernel
theorem na_298 : xnargs 298 = 1 := by decide +kernel
theorem wv_298 : xSe.contains 298 = true ∧ xIn.contains 298 = true := by decide +kernel
theorem wc_298 : (xMn 298).cls = (xCl 16).1 := by decide +kernel
theorem na_332 : xnargs 332 = 2 := by decide +kernel
theorem wv_332 : xSe.contains 332 = true ∧ xIn.contains 332 = true := by decide +kernel
theorem wc_332 : (xMn 332).cls = (xCl 16).1 := by decide +kernel
theorem na_333 : xnargs 333 = 6 := by decide +kernel
theorem wv_333 : xSe.contains 333 = true ∧ xIn.contains 333 = true := by decide +kernel
theorem wc_333 : (xMn 333).cls = (xCl 16).1 := by decide +kernel
theorem na_358 : xnargs 358 = 2 := by decide +kernel
theorem wv_358 : xSe.contains 358 = true ∧ xIn.contains 358 = true := by decide +kernel
theorem wc_358 : (xMn 358).cls = (xCl 16).1 := by decide +kernel
theorem kk_338 : kkA 338 = kT338 := rfl
theorem mo_338 : moA 338 = 16 := rfl
theorem ni_338 : decide ((xMn 338).name = "<init>") = false := by decide +kernel
set_option maxRecDepth 100000 in
theorem xm_338 : xM 338 = some (cX12_perform, 8, none, 2) := rfl
theorem rf_191 : xfR 16 191 = some (16, 75) := by decide +kernel
theorem rf_260 : xfR 16 260 = some (16, 98) := by decide +kernel
theorem mr_683 : xmR 16 683 = some 243 := by decide +kernel
theorem mr_706 : xmR 16 706 = some 338 := by decide +kernel
theorem mr_712 : xmR 16 712 = some 259 := by decide +kernel
theorem na_243 : xnargs 243 = 1 := by decide +kernel
theorem wv_243 : xSe.contains 243 = true ∧ xIn.contains 243 = true := by decide +kernel
theorem wc_243 : (xMn 243).cls = (xCl 16).1 := by decide +kernel
theorem na_259 : xnargs 259 = 1 := by decide +kernel
theorem wv_259 : xSe.contains 259 = true ∧ xIn.contains 259 = true := by decide +kernel
theorem wc_259 : (xMn 259).cls = (xCl 16).1 := by decide +kernel
theorem na_338 : xnargs 338 = 2 := by decide +kernel
theorem wv_338 : xSe.contains 338 = true ∧ xIn.contains 338 = true := by decide +kernel
theorem wc_338 : (xMn 338).cls = (xCl 16).1 := by decide +kernel
theorem kk_246 : kkA 246 = kT246 := rfl
theorem mo_246 : moA 246 = 16 := rfl
theorem ni_246 : decide ((xMn 246).name = "<init>") = false := by decide +kernel
set_option maxRecDepth 100000 in
theorem xm_246 : xM 246 = some (cX12_apply, 6, none, 1) := rfl
theorem rf_354 : xfR 16 354 = some (16, 132) := by decide +kernel
theorem kk_301 : kkA 301 = kT301 := rfl
theorem mo_301 : moA 301 = 16 := rfl
theorem ni_301 : decide ((xMn 301).name = "<init>") = false := by decide +kernel
set_option maxRecDepth 100000 in
theorem xm_301 : xM 301 = some (cX12_isCommand, 2, (some FieldType.boolean), 1) := rfl
theorem rf_330 : xfR 16 330 = some (16, 124) := by decide +kernel
theorem rf_369 : xfR 16 369 = some (16, 137) := by decide +kernel
theorem rf_378 : xfR 16 378 = some (16, 142) := by decide +kernel
theorem rf_775 : xfR 16 775 = some (16, 141) := by decide +kernel
theorem pf_141 : ((xCl 16).2.1 141).2.2.2 = false ∧ xfty 16 141 = some .int := by decide +kernel
theorem kk_370 : kkA 370 = kT370 := rfl
theorem mo_370 : moA 370 = 16 := rfl
theorem ni_370 : decide ((xMn 370).name = "<init>") = false := by decide +kernel
set_option maxRecDepth 100000 in
theorem xm_370 : xM 370 = some (cX12_tellClient, 5, none, 3) := rfl
theorem rf_336 : xfR 16 336 = some (16, 126) := by decide +kernel
theorem mr_778 : xmR 16 778 = some 301 := by decide +kernel
theorem mr_782 : xmR 16 782 = some 370 := by decide +kernel
theorem na_301 : xnargs 301 = 1 := by decide +kernel
theorem wv_301 : xSe.contains 301 = true ∧ xIn.contains 301 = true := by decide +kernel
theorem wc_301 : (xMn 301).cls = (xCl 16).1 := by decide +kernel
theorem na_370 : xnargs 370 = 3 := by decide +kernel
theorem wv_370 : xSe.contains 370 = true ∧ xIn.contains 370 = true := by decide +kernel
theorem wc_370 : (xMn 370).cls = (xCl 16).1 := by decide +kernel
theorem kk_349 : kkA 349 = kT349 := rfl
theorem mo_349 : moA 349 = 16 := rfl
theorem ni_349 : decide ((xMn 349).name = "<init>") = false := by decide +kernel
set_option maxRecDepth 100000 in
theorem xm_349 : xM 349 = some (cX12_resign, 2, none, 1) := rfl
theorem rf_333 : xfR 16 333 = some (16, 125) := by decide +kernel
theorem rf_339 : xfR 16 339 = some (16, 127) := by decide +kernel
theorem rf_342 : xfR 16 342 = some (16, 128) := by decide +kernel
theorem rf_345 : xfR 16 345 = some (16, 129) := by decide +kernel
theorem rf_348 : xfR 16 348 = some (16, 130) := by decide +kernel
theorem rf_351 : xfR 16 351 = some (16, 131) := by decide +kernel
theorem rf_357 : xfR 16 357 = some (16, 133) := by decide +kernel
theorem rf_360 : xfR 16 360 = some (16, 134) := by decide +kernel
theorem rf_363 : xfR 16 363 = some (16, 135) := by decide +kernel
theorem rf_366 : xfR 16 366 = some (16, 136) := by decide +kernel
theorem mr_455 : xmR 16 455 = some 241 := by decide +kernel
theorem mr_772 : xmR 16 772 = some 349 := by decide +kernel
theorem na_241 : xnargs 241 = 2 := by decide +kernel
theorem wv_241 : xSe.contains 241 = true ∧ xIn.contains 241 = true := by decide +kernel
theorem wc_241 : (xMn 241).cls = (xCl 16).1 := by decide +kernel
theorem na_349 : xnargs 349 = 1 := by decide +kernel
theorem wv_349 : xSe.contains 349 = true ∧ xIn.contains 349 = true := by decide +kernel
theorem wc_349 : (xMn 349).cls = (xCl 16).1 := by decide +kernel
theorem kk_271 : kkA 271 = kT271 := rfl
theorem mo_271 : moA 271 = 16 := rfl
theorem ni_271 : decide ((xMn 271).name = "<init>") = false := by decide +kernel
set_option maxRecDepth 100000 in
theorem xm_271 : xM 271 = some (cX12_demand, 4, none, 1) := rfl
theorem xl_803 : xlR 16 803 = some 5 := by decide +kernel
theorem xl_805 : xlR 16 805 = some 32 := by decide +kernel
theorem xl_807 : xlR 16 807 = some 100 := by decide +kernel
theorem kk_300 : kkA 300 = kT300 := rfl
theorem mo_300 : moA 300 = 16 := rfl
theorem ni_300 : decide ((xMn 300).name = "<init>") = false := by decide +kernel
set_option maxRecDepth 100000 in
theorem xm_300 : xM 300 = some (cX12_isAsking, 6, (some FieldType.boolean), 4) := rfl
theorem rf_815 : xfR 16 815 = some (16, 140) := by decide +kernel
theorem mr_785 : xmR 16 785 = some 271 := by decide +kernel
theorem mr_811 : xmR 16 811 = some 300 := by decide +kernel
theorem pf_140 : ((xCl 16).2.1 140).2.2.2 = false ∧ xfty 16 140 = some .int := by decide +kernel
theorem na_271 : xnargs 271 = 1 := by decide +kernel
theorem wv_271 : xSe.contains 271 = true ∧ xIn.contains 271 = true := by decide +kernel
theorem wc_271 : (xMn 271).cls = (xCl 16).1 := by decide +kernel
theorem na_300 : xnargs 300 = 4 := by decide +kernel
theorem wv_300 : xSe.contains 300 = true ∧ xIn.contains 300 = true := by decide +kernel
theorem wc_300 : (xMn 300).cls = (xCl 16).1 := by decide +kernel
theorem kk_248 : kkA 248 = kT248 := rfl
theorem mo_248 : moA 248 = 16 := rfl
theorem ni_248 : decide ((xMn 248).name = "<init>") = false := by decide +kernel
set_option maxRecDepth 100000 in
theorem xm_248 : xM 248 = some (cX12_ask, 8, (some FieldType.int), 4) := rfl
theorem kk_295 : kkA 295 = kT295 := rfl
theorem mo_295 : moA 295 = 16 := rfl
theorem ni_295 : decide ((xMn 295).name = "<init>") = false := by decide +kernel
set_option maxRecDepth 100000 in
theorem xm_295 : xM 295 = some (cX12_inLetter, 2, (some FieldType.byte), 1) := rfl
theorem xc_758 : xcR 16 758 = some 542208 := by decide +kernel
theorem rf_215 : xfR 16 215 = some (16, 83) := by decide +kernel
theorem mr_759 : xmR 16 759 = some 295 := by decide +kernel
theorem na_295 : xnargs 295 = 1 := by decide +kernel
theorem wv_295 : xSe.contains 295 = true ∧ xIn.contains 295 = true := by decide +kernel
theorem wc_295 : (xMn 295).cls = (xCl 16).1 := by decide +kernel
theorem kk_293 : kkA 293 = kT293 := rfl
theorem mo_293 : moA 293 = 16 := rfl
theorem ni_293 : decide ((xMn 293).name = "<init>") = false := by decide +kernel
set_option maxRecDepth 100000 in
theorem xm_293 : xM 293 = some (cX12_hold, 11, none, 8) := rfl
theorem kk_313 : kkA 313 = kT313 := rfl
theorem mo_313 : moA 313 = 16 := rfl
theorem ni_313 : decide ((xMn 313).name = "<init>") = false := by decide +kernel
set_option maxRecDepth 100000 in
theorem xm_313 : xM 313 = some (cX12_lay4, 4, none, 2) := rfl
theorem kk_319 : kkA 319 = kT319 := rfl
theorem mo_319 : moA 319 = 16 := rfl
theorem ni_319 : decide ((xMn 319).name = "<init>") = false := by decide +kernel
set_option maxRecDepth 100000 in
theorem xm_319 : xM 319 = some (cX12_learned, 2, (some FieldType.int), 1) := rfl
theorem kk_380 : kkA 380 = kT380 := rfl
theorem mo_380 : moA 380 = 16 := rfl
theorem ni_380 : decide ((xMn 380).name = "<init>") = false := by decide +kernel
set_option maxRecDepth 100000 in
theorem xm_380 : xM 380 = some (cX12_voters, 2, (some FieldType.int), 1) := rfl
theorem mr_628 : xmR 16 628 = some 380 := by decide +kernel
theorem mr_631 : xmR 16 631 = some 319 := by decide +kernel
theorem na_319 : xnargs 319 = 1 := by decide +kernel
theorem wv_319 : xSe.contains 319 = true ∧ xIn.contains 319 = true := by decide +kernel
theorem wc_319 : (xMn 319).cls = (xCl 16).1 := by decide +kernel
theorem na_380 : xnargs 380 = 1 := by decide +kernel
theorem wv_380 : xSe.contains 380 = true ∧ xIn.contains 380 = true := by decide +kernel
theorem wc_380 : (xMn 380).cls = (xCl 16).1 := by decide +kernel
theorem kk_304 : kkA 304 = kT304 := rfl
theorem mo_304 : moA 304 = 16 := rfl
theorem ni_304 : decide ((xMn 304).name = "<init>") = false := by decide +kernel
set_option maxRecDepth 100000 in
theorem xm_304 : xM 304 = some (cX12_isPeer, 3, (some FieldType.boolean), 2) := rfl
theorem kk_382 : kkA 382 = kT382 := rfl
theorem mo_382 : moA 382 = 16 := rfl
theorem ni_382 : decide ((xMn 382).name = "<init>") = false := by decide +kernel
set_option maxRecDepth 100000 in
theorem xm_382 : xM 382 = some (cX12_writeEntries, 7, none, 3) := rfl
theorem rf_224 : xfR 16 224 = some (16, 86) := by decide +kernel
theorem rf_230 : xfR 16 230 = some (16, 88) := by decide +kernel
theorem rf_233 : xfR 16 233 = some (16, 89) := by decide +kernel
theorem mr_694 : xmR 16 694 = some 382 := by decide +kernel
theorem na_382 : xnargs 382 = 3 := by decide +kernel
theorem wv_382 : xSe.contains 382 = true ∧ xIn.contains 382 = true := by decide +kernel
theorem wc_382 : (xMn 382).cls = (xCl 16).1 := by decide +kernel
theorem kk_354 : kkA 354 = kT354 := rfl
theorem mo_354 : moA 354 = 16 := rfl
theorem ni_354 : decide ((xMn 354).name = "<init>") = false := by decide +kernel
set_option maxRecDepth 100000 in
theorem xm_354 : xM 354 = some (cX12_send, 7, none, 3) := rfl
theorem mr_676 : xmR 16 676 = some 304 := by decide +kernel
theorem mr_686 : xmR 16 686 = some 354 := by decide +kernel
theorem na_304 : xnargs 304 = 2 := by decide +kernel
theorem wv_304 : xSe.contains 304 = true ∧ xIn.contains 304 = true := by decide +kernel
theorem wc_304 : (xMn 304).cls = (xCl 16).1 := by decide +kernel
theorem na_354 : xnargs 354 = 3 := by decide +kernel
theorem wv_354 : xSe.contains 354 = true ∧ xIn.contains 354 = true := by decide +kernel
theorem wc_354 : (xMn 354).cls = (xCl 16).1 := by decide +kernel
theorem kk_355 : kkA 355 = kT355 := rfl
theorem mo_355 : moA 355 = 16 := rfl
theorem ni_355 : decide ((xMn 355).name = "<init>") = false := by decide +kernel
set_option maxRecDepth 100000 in
theorem xm_355 : xM 355 = some (cX12_sendAll, 4, none, 2) := rfl
theorem rf_185 : xfR 16 185 = some (16, 73) := by decide +kernel
theorem rf_188 : xfR 16 188 = some (16, 74) := by decide +kernel
theorem rf_206 : xfR 16 206 = some (16, 80) := by decide +kernel
theorem rf_212 : xfR 16 212 = some (16, 82) := by decide +kernel
theorem mr_679 : xmR 16 679 = some 355 := by decide +kernel
theorem mr_765 : xmR 16 765 = some 313 := by decide +kernel
theorem mr_768 : xmR 16 768 = some 293 := by decide +kernel
theorem na_293 : xnargs 293 = 8 := by decide +kernel
theorem wv_293 : xSe.contains 293 = true ∧ xIn.contains 293 = true := by decide +kernel
theorem wc_293 : (xMn 293).cls = (xCl 16).1 := by decide +kernel
theorem na_313 : xnargs 313 = 2 := by decide +kernel
theorem wv_313 : xSe.contains 313 = true ∧ xIn.contains 313 = true := by decide +kernel
theorem wc_313 : (xMn 313).cls = (xCl 16).1 := by decide +kernel
theorem na_355 : xnargs 355 = 2 := by decide +kernel
theorem wv_355 : xSe.contains 355 = true ∧ xIn.contains 355 = true := by decide +kernel
theorem wc_355 : (xMn 355).cls = (xCl 16).1 := by decide +kernel
theorem kk_249 : kkA 249 = kT249 := rfl
theorem mo_249 : moA 249 = 16 := rfl
theorem ni_249 : decide ((xMn 249).name = "<init>") = false := by decide +kernel
set_option maxRecDepth 100000 in
theorem xm_249 : xM 249 = some (cX12_asked, 13, none, 2) := rfl
theorem kk_369 : kkA 369 = kT369 := rfl
theorem mo_369 : moA 369 = 16 := rfl
theorem ni_369 : decide ((xMn 369).name = "<init>") = false := by decide +kernel
set_option maxRecDepth 100000 in
theorem xm_369 : xM 369 = some (cX12_tell, 7, none, 6) := rfl
theorem kk_376 : kkA 376 = kT376 := rfl
theorem mo_376 : moA 376 = 16 := rfl
theorem ni_376 : decide ((xMn 376).name = "<init>") = false := by decide +kernel
set_option maxRecDepth 100000 in
theorem xm_376 : xM 376 = some (cX12_unpack, 5, (some FieldType.int), 2) := rfl
theorem mr_619 : xmR 16 619 = some 376 := by decide +kernel
theorem na_376 : xnargs 376 = 2 := by decide +kernel
theorem wv_376 : xSe.contains 376 = true ∧ xIn.contains 376 = true := by decide +kernel
theorem wc_376 : (xMn 376).cls = (xCl 16).1 := by decide +kernel
theorem kk_377 : kkA 377 = kT377 := rfl
theorem mo_377 : moA 377 = 16 := rfl
theorem ni_377 : decide ((xMn 377).name = "<init>") = false := by decide +kernel
set_option maxRecDepth 100000 in
theorem xm_377 : xM 377 = some (cX12_unpackAll, 5, none, 1) := rfl
theorem rf_170 : xfR 16 170 = some (16, 68) := by decide +kernel
theorem rf_173 : xfR 16 173 = some (16, 69) := by decide +kernel
theorem rf_176 : xfR 16 176 = some (16, 70) := by decide +kernel
theorem rf_197 : xfR 16 197 = some (16, 77) := by decide +kernel
theorem mr_746 : xmR 16 746 = some 369 := by decide +kernel
theorem mr_762 : xmR 16 762 = some 377 := by decide +kernel
theorem na_369 : xnargs 369 = 6 := by decide +kernel
theorem wv_369 : xSe.contains 369 = true ∧ xIn.contains 369 = true := by decide +kernel
theorem wc_369 : (xMn 369).cls = (xCl 16).1 := by decide +kernel
theorem na_377 : xnargs 377 = 1 := by decide +kernel
theorem wv_377 : xSe.contains 377 = true ∧ xIn.contains 377 = true := by decide +kernel
theorem wc_377 : (xMn 377).cls = (xCl 16).1 := by decide +kernel
theorem kk_250 : kkA 250 = kT250 := rfl
theorem mo_250 : moA 250 = 16 := rfl
theorem ni_250 : decide ((xMn 250).name = "<init>") = false := by decide +kernel
set_option maxRecDepth 100000 in
theorem xm_250 : xM 250 = some (cX12_assemble, 13, none, 3) := rfl
theorem rf_209 : xfR 16 209 = some (16, 81) := by decide +kernel
theorem rf_245 : xfR 16 245 = some (16, 93) := by decide +kernel
theorem kk_251 : kkA 251 = kT251 := rfl
theorem mo_251 : moA 251 = 16 := rfl
theorem ni_251 : decide ((xMn 251).name = "<init>") = false := by decide +kernel
set_option maxRecDepth 100000 in
theorem xm_251 : xM 251 = some (cX12_beat, 4, none, 1) := rfl
theorem kk_252 : kkA 252 = kT252 := rfl
theorem mo_252 : moA 252 = 16 := rfl
theorem ni_252 : decide ((xMn 252).name = "<init>") = false := by decide +kernel
set_option maxRecDepth 100000 in
theorem xm_252 : xM 252 = some (cX12_byteAt, 2, (some FieldType.int), 1) := rfl
theorem rf_218 : xfR 16 218 = some (16, 84) := by decide +kernel
theorem xl_453 : xlR 16 453 = some 50 := by decide +kernel
theorem kk_274 : kkA 274 = kT274 := rfl
theorem mo_274 : moA 274 = 16 := rfl
theorem ni_274 : decide ((xMn 274).name = "<init>") = false := by decide +kernel
set_option maxRecDepth 100000 in
theorem xm_274 : xM 274 = some (cX12_drawAlarm, 2, none, 1) := rfl
theorem kk_341 : kkA 341 = kT341 := rfl
theorem mo_341 : moA 341 = 16 := rfl
theorem ni_341 : decide ((xMn 341).name = "<init>") = false := by decide +kernel
set_option maxRecDepth 100000 in
theorem xm_341 : xM 341 = some (cX12_postVoters, 7, none, 3) := rfl
theorem rf_102 : xfR 16 102 = some (16, 45) := by decide +kernel
theorem rf_105 : xfR 16 105 = some (16, 46) := by decide +kernel
theorem rf_126 : xfR 16 126 = some (16, 54) := by decide +kernel
theorem rf_511 : xfR 16 511 = some (16, 48) := by decide +kernel
theorem pf_48 : ((xCl 16).2.1 48).2.2.2 = false ∧ xfty 16 48 = some .int := by decide +kernel
theorem kk_317 : kkA 317 = kT317 := rfl
theorem mo_317 : moA 317 = 16 := rfl
theorem ni_317 : decide ((xMn 317).name = "<init>") = false := by decide +kernel
set_option maxRecDepth 100000 in
theorem xm_317 : xM 317 = some (cX12_laySlot, 4, none, 1) := rfl
theorem mr_502 : xmR 16 502 = some 317 := by decide +kernel
theorem na_317 : xnargs 317 = 1 := by decide +kernel
theorem wv_317 : xSe.contains 317 = true ∧ xIn.contains 317 = true := by decide +kernel
theorem wc_317 : (xMn 317).cls = (xCl 16).1 := by decide +kernel
theorem kk_384 : kkA 384 = kT384 := rfl
theorem mo_384 : moA 384 = 16 := rfl
theorem ni_384 : decide ((xMn 384).name = "<init>") = false := by decide +kernel
set_option maxRecDepth 100000 in
theorem xm_384 : xM 384 = some (cX12_writeSlot, 2, none, 1) := rfl
theorem rf_203 : xfR 16 203 = some (16, 79) := by decide +kernel
theorem mr_389 : xmR 16 389 = some 274 := by decide +kernel
theorem mr_641 : xmR 16 641 = some 384 := by decide +kernel
theorem mr_666 : xmR 16 666 = some 341 := by decide +kernel
theorem na_274 : xnargs 274 = 1 := by decide +kernel
theorem wv_274 : xSe.contains 274 = true ∧ xIn.contains 274 = true := by decide +kernel
theorem wc_274 : (xMn 274).cls = (xCl 16).1 := by decide +kernel
theorem na_341 : xnargs 341 = 3 := by decide +kernel
theorem wv_341 : xSe.contains 341 = true ∧ xIn.contains 341 = true := by decide +kernel
theorem wc_341 : (xMn 341).cls = (xCl 16).1 := by decide +kernel
theorem na_384 : xnargs 384 = 1 := by decide +kernel
theorem wv_384 : xSe.contains 384 = true ∧ xIn.contains 384 = true := by decide +kernel
theorem wc_384 : (xMn 384).cls = (xCl 16).1 := by decide +kernel
theorem kk_254 : kkA 254 = kT254 := rfl
theorem mo_254 : moA 254 = 16 := rfl
theorem ni_254 : decide ((xMn 254).name = "<init>") = false := by decide +kernel
set_option maxRecDepth 100000 in
theorem xm_254 : xM 254 = some (cX12_campaign, 2, none, 1) := rfl
theorem kk_275 : kkA 275 = kT275 := rfl
theorem mo_275 : moA 275 = 16 := rfl
theorem ni_275 : decide ((xMn 275).name = "<init>") = false := by decide +kernel
set_option maxRecDepth 100000 in
theorem xm_275 : xM 275 = some (cX12_dropRequests, 3, none, 1) := rfl
theorem mr_644 : xmR 16 644 = some 275 := by decide +kernel
theorem na_275 : xnargs 275 = 1 := by decide +kernel
theorem wv_275 : xSe.contains 275 = true ∧ xIn.contains 275 = true := by decide +kernel
theorem wc_275 : (xMn 275).cls = (xCl 16).1 := by decide +kernel
theorem kk_363 : kkA 363 = kT363 := rfl
theorem mo_363 : moA 363 = 16 := rfl
theorem ni_363 : decide ((xMn 363).name = "<init>") = false := by decide +kernel
set_option maxRecDepth 100000 in
theorem xm_363 : xM 363 = some (cX12_stepDown, 4, none, 3) := rfl
theorem mr_657 : xmR 16 657 = some 363 := by decide +kernel
theorem mr_697 : xmR 16 697 = some 246 := by decide +kernel
theorem mr_700 : xmR 16 700 = some 245 := by decide +kernel
theorem na_245 : xnargs 245 = 2 := by decide +kernel
theorem wv_245 : xSe.contains 245 = true ∧ xIn.contains 245 = true := by decide +kernel
theorem wc_245 : (xMn 245).cls = (xCl 16).1 := by decide +kernel
theorem na_246 : xnargs 246 = 1 := by decide +kernel
theorem wv_246 : xSe.contains 246 = true ∧ xIn.contains 246 = true := by decide +kernel
theorem wc_246 : (xMn 246).cls = (xCl 16).1 := by decide +kernel
theorem na_363 : xnargs 363 = 3 := by decide +kernel
theorem wv_363 : xSe.contains 363 = true ∧ xIn.contains 363 = true := by decide +kernel
theorem wc_363 : (xMn 363).cls = (xCl 16).1 := by decide +kernel
theorem kk_265 : kkA 265 = kT265 := rfl
theorem mo_265 : moA 265 = 16 := rfl
theorem ni_265 : decide ((xMn 265).name = "<init>") = false := by decide +kernel
set_option maxRecDepth 100000 in
theorem xm_265 : xM 265 = some (cX12_count0, 3, none, 1) := rfl
theorem mr_730 : xmR 16 730 = some 265 := by decide +kernel
theorem na_265 : xnargs 265 = 1 := by decide +kernel
theorem wv_265 : xSe.contains 265 = true ∧ xIn.contains 265 = true := by decide +kernel
theorem wc_265 : (xMn 265).cls = (xCl 16).1 := by decide +kernel
theorem kk_291 : kkA 291 = kT291 := rfl
theorem mo_291 : moA 291 = 16 := rfl
theorem ni_291 : decide ((xMn 291).name = "<init>") = false := by decide +kernel
set_option maxRecDepth 100000 in
theorem xm_291 : xM 291 = some (cX12_heardOf, 9, none, 6) := rfl
theorem kk_299 : kkA 299 = kT299 := rfl
theorem mo_299 : moA 299 = 16 := rfl
theorem ni_299 : decide ((xMn 299).name = "<init>") = false := by decide +kernel
set_option maxRecDepth 100000 in
theorem xm_299 : xM 299 = some (cX12_isAsNew, 5, (some FieldType.boolean), 3) := rfl
theorem kk_306 : kkA 306 = kT306 := rfl
theorem mo_306 : moA 306 = 16 := rfl
theorem ni_306 : decide ((xMn 306).name = "<init>") = false := by decide +kernel
set_option maxRecDepth 100000 in
theorem xm_306 : xM 306 = some (cX12_isVoter, 3, (some FieldType.boolean), 2) := rfl
theorem mr_660 : xmR 16 660 = some 251 := by decide +kernel
theorem na_251 : xnargs 251 = 1 := by decide +kernel
theorem wv_251 : xSe.contains 251 = true ∧ xIn.contains 251 = true := by decide +kernel
theorem wc_251 : (xMn 251).cls = (xCl 16).1 := by decide +kernel
theorem kk_318 : kkA 318 = kT318 := rfl
theorem mo_318 : moA 318 = 16 := rfl
theorem ni_318 : decide ((xMn 318).name = "<init>") = false := by decide +kernel
set_option maxRecDepth 100000 in
theorem xm_318 : xM 318 = some (cX12_lead, 4, none, 1) := rfl
theorem kk_269 : kkA 269 = kT269 := rfl
theorem mo_269 : moA 269 = 16 := rfl
theorem ni_269 : decide ((xMn 269).name = "<init>") = false := by decide +kernel
set_option maxRecDepth 100000 in
theorem xm_269 : xM 269 = some (cX12_cutLog, 4, none, 2) := rfl
theorem mr_755 : xmR 16 755 = some 269 := by decide +kernel
theorem na_269 : xnargs 269 = 2 := by decide +kernel
theorem wv_269 : xSe.contains 269 = true ∧ xIn.contains 269 = true := by decide +kernel
theorem wc_269 : (xMn 269).cls = (xCl 16).1 := by decide +kernel
theorem kk_368 : kkA 368 = kT368 := rfl
theorem mo_368 : moA 368 = 16 := rfl
theorem ni_368 : decide ((xMn 368).name = "<init>") = false := by decide +kernel
set_option maxRecDepth 100000 in
theorem xm_368 : xM 368 = some (cX12_take, 11, none, 3) := rfl
theorem rf_200 : xfR 16 200 = some (16, 78) := by decide +kernel
theorem mr_749 : xmR 16 749 = some 368 := by decide +kernel
theorem mr_752 : xmR 16 752 = some 250 := by decide +kernel
theorem na_250 : xnargs 250 = 3 := by decide +kernel
theorem wv_250 : xSe.contains 250 = true ∧ xIn.contains 250 = true := by decide +kernel
theorem wc_250 : (xMn 250).cls = (xCl 16).1 := by decide +kernel
theorem na_368 : xnargs 368 = 3 := by decide +kernel
theorem wv_368 : xSe.contains 368 = true ∧ xIn.contains 368 = true := by decide +kernel
theorem wc_368 : (xMn 368).cls = (xCl 16).1 := by decide +kernel
theorem kk_321 : kkA 321 = kT321 := rfl
theorem mo_321 : moA 321 = 16 := rfl
theorem ni_321 : decide ((xMn 321).name = "<init>") = false := by decide +kernel
set_option maxRecDepth 100000 in
theorem xm_321 : xM 321 = some (cX12_led, 6, none, 4) := rfl
theorem mr_733 : xmR 16 733 = some 299 := by decide +kernel
theorem na_299 : xnargs 299 = 3 := by decide +kernel
theorem wv_299 : xSe.contains 299 = true ∧ xIn.contains 299 = true := by decide +kernel
theorem wc_299 : (xMn 299).cls = (xCl 16).1 := by decide +kernel
theorem kk_379 : kkA 379 = kT379 := rfl
theorem mo_379 : moA 379 = 16 := rfl
theorem ni_379 : decide ((xMn 379).name = "<init>") = false := by decide +kernel
set_option maxRecDepth 100000 in
theorem xm_379 : xM 379 = some (cX12_vote, 7, none, 5) := rfl
theorem xc_388 : xcR 16 388 = some (-2000000000) := by decide +kernel
theorem mr_663 : xmR 16 663 = some 306 := by decide +kernel
theorem mr_669 : xmR 16 669 = some 254 := by decide +kernel
theorem mr_727 : xmR 16 727 = some 318 := by decide +kernel
theorem mr_737 : xmR 16 737 = some 379 := by decide +kernel
theorem mr_740 : xmR 16 740 = some 321 := by decide +kernel
theorem mr_743 : xmR 16 743 = some 291 := by decide +kernel
theorem na_254 : xnargs 254 = 1 := by decide +kernel
theorem wv_254 : xSe.contains 254 = true ∧ xIn.contains 254 = true := by decide +kernel
theorem wc_254 : (xMn 254).cls = (xCl 16).1 := by decide +kernel
theorem na_291 : xnargs 291 = 6 := by decide +kernel
theorem wv_291 : xSe.contains 291 = true ∧ xIn.contains 291 = true := by decide +kernel
theorem wc_291 : (xMn 291).cls = (xCl 16).1 := by decide +kernel
theorem na_306 : xnargs 306 = 2 := by decide +kernel
theorem wv_306 : xSe.contains 306 = true ∧ xIn.contains 306 = true := by decide +kernel
theorem wc_306 : (xMn 306).cls = (xCl 16).1 := by decide +kernel
theorem na_318 : xnargs 318 = 1 := by decide +kernel
theorem wv_318 : xSe.contains 318 = true ∧ xIn.contains 318 = true := by decide +kernel
theorem wc_318 : (xMn 318).cls = (xCl 16).1 := by decide +kernel
theorem na_321 : xnargs 321 = 4 := by decide +kernel
theorem wv_321 : xSe.contains 321 = true ∧ xIn.contains 321 = true := by decide +kernel
theorem wc_321 : (xMn 321).cls = (xCl 16).1 := by decide +kernel
theorem na_379 : xnargs 379 = 5 := by decide +kernel
theorem wv_379 : xSe.contains 379 = true ∧ xIn.contains 379 = true := by decide +kernel
theorem wc_379 : (xMn 379).cls = (xCl 16).1 := by decide +kernel
theorem kk_253 : kkA 253 = kT253 := rfl
theorem mo_253 : moA 253 = 16 := rfl
theorem ni_253 : decide ((xMn 253).name = "<init>") = false := by decide +kernel
set_option maxRecDepth 100000 in
theorem xm_253 : xM 253 = some (cX12_came, 9, none, 2) := rfl
theorem rf_120 : xfR 16 120 = some (16, 52) := by decide +kernel
theorem kk_255 : kkA 255 = kT255 := rfl
theorem mo_255 : moA 255 = 16 := rfl
theorem ni_255 : decide ((xMn 255).name = "<init>") = false := by decide +kernel
set_option maxRecDepth 100000 in
theorem xm_255 : xM 255 = some (cX12_canChange, 2, (some FieldType.boolean), 1) := rfl
theorem kk_256 : kkA 256 = kT256 := rfl
theorem mo_256 : moA 256 = 16 := rfl
theorem ni_256 : decide ((xMn 256).name = "<init>") = false := by decide +kernel
set_option maxRecDepth 100000 in
theorem xm_256 : xM 256 = some (cX12_client, 3, (some FieldType.int), 2) := rfl
theorem rf_471 : xfR 16 471 = some (16, 3) := by decide +kernel
theorem kk_264 : kkA 264 = kT264 := rfl
theorem mo_264 : moA 264 = 16 := rfl
theorem ni_264 : decide ((xMn 264).name = "<init>") = false := by decide +kernel
set_option maxRecDepth 100000 in
theorem xm_264 : xM 264 = some (cX12_count, 2, (some FieldType.int), 1) := rfl
theorem xl_542 : xlR 16 542 = some 1048575 := by decide +kernel
theorem kk_267 : kkA 267 = kT267 := rfl
theorem mo_267 : moA 267 = 16 := rfl
theorem ni_267 : decide ((xMn 267).name = "<init>") = false := by decide +kernel
set_option maxRecDepth 100000 in
theorem xm_267 : xM 267 = some (cX12_crashFiles, 10, none, 2) := rfl
theorem kk_272 : kkA 272 = kT272 := rfl
theorem mo_272 : moA 272 = 16 := rfl
theorem ni_272 : decide ((xMn 272).name = "<init>") = false := by decide +kernel
set_option maxRecDepth 100000 in
theorem xm_272 : xM 272 = some (cX12_down, 2, none, 1) := rfl
theorem xl_827 : xlR 16 827 = some 6 := by decide +kernel
theorem mr_843 : xmR 16 843 = some 272 := by decide +kernel
theorem mr_846 : xmR 16 846 = some 267 := by decide +kernel
theorem na_267 : xnargs 267 = 2 := by decide +kernel
theorem wv_267 : xSe.contains 267 = true ∧ xIn.contains 267 = true := by decide +kernel
theorem wc_267 : (xMn 267).cls = (xCl 16).1 := by decide +kernel
theorem na_272 : xnargs 272 = 1 := by decide +kernel
theorem wv_272 : xSe.contains 272 = true ∧ xIn.contains 272 = true := by decide +kernel
theorem wc_272 : (xMn 272).cls = (xCl 16).1 := by decide +kernel
theorem kk_266 : kkA 266 = kT266 := rfl
theorem mo_266 : moA 266 = 16 := rfl
theorem ni_266 : decide ((xMn 266).name = "<init>") = false := by decide +kernel
set_option maxRecDepth 100000 in
theorem xm_266 : xM 266 = some (cX12_crash, 4, (some FieldType.boolean), 2) := rfl
theorem xl_829 : xlR 16 829 = some 8 := by decide +kernel
theorem xl_831 : xlR 16 831 = some 15 := by decide +kernel
theorem kk_302 : kkA 302 = kT302 := rfl
theorem mo_302 : moA 302 = 16 := rfl
theorem ni_302 : decide ((xMn 302).name = "<init>") = false := by decide +kernel
set_option maxRecDepth 100000 in
theorem xm_302 : xM 302 = some (cX12_isEndpoint, 1, (some FieldType.boolean), 1) := rfl
theorem xl_818 : xlR 16 818 = some 1000 := by decide +kernel
theorem mr_833 : xmR 16 833 = some 302 := by decide +kernel
theorem na_302 : xnargs 302 = 1 := by decide +kernel
theorem mm_302 : ¬ 302 = xMax ∧ ¬ 302 = xMin := by decide
theorem ws_302 : xSt.contains 302 = true := by decide +kernel
theorem kk_270 : kkA 270 = kT270 := rfl
theorem mo_270 : moA 270 = 16 := rfl
theorem ni_270 : decide ((xMn 270).name = "<init>") = false := by decide +kernel
set_option maxRecDepth 100000 in
theorem xm_270 : xM 270 = some (cX12_delay, 5, (some FieldType.int), 3) := rfl
theorem xl_797 : xlR 16 797 = some 20 := by decide +kernel
theorem kk_276 : kkA 276 = kT276 := rfl
theorem mo_276 : moA 276 = 16 := rfl
theorem ni_276 : decide ((xMn 276).name = "<init>") = false := by decide +kernel
set_option maxRecDepth 100000 in
theorem xm_276 : xM 276 = some (cX12_end, 2, (some FieldType.int), 1) := rfl
theorem xl_838 : xlR 16 838 = some 2 := by decide +kernel
theorem kk_277 : kkA 277 = kT277 := rfl
theorem mo_277 : moA 277 = 16 := rfl
theorem ni_277 : decide ((xMn 277).name = "<init>") = false := by decide +kernel
set_option maxRecDepth 100000 in
theorem xm_277 : xM 277 = some (cX12_entry, 5, (some FieldType.int), 3) := rfl
theorem mr_794 : xmR 16 794 = some 240 := by decide +kernel
theorem na_240 : xnargs 240 = 1 := by decide +kernel
theorem wv_240 : xSe.contains 240 = true ∧ xIn.contains 240 = true := by decide +kernel
theorem wc_240 : (xMn 240).cls = (xCl 16).1 := by decide +kernel
theorem kk_278 : kkA 278 = kT278 := rfl
theorem mo_278 : moA 278 = 16 := rfl
theorem ni_278 : decide ((xMn 278).name = "<init>") = false := by decide +kernel
set_option maxRecDepth 100000 in
theorem xm_278 : xM 278 = some (cX12_feed, 6, (some FieldType.int), 5) := rfl
theorem xl_858 : xlR 16 858 = some 4 := by decide +kernel
theorem kk_279 : kkA 279 = kT279 := rfl
theorem mo_279 : moA 279 = 16 := rfl
theorem ni_279 : decide ((xMn 279).name = "<init>") = false := by decide +kernel
set_option maxRecDepth 100000 in
theorem xm_279 : xM 279 = some (cX12_file, 5, (some FieldType.int), 3) := rfl
theorem rf_458 : xfR 16 458 = some (16, 35) := by decide +kernel
theorem rf_461 : xfR 16 461 = some (16, 33) := by decide +kernel
theorem rf_464 : xfR 16 464 = some (16, 34) := by decide +kernel
theorem pf_33 : ((xCl 16).2.1 33).2.2.2 = false ∧ xfty 16 33 = some .int := by decide +kernel
theorem pf_34 : ((xCl 16).2.1 34).2.2.2 = false ∧ xfty 16 34 = some .int := by decide +kernel
theorem pf_35 : ((xCl 16).2.1 35).2.2.2 = false ∧ xfty 16 35 = some .int := by decide +kernel
theorem kk_323 : kkA 323 = kT323 := rfl
theorem mo_323 : moA 323 = 16 := rfl
theorem ni_323 : decide ((xMn 323).name = "<init>") = false := by decide +kernel
set_option maxRecDepth 100000 in
theorem xm_323 : xM 323 = some (cX12_look, 4, none, 3) := rfl
theorem mr_467 : xmR 16 467 = some 323 := by decide +kernel
theorem na_323 : xnargs 323 = 3 := by decide +kernel
theorem wv_323 : xSe.contains 323 = true ∧ xIn.contains 323 = true := by decide +kernel
theorem wc_323 : (xMn 323).cls = (xCl 16).1 := by decide +kernel
theorem kk_283 : kkA 283 = kT283 := rfl
theorem mo_283 : moA 283 = 16 := rfl
theorem ni_283 : decide ((xMn 283).name = "<init>") = false := by decide +kernel
set_option maxRecDepth 100000 in
theorem xm_283 : xM 283 = some (cX12_findNext, 2, none, 0) := rfl
theorem kk_305 : kkA 305 = kT305 := rfl
theorem mo_305 : moA 305 = 16 := rfl
theorem ni_305 : decide ((xMn 305).name = "<init>") = false := by decide +kernel
set_option maxRecDepth 100000 in
theorem xm_305 : xM 305 = some (cX12_isSegment, 4, (some FieldType.boolean), 2) := rfl
theorem kk_331 : kkA 331 = kT331 := rfl
theorem mo_331 : moA 331 = 16 := rfl
theorem ni_331 : decide ((xMn 331).name = "<init>") = false := by decide +kernel
set_option maxRecDepth 100000 in
theorem xm_331 : xM 331 = some (cX12_onDisk, 2, (some FieldType.byte), 1) := rfl
theorem mr_517 : xmR 16 517 = some 331 := by decide +kernel
theorem na_331 : xnargs 331 = 1 := by decide +kernel
theorem wv_331 : xSe.contains 331 = true ∧ xIn.contains 331 = true := by decide +kernel
theorem wc_331 : (xMn 331).cls = (xCl 16).1 := by decide +kernel
theorem kk_344 : kkA 344 = kT344 := rfl
theorem mo_344 : moA 344 = 16 := rfl
theorem ni_344 : decide ((xMn 344).name = "<init>") = false := by decide +kernel
set_option maxRecDepth 100000 in
theorem xm_344 : xM 344 = some (cX12_readAt, 4, (some FieldType.int), 2) := rfl
theorem mr_547 : xmR 16 547 = some 305 := by decide +kernel
theorem mr_550 : xmR 16 550 = some 344 := by decide +kernel
theorem na_305 : xnargs 305 = 2 := by decide +kernel
theorem wv_305 : xSe.contains 305 = true ∧ xIn.contains 305 = true := by decide +kernel
theorem wc_305 : (xMn 305).cls = (xCl 16).1 := by decide +kernel
theorem na_344 : xnargs 344 = 2 := by decide +kernel
theorem wv_344 : xSe.contains 344 = true ∧ xIn.contains 344 = true := by decide +kernel
theorem wc_344 : (xMn 344).cls = (xCl 16).1 := by decide +kernel
theorem kk_285 : kkA 285 = kT285 := rfl
theorem mo_285 : moA 285 = 16 := rfl
theorem ni_285 : decide ((xMn 285).name = "<init>") = false := by decide +kernel
set_option maxRecDepth 100000 in
theorem xm_285 : xM 285 = some (cX12_follower, 5, (some FieldType.int), 3) := rfl
theorem kk_288 : kkA 288 = kT288 := rfl
theorem mo_288 : moA 288 = 16 := rfl
theorem ni_288 : decide ((xMn 288).name = "<init>") = false := by decide +kernel
set_option maxRecDepth 100000 in
theorem xm_288 : xM 288 = some (cX12_giveUp, 2, (some FieldType.boolean), 1) := rfl
theorem kk_289 : kkA 289 = kT289 := rfl
theorem mo_289 : moA 289 = 16 := rfl
theorem ni_289 : decide ((xMn 289).name = "<init>") = false := by decide +kernel
set_option maxRecDepth 100000 in
theorem xm_289 : xM 289 = some (cX12_hand, 3, (some FieldType.boolean), 2) := rfl
theorem kk_337 : kkA 337 = kT337 := rfl
theorem mo_337 : moA 337 = 16 := rfl
theorem ni_337 : decide ((xMn 337).name = "<init>") = false := by decide +kernel
set_option maxRecDepth 100000 in
theorem xm_337 : xM 337 = some (cX12_pause, 3, none, 2) := rfl
theorem mr_788 : xmR 16 788 = some 337 := by decide +kernel
theorem na_337 : xnargs 337 = 2 := by decide +kernel
theorem wv_337 : xSe.contains 337 = true ∧ xIn.contains 337 = true := by decide +kernel
theorem wc_337 : (xMn 337).cls = (xCl 16).1 := by decide +kernel
theorem kk_348 : kkA 348 = kT348 := rfl
theorem mo_348 : moA 348 = 16 := rfl
theorem ni_348 : decide ((xMn 348).name = "<init>") = false := by decide +kernel
set_option maxRecDepth 100000 in
theorem xm_348 : xM 348 = some (cX12_reply, 4, none, 1) := rfl
theorem kk_350 : kkA 350 = kT350 := rfl
theorem mo_350 : moA 350 = 16 := rfl
theorem ni_350 : decide ((xMn 350).name = "<init>") = false := by decide +kernel
set_option maxRecDepth 100000 in
theorem xm_350 : xM 350 = some (cX12_ring, 2, none, 1) := rfl
theorem kk_351 : kkA 351 = kT351 := rfl
theorem mo_351 : moA 351 = 16 := rfl
theorem ni_351 : decide ((xMn 351).name = "<init>") = false := by decide +kernel
set_option maxRecDepth 100000 in
theorem xm_351 : xM 351 = some (cX12_ringClient, 2, none, 1) := rfl
theorem kk_366 : kkA 366 = kT366 := rfl
theorem mo_366 : moA 366 = 16 := rfl
theorem ni_366 : decide ((xMn 366).name = "<init>") = false := by decide +kernel
set_option maxRecDepth 100000 in
theorem xm_366 : xM 366 = some (cX12_syncAll, 3, none, 1) := rfl
theorem mr_560 : xmR 16 560 = some 366 := by decide +kernel
theorem na_366 : xnargs 366 = 1 := by decide +kernel
theorem wv_366 : xSe.contains 366 = true ∧ xIn.contains 366 = true := by decide +kernel
theorem wc_366 : (xMn 366).cls = (xCl 16).1 := by decide +kernel
theorem kk_365 : kkA 365 = kT365 := rfl
theorem mo_365 : moA 365 = 16 := rfl
theorem ni_365 : decide ((xMn 365).name = "<init>") = false := by decide +kernel
set_option maxRecDepth 100000 in
theorem xm_365 : xM 365 = some (cX12_sync, 4, none, 1) := rfl
theorem mr_474 : xmR 16 474 = some 365 := by decide +kernel
theorem mr_477 : xmR 16 477 = some 350 := by decide +kernel
theorem mr_480 : xmR 16 480 = some 351 := by decide +kernel
theorem mr_483 : xmR 16 483 = some 348 := by decide +kernel
theorem mr_486 : xmR 16 486 = some 249 := by decide +kernel
theorem mr_489 : xmR 16 489 = some 253 := by decide +kernel
theorem pf_1 : ((xCl 16).2.1 1).2.2.2 = false ∧ xfty 16 1 = some .int := by decide +kernel
theorem pf_3 : ((xCl 16).2.1 3).2.2.2 = false ∧ xfty 16 3 = some .int := by decide +kernel
theorem na_249 : xnargs 249 = 2 := by decide +kernel
theorem wv_249 : xSe.contains 249 = true ∧ xIn.contains 249 = true := by decide +kernel
theorem wc_249 : (xMn 249).cls = (xCl 16).1 := by decide +kernel
theorem na_253 : xnargs 253 = 2 := by decide +kernel
theorem wv_253 : xSe.contains 253 = true ∧ xIn.contains 253 = true := by decide +kernel
theorem wc_253 : (xMn 253).cls = (xCl 16).1 := by decide +kernel
theorem na_348 : xnargs 348 = 1 := by decide +kernel
theorem wv_348 : xSe.contains 348 = true ∧ xIn.contains 348 = true := by decide +kernel
theorem wc_348 : (xMn 348).cls = (xCl 16).1 := by decide +kernel
theorem na_350 : xnargs 350 = 1 := by decide +kernel
theorem wv_350 : xSe.contains 350 = true ∧ xIn.contains 350 = true := by decide +kernel
theorem wc_350 : (xMn 350).cls = (xCl 16).1 := by decide +kernel
theorem na_351 : xnargs 351 = 1 := by decide +kernel
theorem wv_351 : xSe.contains 351 = true ∧ xIn.contains 351 = true := by decide +kernel
theorem wc_351 : (xMn 351).cls = (xCl 16).1 := by decide +kernel
theorem na_365 : xnargs 365 = 1 := by decide +kernel
theorem wv_365 : xSe.contains 365 = true ∧ xIn.contains 365 = true := by decide +kernel
theorem wc_365 : (xMn 365).cls = (xCl 16).1 := by decide +kernel
theorem kk_290 : kkA 290 = kT290 := rfl
theorem mo_290 : moA 290 = 16 := rfl
theorem ni_290 : decide ((xMn 290).name = "<init>") = false := by decide +kernel
set_option maxRecDepth 100000 in
theorem xm_290 : xM 290 = some (cX12_happen, 4, (some FieldType.int), 0) := rfl
theorem kk_292 : kkA 292 = kT292 := rfl
theorem mo_292 : moA 292 = 16 := rfl
theorem ni_292 : decide ((xMn 292).name = "<init>") = false := by decide +kernel
set_option maxRecDepth 100000 in
theorem xm_292 : xM 292 = some (cX12_history, 3, (some FieldType.int), 2) := rfl
theorem kk_309 : kkA 309 = kT309 := rfl
theorem mo_309 : moA 309 = 16 := rfl
theorem ni_309 : decide ((xMn 309).name = "<init>") = false := by decide +kernel
set_option maxRecDepth 100000 in
theorem xm_309 : xM 309 = some (cX12_keyAt, 4, (some FieldType.int), 2) := rfl
theorem mr_860 : xmR 16 860 = some 309 := by decide +kernel
theorem na_309 : xnargs 309 = 2 := by decide +kernel
theorem wv_309 : xSe.contains 309 = true ∧ xIn.contains 309 = true := by decide +kernel
theorem wc_309 : (xMn 309).cls = (xCl 16).1 := by decide +kernel
theorem kk_308 : kkA 308 = kT308 := rfl
theorem mo_308 : moA 308 = 16 := rfl
theorem ni_308 : decide ((xMn 308).name = "<init>") = false := by decide +kernel
set_option maxRecDepth 100000 in
theorem xm_308 : xM 308 = some (cX12_key, 5, (some FieldType.int), 2) := rfl
theorem kk_310 : kkA 310 = kT310 := rfl
theorem mo_310 : moA 310 = 16 := rfl
theorem ni_310 : decide ((xMn 310).name = "<init>") = false := by decide +kernel
set_option maxRecDepth 100000 in
theorem xm_310 : xM 310 = some (cX12_kth, 5, (some FieldType.int), 1) := rfl
theorem kk_311 : kkA 311 = kT311 := rfl
theorem mo_311 : moA 311 = 16 := rfl
theorem ni_311 : decide ((xMn 311).name = "<init>") = false := by decide +kernel
set_option maxRecDepth 100000 in
theorem xm_311 : xM 311 = some (cX12_latency, 4, (some FieldType.int), 2) := rfl
theorem xl_856 : xlR 16 856 = some 127 := by decide +kernel
theorem mr_853 : xmR 16 853 = some 255 := by decide +kernel
theorem na_255 : xnargs 255 = 1 := by decide +kernel
theorem wv_255 : xSe.contains 255 = true ∧ xIn.contains 255 = true := by decide +kernel
theorem wc_255 : (xMn 255).cls = (xCl 16).1 := by decide +kernel
theorem kk_320 : kkA 320 = kT320 := rfl
theorem mo_320 : moA 320 = 16 := rfl
theorem ni_320 : decide ((xMn 320).name = "<init>") = false := by decide +kernel
set_option maxRecDepth 100000 in
theorem xm_320 : xM 320 = some (cX12_learners, 3, (some FieldType.boolean), 2) := rfl
theorem mr_840 : xmR 16 840 = some 310 := by decide +kernel
theorem na_310 : xnargs 310 = 1 := by decide +kernel
theorem wv_310 : xSe.contains 310 = true ∧ xIn.contains 310 = true := by decide +kernel
theorem wc_310 : (xMn 310).cls = (xCl 16).1 := by decide +kernel
theorem kk_324 : kkA 324 = kT324 := rfl
theorem mo_324 : moA 324 = 16 := rfl
theorem ni_324 : decide ((xMn 324).name = "<init>") = false := by decide +kernel
set_option maxRecDepth 100000 in
theorem xm_324 : xM 324 = some (cX12_meddle, 5, (some FieldType.boolean), 3) := rfl
theorem kk_325 : kkA 325 = kT325 := rfl
theorem mo_325 : moA 325 = 16 := rfl
theorem ni_325 : decide ((xMn 325).name = "<init>") = false := by decide +kernel
set_option maxRecDepth 100000 in
theorem xm_325 : xM 325 = some (cX12_members, 4, (some FieldType.boolean), 2) := rfl
theorem kk_326 : kkA 326 = kT326 := rfl
theorem mo_326 : moA 326 = 16 := rfl
theorem ni_326 : decide ((xMn 326).name = "<init>") = false := by decide +kernel
set_option maxRecDepth 100000 in
theorem xm_326 : xM 326 = some (cX12_message, 4, (some FieldType.int), 2) := rfl
theorem pf_25 : ((xCl 16).2.1 25).2.2.2 = false ∧ xfty 16 25 = some .int := by decide +kernel
theorem pf_26 : ((xCl 16).2.1 26).2.2.2 = false ∧ xfty 16 26 = some .int := by decide +kernel
theorem pf_27 : ((xCl 16).2.1 27).2.2.2 = false ∧ xfty 16 27 = some .int := by decide +kernel
theorem kk_328 : kkA 328 = kT328 := rfl
theorem mo_328 : moA 328 = 16 := rfl
theorem ni_328 : decide ((xMn 328).name = "<init>") = false := by decide +kernel
set_option maxRecDepth 100000 in
theorem xm_328 : xM 328 = some (cX12_noise, 6, none, 4) := rfl
theorem kk_329 : kkA 329 = kT329 := rfl
theorem mo_329 : moA 329 = 16 := rfl
theorem ni_329 : decide ((xMn 329).name = "<init>") = false := by decide +kernel
set_option maxRecDepth 100000 in
theorem xm_329 : xM 329 = some (cX12_now, 1, (some FieldType.int), 0) := rfl
theorem xl_836 : xlR 16 836 = some 65535 := by decide +kernel
theorem pf_24 : ((xCl 16).2.1 24).2.2.2 = false ∧ xfty 16 24 = some .int := by decide +kernel
theorem kk_336 : kkA 336 = kT336 := rfl
theorem mo_336 : moA 336 = 16 := rfl
theorem ni_336 : decide ((xMn 336).name = "<init>") = false := by decide +kernel
set_option maxRecDepth 100000 in
theorem xm_336 : xM 336 = some (cX12_part, 3, (some FieldType.int), 1) := rfl
theorem mr_556 : xmR 16 556 = some 285 := by decide +kernel
theorem na_285 : xnargs 285 = 3 := by decide +kernel
theorem wv_285 : xSe.contains 285 = true ∧ xIn.contains 285 = true := by decide +kernel
theorem wc_285 : (xMn 285).cls = (xCl 16).1 := by decide +kernel
theorem kk_346 : kkA 346 = kT346 := rfl
theorem mo_346 : moA 346 = 16 := rfl
theorem ni_346 : decide ((xMn 346).name = "<init>") = false := by decide +kernel
set_option maxRecDepth 100000 in
theorem xm_346 : xM 346 = some (cX12_recoverLog, 12, none, 1) := rfl
theorem rf_384 : xfR 16 384 = some (16, 145) := by decide +kernel
theorem mr_544 : xmR 16 544 = some 346 := by decide +kernel
theorem na_346 : xnargs 346 = 1 := by decide +kernel
theorem wv_346 : xSe.contains 346 = true ∧ xIn.contains 346 = true := by decide +kernel
theorem wc_346 : (xMn 346).cls = (xCl 16).1 := by decide +kernel
theorem kk_345 : kkA 345 = kT345 := rfl
theorem mo_345 : moA 345 = 16 := rfl
theorem ni_345 : decide ((xMn 345).name = "<init>") = false := by decide +kernel
set_option maxRecDepth 100000 in
theorem xm_345 : xM 345 = some (cX12_recover, 11, none, 1) := rfl
theorem mr_820 : xmR 16 820 = some 283 := by decide +kernel
theorem mr_823 : xmR 16 823 = some 290 := by decide +kernel
theorem na_283 : xnargs 283 = 0 := by decide +kernel
theorem wv_283 : xSe.contains 283 = true ∧ xIn.contains 283 = true := by decide +kernel
theorem wc_283 : (xMn 283).cls = (xCl 16).1 := by decide +kernel
theorem na_290 : xnargs 290 = 0 := by decide +kernel
theorem wv_290 : xSe.contains 290 = true ∧ xIn.contains 290 = true := by decide +kernel
theorem wc_290 : (xMn 290).cls = (xCl 16).1 := by decide +kernel
theorem kk_352 : kkA 352 = kT352 := rfl
theorem mo_352 : moA 352 = 16 := rfl
theorem ni_352 : decide ((xMn 352).name = "<init>") = false := by decide +kernel
set_option maxRecDepth 100000 in
theorem xm_352 : xM 352 = some (cX12_run, 5, (some FieldType.int), 1) := rfl
theorem kk_357 : kkA 357 = kT357 := rfl
theorem mo_357 : moA 357 = 16 := rfl
theorem ni_357 : decide ((xMn 357).name = "<init>") = false := by decide +kernel
set_option maxRecDepth 100000 in
theorem xm_357 : xM 357 = some (cX12_server, 5, (some FieldType.int), 2) := rfl
theorem mr_850 : xmR 16 850 = some 345 := by decide +kernel
theorem na_345 : xnargs 345 = 1 := by decide +kernel
theorem wv_345 : xSe.contains 345 = true ∧ xIn.contains 345 = true := by decide +kernel
theorem wc_345 : (xMn 345).cls = (xCl 16).1 := by decide +kernel
theorem kk_361 : kkA 361 = kT361 := rfl
theorem mo_361 : moA 361 = 16 := rfl
theorem ni_361 : decide ((xMn 361).name = "<init>") = false := by decide +kernel
set_option maxRecDepth 100000 in
theorem xm_361 : xM 361 = some (cX12_start, 2, (some FieldType.boolean), 1) := rfl
theorem kk_362 : kkA 362 = kT362 := rfl
theorem mo_362 : moA 362 = 16 := rfl
theorem ni_362 : decide ((xMn 362).name = "<init>") = false := by decide +kernel
set_option maxRecDepth 100000 in
theorem xm_362 : xM 362 = some (cX12_step, 1, (some FieldType.int), 0) := rfl
theorem kk_364 : kkA 364 = kT364 := rfl
theorem mo_364 : moA 364 = 16 := rfl
theorem ni_364 : decide ((xMn 364).name = "<init>") = false := by decide +kernel
set_option maxRecDepth 100000 in
theorem xm_364 : xM 364 = some (cX12_stop, 4, (some FieldType.boolean), 1) := rfl
theorem kk_373 : kkA 373 = kT373 := rfl
theorem mo_373 : moA 373 = 16 := rfl
theorem ni_373 : decide ((xMn 373).name = "<init>") = false := by decide +kernel
set_option maxRecDepth 100000 in
theorem xm_373 : xM 373 = some (cX12_thrown, 1, (some FieldType.int), 0) := rfl
theorem kk_378 : kkA 378 = kT378 := rfl
theorem mo_378 : moA 378 = 16 := rfl
theorem ni_378 : decide ((xMn 378).name = "<init>") = false := by decide +kernel
set_option maxRecDepth 100000 in
theorem xm_378 : xM 378 = some (cX12_value, 5, (some FieldType.int), 2) := rfl
