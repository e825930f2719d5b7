/-! printed by wip/whole/gen_ref.py -/
theorem rf_421 : xfR 16 421 = some (16, 2) := by decide +kernel
theorem rf_62 : xfR 16 62 = some (16, 29) := by decide +kernel
theorem rf_65 : xfR 16 65 = some (16, 30) := by decide +kernel
theorem pf_2 : ((xCl 16).2.1 2).2.2.2 = false ∧ xfty 16 2 = some .int := by decide +kernel
theorem kk_241 : kkA 241 = kT241 := rfl
theorem mo_241 : moA 241 = 16 := rfl
theorem ni_241 : decide ((xMn 241).name = "<init>") = false := by decide +kernel
theorem xm_241 : xM 241 = some (cX12_alarm, 3, none, 2) := by decide +kernel
theorem kk_294 : kkA 294 = kT294 := rfl
theorem mo_294 : moA 294 = 16 := rfl
theorem ni_294 : decide ((xMn 294).name = "<init>") = false := by decide +kernel
theorem xm_294 : xM 294 = some (cX12_in, 6, (some FieldType.boolean), 3) := by decide +kernel
theorem kk_359 : kkA 359 = kT359 := rfl
theorem mo_359 : moA 359 = 16 := rfl
theorem ni_359 : decide ((xMn 359).name = "<init>") = false := by decide +kernel
theorem xm_359 : xM 359 = some (cX12_size, 3, (some FieldType.int), 1) := by decide +kernel
theorem rf_400 : xfR 16 400 = some (16, 24) := by decide +kernel
theorem kk_247 : kkA 247 = kT247 := rfl
theorem mo_247 : moA 247 = 16 := rfl
theorem ni_247 : decide ((xMn 247).name = "<init>") = false := by decide +kernel
theorem xm_247 : xM 247 = some (cX12_areParted, 3, (some FieldType.boolean), 2) := by decide +kernel
theorem rf_403 : xfR 16 403 = some (16, 28) := by decide +kernel
theorem xl_407 : xlR 16 407 = some 6364136223846793005 := by decide +kernel
theorem xl_409 : xlR 16 409 = some 1442695040888963407 := by decide +kernel
theorem pf_28 : ((xCl 16).2.1 28).2.2.2 = false ∧ xfty 16 28 = some .long := by decide +kernel
theorem kk_273 : kkA 273 = kT273 := rfl
theorem mo_273 : moA 273 = 16 := rfl
theorem ni_273 : decide ((xMn 273).name = "<init>") = false := by decide +kernel
theorem xm_273 : xM 273 = some (cX12_draw, 2, (some FieldType.int), 1) := by decide +kernel
theorem kk_280 : kkA 280 = kT280 := rfl
theorem mo_280 : moA 280 = 16 := rfl
theorem ni_280 : decide ((xMn 280).name = "<init>") = false := by decide +kernel
theorem xm_280 : xM 280 = some (cX12_fileOf, 2, (some FieldType.int), 2) := by decide +kernel
theorem rf_75 : xfR 16 75 = some (16, 36) := by decide +kernel
theorem xl_396 : xlR 16 396 = some 255 := by decide +kernel
theorem xl_398 : xlR 16 398 = some (-1) := by decide +kernel
theorem kk_314 : kkA 314 = kT314 := rfl
theorem mo_314 : moA 314 = 16 := rfl
theorem ni_314 : decide ((xMn 314).name = "<init>") = false := by decide +kernel
theorem xm_314 : xM 314 = some (cX12_layDisk, 4, none, 2) := by decide +kernel
theorem rf_179 : xfR 16 179 = some (16, 71) := by decide +kernel
theorem rf_182 : xfR 16 182 = some (16, 72) := by decide +kernel
theorem rf_431 : xfR 16 431 = some (16, 1) := by decide +kernel
theorem rf_68 : xfR 16 68 = some (16, 31) := by decide +kernel
theorem rf_71 : xfR 16 71 = some (16, 32) := by decide +kernel
theorem kk_360 : kkA 360 = kT360 := rfl
theorem mo_360 : moA 360 = 16 := rfl
theorem ni_360 : decide ((xMn 360).name = "<init>") = false := by decide +kernel
theorem xm_360 : xM 360 = some (cX12_soil, 2, none, 1) := by decide +kernel
theorem rf_218 : xfR 16 218 = some (16, 84) := by decide +kernel
theorem xl_453 : xlR 16 453 = some 50 := by decide +kernel
theorem mr_455 : xmR 16 455 = some 241 := by decide +kernel
theorem na_241 : xnargs 241 = 2 := by decide +kernel
theorem wv_241 : xSe.contains 241 = true ∧ xIn.contains 241 = true := by decide +kernel
theorem wc_241 : (xMn 241).cls = (xCl 16).1 := by decide +kernel
theorem kk_274 : kkA 274 = kT274 := rfl
theorem mo_274 : moA 274 = 16 := rfl
theorem ni_274 : decide ((xMn 274).name = "<init>") = false := by decide +kernel
theorem xm_274 : xM 274 = some (cX12_drawAlarm, 2, none, 1) := by decide +kernel
theorem rf_251 : xfR 16 251 = some (16, 95) := by decide +kernel
theorem kk_275 : kkA 275 = kT275 := rfl
theorem mo_275 : moA 275 = 16 := rfl
theorem ni_275 : decide ((xMn 275).name = "<init>") = false := by decide +kernel
theorem xm_275 : xM 275 = some (cX12_dropRequests, 3, none, 1) := by decide +kernel
