/-! printed by wip/whole/gen_cls.py -/
theorem na_119 : xnargs 119 = 1 := by decide +kernel
theorem mm_119 : ¬ 119 = xMax ∧ ¬ 119 = xMin := by decide
theorem ws_119 : xSt.contains 119 = true := by decide +kernel
theorem na_63 : xnargs 63 = 1 := by decide +kernel
theorem wv_63 : xSe.contains 63 = true ∧ xIn.contains 63 = true := by decide +kernel
theorem wc_63 : (xMn 63).cls = (xCl 9).1 := by decide +kernel
theorem na_66 : xnargs 66 = 0 := by decide +kernel
theorem wv_66 : xSe.contains 66 = true ∧ xIn.contains 66 = true := by decide +kernel
theorem wc_66 : (xMn 66).cls = (xCl 9).1 := by decide +kernel
theorem na_67 : xnargs 67 = 1 := by decide +kernel
theorem wv_67 : xSe.contains 67 = true ∧ xIn.contains 67 = true := by decide +kernel
theorem wc_67 : (xMn 67).cls = (xCl 9).1 := by decide +kernel
theorem na_69 : xnargs 69 = 0 := by decide +kernel
theorem wv_69 : xSe.contains 69 = true ∧ xIn.contains 69 = true := by decide +kernel
theorem wc_69 : (xMn 69).cls = (xCl 9).1 := by decide +kernel
theorem na_70 : xnargs 70 = 1 := by decide +kernel
theorem wv_70 : xSe.contains 70 = true ∧ xIn.contains 70 = true := by decide +kernel
theorem wc_70 : (xMn 70).cls = (xCl 9).1 := by decide +kernel
theorem na_75 : xnargs 75 = 1 := by decide +kernel
theorem wv_75 : xSe.contains 75 = true ∧ xIn.contains 75 = true := by decide +kernel
theorem wc_75 : (xMn 75).cls = (xCl 9).1 := by decide +kernel
theorem rf_12_15 : xfR 12 15 = some (12, 1) := by decide +kernel
theorem rf_12_19 : xfR 12 19 = some (12, 2) := by decide +kernel
theorem rf_12_22 : xfR 12 22 = some (12, 3) := by decide +kernel
theorem rf_12_25 : xfR 12 25 = some (12, 4) := by decide +kernel
theorem rf_12_28 : xfR 12 28 = some (12, 5) := by decide +kernel
theorem rf_12_31 : xfR 12 31 = some (12, 6) := by decide +kernel
theorem rf_12_34 : xfR 12 34 = some (12, 7) := by decide +kernel
theorem rf_12_42 : xfR 12 42 = some (12, 8) := by decide +kernel
theorem rf_12_45 : xfR 12 45 = some (8, 2) := by decide +kernel
theorem rf_12_50 : xfR 12 50 = some (8, 5) := by decide +kernel
theorem rf_12_52 : xfR 12 52 = some (8, 16) := by decide +kernel
theorem rf_12_9 : xfR 12 9 = some (12, 0) := by decide +kernel
theorem rf_9_15 : xfR 9 15 = some (9, 2) := by decide +kernel
theorem rf_9_18 : xfR 9 18 = some (9, 0) := by decide +kernel
theorem rf_9_22 : xfR 9 22 = some (9, 5) := by decide +kernel
theorem rf_9_25 : xfR 9 25 = some (9, 7) := by decide +kernel
theorem rf_9_28 : xfR 9 28 = some (9, 3) := by decide +kernel
theorem rf_9_31 : xfR 9 31 = some (9, 4) := by decide +kernel
theorem rf_9_34 : xfR 9 34 = some (9, 6) := by decide +kernel
theorem rf_9_67 : xfR 9 67 = some (9, 8) := by decide +kernel
theorem rf_9_73 : xfR 9 73 = some (9, 11) := by decide +kernel
theorem rf_9_9 : xfR 9 9 = some (9, 1) := by decide +kernel
theorem mr_12_38 : xmR 12 38 = some 119 := by decide +kernel
theorem mr_9_37 : xmR 9 37 = some 66 := by decide +kernel
theorem mr_9_40 : xmR 9 40 = some 67 := by decide +kernel
theorem mr_9_44 : xmR 9 44 = some 63 := by decide +kernel
theorem mr_9_48 : xmR 9 48 = some 396 := by decide +kernel
theorem mr_9_54 : xmR 9 54 = some 75 := by decide +kernel
theorem mr_9_57 : xmR 9 57 = some 69 := by decide +kernel
theorem mr_9_70 : xmR 9 70 = some 397 := by decide +kernel
theorem mr_9_76 : xmR 9 76 = some 70 := by decide +kernel
theorem pf_12_7 : 7 < (xCl 12).2.2 ∧ ((xCl 12).2.1 7).2.2.2 = false ∧ xfty 12 7 = some .int := by decide +kernel
theorem pf_12_8 : 8 < (xCl 12).2.2 ∧ ((xCl 12).2.1 8).2.2.2 = false ∧ xfty 12 8 = some .int := by decide +kernel
theorem pf_9_11 : 11 < (xCl 9).2.2 ∧ ((xCl 9).2.1 11).2.2.2 = false ∧ xfty 9 11 = some .int := by decide +kernel
theorem pf_9_3 : 3 < (xCl 9).2.2 ∧ ((xCl 9).2.1 3).2.2.2 = false ∧ xfty 9 3 = some .int := by decide +kernel
theorem pf_9_4 : 4 < (xCl 9).2.2 ∧ ((xCl 9).2.1 4).2.2.2 = false ∧ xfty 9 4 = some .int := by decide +kernel
theorem pf_9_5 : 5 < (xCl 9).2.2 ∧ ((xCl 9).2.1 5).2.2.2 = false ∧ xfty 9 5 = some .int := by decide +kernel
theorem pf_9_6 : 6 < (xCl 9).2.2 ∧ ((xCl 9).2.1 6).2.2.2 = false ∧ xfty 9 6 = some .int := by decide +kernel
theorem pf_9_7 : 7 < (xCl 9).2.2 ∧ ((xCl 9).2.1 7).2.2.2 = false ∧ xfty 9 7 = some .int := by decide +kernel
theorem pf_9_8 : 8 < (xCl 9).2.2 ∧ ((xCl 9).2.1 8).2.2.2 = false ∧ xfty 9 8 = some .int := by decide +kernel
theorem yc_9_61 : xmR 9 61 = none ∧ xCp.contains (9, 61) = true := by decide +kernel
theorem kk_63 : kkA 63 = kT63 := rfl
theorem mo_63 : moA 63 = 9 := rfl
theorem ni_63 : decide ((xMn 63).name = "<init>") = false := by decide +kernel
set_option maxRecDepth 100000 in
theorem xm_63 : xM 63 = some (cX5_at, 2, (some FieldType.int), 1) := rfl
theorem kk_70 : kkA 70 = kT70 := rfl
theorem mo_70 : moA 70 = 9 := rfl
theorem ni_70 : decide ((xMn 70).name = "<init>") = false := by decide +kernel
set_option maxRecDepth 100000 in
theorem xm_70 : xM 70 = some (cX5_membersBehind, 3, (some FieldType.int), 1) := rfl
theorem kk_66 : kkA 66 = kT66 := rfl
theorem mo_66 : moA 66 = 9 := rfl
theorem ni_66 : decide ((xMn 66).name = "<init>") = false := by decide +kernel
set_option maxRecDepth 100000 in
theorem xm_66 : xM 66 = some (cX5_findMembers, 1, none, 0) := rfl
theorem kk_64 : kkA 64 = kT64 := rfl
theorem mo_64 : moA 64 = 9 := rfl
theorem ni_64 : decide ((xMn 64).name = "<init>") = false := by decide +kernel
set_option maxRecDepth 100000 in
theorem xm_64 : xM 64 = some (cX5_clear, 1, none, 0) := rfl
theorem kk_65 : kkA 65 = kT65 := rfl
theorem mo_65 : moA 65 = 9 := rfl
theorem ni_65 : decide ((xMn 65).name = "<init>") = false := by decide +kernel
set_option maxRecDepth 100000 in
theorem xm_65 : xM 65 = some (cX5_cutFrom, 2, none, 1) := rfl
theorem kk_67 : kkA 67 = kT67 := rfl
theorem mo_67 : moA 67 = 9 := rfl
theorem ni_67 : decide ((xMn 67).name = "<init>") = false := by decide +kernel
set_option maxRecDepth 100000 in
theorem xm_67 : xM 67 = some (cX5_has, 2, (some FieldType.boolean), 1) := rfl
theorem kk_69 : kkA 69 = kT69 := rfl
theorem mo_69 : moA 69 = 9 := rfl
theorem ni_69 : decide ((xMn 69).name = "<init>") = false := by decide +kernel
set_option maxRecDepth 100000 in
theorem xm_69 : xM 69 = some (cX5_length, 1, (some FieldType.int), 0) := rfl
theorem kk_71 : kkA 71 = kT71 := rfl
theorem mo_71 : moA 71 = 9 := rfl
theorem ni_71 : decide ((xMn 71).name = "<init>") = false := by decide +kernel
set_option maxRecDepth 100000 in
theorem xm_71 : xM 71 = some (cX5_membersUpTo, 3, (some FieldType.int), 1) := rfl
theorem kk_75 : kkA 75 = kT75 := rfl
theorem mo_75 : moA 75 = 9 := rfl
theorem ni_75 : decide ((xMn 75).name = "<init>") = false := by decide +kernel
set_option maxRecDepth 100000 in
theorem xm_75 : xM 75 = some (cX5_termAt, 2, (some FieldType.int), 1) := rfl
theorem kk_72 : kkA 72 = kT72 := rfl
theorem mo_72 : moA 72 = 9 := rfl
theorem ni_72 : decide ((xMn 72).name = "<init>") = false := by decide +kernel
set_option maxRecDepth 100000 in
theorem xm_72 : xM 72 = some (cX5_moveBase, 5, none, 3) := rfl
theorem kk_73 : kkA 73 = kT73 := rfl
theorem mo_73 : moA 73 = 9 := rfl
theorem ni_73 : decide ((xMn 73).name = "<init>") = false := by decide +kernel
set_option maxRecDepth 100000 in
theorem xm_73 : xM 73 = some (cX5_rowOf, 7, (some (FieldType.array FieldType.int)), 6) := rfl
theorem kk_74 : kkA 74 = kT74 := rfl
theorem mo_74 : moA 74 = 9 := rfl
theorem ni_74 : decide ((xMn 74).name = "<init>") = false := by decide +kernel
set_option maxRecDepth 100000 in
theorem xm_74 : xM 74 = some (cX5_runStart, 4, (some FieldType.int), 1) := rfl
theorem kk_119 : kkA 119 = kT119 := rfl
theorem mo_119 : moA 119 = 12 := rfl
theorem ni_119 : decide ((xMn 119).name = "<init>") = false := by decide +kernel
set_option maxRecDepth 100000 in
theorem xm_119 : xM 119 = some (cX8_slotOf, 1, (some FieldType.int), 1) := rfl
theorem kk_115 : kkA 115 = kT115 := rfl
theorem mo_115 : moA 115 = 12 := rfl
theorem ni_115 : decide ((xMn 115).name = "<init>") = false := by decide +kernel
set_option maxRecDepth 100000 in
theorem xm_115 : xM 115 = some (cX8_begin, 6, none, 4) := rfl
theorem kk_116 : kkA 116 = kT116 := rfl
theorem mo_116 : moA 116 = 12 := rfl
theorem ni_116 : decide ((xMn 116).name = "<init>") = false := by decide +kernel
set_option maxRecDepth 100000 in
theorem xm_116 : xM 116 = some (cX8_drop, 2, none, 1) := rfl
theorem kk_117 : kkA 117 = kT117 := rfl
theorem mo_117 : moA 117 = 12 := rfl
theorem ni_117 : decide ((xMn 117).name = "<init>") = false := by decide +kernel
set_option maxRecDepth 100000 in
theorem xm_117 : xM 117 = some (cX8_dropAll, 2, none, 0) := rfl
theorem kk_120 : kkA 120 = kT120 := rfl
theorem mo_120 : moA 120 = 12 := rfl
theorem ni_120 : decide ((xMn 120).name = "<init>") = false := by decide +kernel
set_option maxRecDepth 100000 in
theorem xm_120 : xM 120 = some (cX8_waitsFor, 3, (some FieldType.int), 1) := rfl
theorem kk_62 : kkA 62 = kT62 := rfl
theorem mo_62 : moA 62 = 9 := rfl
theorem ni_62 : decide ((xMn 62).name = "<init>") = false := by decide +kernel
set_option maxRecDepth 100000 in
theorem xm_62 : xM 62 = some (cX5_add, 3, none, 2) := rfl
