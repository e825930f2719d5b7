/-! printed by wip/whole/gen_cls.py -/
theorem na_1 : xnargs 1 = 2 := by decide +kernel
theorem wv_1 : xSe.contains 1 = true ∧ xIn.contains 1 = true := by decide +kernel
theorem wc_1 : (xMn 1).cls = (xCl 3).1 := by decide +kernel
theorem na_10 : xnargs 10 = 0 := by decide +kernel
theorem wv_10 : xSe.contains 10 = true ∧ xIn.contains 10 = true := by decide +kernel
theorem wc_10 : (xMn 10).cls = (xCl 3).1 := by decide +kernel
theorem na_110 : xnargs 110 = 1 := by decide +kernel
theorem wv_110 : xSe.contains 110 = true ∧ xIn.contains 110 = true := by decide +kernel
theorem wc_110 : (xMn 110).cls = (xCl 11).1 := by decide +kernel
theorem na_119 : xnargs 119 = 1 := by decide +kernel
theorem mm_119 : ¬ 119 = xMax ∧ ¬ 119 = xMin := by decide
theorem ws_119 : xSt.contains 119 = true := by decide +kernel
theorem na_13 : xnargs 13 = 1 := by decide +kernel
theorem wv_13 : xSe.contains 13 = true ∧ xIn.contains 13 = true := by decide +kernel
theorem wc_13 : (xMn 13).cls = (xCl 3).1 := by decide +kernel
theorem na_14 : xnargs 14 = 0 := by decide +kernel
theorem wv_14 : xSe.contains 14 = true ∧ xIn.contains 14 = true := by decide +kernel
theorem wc_14 : (xMn 14).cls = (xCl 3).1 := by decide +kernel
theorem na_18 : xnargs 18 = 3 := by decide +kernel
theorem wv_18 : xSe.contains 18 = true ∧ xIn.contains 18 = true := by decide +kernel
theorem wc_18 : (xMn 18).cls = (xCl 4).1 := by decide +kernel
theorem na_184 : xnargs 184 = 2 := by decide +kernel
theorem wv_184 : xSe.contains 184 = true ∧ xIn.contains 184 = true := by decide +kernel
theorem wc_184 : (xMn 184).cls = (xCl 14).1 := by decide +kernel
theorem na_185 : xnargs 185 = 0 := by decide +kernel
theorem wv_185 : xSe.contains 185 = true ∧ xIn.contains 185 = true := by decide +kernel
theorem wc_185 : (xMn 185).cls = (xCl 14).1 := by decide +kernel
theorem na_189 : xnargs 189 = 1 := by decide +kernel
theorem wv_189 : xSe.contains 189 = true ∧ xIn.contains 189 = true := by decide +kernel
theorem wc_189 : (xMn 189).cls = (xCl 14).1 := by decide +kernel
theorem na_19 : xnargs 19 = 2 := by decide +kernel
theorem wv_19 : xSe.contains 19 = true ∧ xIn.contains 19 = true := by decide +kernel
theorem wc_19 : (xMn 19).cls = (xCl 4).1 := by decide +kernel
theorem na_193 : xnargs 193 = 1 := by decide +kernel
theorem wv_193 : xSe.contains 193 = true ∧ xIn.contains 193 = true := by decide +kernel
theorem wc_193 : (xMn 193).cls = (xCl 14).1 := by decide +kernel
theorem na_194 : xnargs 194 = 1 := by decide +kernel
theorem wv_194 : xSe.contains 194 = true ∧ xIn.contains 194 = true := by decide +kernel
theorem wc_194 : (xMn 194).cls = (xCl 14).1 := by decide +kernel
theorem na_197 : xnargs 197 = 2 := by decide +kernel
theorem wv_197 : xSe.contains 197 = true ∧ xIn.contains 197 = true := by decide +kernel
theorem wc_197 : (xMn 197).cls = (xCl 14).1 := by decide +kernel
theorem na_198 : xnargs 198 = 1 := by decide +kernel
theorem wv_198 : xSe.contains 198 = true ∧ xIn.contains 198 = true := by decide +kernel
theorem wc_198 : (xMn 198).cls = (xCl 14).1 := by decide +kernel
theorem na_199 : xnargs 199 = 1 := by decide +kernel
theorem wv_199 : xSe.contains 199 = true ∧ xIn.contains 199 = true := by decide +kernel
theorem wc_199 : (xMn 199).cls = (xCl 14).1 := by decide +kernel
theorem na_2 : xnargs 2 = 1 := by decide +kernel
theorem wv_2 : xSe.contains 2 = true ∧ xIn.contains 2 = true := by decide +kernel
theorem wc_2 : (xMn 2).cls = (xCl 3).1 := by decide +kernel
theorem na_20 : xnargs 20 = 2 := by decide +kernel
theorem wv_20 : xSe.contains 20 = true ∧ xIn.contains 20 = true := by decide +kernel
theorem wc_20 : (xMn 20).cls = (xCl 5).1 := by decide +kernel
theorem na_200 : xnargs 200 = 2 := by decide +kernel
theorem wv_200 : xSe.contains 200 = true ∧ xIn.contains 200 = true := by decide +kernel
theorem wc_200 : (xMn 200).cls = (xCl 14).1 := by decide +kernel
theorem na_22 : xnargs 22 = 0 := by decide +kernel
theorem wv_22 : xSe.contains 22 = true ∧ xIn.contains 22 = true := by decide +kernel
theorem wc_22 : (xMn 22).cls = (xCl 5).1 := by decide +kernel
theorem na_24 : xnargs 24 = 1 := by decide +kernel
theorem wv_24 : xSe.contains 24 = true ∧ xIn.contains 24 = true := by decide +kernel
theorem wc_24 : (xMn 24).cls = (xCl 5).1 := by decide +kernel
theorem na_25 : xnargs 25 = 1 := by decide +kernel
theorem wv_25 : xSe.contains 25 = true ∧ xIn.contains 25 = true := by decide +kernel
theorem wc_25 : (xMn 25).cls = (xCl 5).1 := by decide +kernel
theorem na_27 : xnargs 27 = 0 := by decide +kernel
theorem wv_27 : xSe.contains 27 = true ∧ xIn.contains 27 = true := by decide +kernel
theorem wc_27 : (xMn 27).cls = (xCl 5).1 := by decide +kernel
theorem na_28 : xnargs 28 = 0 := by decide +kernel
theorem wv_28 : xSe.contains 28 = true ∧ xIn.contains 28 = true := by decide +kernel
theorem wc_28 : (xMn 28).cls = (xCl 5).1 := by decide +kernel
theorem na_29 : xnargs 29 = 2 := by decide +kernel
theorem wv_29 : xSe.contains 29 = true ∧ xIn.contains 29 = true := by decide +kernel
theorem wc_29 : (xMn 29).cls = (xCl 5).1 := by decide +kernel
theorem na_30 : xnargs 30 = 0 := by decide +kernel
theorem wv_30 : xSe.contains 30 = true ∧ xIn.contains 30 = true := by decide +kernel
theorem wc_30 : (xMn 30).cls = (xCl 5).1 := by decide +kernel
theorem na_393 : xnargs 393 = 2 := by decide +kernel
theorem mm_393 : ¬ 393 = xMax ∧ ¬ 393 = xMin := by decide
theorem ws_393 : xSt.contains 393 = true := by decide +kernel
theorem na_398 : xnargs 398 = 1 := by decide +kernel
theorem mm_398 : ¬ 398 = xMax ∧ ¬ 398 = xMin := by decide
theorem ws_398 : xSt.contains 398 = true := by decide +kernel
theorem na_56 : xnargs 56 = 3 := by decide +kernel
theorem mm_56 : ¬ 56 = xMax ∧ ¬ 56 = xMin := by decide
theorem ws_56 : xSt.contains 56 = true := by decide +kernel
theorem na_58 : xnargs 58 = 2 := by decide +kernel
theorem mm_58 : ¬ 58 = xMax ∧ ¬ 58 = xMin := by decide
theorem ws_58 : xSt.contains 58 = true := by decide +kernel
theorem na_59 : xnargs 59 = 1 := by decide +kernel
theorem wv_59 : xSe.contains 59 = true ∧ xIn.contains 59 = true := by decide +kernel
theorem wc_59 : (xMn 59).cls = (xCl 8).1 := by decide +kernel
theorem na_6 : xnargs 6 = 1 := by decide +kernel
theorem wv_6 : xSe.contains 6 = true ∧ xIn.contains 6 = true := by decide +kernel
theorem wc_6 : (xMn 6).cls = (xCl 3).1 := by decide +kernel
theorem na_63 : xnargs 63 = 1 := by decide +kernel
theorem wv_63 : xSe.contains 63 = true ∧ xIn.contains 63 = true := by decide +kernel
theorem wc_63 : (xMn 63).cls = (xCl 9).1 := by decide +kernel
theorem na_66 : xnargs 66 = 0 := by decide +kernel
theorem wv_66 : xSe.contains 66 = true ∧ xIn.contains 66 = true := by decide +kernel
theorem wc_66 : (xMn 66).cls = (xCl 9).1 := by decide +kernel
theorem na_67 : xnargs 67 = 1 := by decide +kernel
theorem wv_67 : xSe.contains 67 = true ∧ xIn.contains 67 = true := by decide +kernel
theorem wc_67 : (xMn 67).cls = (xCl 9).1 := by decide +kernel
theorem na_69 : xnargs 69 = 0 := by decide +kernel
theorem wv_69 : xSe.contains 69 = true ∧ xIn.contains 69 = true := by decide +kernel
theorem wc_69 : (xMn 69).cls = (xCl 9).1 := by decide +kernel
theorem na_70 : xnargs 70 = 1 := by decide +kernel
theorem wv_70 : xSe.contains 70 = true ∧ xIn.contains 70 = true := by decide +kernel
theorem wc_70 : (xMn 70).cls = (xCl 9).1 := by decide +kernel
theorem na_75 : xnargs 75 = 1 := by decide +kernel
theorem wv_75 : xSe.contains 75 = true ∧ xIn.contains 75 = true := by decide +kernel
theorem wc_75 : (xMn 75).cls = (xCl 9).1 := by decide +kernel
theorem xc_20_265 : xcR 20 265 = some 1431655765 := by decide +kernel
theorem xc_20_266 : xcR 20 266 = some 858993459 := by decide +kernel
theorem xc_20_267 : xcR 20 267 = some 252645135 := by decide +kernel
theorem xc_7_63 : xcR 7 63 = some (-2147483648) := by decide +kernel
theorem rf_11_15 : xfR 11 15 = some (11, 7) := by decide +kernel
theorem rf_11_18 : xfR 11 18 = some (11, 8) := by decide +kernel
theorem rf_11_22 : xfR 11 22 = some (11, 0) := by decide +kernel
theorem rf_11_26 : xfR 11 26 = some (11, 1) := by decide +kernel
theorem rf_11_30 : xfR 11 30 = some (11, 2) := by decide +kernel
theorem rf_11_33 : xfR 11 33 = some (11, 3) := by decide +kernel
theorem rf_11_36 : xfR 11 36 = some (11, 4) := by decide +kernel
theorem rf_11_39 : xfR 11 39 = some (11, 5) := by decide +kernel
theorem rf_11_42 : xfR 11 42 = some (11, 9) := by decide +kernel
theorem rf_11_9 : xfR 11 9 = some (11, 6) := by decide +kernel
theorem rf_12_15 : xfR 12 15 = some (12, 1) := by decide +kernel
theorem rf_12_19 : xfR 12 19 = some (12, 2) := by decide +kernel
theorem rf_12_22 : xfR 12 22 = some (12, 3) := by decide +kernel
theorem rf_12_25 : xfR 12 25 = some (12, 4) := by decide +kernel
theorem rf_12_28 : xfR 12 28 = some (12, 5) := by decide +kernel
theorem rf_12_31 : xfR 12 31 = some (12, 6) := by decide +kernel
theorem rf_12_34 : xfR 12 34 = some (12, 7) := by decide +kernel
theorem rf_12_42 : xfR 12 42 = some (12, 8) := by decide +kernel
theorem rf_12_45 : xfR 12 45 = some (8, 2) := by decide +kernel
theorem rf_12_50 : xfR 12 50 = some (8, 5) := by decide +kernel
theorem rf_12_52 : xfR 12 52 = some (8, 16) := by decide +kernel
theorem rf_12_9 : xfR 12 9 = some (12, 0) := by decide +kernel
theorem rf_14_100 : xfR 14 100 = some (14, 9) := by decide +kernel
theorem rf_14_108 : xfR 14 108 = some (14, 4) := by decide +kernel
theorem rf_14_115 : xfR 14 115 = some (8, 0) := by decide +kernel
theorem rf_14_118 : xfR 14 118 = some (14, 1) := by decide +kernel
theorem rf_14_121 : xfR 14 121 = some (8, 1) := by decide +kernel
theorem rf_14_124 : xfR 14 124 = some (14, 3) := by decide +kernel
theorem rf_14_141 : xfR 14 141 = some (14, 2) := by decide +kernel
theorem rf_14_15 : xfR 14 15 = some (14, 11) := by decide +kernel
theorem rf_14_18 : xfR 14 18 = some (14, 12) := by decide +kernel
theorem rf_14_24 : xfR 14 24 = some (14, 14) := by decide +kernel
theorem rf_14_31 : xfR 14 31 = some (14, 15) := by decide +kernel
theorem rf_14_35 : xfR 14 35 = some (14, 16) := by decide +kernel
theorem rf_14_44 : xfR 14 44 = some (14, 5) := by decide +kernel
theorem rf_14_63 : xfR 14 63 = some (8, 2) := by decide +kernel
theorem rf_14_66 : xfR 14 66 = some (8, 3) := by decide +kernel
theorem rf_14_77 : xfR 14 77 = some (14, 0) := by decide +kernel
theorem rf_14_80 : xfR 14 80 = some (14, 6) := by decide +kernel
theorem rf_14_83 : xfR 14 83 = some (14, 7) := by decide +kernel
theorem rf_14_86 : xfR 14 86 = some (14, 8) := by decide +kernel
theorem rf_14_9 : xfR 14 9 = some (14, 10) := by decide +kernel
theorem rf_4_11 : xfR 4 11 = some (4, 2) := by decide +kernel
theorem rf_4_19 : xfR 4 19 = some (4, 0) := by decide +kernel
theorem rf_4_29 : xfR 4 29 = some (4, 1) := by decide +kernel
theorem rf_4_32 : xfR 4 32 = some (4, 4) := by decide +kernel
theorem rf_5_108 : xfR 5 108 = some (14, 0) := by decide +kernel
theorem rf_5_115 : xfR 5 115 = some (5, 11) := by decide +kernel
theorem rf_5_124 : xfR 5 124 = some (8, 7) := by decide +kernel
theorem rf_5_136 : xfR 5 136 = some (5, 13) := by decide +kernel
theorem rf_5_139 : xfR 5 139 = some (8, 19) := by decide +kernel
theorem rf_5_15 : xfR 5 15 = some (5, 9) := by decide +kernel
theorem rf_5_18 : xfR 5 18 = some (5, 12) := by decide +kernel
theorem rf_5_22 : xfR 5 22 = some (5, 0) := by decide +kernel
theorem rf_5_25 : xfR 5 25 = some (5, 1) := by decide +kernel
theorem rf_5_29 : xfR 5 29 = some (5, 2) := by decide +kernel
theorem rf_5_33 : xfR 5 33 = some (5, 3) := by decide +kernel
theorem rf_5_37 : xfR 5 37 = some (5, 8) := by decide +kernel
theorem rf_5_44 : xfR 5 44 = some (5, 10) := by decide +kernel
theorem rf_5_47 : xfR 5 47 = some (5, 6) := by decide +kernel
theorem rf_5_50 : xfR 5 50 = some (5, 7) := by decide +kernel
theorem rf_5_71 : xfR 5 71 = some (8, 2) := by decide +kernel
theorem rf_5_76 : xfR 5 76 = some (5, 4) := by decide +kernel
theorem rf_5_79 : xfR 5 79 = some (8, 3) := by decide +kernel
theorem rf_5_82 : xfR 5 82 = some (8, 4) := by decide +kernel
theorem rf_5_85 : xfR 5 85 = some (8, 5) := by decide +kernel
theorem rf_5_88 : xfR 5 88 = some (8, 6) := by decide +kernel
theorem rf_5_9 : xfR 5 9 = some (5, 5) := by decide +kernel
theorem rf_5_91 : xfR 5 91 = some (8, 14) := by decide +kernel
theorem rf_5_92 : xfR 5 92 = some (8, 15) := by decide +kernel
theorem rf_5_93 : xfR 5 93 = some (8, 16) := by decide +kernel
theorem rf_5_94 : xfR 5 94 = some (8, 12) := by decide +kernel
theorem rf_5_97 : xfR 5 97 = some (8, 17) := by decide +kernel
theorem rf_7_15 : xfR 7 15 = some (7, 1) := by decide +kernel
theorem rf_7_18 : xfR 7 18 = some (7, 2) := by decide +kernel
theorem rf_7_21 : xfR 7 21 = some (7, 3) := by decide +kernel
theorem rf_7_24 : xfR 7 24 = some (7, 4) := by decide +kernel
theorem rf_7_27 : xfR 7 27 = some (7, 5) := by decide +kernel
theorem rf_7_30 : xfR 7 30 = some (7, 6) := by decide +kernel
theorem rf_7_34 : xfR 7 34 = some (7, 7) := by decide +kernel
theorem rf_7_37 : xfR 7 37 = some (7, 10) := by decide +kernel
theorem rf_7_47 : xfR 7 47 = some (7, 8) := by decide +kernel
theorem rf_7_50 : xfR 7 50 = some (7, 9) := by decide +kernel
theorem rf_7_9 : xfR 7 9 = some (7, 0) := by decide +kernel
theorem rf_8_15 : xfR 8 15 = some (8, 19) := by decide +kernel
theorem rf_8_19 : xfR 8 19 = some (8, 2) := by decide +kernel
theorem rf_8_23 : xfR 8 23 = some (8, 3) := by decide +kernel
theorem rf_8_26 : xfR 8 26 = some (8, 4) := by decide +kernel
theorem rf_8_29 : xfR 8 29 = some (8, 5) := by decide +kernel
theorem rf_8_32 : xfR 8 32 = some (8, 6) := by decide +kernel
theorem rf_8_35 : xfR 8 35 = some (8, 7) := by decide +kernel
theorem rf_8_38 : xfR 8 38 = some (8, 8) := by decide +kernel
theorem rf_8_41 : xfR 8 41 = some (8, 9) := by decide +kernel
theorem rf_8_44 : xfR 8 44 = some (8, 10) := by decide +kernel
theorem rf_8_47 : xfR 8 47 = some (8, 11) := by decide +kernel
theorem rf_8_50 : xfR 8 50 = some (8, 12) := by decide +kernel
theorem rf_8_53 : xfR 8 53 = some (8, 13) := by decide +kernel
theorem rf_8_56 : xfR 8 56 = some (8, 14) := by decide +kernel
theorem rf_8_59 : xfR 8 59 = some (8, 15) := by decide +kernel
theorem rf_8_62 : xfR 8 62 = some (8, 16) := by decide +kernel
theorem rf_8_65 : xfR 8 65 = some (8, 17) := by decide +kernel
theorem rf_8_9 : xfR 8 9 = some (8, 18) := by decide +kernel
theorem rf_9_15 : xfR 9 15 = some (9, 2) := by decide +kernel
theorem rf_9_18 : xfR 9 18 = some (9, 0) := by decide +kernel
theorem rf_9_22 : xfR 9 22 = some (9, 5) := by decide +kernel
theorem rf_9_25 : xfR 9 25 = some (9, 7) := by decide +kernel
theorem rf_9_28 : xfR 9 28 = some (9, 3) := by decide +kernel
theorem rf_9_31 : xfR 9 31 = some (9, 4) := by decide +kernel
theorem rf_9_34 : xfR 9 34 = some (9, 6) := by decide +kernel
theorem rf_9_67 : xfR 9 67 = some (9, 8) := by decide +kernel
theorem rf_9_73 : xfR 9 73 = some (9, 11) := by decide +kernel
theorem rf_9_9 : xfR 9 9 = some (9, 1) := by decide +kernel
theorem xk_14_52 : xkR 14 52 = some 8 := by decide +kernel
theorem xl_14_104 : xlR 14 104 = some 6364136223846793005 := by decide +kernel
theorem xl_14_106 : xlR 14 106 = some 1442695040888963407 := by decide +kernel
theorem xl_14_148 : xlR 14 148 = some 50 := by decide +kernel
theorem mr_11_45 : xmR 11 45 = some 110 := by decide +kernel
theorem mr_11_55 : xmR 11 55 = some 396 := by decide +kernel
theorem mr_11_61 : xmR 11 61 = some 390 := by decide +kernel
theorem mr_12_38 : xmR 12 38 = some 119 := by decide +kernel
theorem mr_14_111 : xmR 14 111 = some 2 := by decide +kernel
theorem mr_14_127 : xmR 14 127 = some 6 := by decide +kernel
theorem mr_14_130 : xmR 14 130 = some 1 := by decide +kernel
theorem mr_14_133 : xmR 14 133 = some 193 := by decide +kernel
theorem mr_14_137 : xmR 14 137 = some 185 := by decide +kernel
theorem mr_14_144 : xmR 14 144 = some 194 := by decide +kernel
theorem mr_14_150 : xmR 14 150 = some 200 := by decide +kernel
theorem mr_14_48 : xmR 14 48 = some 10 := by decide +kernel
theorem mr_14_55 : xmR 14 55 = some 14 := by decide +kernel
theorem mr_14_59 : xmR 14 59 = some 13 := by decide +kernel
theorem mr_14_69 : xmR 14 69 = some 184 := by decide +kernel
theorem mr_14_73 : xmR 14 73 = some 198 := by decide +kernel
theorem mr_14_89 : xmR 14 89 = some 197 := by decide +kernel
theorem mr_14_93 : xmR 14 93 = some 189 := by decide +kernel
theorem mr_14_97 : xmR 14 97 = some 59 := by decide +kernel
theorem mr_4_23 : xmR 4 23 = some 390 := by decide +kernel
theorem mr_5_100 : xmR 5 100 = some 199 := by decide +kernel
theorem mr_5_104 : xmR 5 104 = some 29 := by decide +kernel
theorem mr_5_111 : xmR 5 111 = some 200 := by decide +kernel
theorem mr_5_118 : xmR 5 118 = some 30 := by decide +kernel
theorem mr_5_121 : xmR 5 121 = some 24 := by decide +kernel
theorem mr_5_127 : xmR 5 127 = some 25 := by decide +kernel
theorem mr_5_131 : xmR 5 131 = some 397 := by decide +kernel
theorem mr_5_148 : xmR 5 148 = some 20 := by decide +kernel
theorem mr_5_151 : xmR 5 151 = some 194 := by decide +kernel
theorem mr_5_154 : xmR 5 154 = some 18 := by decide +kernel
theorem mr_5_40 : xmR 5 40 = some 27 := by decide +kernel
theorem mr_5_53 : xmR 5 53 = some 28 := by decide +kernel
theorem mr_5_58 : xmR 5 58 = some 19 := by decide +kernel
theorem mr_5_62 : xmR 5 62 = some 22 := by decide +kernel
theorem mr_5_65 : xmR 5 65 = some 185 := by decide +kernel
theorem mr_7_41 : xmR 7 41 = some 393 := by decide +kernel
theorem mr_7_53 : xmR 7 53 = some 58 := by decide +kernel
theorem mr_7_57 : xmR 7 57 = some 397 := by decide +kernel
theorem mr_7_64 : xmR 7 64 = some 56 := by decide +kernel
theorem mr_7_68 : xmR 7 68 = some 398 := by decide +kernel
theorem mr_8_74 : xmR 8 74 = some 397 := by decide +kernel
theorem mr_8_80 : xmR 8 80 = some 396 := by decide +kernel
theorem mr_9_37 : xmR 9 37 = some 66 := by decide +kernel
theorem mr_9_40 : xmR 9 40 = some 67 := by decide +kernel
theorem mr_9_44 : xmR 9 44 = some 63 := by decide +kernel
theorem mr_9_48 : xmR 9 48 = some 396 := by decide +kernel
theorem mr_9_54 : xmR 9 54 = some 75 := by decide +kernel
theorem mr_9_57 : xmR 9 57 = some 69 := by decide +kernel
theorem mr_9_70 : xmR 9 70 = some 397 := by decide +kernel
theorem mr_9_76 : xmR 9 76 = some 70 := by decide +kernel
theorem xn_14_54 : xmR 14 54 = none ∧ xnR 14 54 = some 61 := by decide +kernel
theorem pf_11_0 : 0 < (xCl 11).2.2 ∧ ((xCl 11).2.1 0).2.2.2 = false ∧ xfty 11 0 = some .boolean := by decide +kernel
theorem pf_11_1 : 1 < (xCl 11).2.2 ∧ ((xCl 11).2.1 1).2.2.2 = false ∧ xfty 11 1 = some .int := by decide +kernel
theorem pf_11_2 : 2 < (xCl 11).2.2 ∧ ((xCl 11).2.1 2).2.2.2 = false ∧ xfty 11 2 = some .int := by decide +kernel
theorem pf_11_3 : 3 < (xCl 11).2.2 ∧ ((xCl 11).2.1 3).2.2.2 = false ∧ xfty 11 3 = some .int := by decide +kernel
theorem pf_11_4 : 4 < (xCl 11).2.2 ∧ ((xCl 11).2.1 4).2.2.2 = false ∧ xfty 11 4 = some .int := by decide +kernel
theorem pf_11_5 : 5 < (xCl 11).2.2 ∧ ((xCl 11).2.1 5).2.2.2 = false ∧ xfty 11 5 = some .int := by decide +kernel
theorem pf_11_6 : 6 < (xCl 11).2.2 ∧ ((xCl 11).2.1 6).2.2.2 = false ∧ xfty 11 6 = some (.array .int) := by decide +kernel
theorem pf_11_7 : 7 < (xCl 11).2.2 ∧ ((xCl 11).2.1 7).2.2.2 = false ∧ xfty 11 7 = some (.array .int) := by decide +kernel
theorem pf_11_8 : 8 < (xCl 11).2.2 ∧ ((xCl 11).2.1 8).2.2.2 = false ∧ xfty 11 8 = some (.array .byte) := by decide +kernel
theorem pf_11_9 : 9 < (xCl 11).2.2 ∧ ((xCl 11).2.1 9).2.2.2 = false ∧ xfty 11 9 = some .int := by decide +kernel
theorem pf_12_7 : 7 < (xCl 12).2.2 ∧ ((xCl 12).2.1 7).2.2.2 = false ∧ xfty 12 7 = some .int := by decide +kernel
theorem pf_12_8 : 8 < (xCl 12).2.2 ∧ ((xCl 12).2.1 8).2.2.2 = false ∧ xfty 12 8 = some .int := by decide +kernel
theorem pf_14_0 : 0 < (xCl 14).2.2 ∧ ((xCl 14).2.1 0).2.2.2 = false ∧ xfty 14 0 = some .int := by decide +kernel
theorem pf_14_1 : 1 < (xCl 14).2.2 ∧ ((xCl 14).2.1 1).2.2.2 = false ∧ xfty 14 1 = some .int := by decide +kernel
theorem pf_14_2 : 2 < (xCl 14).2.2 ∧ ((xCl 14).2.1 2).2.2.2 = false ∧ xfty 14 2 = some .int := by decide +kernel
theorem pf_14_3 : 3 < (xCl 14).2.2 ∧ ((xCl 14).2.1 3).2.2.2 = false ∧ xfty 14 3 = some .int := by decide +kernel
theorem pf_14_4 : 4 < (xCl 14).2.2 ∧ ((xCl 14).2.1 4).2.2.2 = false ∧ xfty 14 4 = some .int := by decide +kernel
theorem pf_14_9 : 9 < (xCl 14).2.2 ∧ ((xCl 14).2.1 9).2.2.2 = false ∧ xfty 14 9 = some .long := by decide +kernel
theorem pf_4_0 : 0 < (xCl 4).2.2 ∧ ((xCl 4).2.1 0).2.2.2 = false ∧ xfty 4 0 = some .int := by decide +kernel
theorem pf_4_1 : 1 < (xCl 4).2.2 ∧ ((xCl 4).2.1 1).2.2.2 = false ∧ xfty 4 1 = some .int := by decide +kernel
theorem pf_4_2 : 2 < (xCl 4).2.2 ∧ ((xCl 4).2.1 2).2.2.2 = false ∧ xfty 4 2 = some (.array .int) := by decide +kernel
theorem pf_5_10 : 10 < (xCl 5).2.2 ∧ ((xCl 5).2.1 10).2.2.2 = false ∧ xfty 5 10 = some .boolean := by decide +kernel
theorem pf_5_11 : 11 < (xCl 5).2.2 ∧ ((xCl 5).2.1 11).2.2.2 = false ∧ xfty 5 11 = some .boolean := by decide +kernel
theorem pf_5_13 : 13 < (xCl 5).2.2 ∧ ((xCl 5).2.1 13).2.2.2 = false ∧ xfty 5 13 = some .int := by decide +kernel
theorem pf_5_3 : 3 < (xCl 5).2.2 ∧ ((xCl 5).2.1 3).2.2.2 = false ∧ xfty 5 3 = some .boolean := by decide +kernel
theorem pf_5_4 : 4 < (xCl 5).2.2 ∧ ((xCl 5).2.1 4).2.2.2 = false ∧ xfty 5 4 = some .int := by decide +kernel
theorem pf_5_5 : 5 < (xCl 5).2.2 ∧ ((xCl 5).2.1 5).2.2.2 = false ∧ xfty 5 5 = some .int := by decide +kernel
theorem pf_5_6 : 6 < (xCl 5).2.2 ∧ ((xCl 5).2.1 6).2.2.2 = false ∧ xfty 5 6 = some .int := by decide +kernel
theorem pf_5_7 : 7 < (xCl 5).2.2 ∧ ((xCl 5).2.1 7).2.2.2 = false ∧ xfty 5 7 = some .int := by decide +kernel
theorem pf_5_8 : 8 < (xCl 5).2.2 ∧ ((xCl 5).2.1 8).2.2.2 = false ∧ xfty 5 8 = some .int := by decide +kernel
theorem pf_5_9 : 9 < (xCl 5).2.2 ∧ ((xCl 5).2.1 9).2.2.2 = false ∧ xfty 5 9 = some .int := by decide +kernel
theorem pf_7_10 : 10 < (xCl 7).2.2 ∧ ((xCl 7).2.1 10).2.2.2 = false ∧ xfty 7 10 = some .int := by decide +kernel
theorem pf_7_8 : 8 < (xCl 7).2.2 ∧ ((xCl 7).2.1 8).2.2.2 = false ∧ xfty 7 8 = some .int := by decide +kernel
theorem pf_7_9 : 9 < (xCl 7).2.2 ∧ ((xCl 7).2.1 9).2.2.2 = false ∧ xfty 7 9 = some .int := by decide +kernel
theorem pf_8_0 : 0 < (xCl 8).2.2 ∧ ((xCl 8).2.1 0).2.2.2 = false ∧ xfty 8 0 = some .int := by decide +kernel
theorem pf_8_1 : 1 < (xCl 8).2.2 ∧ ((xCl 8).2.1 1).2.2.2 = false ∧ xfty 8 1 = some .int := by decide +kernel
theorem pf_8_10 : 10 < (xCl 8).2.2 ∧ ((xCl 8).2.1 10).2.2.2 = false ∧ xfty 8 10 = some .int := by decide +kernel
theorem pf_8_11 : 11 < (xCl 8).2.2 ∧ ((xCl 8).2.1 11).2.2.2 = false ∧ xfty 8 11 = some .int := by decide +kernel
theorem pf_8_12 : 12 < (xCl 8).2.2 ∧ ((xCl 8).2.1 12).2.2.2 = false ∧ xfty 8 12 = some .int := by decide +kernel
theorem pf_8_13 : 13 < (xCl 8).2.2 ∧ ((xCl 8).2.1 13).2.2.2 = false ∧ xfty 8 13 = some .int := by decide +kernel
theorem pf_8_14 : 14 < (xCl 8).2.2 ∧ ((xCl 8).2.1 14).2.2.2 = false ∧ xfty 8 14 = some .int := by decide +kernel
theorem pf_8_15 : 15 < (xCl 8).2.2 ∧ ((xCl 8).2.1 15).2.2.2 = false ∧ xfty 8 15 = some .int := by decide +kernel
theorem pf_8_16 : 16 < (xCl 8).2.2 ∧ ((xCl 8).2.1 16).2.2.2 = false ∧ xfty 8 16 = some .int := by decide +kernel
theorem pf_8_17 : 17 < (xCl 8).2.2 ∧ ((xCl 8).2.1 17).2.2.2 = false ∧ xfty 8 17 = some .int := by decide +kernel
theorem pf_8_2 : 2 < (xCl 8).2.2 ∧ ((xCl 8).2.1 2).2.2.2 = false ∧ xfty 8 2 = some .int := by decide +kernel
theorem pf_8_3 : 3 < (xCl 8).2.2 ∧ ((xCl 8).2.1 3).2.2.2 = false ∧ xfty 8 3 = some .int := by decide +kernel
theorem pf_8_4 : 4 < (xCl 8).2.2 ∧ ((xCl 8).2.1 4).2.2.2 = false ∧ xfty 8 4 = some .int := by decide +kernel
theorem pf_8_5 : 5 < (xCl 8).2.2 ∧ ((xCl 8).2.1 5).2.2.2 = false ∧ xfty 8 5 = some .int := by decide +kernel
theorem pf_8_6 : 6 < (xCl 8).2.2 ∧ ((xCl 8).2.1 6).2.2.2 = false ∧ xfty 8 6 = some .int := by decide +kernel
theorem pf_8_7 : 7 < (xCl 8).2.2 ∧ ((xCl 8).2.1 7).2.2.2 = false ∧ xfty 8 7 = some .int := by decide +kernel
theorem pf_8_8 : 8 < (xCl 8).2.2 ∧ ((xCl 8).2.1 8).2.2.2 = false ∧ xfty 8 8 = some .int := by decide +kernel
theorem pf_8_9 : 9 < (xCl 8).2.2 ∧ ((xCl 8).2.1 9).2.2.2 = false ∧ xfty 8 9 = some .int := by decide +kernel
theorem pf_9_11 : 11 < (xCl 9).2.2 ∧ ((xCl 9).2.1 11).2.2.2 = false ∧ xfty 9 11 = some .int := by decide +kernel
theorem pf_9_3 : 3 < (xCl 9).2.2 ∧ ((xCl 9).2.1 3).2.2.2 = false ∧ xfty 9 3 = some .int := by decide +kernel
theorem pf_9_4 : 4 < (xCl 9).2.2 ∧ ((xCl 9).2.1 4).2.2.2 = false ∧ xfty 9 4 = some .int := by decide +kernel
theorem pf_9_5 : 5 < (xCl 9).2.2 ∧ ((xCl 9).2.1 5).2.2.2 = false ∧ xfty 9 5 = some .int := by decide +kernel
theorem pf_9_6 : 6 < (xCl 9).2.2 ∧ ((xCl 9).2.1 6).2.2.2 = false ∧ xfty 9 6 = some .int := by decide +kernel
theorem pf_9_7 : 7 < (xCl 9).2.2 ∧ ((xCl 9).2.1 7).2.2.2 = false ∧ xfty 9 7 = some .int := by decide +kernel
theorem pf_9_8 : 8 < (xCl 9).2.2 ∧ ((xCl 9).2.1 8).2.2.2 = false ∧ xfty 9 8 = some .int := by decide +kernel
theorem yc_11_49 : xmR 11 49 = none ∧ xCp.contains (11, 49) = true := by decide +kernel
theorem yc_5_142 : xmR 5 142 = none ∧ xCp.contains (5, 142) = true := by decide +kernel
theorem yc_8_68 : xmR 8 68 = none ∧ xCp.contains (8, 68) = true := by decide +kernel
theorem yc_9_61 : xmR 9 61 = none ∧ xCp.contains (9, 61) = true := by decide +kernel
theorem kk_15 : kkA 15 = kT15 := rfl
theorem mo_15 : moA 15 = 4 := rfl
theorem ni_15 : decide ((xMn 15).name = "<init>") = false := by decide +kernel
set_option maxRecDepth 100000 in
theorem xm_15 : xM 15 = some (cX0_add, 6, (some FieldType.int), 4) := rfl
theorem kk_18 : kkA 18 = kT18 := rfl
theorem mo_18 : moA 18 = 4 := rfl
theorem ni_18 : decide ((xMn 18).name = "<init>") = false := by decide +kernel
set_option maxRecDepth 100000 in
theorem xm_18 : xM 18 = some (cX0_setTold, 5, none, 3) := rfl
theorem kk_19 : kkA 19 = kT19 := rfl
theorem mo_19 : moA 19 = 4 := rfl
theorem ni_19 : decide ((xMn 19).name = "<init>") = false := by decide +kernel
set_option maxRecDepth 100000 in
theorem xm_19 : xM 19 = some (cX0_tell, 3, (some FieldType.int), 2) := rfl
theorem kk_194 : kkA 194 = kT194 := rfl
theorem mo_194 : moA 194 = 14 := rfl
theorem ni_194 : decide ((xMn 194).name = "<init>") = false := by decide +kernel
set_option maxRecDepth 100000 in
theorem xm_194 : xM 194 = some (cX10_hush, 2, none, 1) := rfl
theorem kk_20 : kkA 20 = kT20 := rfl
theorem mo_20 : moA 20 = 5 := rfl
theorem ni_20 : decide ((xMn 20).name = "<init>") = false := by decide +kernel
set_option maxRecDepth 100000 in
theorem xm_20 : xM 20 = some (cX1_beTold, 3, none, 2) := rfl
theorem kk_27 : kkA 27 = kT27 := rfl
theorem mo_27 : moA 27 = 5 := rfl
theorem ni_27 : decide ((xMn 27).name = "<init>") = false := by decide +kernel
set_option maxRecDepth 100000 in
theorem xm_27 : xM 27 = some (cX1_isCommand, 1, (some FieldType.boolean), 0) := rfl
theorem kk_22 : kkA 22 = kT22 := rfl
theorem mo_22 : moA 22 = 5 := rfl
theorem ni_22 : decide ((xMn 22).name = "<init>") = false := by decide +kernel
set_option maxRecDepth 100000 in
theorem xm_22 : xM 22 = some (cX1_giveIn, 1, none, 0) := rfl
theorem kk_185 : kkA 185 = kT185 := rfl
theorem mo_185 : moA 185 = 14 := rfl
theorem ni_185 : decide ((xMn 185).name = "<init>") = false := by decide +kernel
set_option maxRecDepth 100000 in
theorem xm_185 : xM 185 = some (cX10_blank, 1, (some (FieldType.object "AgreedStore$Letter")), 0) := rfl
theorem kk_184 : kkA 184 = kT184 := rfl
theorem mo_184 : moA 184 = 14 := rfl
theorem ni_184 : decide ((xMn 184).name = "<init>") = false := by decide +kernel
set_option maxRecDepth 100000 in
theorem xm_184 : xM 184 = some (cX10_areParted, 3, (some FieldType.boolean), 2) := rfl
theorem kk_198 : kkA 198 = kT198 := rfl
theorem mo_198 : moA 198 = 14 := rfl
theorem ni_198 : decide ((xMn 198).name = "<init>") = false := by decide +kernel
set_option maxRecDepth 100000 in
theorem xm_198 : xM 198 = some (cX10_lose, 2, none, 1) := rfl
theorem kk_197 : kkA 197 = kT197 := rfl
theorem mo_197 : moA 197 = 14 := rfl
theorem ni_197 : decide ((xMn 197).name = "<init>") = false := by decide +kernel
set_option maxRecDepth 100000 in
theorem xm_197 : xM 197 = some (cX10_launch, 4, none, 2) := rfl
theorem kk_189 : kkA 189 = kT189 := rfl
theorem mo_189 : moA 189 = 14 := rfl
theorem ni_189 : decide ((xMn 189).name = "<init>") = false := by decide +kernel
set_option maxRecDepth 100000 in
theorem xm_189 : xM 189 = some (cX10_drawn, 2, (some FieldType.int), 1) := rfl
theorem kk_59 : kkA 59 = kT59 := rfl
theorem mo_59 : moA 59 = 8 := rfl
theorem ni_59 : decide ((xMn 59).name = "<init>") = false := by decide +kernel
set_option maxRecDepth 100000 in
theorem xm_59 : xM 59 = some (cX4_copyFrom, 2, none, 1) := rfl
theorem kk_199 : kkA 199 = kT199 := rfl
theorem mo_199 : moA 199 = 14 := rfl
theorem ni_199 : decide ((xMn 199).name = "<init>") = false := by decide +kernel
set_option maxRecDepth 100000 in
theorem xm_199 : xM 199 = some (cX10_post, 5, none, 1) := rfl
theorem kk_200 : kkA 200 = kT200 := rfl
theorem mo_200 : moA 200 = 14 := rfl
theorem ni_200 : decide ((xMn 200).name = "<init>") = false := by decide +kernel
set_option maxRecDepth 100000 in
theorem xm_200 : xM 200 = some (cX10_setBell, 3, none, 2) := rfl
theorem kk_29 : kkA 29 = kT29 := rfl
theorem mo_29 : moA 29 = 5 := rfl
theorem ni_29 : decide ((xMn 29).name = "<init>") = false := by decide +kernel
set_option maxRecDepth 100000 in
theorem xm_29 : xM 29 = some (cX1_setAlarm, 3, none, 2) := rfl
theorem kk_28 : kkA 28 = kT28 := rfl
theorem mo_28 : moA 28 = 5 := rfl
theorem ni_28 : decide ((xMn 28).name = "<init>") = false := by decide +kernel
set_option maxRecDepth 100000 in
theorem xm_28 : xM 28 = some (cX1_sendRequest, 2, none, 0) := rfl
theorem kk_21 : kkA 21 = kT21 := rfl
theorem mo_21 : moA 21 = 5 := rfl
theorem ni_21 : decide ((xMn 21).name = "<init>") = false := by decide +kernel
set_option maxRecDepth 100000 in
theorem xm_21 : xM 21 = some (cX1_begin, 2, none, 1) := rfl
theorem kk_30 : kkA 30 = kT30 := rfl
theorem mo_30 : moA 30 = 5 := rfl
theorem ni_30 : decide ((xMn 30).name = "<init>") = false := by decide +kernel
set_option maxRecDepth 100000 in
theorem xm_30 : xM 30 = some (cX1_turnToNext, 1, none, 0) := rfl
theorem kk_25 : kkA 25 = kT25 := rfl
theorem mo_25 : moA 25 = 5 := rfl
theorem ni_25 : decide ((xMn 25).name = "<init>") = false := by decide +kernel
set_option maxRecDepth 100000 in
theorem xm_25 : xM 25 = some (cX1_hearElsewhere, 2, none, 1) := rfl
theorem kk_24 : kkA 24 = kT24 := rfl
theorem mo_24 : moA 24 = 5 := rfl
theorem ni_24 : decide ((xMn 24).name = "<init>") = false := by decide +kernel
set_option maxRecDepth 100000 in
theorem xm_24 : xM 24 = some (cX1_hearDone, 2, none, 1) := rfl
theorem kk_23 : kkA 23 = kT23 := rfl
theorem mo_23 : moA 23 = 5 := rfl
theorem ni_23 : decide ((xMn 23).name = "<init>") = false := by decide +kernel
set_option maxRecDepth 100000 in
theorem xm_23 : xM 23 = some (cX1_hear, 2, none, 1) := rfl
theorem kk_31 : kkA 31 = kT31 := rfl
theorem mo_31 : moA 31 = 5 := rfl
theorem ni_31 : decide ((xMn 31).name = "<init>") = false := by decide +kernel
set_option maxRecDepth 100000 in
theorem xm_31 : xM 31 = some (cX1_wake, 1, none, 0) := rfl
theorem kk_112 : kkA 112 = kT112 := rfl
theorem mo_112 : moA 112 = 11 := rfl
theorem ni_112 : decide ((xMn 112).name = "<init>") = false := by decide +kernel
set_option maxRecDepth 100000 in
theorem xm_112 : xM 112 = some (cX7_remove, 1, none, 0) := rfl
theorem kk_107 : kkA 107 = kT107 := rfl
theorem mo_107 : moA 107 = 11 := rfl
theorem ni_107 : decide ((xMn 107).name = "<init>") = false := by decide +kernel
set_option maxRecDepth 100000 in
theorem xm_107 : xM 107 = some (cX7_frameStart, 2, (some FieldType.int), 1) := rfl
theorem kk_106 : kkA 106 = kT106 := rfl
theorem mo_106 : moA 106 = 11 := rfl
theorem ni_106 : decide ((xMn 106).name = "<init>") = false := by decide +kernel
set_option maxRecDepth 100000 in
theorem xm_106 : xM 106 = some (cX7_cutTo, 2, none, 1) := rfl
theorem kk_110 : kkA 110 = kT110 := rfl
theorem mo_110 : moA 110 = 11 := rfl
theorem ni_110 : decide ((xMn 110).name = "<init>") = false := by decide +kernel
set_option maxRecDepth 100000 in
theorem xm_110 : xM 110 = some (cX7_makeRoom, 3, none, 1) := rfl
theorem kk_113 : kkA 113 = kT113 := rfl
theorem mo_113 : moA 113 = 11 := rfl
theorem ni_113 : decide ((xMn 113).name = "<init>") = false := by decide +kernel
set_option maxRecDepth 100000 in
theorem xm_113 : xM 113 = some (cX7_takeOver, 4, none, 2) := rfl
theorem kk_109 : kkA 109 = kT109 := rfl
theorem mo_109 : moA 109 = 11 := rfl
theorem ni_109 : decide ((xMn 109).name = "<init>") = false := by decide +kernel
set_option maxRecDepth 100000 in
theorem xm_109 : xM 109 = some (cX7_lastTerm, 1, (some FieldType.int), 0) := rfl
theorem kk_114 : kkA 114 = kT114 := rfl
theorem mo_114 : moA 114 = 11 := rfl
theorem ni_114 : decide ((xMn 114).name = "<init>") = false := by decide +kernel
set_option maxRecDepth 100000 in
theorem xm_114 : xM 114 = some (cX7_write, 5, none, 4) := rfl
theorem kk_54 : kkA 54 = kT54 := rfl
theorem mo_54 : moA 54 = 7 := rfl
theorem ni_54 : decide ((xMn 54).name = "<init>") = false := by decide +kernel
set_option maxRecDepth 100000 in
theorem xm_54 : xM 54 = some (cX3_begin, 4, none, 2) := rfl
theorem kk_63 : kkA 63 = kT63 := rfl
theorem mo_63 : moA 63 = 9 := rfl
theorem ni_63 : decide ((xMn 63).name = "<init>") = false := by decide +kernel
set_option maxRecDepth 100000 in
theorem xm_63 : xM 63 = some (cX5_at, 2, (some FieldType.int), 1) := rfl
theorem kk_70 : kkA 70 = kT70 := rfl
theorem mo_70 : moA 70 = 9 := rfl
theorem ni_70 : decide ((xMn 70).name = "<init>") = false := by decide +kernel
set_option maxRecDepth 100000 in
theorem xm_70 : xM 70 = some (cX5_membersBehind, 3, (some FieldType.int), 1) := rfl
theorem kk_66 : kkA 66 = kT66 := rfl
theorem mo_66 : moA 66 = 9 := rfl
theorem ni_66 : decide ((xMn 66).name = "<init>") = false := by decide +kernel
set_option maxRecDepth 100000 in
theorem xm_66 : xM 66 = some (cX5_findMembers, 1, none, 0) := rfl
theorem kk_64 : kkA 64 = kT64 := rfl
theorem mo_64 : moA 64 = 9 := rfl
theorem ni_64 : decide ((xMn 64).name = "<init>") = false := by decide +kernel
set_option maxRecDepth 100000 in
theorem xm_64 : xM 64 = some (cX5_clear, 1, none, 0) := rfl
theorem kk_65 : kkA 65 = kT65 := rfl
theorem mo_65 : moA 65 = 9 := rfl
theorem ni_65 : decide ((xMn 65).name = "<init>") = false := by decide +kernel
set_option maxRecDepth 100000 in
theorem xm_65 : xM 65 = some (cX5_cutFrom, 2, none, 1) := rfl
theorem kk_67 : kkA 67 = kT67 := rfl
theorem mo_67 : moA 67 = 9 := rfl
theorem ni_67 : decide ((xMn 67).name = "<init>") = false := by decide +kernel
set_option maxRecDepth 100000 in
theorem xm_67 : xM 67 = some (cX5_has, 2, (some FieldType.boolean), 1) := rfl
theorem kk_69 : kkA 69 = kT69 := rfl
theorem mo_69 : moA 69 = 9 := rfl
theorem ni_69 : decide ((xMn 69).name = "<init>") = false := by decide +kernel
set_option maxRecDepth 100000 in
theorem xm_69 : xM 69 = some (cX5_length, 1, (some FieldType.int), 0) := rfl
theorem kk_71 : kkA 71 = kT71 := rfl
theorem mo_71 : moA 71 = 9 := rfl
theorem ni_71 : decide ((xMn 71).name = "<init>") = false := by decide +kernel
set_option maxRecDepth 100000 in
theorem xm_71 : xM 71 = some (cX5_membersUpTo, 3, (some FieldType.int), 1) := rfl
theorem kk_75 : kkA 75 = kT75 := rfl
theorem mo_75 : moA 75 = 9 := rfl
theorem ni_75 : decide ((xMn 75).name = "<init>") = false := by decide +kernel
set_option maxRecDepth 100000 in
theorem xm_75 : xM 75 = some (cX5_termAt, 2, (some FieldType.int), 1) := rfl
theorem kk_72 : kkA 72 = kT72 := rfl
theorem mo_72 : moA 72 = 9 := rfl
theorem ni_72 : decide ((xMn 72).name = "<init>") = false := by decide +kernel
set_option maxRecDepth 100000 in
theorem xm_72 : xM 72 = some (cX5_moveBase, 5, none, 3) := rfl
theorem kk_73 : kkA 73 = kT73 := rfl
theorem mo_73 : moA 73 = 9 := rfl
theorem ni_73 : decide ((xMn 73).name = "<init>") = false := by decide +kernel
set_option maxRecDepth 100000 in
theorem xm_73 : xM 73 = some (cX5_rowOf, 7, (some (FieldType.array FieldType.int)), 6) := rfl
theorem kk_74 : kkA 74 = kT74 := rfl
theorem mo_74 : moA 74 = 9 := rfl
theorem ni_74 : decide ((xMn 74).name = "<init>") = false := by decide +kernel
set_option maxRecDepth 100000 in
theorem xm_74 : xM 74 = some (cX5_runStart, 4, (some FieldType.int), 1) := rfl
theorem kk_111 : kkA 111 = kT111 := rfl
theorem mo_111 : moA 111 = 11 := rfl
theorem ni_111 : decide ((xMn 111).name = "<init>") = false := by decide +kernel
set_option maxRecDepth 100000 in
theorem xm_111 : xM 111 = some (cX7_makeRoomForBytes, 2, none, 1) := rfl
theorem kk_119 : kkA 119 = kT119 := rfl
theorem mo_119 : moA 119 = 12 := rfl
theorem ni_119 : decide ((xMn 119).name = "<init>") = false := by decide +kernel
set_option maxRecDepth 100000 in
theorem xm_119 : xM 119 = some (cX8_slotOf, 1, (some FieldType.int), 1) := rfl
theorem kk_115 : kkA 115 = kT115 := rfl
theorem mo_115 : moA 115 = 12 := rfl
theorem ni_115 : decide ((xMn 115).name = "<init>") = false := by decide +kernel
set_option maxRecDepth 100000 in
theorem xm_115 : xM 115 = some (cX8_begin, 6, none, 4) := rfl
theorem kk_116 : kkA 116 = kT116 := rfl
theorem mo_116 : moA 116 = 12 := rfl
theorem ni_116 : decide ((xMn 116).name = "<init>") = false := by decide +kernel
set_option maxRecDepth 100000 in
theorem xm_116 : xM 116 = some (cX8_drop, 2, none, 1) := rfl
theorem kk_117 : kkA 117 = kT117 := rfl
theorem mo_117 : moA 117 = 12 := rfl
theorem ni_117 : decide ((xMn 117).name = "<init>") = false := by decide +kernel
set_option maxRecDepth 100000 in
theorem xm_117 : xM 117 = some (cX8_dropAll, 2, none, 0) := rfl
theorem kk_120 : kkA 120 = kT120 := rfl
theorem mo_120 : moA 120 = 12 := rfl
theorem ni_120 : decide ((xMn 120).name = "<init>") = false := by decide +kernel
set_option maxRecDepth 100000 in
theorem xm_120 : xM 120 = some (cX8_waitsFor, 3, (some FieldType.int), 1) := rfl
theorem kk_398 : kkA 398 = kT398 := rfl
theorem mo_398 : moA 398 = 20 := rfl
theorem ni_398 : decide ((xMn 398).name = "<init>") = false := by decide +kernel
set_option maxRecDepth 100000 in
theorem xm_398 : xM 398 = some (cJ6_bitCount_0f7a4, 1, (some FieldType.int), 1) := rfl
theorem kk_56 : kkA 56 = kT56 := rfl
theorem mo_56 : moA 56 = 7 := rfl
theorem ni_56 : decide ((xMn 56).name = "<init>") = false := by decide +kernel
set_option maxRecDepth 100000 in
theorem xm_56 : xM 56 = some (cX3_isReached, 5, (some FieldType.boolean), 3) := rfl
theorem kk_58 : kkA 58 = kT58 := rfl
theorem mo_58 : moA 58 = 7 := rfl
theorem ni_58 : decide ((xMn 58).name = "<init>") = false := by decide +kernel
set_option maxRecDepth 100000 in
theorem xm_58 : xM 58 = some (cX3_mostOf, 4, (some FieldType.int), 2) := rfl
theorem kk_57 : kkA 57 = kT57 := rfl
theorem mo_57 : moA 57 = 7 := rfl
theorem ni_57 : decide ((xMn 57).name = "<init>") = false := by decide +kernel
set_option maxRecDepth 100000 in
theorem xm_57 : xM 57 = some (cX3_most, 4, (some FieldType.int), 2) := rfl
theorem kk_60 : kkA 60 = kT60 := rfl
theorem mo_60 : moA 60 = 8 := rfl
theorem ni_60 : decide ((xMn 60).name = "<init>") = false := by decide +kernel
set_option maxRecDepth 100000 in
theorem xm_60 : xM 60 = some (cX4_fill, 4, none, 3) := rfl
theorem kk_188 : kkA 188 = kT188 := rfl
theorem mo_188 : moA 188 = 14 := rfl
theorem ni_188 : decide ((xMn 188).name = "<init>") = false := by decide +kernel
set_option maxRecDepth 100000 in
theorem xm_188 : xM 188 = some (cX10_drawAlarm, 2, none, 1) := rfl
theorem kk_62 : kkA 62 = kT62 := rfl
theorem mo_62 : moA 62 = 9 := rfl
theorem ni_62 : decide ((xMn 62).name = "<init>") = false := by decide +kernel
set_option maxRecDepth 100000 in
theorem xm_62 : xM 62 = some (cX5_add, 3, none, 2) := rfl
theorem kk_105 : kkA 105 = kT105 := rfl
theorem mo_105 : moA 105 = 11 := rfl
theorem ni_105 : decide ((xMn 105).name = "<init>") = false := by decide +kernel
set_option maxRecDepth 100000 in
theorem xm_105 : xM 105 = some (cX7_add, 3, none, 2) := rfl
theorem kk_193 : kkA 193 = kT193 := rfl
theorem mo_193 : moA 193 = 14 := rfl
theorem ni_193 : decide ((xMn 193).name = "<init>") = false := by decide +kernel
set_option maxRecDepth 100000 in
theorem xm_193 : xM 193 = some (cX10_hasLetter, 2, (some FieldType.boolean), 1) := rfl
theorem kk_186 : kkA 186 = kT186 := rfl
theorem mo_186 : moA 186 = 14 := rfl
theorem ni_186 : decide ((xMn 186).name = "<init>") = false := by decide +kernel
set_option maxRecDepth 100000 in
theorem xm_186 : xM 186 = some (cX10_deferLetter, 4, none, 2) := rfl
theorem kk_187 : kkA 187 = kT187 := rfl
theorem mo_187 : moA 187 = 14 := rfl
theorem ni_187 : decide ((xMn 187).name = "<init>") = false := by decide +kernel
set_option maxRecDepth 100000 in
theorem xm_187 : xM 187 = some (cX10_doubleLetter, 4, none, 1) := rfl
theorem kk_190 : kkA 190 = kT190 := rfl
theorem mo_190 : moA 190 = 14 := rfl
theorem ni_190 : decide ((xMn 190).name = "<init>") = false := by decide +kernel
set_option maxRecDepth 100000 in
theorem xm_190 : xM 190 = some (cX10_dropLetter, 2, none, 1) := rfl
theorem kk_191 : kkA 191 = kT191 := rfl
theorem mo_191 : moA 191 = 14 := rfl
theorem ni_191 : decide ((xMn 191).name = "<init>") = false := by decide +kernel
set_option maxRecDepth 100000 in
theorem xm_191 : xM 191 = some (cX10_firstBell, 3, (some FieldType.int), 0) := rfl
theorem kk_192 : kkA 192 = kT192 := rfl
theorem mo_192 : moA 192 = 14 := rfl
theorem ni_192 : decide ((xMn 192).name = "<init>") = false := by decide +kernel
set_option maxRecDepth 100000 in
theorem xm_192 : xM 192 = some (cX10_firstLetter, 1, (some (FieldType.object "AgreedStore$Letter")), 0) := rfl
theorem kk_196 : kkA 196 = kT196 := rfl
theorem mo_196 : moA 196 = 14 := rfl
theorem ni_196 : decide ((xMn 196).name = "<init>") = false := by decide +kernel
set_option maxRecDepth 100000 in
theorem xm_196 : xM 196 = some (cX10_isBefore, 3, (some FieldType.boolean), 2) := rfl
theorem kk_201 : kkA 201 = kT201 := rfl
theorem mo_201 : moA 201 = 14 := rfl
theorem ni_201 : decide ((xMn 201).name = "<init>") = false := by decide +kernel
set_option maxRecDepth 100000 in
theorem xm_201 : xM 201 = some (cX10_takeBell, 2, none, 1) := rfl
theorem kk_202 : kkA 202 = kT202 := rfl
theorem mo_202 : moA 202 = 14 := rfl
theorem ni_202 : decide ((xMn 202).name = "<init>") = false := by decide +kernel
set_option maxRecDepth 100000 in
theorem xm_202 : xM 202 = some (cX10_takeFirstLetter, 1, none, 0) := rfl
