theorem dX0_init_0 : decode cX0_init 0 = .ok (.aload_n 0, 1) := by decide +kernel
theorem dX0_init_1 : decode cX0_init 1 = .ok (.invokespecial 3, 3) := by decide +kernel
theorem dX0_init_4 : decode cX0_init 4 = .ok (.aload_n 0, 1) := by decide +kernel
theorem dX0_init_5 : decode cX0_init 5 = .ok (.sipush 640, 3) := by decide +kernel
theorem dX0_init_8 : decode cX0_init 8 = .ok (.newarray .int, 2) := by decide +kernel
theorem dX0_init_10 : decode cX0_init 10 = .ok (.putfield 11, 3) := by decide +kernel
theorem dX0_init_13 : decode cX0_init 13 = .ok (.aload_n 0, 1) := by decide +kernel
theorem dX0_init_14 : decode cX0_init 14 = .ok (.sipush 2048, 3) := by decide +kernel
theorem dX0_init_17 : decode cX0_init 17 = .ok (.newarray .byte, 2) := by decide +kernel
theorem dX0_init_19 : decode cX0_init 19 = .ok (.putfield 15, 3) := by decide +kernel
theorem dX0_init_22 : decode cX0_init 22 = .ok (.return_, 1) := by decide +kernel
theorem dX0_add_0 : decode cX0_add 0 = .ok (.aload_n 0, 1) := by decide +kernel
theorem dX0_add_1 : decode cX0_add 1 = .ok (.getfield 19, 3) := by decide +kernel
theorem dX0_add_4 : decode cX0_add 4 = .ok (.bipush 10, 2) := by decide +kernel
theorem dX0_add_6 : decode cX0_add 6 = .ok (.imul, 1) := by decide +kernel
theorem dX0_add_7 : decode cX0_add 7 = .ok (.istore 5, 2) := by decide +kernel
theorem dX0_add_9 : decode cX0_add 9 = .ok (.aload_n 0, 1) := by decide +kernel
theorem dX0_add_10 : decode cX0_add 10 = .ok (.getfield 11, 3) := by decide +kernel
theorem dX0_add_13 : decode cX0_add 13 = .ok (.arraylength, 1) := by decide +kernel
theorem dX0_add_14 : decode cX0_add 14 = .ok (.iload 5, 2) := by decide +kernel
theorem dX0_add_16 : decode cX0_add 16 = .ok (.bipush 10, 2) := by decide +kernel
theorem dX0_add_18 : decode cX0_add 18 = .ok (.iadd, 1) := by decide +kernel
theorem dX0_add_19 : decode cX0_add 19 = .ok (.if_icmp .ge 21, 3) := by decide +kernel
theorem dX0_add_22 : decode cX0_add 22 = .ok (.aload_n 0, 1) := by decide +kernel
theorem dX0_add_23 : decode cX0_add 23 = .ok (.aload_n 0, 1) := by decide +kernel
theorem dX0_add_24 : decode cX0_add 24 = .ok (.getfield 11, 3) := by decide +kernel
theorem dX0_add_27 : decode cX0_add 27 = .ok (.iconst 2, 1) := by decide +kernel
theorem dX0_add_28 : decode cX0_add 28 = .ok (.iload 5, 2) := by decide +kernel
theorem dX0_add_30 : decode cX0_add 30 = .ok (.bipush 10, 2) := by decide +kernel
theorem dX0_add_32 : decode cX0_add 32 = .ok (.iadd, 1) := by decide +kernel
theorem dX0_add_33 : decode cX0_add 33 = .ok (.imul, 1) := by decide +kernel
theorem dX0_add_34 : decode cX0_add 34 = .ok (.invokestatic 23, 3) := by decide +kernel
theorem dX0_add_37 : decode cX0_add 37 = .ok (.putfield 11, 3) := by decide +kernel
theorem dX0_add_40 : decode cX0_add 40 = .ok (.aload_n 0, 1) := by decide +kernel
theorem dX0_add_41 : decode cX0_add 41 = .ok (.getfield 11, 3) := by decide +kernel
theorem dX0_add_44 : decode cX0_add 44 = .ok (.iload 5, 2) := by decide +kernel
theorem dX0_add_46 : decode cX0_add 46 = .ok (.iload_n 1, 1) := by decide +kernel
theorem dX0_add_47 : decode cX0_add 47 = .ok (.iastore, 1) := by decide +kernel
theorem dX0_add_48 : decode cX0_add 48 = .ok (.aload_n 0, 1) := by decide +kernel
theorem dX0_add_49 : decode cX0_add 49 = .ok (.getfield 11, 3) := by decide +kernel
theorem dX0_add_52 : decode cX0_add 52 = .ok (.iload 5, 2) := by decide +kernel
theorem dX0_add_54 : decode cX0_add 54 = .ok (.iconst 1, 1) := by decide +kernel
theorem dX0_add_55 : decode cX0_add 55 = .ok (.iadd, 1) := by decide +kernel
theorem dX0_add_56 : decode cX0_add 56 = .ok (.iload_n 2, 1) := by decide +kernel
theorem dX0_add_57 : decode cX0_add 57 = .ok (.iastore, 1) := by decide +kernel
theorem dX0_add_58 : decode cX0_add 58 = .ok (.aload_n 0, 1) := by decide +kernel
theorem dX0_add_59 : decode cX0_add 59 = .ok (.getfield 11, 3) := by decide +kernel
theorem dX0_add_62 : decode cX0_add 62 = .ok (.iload 5, 2) := by decide +kernel
theorem dX0_add_64 : decode cX0_add 64 = .ok (.iconst 2, 1) := by decide +kernel
theorem dX0_add_65 : decode cX0_add 65 = .ok (.iadd, 1) := by decide +kernel
theorem dX0_add_66 : decode cX0_add 66 = .ok (.aload_n 0, 1) := by decide +kernel
theorem dX0_add_67 : decode cX0_add 67 = .ok (.getfield 29, 3) := by decide +kernel
theorem dX0_add_70 : decode cX0_add 70 = .ok (.iastore, 1) := by decide +kernel
theorem dX0_add_71 : decode cX0_add 71 = .ok (.aload_n 0, 1) := by decide +kernel
theorem dX0_add_72 : decode cX0_add 72 = .ok (.getfield 11, 3) := by decide +kernel
theorem dX0_add_75 : decode cX0_add 75 = .ok (.iload 5, 2) := by decide +kernel
theorem dX0_add_77 : decode cX0_add 77 = .ok (.iconst 3, 1) := by decide +kernel
theorem dX0_add_78 : decode cX0_add 78 = .ok (.iadd, 1) := by decide +kernel
theorem dX0_add_79 : decode cX0_add 79 = .ok (.iconst (-1), 1) := by decide +kernel
theorem dX0_add_80 : decode cX0_add 80 = .ok (.iastore, 1) := by decide +kernel
theorem dX0_add_81 : decode cX0_add 81 = .ok (.aload_n 0, 1) := by decide +kernel
theorem dX0_add_82 : decode cX0_add 82 = .ok (.getfield 11, 3) := by decide +kernel
theorem dX0_add_85 : decode cX0_add 85 = .ok (.iload 5, 2) := by decide +kernel
theorem dX0_add_87 : decode cX0_add 87 = .ok (.iconst 4, 1) := by decide +kernel
theorem dX0_add_88 : decode cX0_add 88 = .ok (.iadd, 1) := by decide +kernel
theorem dX0_add_89 : decode cX0_add 89 = .ok (.iconst 0, 1) := by decide +kernel
theorem dX0_add_90 : decode cX0_add 90 = .ok (.iastore, 1) := by decide +kernel
theorem dX0_add_91 : decode cX0_add 91 = .ok (.aload_n 0, 1) := by decide +kernel
theorem dX0_add_92 : decode cX0_add 92 = .ok (.getfield 11, 3) := by decide +kernel
theorem dX0_add_95 : decode cX0_add 95 = .ok (.iload 5, 2) := by decide +kernel
theorem dX0_add_97 : decode cX0_add 97 = .ok (.iconst 5, 1) := by decide +kernel
theorem dX0_add_98 : decode cX0_add 98 = .ok (.iadd, 1) := by decide +kernel
theorem dX0_add_99 : decode cX0_add 99 = .ok (.iconst (-1), 1) := by decide +kernel
theorem dX0_add_100 : decode cX0_add 100 = .ok (.iastore, 1) := by decide +kernel
theorem dX0_add_101 : decode cX0_add 101 = .ok (.aload_n 0, 1) := by decide +kernel
theorem dX0_add_102 : decode cX0_add 102 = .ok (.getfield 11, 3) := by decide +kernel
theorem dX0_add_105 : decode cX0_add 105 = .ok (.iload 5, 2) := by decide +kernel
theorem dX0_add_107 : decode cX0_add 107 = .ok (.bipush 6, 2) := by decide +kernel
theorem dX0_add_109 : decode cX0_add 109 = .ok (.iadd, 1) := by decide +kernel
theorem dX0_add_110 : decode cX0_add 110 = .ok (.aload_n 0, 1) := by decide +kernel
theorem dX0_add_111 : decode cX0_add 111 = .ok (.getfield 32, 3) := by decide +kernel
theorem dX0_add_114 : decode cX0_add 114 = .ok (.iastore, 1) := by decide +kernel
theorem dX0_add_115 : decode cX0_add 115 = .ok (.aload_n 0, 1) := by decide +kernel
theorem dX0_add_116 : decode cX0_add 116 = .ok (.getfield 11, 3) := by decide +kernel
theorem dX0_add_119 : decode cX0_add 119 = .ok (.iload 5, 2) := by decide +kernel
theorem dX0_add_121 : decode cX0_add 121 = .ok (.bipush 7, 2) := by decide +kernel
theorem dX0_add_123 : decode cX0_add 123 = .ok (.iadd, 1) := by decide +kernel
theorem dX0_add_124 : decode cX0_add 124 = .ok (.iload_n 3, 1) := by decide +kernel
theorem dX0_add_125 : decode cX0_add 125 = .ok (.iastore, 1) := by decide +kernel
theorem dX0_add_126 : decode cX0_add 126 = .ok (.aload_n 0, 1) := by decide +kernel
theorem dX0_add_127 : decode cX0_add 127 = .ok (.getfield 11, 3) := by decide +kernel
theorem dX0_add_130 : decode cX0_add 130 = .ok (.iload 5, 2) := by decide +kernel
theorem dX0_add_132 : decode cX0_add 132 = .ok (.bipush 8, 2) := by decide +kernel
theorem dX0_add_134 : decode cX0_add 134 = .ok (.iadd, 1) := by decide +kernel
theorem dX0_add_135 : decode cX0_add 135 = .ok (.iload 4, 2) := by decide +kernel
theorem dX0_add_137 : decode cX0_add 137 = .ok (.iastore, 1) := by decide +kernel
theorem dX0_add_138 : decode cX0_add 138 = .ok (.aload_n 0, 1) := by decide +kernel
theorem dX0_add_139 : decode cX0_add 139 = .ok (.getfield 11, 3) := by decide +kernel
theorem dX0_add_142 : decode cX0_add 142 = .ok (.iload 5, 2) := by decide +kernel
theorem dX0_add_144 : decode cX0_add 144 = .ok (.bipush 9, 2) := by decide +kernel
theorem dX0_add_146 : decode cX0_add 146 = .ok (.iadd, 1) := by decide +kernel
theorem dX0_add_147 : decode cX0_add 147 = .ok (.iconst 0, 1) := by decide +kernel
theorem dX0_add_148 : decode cX0_add 148 = .ok (.iastore, 1) := by decide +kernel
theorem dX0_add_149 : decode cX0_add 149 = .ok (.aload_n 0, 1) := by decide +kernel
theorem dX0_add_150 : decode cX0_add 150 = .ok (.dup, 1) := by decide +kernel
theorem dX0_add_151 : decode cX0_add 151 = .ok (.getfield 29, 3) := by decide +kernel
theorem dX0_add_154 : decode cX0_add 154 = .ok (.iconst 1, 1) := by decide +kernel
theorem dX0_add_155 : decode cX0_add 155 = .ok (.iadd, 1) := by decide +kernel
theorem dX0_add_156 : decode cX0_add 156 = .ok (.putfield 29, 3) := by decide +kernel
theorem dX0_add_159 : decode cX0_add 159 = .ok (.aload_n 0, 1) := by decide +kernel
theorem dX0_add_160 : decode cX0_add 160 = .ok (.dup, 1) := by decide +kernel
theorem dX0_add_161 : decode cX0_add 161 = .ok (.getfield 19, 3) := by decide +kernel
theorem dX0_add_164 : decode cX0_add 164 = .ok (.iconst 1, 1) := by decide +kernel
theorem dX0_add_165 : decode cX0_add 165 = .ok (.iadd, 1) := by decide +kernel
theorem dX0_add_166 : decode cX0_add 166 = .ok (.putfield 19, 3) := by decide +kernel
theorem dX0_add_169 : decode cX0_add 169 = .ok (.aload_n 0, 1) := by decide +kernel
theorem dX0_add_170 : decode cX0_add 170 = .ok (.getfield 19, 3) := by decide +kernel
theorem dX0_add_173 : decode cX0_add 173 = .ok (.iconst 1, 1) := by decide +kernel
theorem dX0_add_174 : decode cX0_add 174 = .ok (.isub, 1) := by decide +kernel
theorem dX0_add_175 : decode cX0_add 175 = .ok (.ireturn, 1) := by decide +kernel
theorem dX0_addBytes_0 : decode cX0_addBytes 0 = .ok (.aload_n 0, 1) := by decide +kernel
theorem dX0_addBytes_1 : decode cX0_addBytes 1 = .ok (.getfield 15, 3) := by decide +kernel
theorem dX0_addBytes_4 : decode cX0_addBytes 4 = .ok (.arraylength, 1) := by decide +kernel
theorem dX0_addBytes_5 : decode cX0_addBytes 5 = .ok (.aload_n 0, 1) := by decide +kernel
theorem dX0_addBytes_6 : decode cX0_addBytes 6 = .ok (.getfield 32, 3) := by decide +kernel
theorem dX0_addBytes_9 : decode cX0_addBytes 9 = .ok (.iload_n 3, 1) := by decide +kernel
theorem dX0_addBytes_10 : decode cX0_addBytes 10 = .ok (.iadd, 1) := by decide +kernel
theorem dX0_addBytes_11 : decode cX0_addBytes 11 = .ok (.if_icmp .ge 22, 3) := by decide +kernel
theorem dX0_addBytes_14 : decode cX0_addBytes 14 = .ok (.aload_n 0, 1) := by decide +kernel
theorem dX0_addBytes_15 : decode cX0_addBytes 15 = .ok (.aload_n 0, 1) := by decide +kernel
theorem dX0_addBytes_16 : decode cX0_addBytes 16 = .ok (.getfield 15, 3) := by decide +kernel
theorem dX0_addBytes_19 : decode cX0_addBytes 19 = .ok (.iconst 2, 1) := by decide +kernel
theorem dX0_addBytes_20 : decode cX0_addBytes 20 = .ok (.aload_n 0, 1) := by decide +kernel
theorem dX0_addBytes_21 : decode cX0_addBytes 21 = .ok (.getfield 32, 3) := by decide +kernel
theorem dX0_addBytes_24 : decode cX0_addBytes 24 = .ok (.iload_n 3, 1) := by decide +kernel
theorem dX0_addBytes_25 : decode cX0_addBytes 25 = .ok (.iadd, 1) := by decide +kernel
theorem dX0_addBytes_26 : decode cX0_addBytes 26 = .ok (.imul, 1) := by decide +kernel
theorem dX0_addBytes_27 : decode cX0_addBytes 27 = .ok (.invokestatic 35, 3) := by decide +kernel
theorem dX0_addBytes_30 : decode cX0_addBytes 30 = .ok (.putfield 15, 3) := by decide +kernel
theorem dX0_addBytes_33 : decode cX0_addBytes 33 = .ok (.aload_n 2, 1) := by decide +kernel
theorem dX0_addBytes_34 : decode cX0_addBytes 34 = .ok (.iconst 0, 1) := by decide +kernel
theorem dX0_addBytes_35 : decode cX0_addBytes 35 = .ok (.aload_n 0, 1) := by decide +kernel
theorem dX0_addBytes_36 : decode cX0_addBytes 36 = .ok (.getfield 15, 3) := by decide +kernel
theorem dX0_addBytes_39 : decode cX0_addBytes 39 = .ok (.aload_n 0, 1) := by decide +kernel
theorem dX0_addBytes_40 : decode cX0_addBytes 40 = .ok (.getfield 32, 3) := by decide +kernel
theorem dX0_addBytes_43 : decode cX0_addBytes 43 = .ok (.iload_n 3, 1) := by decide +kernel
theorem dX0_addBytes_44 : decode cX0_addBytes 44 = .ok (.invokestatic 38, 3) := by decide +kernel
theorem dX0_addBytes_47 : decode cX0_addBytes 47 = .ok (.aload_n 0, 1) := by decide +kernel
theorem dX0_addBytes_48 : decode cX0_addBytes 48 = .ok (.dup, 1) := by decide +kernel
theorem dX0_addBytes_49 : decode cX0_addBytes 49 = .ok (.getfield 32, 3) := by decide +kernel
theorem dX0_addBytes_52 : decode cX0_addBytes 52 = .ok (.iload_n 3, 1) := by decide +kernel
theorem dX0_addBytes_53 : decode cX0_addBytes 53 = .ok (.iadd, 1) := by decide +kernel
theorem dX0_addBytes_54 : decode cX0_addBytes 54 = .ok (.putfield 32, 3) := by decide +kernel
theorem dX0_addBytes_57 : decode cX0_addBytes 57 = .ok (.aload_n 0, 1) := by decide +kernel
theorem dX0_addBytes_58 : decode cX0_addBytes 58 = .ok (.getfield 11, 3) := by decide +kernel
theorem dX0_addBytes_61 : decode cX0_addBytes 61 = .ok (.iload_n 1, 1) := by decide +kernel
theorem dX0_addBytes_62 : decode cX0_addBytes 62 = .ok (.bipush 10, 2) := by decide +kernel
theorem dX0_addBytes_64 : decode cX0_addBytes 64 = .ok (.imul, 1) := by decide +kernel
theorem dX0_addBytes_65 : decode cX0_addBytes 65 = .ok (.bipush 9, 2) := by decide +kernel
theorem dX0_addBytes_67 : decode cX0_addBytes 67 = .ok (.iadd, 1) := by decide +kernel
theorem dX0_addBytes_68 : decode cX0_addBytes 68 = .ok (.iload_n 3, 1) := by decide +kernel
theorem dX0_addBytes_69 : decode cX0_addBytes 69 = .ok (.iastore, 1) := by decide +kernel
theorem dX0_addBytes_70 : decode cX0_addBytes 70 = .ok (.return_, 1) := by decide +kernel
theorem dX0_tell_0 : decode cX0_tell 0 = .ok (.iload_n 1, 1) := by decide +kernel
theorem dX0_tell_1 : decode cX0_tell 1 = .ok (.ifCond .lt 11, 3) := by decide +kernel
theorem dX0_tell_4 : decode cX0_tell 4 = .ok (.iload_n 1, 1) := by decide +kernel
theorem dX0_tell_5 : decode cX0_tell 5 = .ok (.aload_n 0, 1) := by decide +kernel
theorem dX0_tell_6 : decode cX0_tell 6 = .ok (.getfield 19, 3) := by decide +kernel
theorem dX0_tell_9 : decode cX0_tell 9 = .ok (.if_icmp .lt 7, 3) := by decide +kernel
theorem dX0_tell_12 : decode cX0_tell 12 = .ok (.iconst 0, 1) := by decide +kernel
theorem dX0_tell_13 : decode cX0_tell 13 = .ok (.goto 14, 3) := by decide +kernel
theorem dX0_tell_16 : decode cX0_tell 16 = .ok (.aload_n 0, 1) := by decide +kernel
theorem dX0_tell_17 : decode cX0_tell 17 = .ok (.getfield 11, 3) := by decide +kernel
theorem dX0_tell_20 : decode cX0_tell 20 = .ok (.iload_n 1, 1) := by decide +kernel
theorem dX0_tell_21 : decode cX0_tell 21 = .ok (.bipush 10, 2) := by decide +kernel
theorem dX0_tell_23 : decode cX0_tell 23 = .ok (.imul, 1) := by decide +kernel
theorem dX0_tell_24 : decode cX0_tell 24 = .ok (.iload_n 2, 1) := by decide +kernel
theorem dX0_tell_25 : decode cX0_tell 25 = .ok (.iadd, 1) := by decide +kernel
theorem dX0_tell_26 : decode cX0_tell 26 = .ok (.iaload, 1) := by decide +kernel
theorem dX0_tell_27 : decode cX0_tell 27 = .ok (.ireturn, 1) := by decide +kernel
theorem dX0_setTold_0 : decode cX0_setTold 0 = .ok (.iload_n 1, 1) := by decide +kernel
theorem dX0_setTold_1 : decode cX0_setTold 1 = .ok (.bipush 10, 2) := by decide +kernel
theorem dX0_setTold_3 : decode cX0_setTold 3 = .ok (.imul, 1) := by decide +kernel
theorem dX0_setTold_4 : decode cX0_setTold 4 = .ok (.istore 4, 2) := by decide +kernel
theorem dX0_setTold_6 : decode cX0_setTold 6 = .ok (.aload_n 0, 1) := by decide +kernel
theorem dX0_setTold_7 : decode cX0_setTold 7 = .ok (.getfield 11, 3) := by decide +kernel
theorem dX0_setTold_10 : decode cX0_setTold 10 = .ok (.iload 4, 2) := by decide +kernel
theorem dX0_setTold_12 : decode cX0_setTold 12 = .ok (.iconst 3, 1) := by decide +kernel
theorem dX0_setTold_13 : decode cX0_setTold 13 = .ok (.iadd, 1) := by decide +kernel
theorem dX0_setTold_14 : decode cX0_setTold 14 = .ok (.aload_n 0, 1) := by decide +kernel
theorem dX0_setTold_15 : decode cX0_setTold 15 = .ok (.getfield 29, 3) := by decide +kernel
theorem dX0_setTold_18 : decode cX0_setTold 18 = .ok (.iastore, 1) := by decide +kernel
theorem dX0_setTold_19 : decode cX0_setTold 19 = .ok (.aload_n 0, 1) := by decide +kernel
theorem dX0_setTold_20 : decode cX0_setTold 20 = .ok (.getfield 11, 3) := by decide +kernel
theorem dX0_setTold_23 : decode cX0_setTold 23 = .ok (.iload 4, 2) := by decide +kernel
theorem dX0_setTold_25 : decode cX0_setTold 25 = .ok (.iconst 4, 1) := by decide +kernel
theorem dX0_setTold_26 : decode cX0_setTold 26 = .ok (.iadd, 1) := by decide +kernel
theorem dX0_setTold_27 : decode cX0_setTold 27 = .ok (.iload_n 2, 1) := by decide +kernel
theorem dX0_setTold_28 : decode cX0_setTold 28 = .ok (.iastore, 1) := by decide +kernel
theorem dX0_setTold_29 : decode cX0_setTold 29 = .ok (.aload_n 0, 1) := by decide +kernel
theorem dX0_setTold_30 : decode cX0_setTold 30 = .ok (.getfield 11, 3) := by decide +kernel
theorem dX0_setTold_33 : decode cX0_setTold 33 = .ok (.iload 4, 2) := by decide +kernel
theorem dX0_setTold_35 : decode cX0_setTold 35 = .ok (.iconst 5, 1) := by decide +kernel
theorem dX0_setTold_36 : decode cX0_setTold 36 = .ok (.iadd, 1) := by decide +kernel
theorem dX0_setTold_37 : decode cX0_setTold 37 = .ok (.iload_n 3, 1) := by decide +kernel
theorem dX0_setTold_38 : decode cX0_setTold 38 = .ok (.iastore, 1) := by decide +kernel
theorem dX0_setTold_39 : decode cX0_setTold 39 = .ok (.aload_n 0, 1) := by decide +kernel
theorem dX0_setTold_40 : decode cX0_setTold 40 = .ok (.dup, 1) := by decide +kernel
theorem dX0_setTold_41 : decode cX0_setTold 41 = .ok (.getfield 29, 3) := by decide +kernel
theorem dX0_setTold_44 : decode cX0_setTold 44 = .ok (.iconst 1, 1) := by decide +kernel
theorem dX0_setTold_45 : decode cX0_setTold 45 = .ok (.iadd, 1) := by decide +kernel
theorem dX0_setTold_46 : decode cX0_setTold 46 = .ok (.putfield 29, 3) := by decide +kernel
theorem dX0_setTold_49 : decode cX0_setTold 49 = .ok (.return_, 1) := by decide +kernel
theorem dX1_init_0 : decode cX1_init 0 = .ok (.aload_n 0, 1) := by decide +kernel
theorem dX1_init_1 : decode cX1_init 1 = .ok (.invokespecial 3, 3) := by decide +kernel
theorem dX1_init_4 : decode cX1_init 4 = .ok (.aload_n 0, 1) := by decide +kernel
theorem dX1_init_5 : decode cX1_init 5 = .ok (.iconst (-1), 1) := by decide +kernel
theorem dX1_init_6 : decode cX1_init 6 = .ok (.putfield 9, 3) := by decide +kernel
theorem dX1_init_9 : decode cX1_init 9 = .ok (.aload_n 0, 1) := by decide +kernel
theorem dX1_init_10 : decode cX1_init 10 = .ok (.iconst (-1), 1) := by decide +kernel
theorem dX1_init_11 : decode cX1_init 11 = .ok (.putfield 15, 3) := by decide +kernel
theorem dX1_init_14 : decode cX1_init 14 = .ok (.aload_n 0, 1) := by decide +kernel
theorem dX1_init_15 : decode cX1_init 15 = .ok (.sipush 134, 3) := by decide +kernel
theorem dX1_init_18 : decode cX1_init 18 = .ok (.newarray .byte, 2) := by decide +kernel
theorem dX1_init_20 : decode cX1_init 20 = .ok (.putfield 18, 3) := by decide +kernel
theorem dX1_init_23 : decode cX1_init 23 = .ok (.aload_n 0, 1) := by decide +kernel
theorem dX1_init_24 : decode cX1_init 24 = .ok (.iload_n 1, 1) := by decide +kernel
theorem dX1_init_25 : decode cX1_init 25 = .ok (.putfield 22, 3) := by decide +kernel
theorem dX1_init_28 : decode cX1_init 28 = .ok (.aload_n 0, 1) := by decide +kernel
theorem dX1_init_29 : decode cX1_init 29 = .ok (.aload_n 2, 1) := by decide +kernel
theorem dX1_init_30 : decode cX1_init 30 = .ok (.putfield 25, 3) := by decide +kernel
theorem dX1_init_33 : decode cX1_init 33 = .ok (.aload_n 0, 1) := by decide +kernel
theorem dX1_init_34 : decode cX1_init 34 = .ok (.aload_n 3, 1) := by decide +kernel
theorem dX1_init_35 : decode cX1_init 35 = .ok (.putfield 29, 3) := by decide +kernel
theorem dX1_init_38 : decode cX1_init 38 = .ok (.return_, 1) := by decide +kernel
theorem dX1_begin_0 : decode cX1_begin 0 = .ok (.aload_n 0, 1) := by decide +kernel
theorem dX1_begin_1 : decode cX1_begin 1 = .ok (.iconst 1, 1) := by decide +kernel
theorem dX1_begin_2 : decode cX1_begin 2 = .ok (.putfield 33, 3) := by decide +kernel
theorem dX1_begin_5 : decode cX1_begin 5 = .ok (.aload_n 0, 1) := by decide +kernel
theorem dX1_begin_6 : decode cX1_begin 6 = .ok (.iload_n 1, 1) := by decide +kernel
theorem dX1_begin_7 : decode cX1_begin 7 = .ok (.putfield 15, 3) := by decide +kernel
theorem dX1_begin_10 : decode cX1_begin 10 = .ok (.aload_n 0, 1) := by decide +kernel
theorem dX1_begin_11 : decode cX1_begin 11 = .ok (.iconst 0, 1) := by decide +kernel
theorem dX1_begin_12 : decode cX1_begin 12 = .ok (.putfield 37, 3) := by decide +kernel
theorem dX1_begin_15 : decode cX1_begin 15 = .ok (.aload_n 0, 1) := by decide +kernel
theorem dX1_begin_16 : decode cX1_begin 16 = .ok (.aload_n 0, 1) := by decide +kernel
theorem dX1_begin_17 : decode cX1_begin 17 = .ok (.invokevirtual 40, 3) := by decide +kernel
theorem dX1_begin_20 : decode cX1_begin 20 = .ok (.ifCond .eq 15, 3) := by decide +kernel
theorem dX1_begin_23 : decode cX1_begin 23 = .ok (.aload_n 0, 1) := by decide +kernel
theorem dX1_begin_24 : decode cX1_begin 24 = .ok (.getfield 9, 3) := by decide +kernel
theorem dX1_begin_27 : decode cX1_begin 27 = .ok (.iconst (-1), 1) := by decide +kernel
theorem dX1_begin_28 : decode cX1_begin 28 = .ok (.if_icmp .ne 7, 3) := by decide +kernel
theorem dX1_begin_31 : decode cX1_begin 31 = .ok (.iconst 1, 1) := by decide +kernel
theorem dX1_begin_32 : decode cX1_begin 32 = .ok (.goto 4, 3) := by decide +kernel
theorem dX1_begin_35 : decode cX1_begin 35 = .ok (.iconst 0, 1) := by decide +kernel
theorem dX1_begin_36 : decode cX1_begin 36 = .ok (.putfield 44, 3) := by decide +kernel
theorem dX1_begin_39 : decode cX1_begin 39 = .ok (.aload_n 0, 1) := by decide +kernel
theorem dX1_begin_40 : decode cX1_begin 40 = .ok (.invokevirtual 40, 3) := by decide +kernel
theorem dX1_begin_43 : decode cX1_begin 43 = .ok (.ifCond .eq 20, 3) := by decide +kernel
theorem dX1_begin_46 : decode cX1_begin 46 = .ok (.aload_n 0, 1) := by decide +kernel
theorem dX1_begin_47 : decode cX1_begin 47 = .ok (.getfield 44, 3) := by decide +kernel
theorem dX1_begin_50 : decode cX1_begin 50 = .ok (.ifCond .ne 13, 3) := by decide +kernel
theorem dX1_begin_53 : decode cX1_begin 53 = .ok (.aload_n 0, 1) := by decide +kernel
theorem dX1_begin_54 : decode cX1_begin 54 = .ok (.dup, 1) := by decide +kernel
theorem dX1_begin_55 : decode cX1_begin 55 = .ok (.getfield 47, 3) := by decide +kernel
theorem dX1_begin_58 : decode cX1_begin 58 = .ok (.iconst 1, 1) := by decide +kernel
theorem dX1_begin_59 : decode cX1_begin 59 = .ok (.iadd, 1) := by decide +kernel
theorem dX1_begin_60 : decode cX1_begin 60 = .ok (.putfield 47, 3) := by decide +kernel
theorem dX1_begin_63 : decode cX1_begin 63 = .ok (.aload_n 0, 1) := by decide +kernel
theorem dX1_begin_64 : decode cX1_begin 64 = .ok (.dup, 1) := by decide +kernel
theorem dX1_begin_65 : decode cX1_begin 65 = .ok (.getfield 50, 3) := by decide +kernel
theorem dX1_begin_68 : decode cX1_begin 68 = .ok (.iconst 1, 1) := by decide +kernel
theorem dX1_begin_69 : decode cX1_begin 69 = .ok (.iadd, 1) := by decide +kernel
theorem dX1_begin_70 : decode cX1_begin 70 = .ok (.putfield 50, 3) := by decide +kernel
theorem dX1_begin_73 : decode cX1_begin 73 = .ok (.aload_n 0, 1) := by decide +kernel
theorem dX1_begin_74 : decode cX1_begin 74 = .ok (.invokevirtual 53, 3) := by decide +kernel
theorem dX1_begin_77 : decode cX1_begin 77 = .ok (.return_, 1) := by decide +kernel
theorem dX1_isCommand_0 : decode cX1_isCommand 0 = .ok (.aload_n 0, 1) := by decide +kernel
theorem dX1_isCommand_1 : decode cX1_isCommand 1 = .ok (.getfield 29, 3) := by decide +kernel
theorem dX1_isCommand_4 : decode cX1_isCommand 4 = .ok (.aload_n 0, 1) := by decide +kernel
theorem dX1_isCommand_5 : decode cX1_isCommand 5 = .ok (.getfield 15, 3) := by decide +kernel
theorem dX1_isCommand_8 : decode cX1_isCommand 8 = .ok (.iconst 1, 1) := by decide +kernel
theorem dX1_isCommand_9 : decode cX1_isCommand 9 = .ok (.invokevirtual 58, 3) := by decide +kernel
theorem dX1_isCommand_12 : decode cX1_isCommand 12 = .ok (.iconst 2, 1) := by decide +kernel
theorem dX1_isCommand_13 : decode cX1_isCommand 13 = .ok (.if_icmp .gt 7, 3) := by decide +kernel
theorem dX1_isCommand_16 : decode cX1_isCommand 16 = .ok (.iconst 1, 1) := by decide +kernel
theorem dX1_isCommand_17 : decode cX1_isCommand 17 = .ok (.goto 4, 3) := by decide +kernel
theorem dX1_isCommand_20 : decode cX1_isCommand 20 = .ok (.iconst 0, 1) := by decide +kernel
theorem dX1_isCommand_21 : decode cX1_isCommand 21 = .ok (.ireturn, 1) := by decide +kernel
theorem dX1_sendRequest_0 : decode cX1_sendRequest 0 = .ok (.aload_n 0, 1) := by decide +kernel
theorem dX1_sendRequest_1 : decode cX1_sendRequest 1 = .ok (.dup, 1) := by decide +kernel
theorem dX1_sendRequest_2 : decode cX1_sendRequest 2 = .ok (.getfield 37, 3) := by decide +kernel
theorem dX1_sendRequest_5 : decode cX1_sendRequest 5 = .ok (.iconst 1, 1) := by decide +kernel
theorem dX1_sendRequest_6 : decode cX1_sendRequest 6 = .ok (.iadd, 1) := by decide +kernel
theorem dX1_sendRequest_7 : decode cX1_sendRequest 7 = .ok (.putfield 37, 3) := by decide +kernel
theorem dX1_sendRequest_10 : decode cX1_sendRequest 10 = .ok (.aload_n 0, 1) := by decide +kernel
theorem dX1_sendRequest_11 : decode cX1_sendRequest 11 = .ok (.getfield 37, 3) := by decide +kernel
theorem dX1_sendRequest_14 : decode cX1_sendRequest 14 = .ok (.bipush 40, 2) := by decide +kernel
theorem dX1_sendRequest_16 : decode cX1_sendRequest 16 = .ok (.if_icmp .le 8, 3) := by decide +kernel
theorem dX1_sendRequest_19 : decode cX1_sendRequest 19 = .ok (.aload_n 0, 1) := by decide +kernel
theorem dX1_sendRequest_20 : decode cX1_sendRequest 20 = .ok (.invokevirtual 62, 3) := by decide +kernel
theorem dX1_sendRequest_23 : decode cX1_sendRequest 23 = .ok (.return_, 1) := by decide +kernel
theorem dX1_sendRequest_24 : decode cX1_sendRequest 24 = .ok (.aload_n 0, 1) := by decide +kernel
theorem dX1_sendRequest_25 : decode cX1_sendRequest 25 = .ok (.getfield 25, 3) := by decide +kernel
theorem dX1_sendRequest_28 : decode cX1_sendRequest 28 = .ok (.invokevirtual 65, 3) := by decide +kernel
theorem dX1_sendRequest_31 : decode cX1_sendRequest 31 = .ok (.astore_n 1, 1) := by decide +kernel
theorem dX1_sendRequest_32 : decode cX1_sendRequest 32 = .ok (.aload_n 1, 1) := by decide +kernel
theorem dX1_sendRequest_33 : decode cX1_sendRequest 33 = .ok (.aload_n 0, 1) := by decide +kernel
theorem dX1_sendRequest_34 : decode cX1_sendRequest 34 = .ok (.getfield 22, 3) := by decide +kernel
theorem dX1_sendRequest_37 : decode cX1_sendRequest 37 = .ok (.putfield 71, 3) := by decide +kernel
theorem dX1_sendRequest_40 : decode cX1_sendRequest 40 = .ok (.aload_n 1, 1) := by decide +kernel
theorem dX1_sendRequest_41 : decode cX1_sendRequest 41 = .ok (.aload_n 0, 1) := by decide +kernel
theorem dX1_sendRequest_42 : decode cX1_sendRequest 42 = .ok (.getfield 76, 3) := by decide +kernel
theorem dX1_sendRequest_45 : decode cX1_sendRequest 45 = .ok (.putfield 79, 3) := by decide +kernel
theorem dX1_sendRequest_48 : decode cX1_sendRequest 48 = .ok (.aload_n 1, 1) := by decide +kernel
theorem dX1_sendRequest_49 : decode cX1_sendRequest 49 = .ok (.bipush 10, 2) := by decide +kernel
theorem dX1_sendRequest_51 : decode cX1_sendRequest 51 = .ok (.putfield 82, 3) := by decide +kernel
theorem dX1_sendRequest_54 : decode cX1_sendRequest 54 = .ok (.aload_n 1, 1) := by decide +kernel
theorem dX1_sendRequest_55 : decode cX1_sendRequest 55 = .ok (.aload_n 0, 1) := by decide +kernel
theorem dX1_sendRequest_56 : decode cX1_sendRequest 56 = .ok (.getfield 50, 3) := by decide +kernel
theorem dX1_sendRequest_59 : decode cX1_sendRequest 59 = .ok (.putfield 85, 3) := by decide +kernel
theorem dX1_sendRequest_62 : decode cX1_sendRequest 62 = .ok (.aload_n 1, 1) := by decide +kernel
theorem dX1_sendRequest_63 : decode cX1_sendRequest 63 = .ok (.aload_n 0, 1) := by decide +kernel
theorem dX1_sendRequest_64 : decode cX1_sendRequest 64 = .ok (.getfield 44, 3) := by decide +kernel
theorem dX1_sendRequest_67 : decode cX1_sendRequest 67 = .ok (.ifCond .eq 7, 3) := by decide +kernel
theorem dX1_sendRequest_70 : decode cX1_sendRequest 70 = .ok (.iconst 0, 1) := by decide +kernel
theorem dX1_sendRequest_71 : decode cX1_sendRequest 71 = .ok (.goto 15, 3) := by decide +kernel
theorem dX1_sendRequest_74 : decode cX1_sendRequest 74 = .ok (.aload_n 0, 1) := by decide +kernel
theorem dX1_sendRequest_75 : decode cX1_sendRequest 75 = .ok (.invokevirtual 40, 3) := by decide +kernel
theorem dX1_sendRequest_78 : decode cX1_sendRequest 78 = .ok (.ifCond .eq 7, 3) := by decide +kernel
theorem dX1_sendRequest_81 : decode cX1_sendRequest 81 = .ok (.iconst 1, 1) := by decide +kernel
theorem dX1_sendRequest_82 : decode cX1_sendRequest 82 = .ok (.goto 4, 3) := by decide +kernel
theorem dX1_sendRequest_85 : decode cX1_sendRequest 85 = .ok (.iconst 2, 1) := by decide +kernel
theorem dX1_sendRequest_86 : decode cX1_sendRequest 86 = .ok (.putfield 88, 3) := by decide +kernel
theorem dX1_sendRequest_89 : decode cX1_sendRequest 89 = .ok (.aload_n 1, 1) := by decide +kernel
theorem dX1_sendRequest_90 : decode cX1_sendRequest 90 = .ok (.aload_n 0, 1) := by decide +kernel
theorem dX1_sendRequest_91 : decode cX1_sendRequest 91 = .ok (.getfield 44, 3) := by decide +kernel
theorem dX1_sendRequest_94 : decode cX1_sendRequest 94 = .ok (.ifCond .eq 7, 3) := by decide +kernel
theorem dX1_sendRequest_97 : decode cX1_sendRequest 97 = .ok (.iconst 0, 1) := by decide +kernel
theorem dX1_sendRequest_98 : decode cX1_sendRequest 98 = .ok (.goto 7, 3) := by decide +kernel
theorem dX1_sendRequest_101 : decode cX1_sendRequest 101 = .ok (.aload_n 0, 1) := by decide +kernel
theorem dX1_sendRequest_102 : decode cX1_sendRequest 102 = .ok (.getfield 9, 3) := by decide +kernel
theorem dX1_sendRequest_105 : decode cX1_sendRequest 105 = .ok (.putfield 91, 3) := by decide +kernel
theorem dX1_sendRequest_108 : decode cX1_sendRequest 108 = .ok (.aload_n 1, 1) := by decide +kernel
theorem dX1_sendRequest_109 : decode cX1_sendRequest 109 = .ok (.aload_n 0, 1) := by decide +kernel
theorem dX1_sendRequest_110 : decode cX1_sendRequest 110 = .ok (.getfield 44, 3) := by decide +kernel
theorem dX1_sendRequest_113 : decode cX1_sendRequest 113 = .ok (.ifCond .eq 7, 3) := by decide +kernel
theorem dX1_sendRequest_116 : decode cX1_sendRequest 116 = .ok (.iconst 0, 1) := by decide +kernel
theorem dX1_sendRequest_117 : decode cX1_sendRequest 117 = .ok (.goto 7, 3) := by decide +kernel
theorem dX1_sendRequest_120 : decode cX1_sendRequest 120 = .ok (.aload_n 0, 1) := by decide +kernel
theorem dX1_sendRequest_121 : decode cX1_sendRequest 121 = .ok (.getfield 47, 3) := by decide +kernel
theorem dX1_sendRequest_124 : decode cX1_sendRequest 124 = .ok (.putfield 92, 3) := by decide +kernel
theorem dX1_sendRequest_127 : decode cX1_sendRequest 127 = .ok (.aload_n 1, 1) := by decide +kernel
theorem dX1_sendRequest_128 : decode cX1_sendRequest 128 = .ok (.aload_n 0, 1) := by decide +kernel
theorem dX1_sendRequest_129 : decode cX1_sendRequest 129 = .ok (.getfield 44, 3) := by decide +kernel
theorem dX1_sendRequest_132 : decode cX1_sendRequest 132 = .ok (.ifCond .eq 7, 3) := by decide +kernel
theorem dX1_sendRequest_135 : decode cX1_sendRequest 135 = .ok (.iconst (-1), 1) := by decide +kernel
theorem dX1_sendRequest_136 : decode cX1_sendRequest 136 = .ok (.goto 7, 3) := by decide +kernel
theorem dX1_sendRequest_139 : decode cX1_sendRequest 139 = .ok (.aload_n 0, 1) := by decide +kernel
theorem dX1_sendRequest_140 : decode cX1_sendRequest 140 = .ok (.getfield 15, 3) := by decide +kernel
theorem dX1_sendRequest_143 : decode cX1_sendRequest 143 = .ok (.putfield 93, 3) := by decide +kernel
theorem dX1_sendRequest_146 : decode cX1_sendRequest 146 = .ok (.aload_n 1, 1) := by decide +kernel
theorem dX1_sendRequest_147 : decode cX1_sendRequest 147 = .ok (.aload_n 0, 1) := by decide +kernel
theorem dX1_sendRequest_148 : decode cX1_sendRequest 148 = .ok (.getfield 44, 3) := by decide +kernel
theorem dX1_sendRequest_151 : decode cX1_sendRequest 151 = .ok (.ifCond .eq 7, 3) := by decide +kernel
theorem dX1_sendRequest_154 : decode cX1_sendRequest 154 = .ok (.iconst 2, 1) := by decide +kernel
theorem dX1_sendRequest_155 : decode cX1_sendRequest 155 = .ok (.goto 19, 3) := by decide +kernel
theorem dX1_sendRequest_158 : decode cX1_sendRequest 158 = .ok (.bipush 12, 2) := by decide +kernel
theorem dX1_sendRequest_160 : decode cX1_sendRequest 160 = .ok (.aload_n 0, 1) := by decide +kernel
theorem dX1_sendRequest_161 : decode cX1_sendRequest 161 = .ok (.getfield 29, 3) := by decide +kernel
theorem dX1_sendRequest_164 : decode cX1_sendRequest 164 = .ok (.aload_n 0, 1) := by decide +kernel
theorem dX1_sendRequest_165 : decode cX1_sendRequest 165 = .ok (.getfield 15, 3) := by decide +kernel
theorem dX1_sendRequest_168 : decode cX1_sendRequest 168 = .ok (.bipush 9, 2) := by decide +kernel
theorem dX1_sendRequest_170 : decode cX1_sendRequest 170 = .ok (.invokevirtual 58, 3) := by decide +kernel
theorem dX1_sendRequest_173 : decode cX1_sendRequest 173 = .ok (.iadd, 1) := by decide +kernel
theorem dX1_sendRequest_174 : decode cX1_sendRequest 174 = .ok (.putfield 94, 3) := by decide +kernel
theorem dX1_sendRequest_177 : decode cX1_sendRequest 177 = .ok (.aload_n 1, 1) := by decide +kernel
theorem dX1_sendRequest_178 : decode cX1_sendRequest 178 = .ok (.iconst 0, 1) := by decide +kernel
theorem dX1_sendRequest_179 : decode cX1_sendRequest 179 = .ok (.putfield 97, 3) := by decide +kernel
theorem dX1_sendRequest_182 : decode cX1_sendRequest 182 = .ok (.aload_n 0, 1) := by decide +kernel
theorem dX1_sendRequest_183 : decode cX1_sendRequest 183 = .ok (.getfield 25, 3) := by decide +kernel
theorem dX1_sendRequest_186 : decode cX1_sendRequest 186 = .ok (.aload_n 1, 1) := by decide +kernel
theorem dX1_sendRequest_187 : decode cX1_sendRequest 187 = .ok (.invokevirtual 100, 3) := by decide +kernel
theorem dX1_sendRequest_190 : decode cX1_sendRequest 190 = .ok (.aload_n 0, 1) := by decide +kernel
theorem dX1_sendRequest_191 : decode cX1_sendRequest 191 = .ok (.bipush 60, 2) := by decide +kernel
theorem dX1_sendRequest_193 : decode cX1_sendRequest 193 = .ok (.iconst 1, 1) := by decide +kernel
theorem dX1_sendRequest_194 : decode cX1_sendRequest 194 = .ok (.invokevirtual 104, 3) := by decide +kernel
theorem dX1_sendRequest_197 : decode cX1_sendRequest 197 = .ok (.return_, 1) := by decide +kernel
theorem dX1_setAlarm_0 : decode cX1_setAlarm 0 = .ok (.aload_n 0, 1) := by decide +kernel
theorem dX1_setAlarm_1 : decode cX1_setAlarm 1 = .ok (.getfield 25, 3) := by decide +kernel
theorem dX1_setAlarm_4 : decode cX1_setAlarm 4 = .ok (.aload_n 0, 1) := by decide +kernel
theorem dX1_setAlarm_5 : decode cX1_setAlarm 5 = .ok (.getfield 22, 3) := by decide +kernel
theorem dX1_setAlarm_8 : decode cX1_setAlarm 8 = .ok (.aload_n 0, 1) := by decide +kernel
theorem dX1_setAlarm_9 : decode cX1_setAlarm 9 = .ok (.getfield 25, 3) := by decide +kernel
theorem dX1_setAlarm_12 : decode cX1_setAlarm 12 = .ok (.getfield 108, 3) := by decide +kernel
theorem dX1_setAlarm_15 : decode cX1_setAlarm 15 = .ok (.iload_n 1, 1) := by decide +kernel
theorem dX1_setAlarm_16 : decode cX1_setAlarm 16 = .ok (.iadd, 1) := by decide +kernel
theorem dX1_setAlarm_17 : decode cX1_setAlarm 17 = .ok (.invokevirtual 111, 3) := by decide +kernel
theorem dX1_setAlarm_20 : decode cX1_setAlarm 20 = .ok (.aload_n 0, 1) := by decide +kernel
theorem dX1_setAlarm_21 : decode cX1_setAlarm 21 = .ok (.iload_n 2, 1) := by decide +kernel
theorem dX1_setAlarm_22 : decode cX1_setAlarm 22 = .ok (.putfield 115, 3) := by decide +kernel
theorem dX1_setAlarm_25 : decode cX1_setAlarm 25 = .ok (.return_, 1) := by decide +kernel
theorem dX1_turnToNext_0 : decode cX1_turnToNext 0 = .ok (.aload_n 0, 1) := by decide +kernel
theorem dX1_turnToNext_1 : decode cX1_turnToNext 1 = .ok (.aload_n 0, 1) := by decide +kernel
theorem dX1_turnToNext_2 : decode cX1_turnToNext 2 = .ok (.getfield 76, 3) := by decide +kernel
theorem dX1_turnToNext_5 : decode cX1_turnToNext 5 = .ok (.iconst 1, 1) := by decide +kernel
theorem dX1_turnToNext_6 : decode cX1_turnToNext 6 = .ok (.iadd, 1) := by decide +kernel
theorem dX1_turnToNext_7 : decode cX1_turnToNext 7 = .ok (.bipush 7, 2) := by decide +kernel
theorem dX1_turnToNext_9 : decode cX1_turnToNext 9 = .ok (.if_icmp .ge 12, 3) := by decide +kernel
theorem dX1_turnToNext_12 : decode cX1_turnToNext 12 = .ok (.aload_n 0, 1) := by decide +kernel
theorem dX1_turnToNext_13 : decode cX1_turnToNext 13 = .ok (.getfield 76, 3) := by decide +kernel
theorem dX1_turnToNext_16 : decode cX1_turnToNext 16 = .ok (.iconst 1, 1) := by decide +kernel
theorem dX1_turnToNext_17 : decode cX1_turnToNext 17 = .ok (.iadd, 1) := by decide +kernel
theorem dX1_turnToNext_18 : decode cX1_turnToNext 18 = .ok (.goto 4, 3) := by decide +kernel
theorem dX1_turnToNext_21 : decode cX1_turnToNext 21 = .ok (.iconst 0, 1) := by decide +kernel
theorem dX1_turnToNext_22 : decode cX1_turnToNext 22 = .ok (.putfield 76, 3) := by decide +kernel
theorem dX1_turnToNext_25 : decode cX1_turnToNext 25 = .ok (.return_, 1) := by decide +kernel
theorem dX1_wake_0 : decode cX1_wake 0 = .ok (.aload_n 0, 1) := by decide +kernel
theorem dX1_wake_1 : decode cX1_wake 1 = .ok (.getfield 115, 3) := by decide +kernel
theorem dX1_wake_4 : decode cX1_wake 4 = .ok (.ifCond .eq 7, 3) := by decide +kernel
theorem dX1_wake_7 : decode cX1_wake 7 = .ok (.aload_n 0, 1) := by decide +kernel
theorem dX1_wake_8 : decode cX1_wake 8 = .ok (.invokevirtual 118, 3) := by decide +kernel
theorem dX1_wake_11 : decode cX1_wake 11 = .ok (.aload_n 0, 1) := by decide +kernel
theorem dX1_wake_12 : decode cX1_wake 12 = .ok (.invokevirtual 53, 3) := by decide +kernel
theorem dX1_wake_15 : decode cX1_wake 15 = .ok (.return_, 1) := by decide +kernel
theorem dX1_hear_0 : decode cX1_hear 0 = .ok (.aload_n 0, 1) := by decide +kernel
theorem dX1_hear_1 : decode cX1_hear 1 = .ok (.getfield 33, 3) := by decide +kernel
theorem dX1_hear_4 : decode cX1_hear 4 = .ok (.ifCond .eq 14, 3) := by decide +kernel
theorem dX1_hear_7 : decode cX1_hear 7 = .ok (.aload_n 1, 1) := by decide +kernel
theorem dX1_hear_8 : decode cX1_hear 8 = .ok (.getfield 85, 3) := by decide +kernel
theorem dX1_hear_11 : decode cX1_hear 11 = .ok (.aload_n 0, 1) := by decide +kernel
theorem dX1_hear_12 : decode cX1_hear 12 = .ok (.getfield 50, 3) := by decide +kernel
theorem dX1_hear_15 : decode cX1_hear 15 = .ok (.if_icmp .eq 4, 3) := by decide +kernel
theorem dX1_hear_18 : decode cX1_hear 18 = .ok (.return_, 1) := by decide +kernel
theorem dX1_hear_19 : decode cX1_hear 19 = .ok (.aload_n 1, 1) := by decide +kernel
theorem dX1_hear_20 : decode cX1_hear 20 = .ok (.getfield 88, 3) := by decide +kernel
theorem dX1_hear_23 : decode cX1_hear 23 = .ok (.tableswitch 51 0 2 #[25, 33, 44], 25) := by decide +kernel
theorem dX1_hear_48 : decode cX1_hear 48 = .ok (.aload_n 0, 1) := by decide +kernel
theorem dX1_hear_49 : decode cX1_hear 49 = .ok (.aload_n 1, 1) := by decide +kernel
theorem dX1_hear_50 : decode cX1_hear 50 = .ok (.invokevirtual 121, 3) := by decide +kernel
theorem dX1_hear_53 : decode cX1_hear 53 = .ok (.goto 28, 3) := by decide +kernel
theorem dX1_hear_56 : decode cX1_hear 56 = .ok (.aload_n 0, 1) := by decide +kernel
theorem dX1_hear_57 : decode cX1_hear 57 = .ok (.aload_n 1, 1) := by decide +kernel
theorem dX1_hear_58 : decode cX1_hear 58 = .ok (.getfield 124, 3) := by decide +kernel
theorem dX1_hear_61 : decode cX1_hear 61 = .ok (.invokevirtual 127, 3) := by decide +kernel
theorem dX1_hear_64 : decode cX1_hear 64 = .ok (.goto 17, 3) := by decide +kernel
theorem dX1_hear_67 : decode cX1_hear 67 = .ok (.aload_n 0, 1) := by decide +kernel
theorem dX1_hear_68 : decode cX1_hear 68 = .ok (.invokevirtual 62, 3) := by decide +kernel
theorem dX1_hear_71 : decode cX1_hear 71 = .ok (.goto 10, 3) := by decide +kernel
theorem dX1_hear_74 : decode cX1_hear 74 = .ok (.aload_n 0, 1) := by decide +kernel
theorem dX1_hear_75 : decode cX1_hear 75 = .ok (.bipush 20, 2) := by decide +kernel
theorem dX1_hear_77 : decode cX1_hear 77 = .ok (.iconst 0, 1) := by decide +kernel
theorem dX1_hear_78 : decode cX1_hear 78 = .ok (.invokevirtual 104, 3) := by decide +kernel
theorem dX1_hear_81 : decode cX1_hear 81 = .ok (.return_, 1) := by decide +kernel
theorem dX1_hearDone_0 : decode cX1_hearDone 0 = .ok (.aload_n 0, 1) := by decide +kernel
theorem dX1_hearDone_1 : decode cX1_hearDone 1 = .ok (.getfield 44, 3) := by decide +kernel
theorem dX1_hearDone_4 : decode cX1_hearDone 4 = .ok (.ifCond .eq 36, 3) := by decide +kernel
theorem dX1_hearDone_7 : decode cX1_hearDone 7 = .ok (.aload_n 0, 1) := by decide +kernel
theorem dX1_hearDone_8 : decode cX1_hearDone 8 = .ok (.iconst 0, 1) := by decide +kernel
theorem dX1_hearDone_9 : decode cX1_hearDone 9 = .ok (.putfield 44, 3) := by decide +kernel
theorem dX1_hearDone_12 : decode cX1_hearDone 12 = .ok (.aload_n 0, 1) := by decide +kernel
theorem dX1_hearDone_13 : decode cX1_hearDone 13 = .ok (.aload_n 1, 1) := by decide +kernel
theorem dX1_hearDone_14 : decode cX1_hearDone 14 = .ok (.getfield 124, 3) := by decide +kernel
theorem dX1_hearDone_17 : decode cX1_hearDone 17 = .ok (.putfield 9, 3) := by decide +kernel
theorem dX1_hearDone_20 : decode cX1_hearDone 20 = .ok (.aload_n 0, 1) := by decide +kernel
theorem dX1_hearDone_21 : decode cX1_hearDone 21 = .ok (.iconst 1, 1) := by decide +kernel
theorem dX1_hearDone_22 : decode cX1_hearDone 22 = .ok (.putfield 47, 3) := by decide +kernel
theorem dX1_hearDone_25 : decode cX1_hearDone 25 = .ok (.aload_n 0, 1) := by decide +kernel
theorem dX1_hearDone_26 : decode cX1_hearDone 26 = .ok (.dup, 1) := by decide +kernel
theorem dX1_hearDone_27 : decode cX1_hearDone 27 = .ok (.getfield 50, 3) := by decide +kernel
theorem dX1_hearDone_30 : decode cX1_hearDone 30 = .ok (.iconst 1, 1) := by decide +kernel
theorem dX1_hearDone_31 : decode cX1_hearDone 31 = .ok (.iadd, 1) := by decide +kernel
theorem dX1_hearDone_32 : decode cX1_hearDone 32 = .ok (.putfield 50, 3) := by decide +kernel
theorem dX1_hearDone_35 : decode cX1_hearDone 35 = .ok (.aload_n 0, 1) := by decide +kernel
theorem dX1_hearDone_36 : decode cX1_hearDone 36 = .ok (.invokevirtual 53, 3) := by decide +kernel
theorem dX1_hearDone_39 : decode cX1_hearDone 39 = .ok (.return_, 1) := by decide +kernel
theorem dX1_hearDone_40 : decode cX1_hearDone 40 = .ok (.aload_n 0, 1) := by decide +kernel
theorem dX1_hearDone_41 : decode cX1_hearDone 41 = .ok (.aload_n 1, 1) := by decide +kernel
theorem dX1_hearDone_42 : decode cX1_hearDone 42 = .ok (.getfield 97, 3) := by decide +kernel
theorem dX1_hearDone_45 : decode cX1_hearDone 45 = .ok (.aload_n 0, 1) := by decide +kernel
theorem dX1_hearDone_46 : decode cX1_hearDone 46 = .ok (.getfield 18, 3) := by decide +kernel
theorem dX1_hearDone_49 : decode cX1_hearDone 49 = .ok (.arraylength, 1) := by decide +kernel
theorem dX1_hearDone_50 : decode cX1_hearDone 50 = .ok (.invokestatic 131, 3) := by decide +kernel
theorem dX1_hearDone_53 : decode cX1_hearDone 53 = .ok (.putfield 136, 3) := by decide +kernel
theorem dX1_hearDone_56 : decode cX1_hearDone 56 = .ok (.aload_n 1, 1) := by decide +kernel
theorem dX1_hearDone_57 : decode cX1_hearDone 57 = .ok (.getfield 139, 3) := by decide +kernel
theorem dX1_hearDone_60 : decode cX1_hearDone 60 = .ok (.iconst 0, 1) := by decide +kernel
theorem dX1_hearDone_61 : decode cX1_hearDone 61 = .ok (.aload_n 0, 1) := by decide +kernel
theorem dX1_hearDone_62 : decode cX1_hearDone 62 = .ok (.getfield 18, 3) := by decide +kernel
theorem dX1_hearDone_65 : decode cX1_hearDone 65 = .ok (.iconst 0, 1) := by decide +kernel
theorem dX1_hearDone_66 : decode cX1_hearDone 66 = .ok (.aload_n 0, 1) := by decide +kernel
theorem dX1_hearDone_67 : decode cX1_hearDone 67 = .ok (.getfield 136, 3) := by decide +kernel
theorem dX1_hearDone_70 : decode cX1_hearDone 70 = .ok (.invokestatic 142, 3) := by decide +kernel
theorem dX1_hearDone_73 : decode cX1_hearDone 73 = .ok (.aload_n 0, 1) := by decide +kernel
theorem dX1_hearDone_74 : decode cX1_hearDone 74 = .ok (.iconst 1, 1) := by decide +kernel
theorem dX1_hearDone_75 : decode cX1_hearDone 75 = .ok (.aload_n 1, 1) := by decide +kernel
theorem dX1_hearDone_76 : decode cX1_hearDone 76 = .ok (.getfield 124, 3) := by decide +kernel
theorem dX1_hearDone_79 : decode cX1_hearDone 79 = .ok (.invokevirtual 148, 3) := by decide +kernel
theorem dX1_hearDone_82 : decode cX1_hearDone 82 = .ok (.return_, 1) := by decide +kernel
theorem dX1_hearElsewhere_0 : decode cX1_hearElsewhere 0 = .ok (.iload_n 1, 1) := by decide +kernel
theorem dX1_hearElsewhere_1 : decode cX1_hearElsewhere 1 = .ok (.ifCond .lt 21, 3) := by decide +kernel
theorem dX1_hearElsewhere_4 : decode cX1_hearElsewhere 4 = .ok (.iload_n 1, 1) := by decide +kernel
theorem dX1_hearElsewhere_5 : decode cX1_hearElsewhere 5 = .ok (.bipush 7, 2) := by decide +kernel
theorem dX1_hearElsewhere_7 : decode cX1_hearElsewhere 7 = .ok (.if_icmp .ge 15, 3) := by decide +kernel
theorem dX1_hearElsewhere_10 : decode cX1_hearElsewhere 10 = .ok (.aload_n 0, 1) := by decide +kernel
theorem dX1_hearElsewhere_11 : decode cX1_hearElsewhere 11 = .ok (.iload_n 1, 1) := by decide +kernel
theorem dX1_hearElsewhere_12 : decode cX1_hearElsewhere 12 = .ok (.putfield 76, 3) := by decide +kernel
theorem dX1_hearElsewhere_15 : decode cX1_hearElsewhere 15 = .ok (.aload_n 0, 1) := by decide +kernel
theorem dX1_hearElsewhere_16 : decode cX1_hearElsewhere 16 = .ok (.invokevirtual 53, 3) := by decide +kernel
theorem dX1_hearElsewhere_19 : decode cX1_hearElsewhere 19 = .ok (.goto 13, 3) := by decide +kernel
theorem dX1_hearElsewhere_22 : decode cX1_hearElsewhere 22 = .ok (.aload_n 0, 1) := by decide +kernel
theorem dX1_hearElsewhere_23 : decode cX1_hearElsewhere 23 = .ok (.invokevirtual 118, 3) := by decide +kernel
theorem dX1_hearElsewhere_26 : decode cX1_hearElsewhere 26 = .ok (.aload_n 0, 1) := by decide +kernel
theorem dX1_hearElsewhere_27 : decode cX1_hearElsewhere 27 = .ok (.iconst 5, 1) := by decide +kernel
theorem dX1_hearElsewhere_28 : decode cX1_hearElsewhere 28 = .ok (.iconst 0, 1) := by decide +kernel
theorem dX1_hearElsewhere_29 : decode cX1_hearElsewhere 29 = .ok (.invokevirtual 104, 3) := by decide +kernel
theorem dX1_hearElsewhere_32 : decode cX1_hearElsewhere 32 = .ok (.return_, 1) := by decide +kernel
theorem dX1_giveIn_0 : decode cX1_giveIn 0 = .ok (.aload_n 0, 1) := by decide +kernel
theorem dX1_giveIn_1 : decode cX1_giveIn 1 = .ok (.invokevirtual 40, 3) := by decide +kernel
theorem dX1_giveIn_4 : decode cX1_giveIn 4 = .ok (.ifCond .eq 17, 3) := by decide +kernel
theorem dX1_giveIn_7 : decode cX1_giveIn 7 = .ok (.aload_n 0, 1) := by decide +kernel
theorem dX1_giveIn_8 : decode cX1_giveIn 8 = .ok (.iconst (-1), 1) := by decide +kernel
theorem dX1_giveIn_9 : decode cX1_giveIn 9 = .ok (.putfield 9, 3) := by decide +kernel
theorem dX1_giveIn_12 : decode cX1_giveIn 12 = .ok (.aload_n 0, 1) := by decide +kernel
theorem dX1_giveIn_13 : decode cX1_giveIn 13 = .ok (.iconst 2, 1) := by decide +kernel
theorem dX1_giveIn_14 : decode cX1_giveIn 14 = .ok (.iconst (-1), 1) := by decide +kernel
theorem dX1_giveIn_15 : decode cX1_giveIn 15 = .ok (.invokevirtual 148, 3) := by decide +kernel
theorem dX1_giveIn_18 : decode cX1_giveIn 18 = .ok (.goto 9, 3) := by decide +kernel
theorem dX1_giveIn_21 : decode cX1_giveIn 21 = .ok (.aload_n 0, 1) := by decide +kernel
theorem dX1_giveIn_22 : decode cX1_giveIn 22 = .ok (.iconst 3, 1) := by decide +kernel
theorem dX1_giveIn_23 : decode cX1_giveIn 23 = .ok (.iconst (-1), 1) := by decide +kernel
theorem dX1_giveIn_24 : decode cX1_giveIn 24 = .ok (.invokevirtual 148, 3) := by decide +kernel
theorem dX1_giveIn_27 : decode cX1_giveIn 27 = .ok (.return_, 1) := by decide +kernel
theorem dX1_beTold_0 : decode cX1_beTold 0 = .ok (.aload_n 0, 1) := by decide +kernel
theorem dX1_beTold_1 : decode cX1_beTold 1 = .ok (.iconst 0, 1) := by decide +kernel
theorem dX1_beTold_2 : decode cX1_beTold 2 = .ok (.putfield 33, 3) := by decide +kernel
theorem dX1_beTold_5 : decode cX1_beTold 5 = .ok (.aload_n 0, 1) := by decide +kernel
theorem dX1_beTold_6 : decode cX1_beTold 6 = .ok (.iconst 0, 1) := by decide +kernel
theorem dX1_beTold_7 : decode cX1_beTold 7 = .ok (.putfield 44, 3) := by decide +kernel
theorem dX1_beTold_10 : decode cX1_beTold 10 = .ok (.aload_n 0, 1) := by decide +kernel
theorem dX1_beTold_11 : decode cX1_beTold 11 = .ok (.iconst 0, 1) := by decide +kernel
theorem dX1_beTold_12 : decode cX1_beTold 12 = .ok (.putfield 115, 3) := by decide +kernel
theorem dX1_beTold_15 : decode cX1_beTold 15 = .ok (.aload_n 0, 1) := by decide +kernel
theorem dX1_beTold_16 : decode cX1_beTold 16 = .ok (.getfield 25, 3) := by decide +kernel
theorem dX1_beTold_19 : decode cX1_beTold 19 = .ok (.aload_n 0, 1) := by decide +kernel
theorem dX1_beTold_20 : decode cX1_beTold 20 = .ok (.getfield 22, 3) := by decide +kernel
theorem dX1_beTold_23 : decode cX1_beTold 23 = .ok (.invokevirtual 151, 3) := by decide +kernel
theorem dX1_beTold_26 : decode cX1_beTold 26 = .ok (.aload_n 0, 1) := by decide +kernel
theorem dX1_beTold_27 : decode cX1_beTold 27 = .ok (.getfield 29, 3) := by decide +kernel
theorem dX1_beTold_30 : decode cX1_beTold 30 = .ok (.aload_n 0, 1) := by decide +kernel
theorem dX1_beTold_31 : decode cX1_beTold 31 = .ok (.getfield 15, 3) := by decide +kernel
theorem dX1_beTold_34 : decode cX1_beTold 34 = .ok (.iload_n 1, 1) := by decide +kernel
theorem dX1_beTold_35 : decode cX1_beTold 35 = .ok (.iload_n 2, 1) := by decide +kernel
theorem dX1_beTold_36 : decode cX1_beTold 36 = .ok (.invokevirtual 154, 3) := by decide +kernel
theorem dX1_beTold_39 : decode cX1_beTold 39 = .ok (.return_, 1) := by decide +kernel
theorem dX2_init_0 : decode cX2_init 0 = .ok (.aload_n 0, 1) := by decide +kernel
theorem dX2_init_1 : decode cX2_init 1 = .ok (.invokespecial 3, 3) := by decide +kernel
theorem dX2_init_4 : decode cX2_init 4 = .ok (.aload_n 0, 1) := by decide +kernel
theorem dX2_init_5 : decode cX2_init 5 = .ok (.bipush 16, 2) := by decide +kernel
theorem dX2_init_7 : decode cX2_init 7 = .ok (.anewarray 9, 3) := by decide +kernel
theorem dX2_init_10 : decode cX2_init 10 = .ok (.putfield 11, 3) := by decide +kernel
theorem dX2_init_13 : decode cX2_init 13 = .ok (.aload_n 0, 1) := by decide +kernel
theorem dX2_init_14 : decode cX2_init 14 = .ok (.bipush 16, 2) := by decide +kernel
theorem dX2_init_16 : decode cX2_init 16 = .ok (.anewarray 9, 3) := by decide +kernel
theorem dX2_init_19 : decode cX2_init 19 = .ok (.putfield 17, 3) := by decide +kernel
theorem dX2_init_22 : decode cX2_init 22 = .ok (.aload_n 0, 1) := by decide +kernel
theorem dX2_init_23 : decode cX2_init 23 = .ok (.bipush 16, 2) := by decide +kernel
theorem dX2_init_25 : decode cX2_init 25 = .ok (.newarray .int, 2) := by decide +kernel
theorem dX2_init_27 : decode cX2_init 27 = .ok (.putfield 20, 3) := by decide +kernel
theorem dX2_init_30 : decode cX2_init 30 = .ok (.aload_n 0, 1) := by decide +kernel
theorem dX2_init_31 : decode cX2_init 31 = .ok (.bipush 16, 2) := by decide +kernel
theorem dX2_init_33 : decode cX2_init 33 = .ok (.newarray .int, 2) := by decide +kernel
theorem dX2_init_35 : decode cX2_init 35 = .ok (.putfield 24, 3) := by decide +kernel
theorem dX2_init_38 : decode cX2_init 38 = .ok (.aload_n 0, 1) := by decide +kernel
theorem dX2_init_39 : decode cX2_init 39 = .ok (.bipush 16, 2) := by decide +kernel
theorem dX2_init_41 : decode cX2_init 41 = .ok (.newarray .int, 2) := by decide +kernel
theorem dX2_init_43 : decode cX2_init 43 = .ok (.putfield 27, 3) := by decide +kernel
theorem dX2_init_46 : decode cX2_init 46 = .ok (.aload_n 0, 1) := by decide +kernel
theorem dX2_init_47 : decode cX2_init 47 = .ok (.iconst (-1), 1) := by decide +kernel
theorem dX2_init_48 : decode cX2_init 48 = .ok (.putfield 30, 3) := by decide +kernel
theorem dX2_init_51 : decode cX2_init 51 = .ok (.aload_n 0, 1) := by decide +kernel
theorem dX2_init_52 : decode cX2_init 52 = .ok (.iconst (-1), 1) := by decide +kernel
theorem dX2_init_53 : decode cX2_init 53 = .ok (.putfield 34, 3) := by decide +kernel
theorem dX2_init_56 : decode cX2_init 56 = .ok (.iconst 0, 1) := by decide +kernel
theorem dX2_init_57 : decode cX2_init 57 = .ok (.istore_n 1, 1) := by decide +kernel
theorem dX2_init_58 : decode cX2_init 58 = .ok (.iload_n 1, 1) := by decide +kernel
theorem dX2_init_59 : decode cX2_init 59 = .ok (.bipush 16, 2) := by decide +kernel
theorem dX2_init_61 : decode cX2_init 61 = .ok (.if_icmp .ge 54, 3) := by decide +kernel
theorem dX2_init_64 : decode cX2_init 64 = .ok (.aload_n 0, 1) := by decide +kernel
theorem dX2_init_65 : decode cX2_init 65 = .ok (.getfield 11, 3) := by decide +kernel
theorem dX2_init_68 : decode cX2_init 68 = .ok (.iload_n 1, 1) := by decide +kernel
theorem dX2_init_69 : decode cX2_init 69 = .ok (.new 9, 3) := by decide +kernel
theorem dX2_init_72 : decode cX2_init 72 = .ok (.dup, 1) := by decide +kernel
theorem dX2_init_73 : decode cX2_init 73 = .ok (.invokespecial 37, 3) := by decide +kernel
theorem dX2_init_76 : decode cX2_init 76 = .ok (.aastore, 1) := by decide +kernel
theorem dX2_init_77 : decode cX2_init 77 = .ok (.aload_n 0, 1) := by decide +kernel
theorem dX2_init_78 : decode cX2_init 78 = .ok (.getfield 17, 3) := by decide +kernel
theorem dX2_init_81 : decode cX2_init 81 = .ok (.iload_n 1, 1) := by decide +kernel
theorem dX2_init_82 : decode cX2_init 82 = .ok (.iload_n 1, 1) := by decide +kernel
theorem dX2_init_83 : decode cX2_init 83 = .ok (.iconst 2, 1) := by decide +kernel
theorem dX2_init_84 : decode cX2_init 84 = .ok (.if_icmp .lt 17, 3) := by decide +kernel
theorem dX2_init_87 : decode cX2_init 87 = .ok (.iload_n 1, 1) := by decide +kernel
theorem dX2_init_88 : decode cX2_init 88 = .ok (.iconst 4, 1) := by decide +kernel
theorem dX2_init_89 : decode cX2_init 89 = .ok (.if_icmp .ge 12, 3) := by decide +kernel
theorem dX2_init_92 : decode cX2_init 92 = .ok (.aload_n 0, 1) := by decide +kernel
theorem dX2_init_93 : decode cX2_init 93 = .ok (.getfield 11, 3) := by decide +kernel
theorem dX2_init_96 : decode cX2_init 96 = .ok (.iload_n 1, 1) := by decide +kernel
theorem dX2_init_97 : decode cX2_init 97 = .ok (.aaload, 1) := by decide +kernel
theorem dX2_init_98 : decode cX2_init 98 = .ok (.goto 10, 3) := by decide +kernel
theorem dX2_init_101 : decode cX2_init 101 = .ok (.new 9, 3) := by decide +kernel
theorem dX2_init_104 : decode cX2_init 104 = .ok (.dup, 1) := by decide +kernel
theorem dX2_init_105 : decode cX2_init 105 = .ok (.invokespecial 37, 3) := by decide +kernel
theorem dX2_init_108 : decode cX2_init 108 = .ok (.aastore, 1) := by decide +kernel
theorem dX2_init_109 : decode cX2_init 109 = .ok (.iinc 1 1, 3) := by decide +kernel
theorem dX2_init_112 : decode cX2_init 112 = .ok (.goto (-54), 3) := by decide +kernel
theorem dX2_init_115 : decode cX2_init 115 = .ok (.return_, 1) := by decide +kernel
theorem dX2_tell_0 : decode cX2_tell 0 = .ok (.iload_n 2, 1) := by decide +kernel
theorem dX2_tell_1 : decode cX2_tell 1 = .ok (.tableswitch 76 0 3 #[31, 41, 51, 58], 31) := by decide +kernel
theorem dX2_tell_32 : decode cX2_tell 32 = .ok (.aload_n 0, 1) := by decide +kernel
theorem dX2_tell_33 : decode cX2_tell 33 = .ok (.getfield 11, 3) := by decide +kernel
theorem dX2_tell_36 : decode cX2_tell 36 = .ok (.iload_n 1, 1) := by decide +kernel
theorem dX2_tell_37 : decode cX2_tell 37 = .ok (.aaload, 1) := by decide +kernel
theorem dX2_tell_38 : decode cX2_tell 38 = .ok (.getfield 38, 3) := by decide +kernel
theorem dX2_tell_41 : decode cX2_tell 41 = .ok (.ireturn, 1) := by decide +kernel
theorem dX2_tell_42 : decode cX2_tell 42 = .ok (.aload_n 0, 1) := by decide +kernel
theorem dX2_tell_43 : decode cX2_tell 43 = .ok (.getfield 17, 3) := by decide +kernel
theorem dX2_tell_46 : decode cX2_tell 46 = .ok (.iload_n 1, 1) := by decide +kernel
theorem dX2_tell_47 : decode cX2_tell 47 = .ok (.aaload, 1) := by decide +kernel
theorem dX2_tell_48 : decode cX2_tell 48 = .ok (.getfield 38, 3) := by decide +kernel
theorem dX2_tell_51 : decode cX2_tell 51 = .ok (.ireturn, 1) := by decide +kernel
theorem dX2_tell_52 : decode cX2_tell 52 = .ok (.aload_n 0, 1) := by decide +kernel
theorem dX2_tell_53 : decode cX2_tell 53 = .ok (.getfield 20, 3) := by decide +kernel
theorem dX2_tell_56 : decode cX2_tell 56 = .ok (.iload_n 1, 1) := by decide +kernel
theorem dX2_tell_57 : decode cX2_tell 57 = .ok (.iaload, 1) := by decide +kernel
theorem dX2_tell_58 : decode cX2_tell 58 = .ok (.ireturn, 1) := by decide +kernel
theorem dX2_tell_59 : decode cX2_tell 59 = .ok (.aload_n 0, 1) := by decide +kernel
theorem dX2_tell_60 : decode cX2_tell 60 = .ok (.getfield 11, 3) := by decide +kernel
theorem dX2_tell_63 : decode cX2_tell 63 = .ok (.iload_n 1, 1) := by decide +kernel
theorem dX2_tell_64 : decode cX2_tell 64 = .ok (.aaload, 1) := by decide +kernel
theorem dX2_tell_65 : decode cX2_tell 65 = .ok (.getfield 41, 3) := by decide +kernel
theorem dX2_tell_68 : decode cX2_tell 68 = .ok (.ifCond .eq 7, 3) := by decide +kernel
theorem dX2_tell_71 : decode cX2_tell 71 = .ok (.iconst 1, 1) := by decide +kernel
theorem dX2_tell_72 : decode cX2_tell 72 = .ok (.goto 4, 3) := by decide +kernel
theorem dX2_tell_75 : decode cX2_tell 75 = .ok (.iconst 0, 1) := by decide +kernel
theorem dX2_tell_76 : decode cX2_tell 76 = .ok (.ireturn, 1) := by decide +kernel
theorem dX2_tell_77 : decode cX2_tell 77 = .ok (.aload_n 0, 1) := by decide +kernel
theorem dX2_tell_78 : decode cX2_tell 78 = .ok (.getfield 17, 3) := by decide +kernel
theorem dX2_tell_81 : decode cX2_tell 81 = .ok (.iload_n 1, 1) := by decide +kernel
theorem dX2_tell_82 : decode cX2_tell 82 = .ok (.aaload, 1) := by decide +kernel
theorem dX2_tell_83 : decode cX2_tell 83 = .ok (.getfield 41, 3) := by decide +kernel
theorem dX2_tell_86 : decode cX2_tell 86 = .ok (.ifCond .eq 7, 3) := by decide +kernel
theorem dX2_tell_89 : decode cX2_tell 89 = .ok (.iconst 1, 1) := by decide +kernel
theorem dX2_tell_90 : decode cX2_tell 90 = .ok (.goto 4, 3) := by decide +kernel
theorem dX2_tell_93 : decode cX2_tell 93 = .ok (.iconst 0, 1) := by decide +kernel
theorem dX2_tell_94 : decode cX2_tell 94 = .ok (.ireturn, 1) := by decide +kernel
theorem dX2_writeSlot_0 : decode cX2_writeSlot 0 = .ok (.aload_n 0, 1) := by decide +kernel
theorem dX2_writeSlot_1 : decode cX2_writeSlot 1 = .ok (.getfield 45, 3) := by decide +kernel
theorem dX2_writeSlot_4 : decode cX2_writeSlot 4 = .ok (.ifCond .ne 20, 3) := by decide +kernel
theorem dX2_writeSlot_7 : decode cX2_writeSlot 7 = .ok (.aload_n 0, 1) := by decide +kernel
theorem dX2_writeSlot_8 : decode cX2_writeSlot 8 = .ok (.aload_n 0, 1) := by decide +kernel
theorem dX2_writeSlot_9 : decode cX2_writeSlot 9 = .ok (.getfield 30, 3) := by decide +kernel
theorem dX2_writeSlot_12 : decode cX2_writeSlot 12 = .ok (.iconst 1, 1) := by decide +kernel
theorem dX2_writeSlot_13 : decode cX2_writeSlot 13 = .ok (.if_icmp .ne 7, 3) := by decide +kernel
theorem dX2_writeSlot_16 : decode cX2_writeSlot 16 = .ok (.iconst 0, 1) := by decide +kernel
theorem dX2_writeSlot_17 : decode cX2_writeSlot 17 = .ok (.goto 4, 3) := by decide +kernel
theorem dX2_writeSlot_20 : decode cX2_writeSlot 20 = .ok (.iconst 1, 1) := by decide +kernel
theorem dX2_writeSlot_21 : decode cX2_writeSlot 21 = .ok (.putfield 30, 3) := by decide +kernel
theorem dX2_writeSlot_24 : decode cX2_writeSlot 24 = .ok (.aload_n 0, 1) := by decide +kernel
theorem dX2_writeSlot_25 : decode cX2_writeSlot 25 = .ok (.iconst 1, 1) := by decide +kernel
theorem dX2_writeSlot_26 : decode cX2_writeSlot 26 = .ok (.putfield 45, 3) := by decide +kernel
theorem dX2_writeSlot_29 : decode cX2_writeSlot 29 = .ok (.aload_n 0, 1) := by decide +kernel
theorem dX2_writeSlot_30 : decode cX2_writeSlot 30 = .ok (.dup, 1) := by decide +kernel
theorem dX2_writeSlot_31 : decode cX2_writeSlot 31 = .ok (.getfield 48, 3) := by decide +kernel
theorem dX2_writeSlot_34 : decode cX2_writeSlot 34 = .ok (.iconst 1, 1) := by decide +kernel
theorem dX2_writeSlot_35 : decode cX2_writeSlot 35 = .ok (.iadd, 1) := by decide +kernel
theorem dX2_writeSlot_36 : decode cX2_writeSlot 36 = .ok (.putfield 48, 3) := by decide +kernel
theorem dX2_writeSlot_39 : decode cX2_writeSlot 39 = .ok (.aload_n 0, 1) := by decide +kernel
theorem dX2_writeSlot_40 : decode cX2_writeSlot 40 = .ok (.getfield 20, 3) := by decide +kernel
theorem dX2_writeSlot_43 : decode cX2_writeSlot 43 = .ok (.aload_n 0, 1) := by decide +kernel
theorem dX2_writeSlot_44 : decode cX2_writeSlot 44 = .ok (.getfield 30, 3) := by decide +kernel
theorem dX2_writeSlot_47 : decode cX2_writeSlot 47 = .ok (.iconst 0, 1) := by decide +kernel
theorem dX2_writeSlot_48 : decode cX2_writeSlot 48 = .ok (.iastore, 1) := by decide +kernel
theorem dX2_writeSlot_49 : decode cX2_writeSlot 49 = .ok (.aload_n 0, 1) := by decide +kernel
theorem dX2_writeSlot_50 : decode cX2_writeSlot 50 = .ok (.getfield 11, 3) := by decide +kernel
theorem dX2_writeSlot_53 : decode cX2_writeSlot 53 = .ok (.aload_n 0, 1) := by decide +kernel
theorem dX2_writeSlot_54 : decode cX2_writeSlot 54 = .ok (.getfield 30, 3) := by decide +kernel
theorem dX2_writeSlot_57 : decode cX2_writeSlot 57 = .ok (.aaload, 1) := by decide +kernel
theorem dX2_writeSlot_58 : decode cX2_writeSlot 58 = .ok (.bipush 32, 2) := by decide +kernel
theorem dX2_writeSlot_60 : decode cX2_writeSlot 60 = .ok (.aload_n 0, 1) := by decide +kernel
theorem dX2_writeSlot_61 : decode cX2_writeSlot 61 = .ok (.getfield 48, 3) := by decide +kernel
theorem dX2_writeSlot_64 : decode cX2_writeSlot 64 = .ok (.iload_n 1, 1) := by decide +kernel
theorem dX2_writeSlot_65 : decode cX2_writeSlot 65 = .ok (.iload_n 2, 1) := by decide +kernel
theorem dX2_writeSlot_66 : decode cX2_writeSlot 66 = .ok (.invokevirtual 51, 3) := by decide +kernel
theorem dX2_writeSlot_69 : decode cX2_writeSlot 69 = .ok (.return_, 1) := by decide +kernel
theorem dX2_writeSnapshot_0 : decode cX2_writeSnapshot 0 = .ok (.aload_n 0, 1) := by decide +kernel
theorem dX2_writeSnapshot_1 : decode cX2_writeSnapshot 1 = .ok (.aload_n 0, 1) := by decide +kernel
theorem dX2_writeSnapshot_2 : decode cX2_writeSnapshot 2 = .ok (.getfield 34, 3) := by decide +kernel
theorem dX2_writeSnapshot_5 : decode cX2_writeSnapshot 5 = .ok (.iconst 2, 1) := by decide +kernel
theorem dX2_writeSnapshot_6 : decode cX2_writeSnapshot 6 = .ok (.if_icmp .ne 7, 3) := by decide +kernel
theorem dX2_writeSnapshot_9 : decode cX2_writeSnapshot 9 = .ok (.iconst 3, 1) := by decide +kernel
theorem dX2_writeSnapshot_10 : decode cX2_writeSnapshot 10 = .ok (.goto 4, 3) := by decide +kernel
theorem dX2_writeSnapshot_13 : decode cX2_writeSnapshot 13 = .ok (.iconst 2, 1) := by decide +kernel
theorem dX2_writeSnapshot_14 : decode cX2_writeSnapshot 14 = .ok (.putfield 34, 3) := by decide +kernel
theorem dX2_writeSnapshot_17 : decode cX2_writeSnapshot 17 = .ok (.aload_n 0, 1) := by decide +kernel
theorem dX2_writeSnapshot_18 : decode cX2_writeSnapshot 18 = .ok (.getfield 11, 3) := by decide +kernel
theorem dX2_writeSnapshot_21 : decode cX2_writeSnapshot 21 = .ok (.aload_n 0, 1) := by decide +kernel
theorem dX2_writeSnapshot_22 : decode cX2_writeSnapshot 22 = .ok (.getfield 34, 3) := by decide +kernel
theorem dX2_writeSnapshot_25 : decode cX2_writeSnapshot 25 = .ok (.aaload, 1) := by decide +kernel
theorem dX2_writeSnapshot_26 : decode cX2_writeSnapshot 26 = .ok (.astore 6, 2) := by decide +kernel
theorem dX2_writeSnapshot_28 : decode cX2_writeSnapshot 28 = .ok (.aload 6, 2) := by decide +kernel
theorem dX2_writeSnapshot_30 : decode cX2_writeSnapshot 30 = .ok (.bipush 20, 2) := by decide +kernel
theorem dX2_writeSnapshot_32 : decode cX2_writeSnapshot 32 = .ok (.iload 5, 2) := by decide +kernel
theorem dX2_writeSnapshot_34 : decode cX2_writeSnapshot 34 = .ok (.iadd, 1) := by decide +kernel
theorem dX2_writeSnapshot_35 : decode cX2_writeSnapshot 35 = .ok (.iload_n 1, 1) := by decide +kernel
theorem dX2_writeSnapshot_36 : decode cX2_writeSnapshot 36 = .ok (.iload_n 2, 1) := by decide +kernel
theorem dX2_writeSnapshot_37 : decode cX2_writeSnapshot 37 = .ok (.iload_n 3, 1) := by decide +kernel
theorem dX2_writeSnapshot_38 : decode cX2_writeSnapshot 38 = .ok (.invokevirtual 51, 3) := by decide +kernel
theorem dX2_writeSnapshot_41 : decode cX2_writeSnapshot 41 = .ok (.aload 6, 2) := by decide +kernel
theorem dX2_writeSnapshot_43 : decode cX2_writeSnapshot 43 = .ok (.iload 5, 2) := by decide +kernel
theorem dX2_writeSnapshot_45 : decode cX2_writeSnapshot 45 = .ok (.invokevirtual 55, 3) := by decide +kernel
theorem dX2_writeSnapshot_48 : decode cX2_writeSnapshot 48 = .ok (.aload 4, 2) := by decide +kernel
theorem dX2_writeSnapshot_50 : decode cX2_writeSnapshot 50 = .ok (.iconst 0, 1) := by decide +kernel
theorem dX2_writeSnapshot_51 : decode cX2_writeSnapshot 51 = .ok (.aload 6, 2) := by decide +kernel
theorem dX2_writeSnapshot_53 : decode cX2_writeSnapshot 53 = .ok (.getfield 59, 3) := by decide +kernel
theorem dX2_writeSnapshot_56 : decode cX2_writeSnapshot 56 = .ok (.iconst 0, 1) := by decide +kernel
theorem dX2_writeSnapshot_57 : decode cX2_writeSnapshot 57 = .ok (.iload 5, 2) := by decide +kernel
theorem dX2_writeSnapshot_59 : decode cX2_writeSnapshot 59 = .ok (.invokestatic 63, 3) := by decide +kernel
theorem dX2_writeSnapshot_62 : decode cX2_writeSnapshot 62 = .ok (.aload 6, 2) := by decide +kernel
theorem dX2_writeSnapshot_64 : decode cX2_writeSnapshot 64 = .ok (.iload 5, 2) := by decide +kernel
theorem dX2_writeSnapshot_66 : decode cX2_writeSnapshot 66 = .ok (.putfield 69, 3) := by decide +kernel
theorem dX2_writeSnapshot_69 : decode cX2_writeSnapshot 69 = .ok (.aload_n 0, 1) := by decide +kernel
theorem dX2_writeSnapshot_70 : decode cX2_writeSnapshot 70 = .ok (.getfield 20, 3) := by decide +kernel
theorem dX2_writeSnapshot_73 : decode cX2_writeSnapshot 73 = .ok (.aload_n 0, 1) := by decide +kernel
theorem dX2_writeSnapshot_74 : decode cX2_writeSnapshot 74 = .ok (.getfield 34, 3) := by decide +kernel
theorem dX2_writeSnapshot_77 : decode cX2_writeSnapshot 77 = .ok (.aload 6, 2) := by decide +kernel
theorem dX2_writeSnapshot_79 : decode cX2_writeSnapshot 79 = .ok (.getfield 38, 3) := by decide +kernel
theorem dX2_writeSnapshot_82 : decode cX2_writeSnapshot 82 = .ok (.iastore, 1) := by decide +kernel
theorem dX2_writeSnapshot_83 : decode cX2_writeSnapshot 83 = .ok (.return_, 1) := by decide +kernel
theorem dX2_snapshotSize_0 : decode cX2_snapshotSize 0 = .ok (.aload_n 0, 1) := by decide +kernel
theorem dX2_snapshotSize_1 : decode cX2_snapshotSize 1 = .ok (.getfield 34, 3) := by decide +kernel
theorem dX2_snapshotSize_4 : decode cX2_snapshotSize 4 = .ok (.iconst (-1), 1) := by decide +kernel
theorem dX2_snapshotSize_5 : decode cX2_snapshotSize 5 = .ok (.if_icmp .ne 7, 3) := by decide +kernel
theorem dX2_snapshotSize_8 : decode cX2_snapshotSize 8 = .ok (.iconst 0, 1) := by decide +kernel
theorem dX2_snapshotSize_9 : decode cX2_snapshotSize 9 = .ok (.goto 15, 3) := by decide +kernel
theorem dX2_snapshotSize_12 : decode cX2_snapshotSize 12 = .ok (.aload_n 0, 1) := by decide +kernel
theorem dX2_snapshotSize_13 : decode cX2_snapshotSize 13 = .ok (.getfield 11, 3) := by decide +kernel
theorem dX2_snapshotSize_16 : decode cX2_snapshotSize 16 = .ok (.aload_n 0, 1) := by decide +kernel
theorem dX2_snapshotSize_17 : decode cX2_snapshotSize 17 = .ok (.getfield 34, 3) := by decide +kernel
theorem dX2_snapshotSize_20 : decode cX2_snapshotSize 20 = .ok (.aaload, 1) := by decide +kernel
theorem dX2_snapshotSize_21 : decode cX2_snapshotSize 21 = .ok (.getfield 69, 3) := by decide +kernel
theorem dX2_snapshotSize_24 : decode cX2_snapshotSize 24 = .ok (.ireturn, 1) := by decide +kernel
theorem dX2_append_0 : decode cX2_append 0 = .ok (.aload_n 0, 1) := by decide +kernel
theorem dX2_append_1 : decode cX2_append 1 = .ok (.getfield 72, 3) := by decide +kernel
theorem dX2_append_4 : decode cX2_append 4 = .ok (.ifCond .eq 28, 3) := by decide +kernel
theorem dX2_append_7 : decode cX2_append 7 = .ok (.aload_n 0, 1) := by decide +kernel
theorem dX2_append_8 : decode cX2_append 8 = .ok (.getfield 11, 3) := by decide +kernel
theorem dX2_append_11 : decode cX2_append 11 = .ok (.aload_n 0, 1) := by decide +kernel
theorem dX2_append_12 : decode cX2_append 12 = .ok (.getfield 27, 3) := by decide +kernel
theorem dX2_append_15 : decode cX2_append 15 = .ok (.aload_n 0, 1) := by decide +kernel
theorem dX2_append_16 : decode cX2_append 16 = .ok (.getfield 72, 3) := by decide +kernel
theorem dX2_append_19 : decode cX2_append 19 = .ok (.iconst 1, 1) := by decide +kernel
theorem dX2_append_20 : decode cX2_append 20 = .ok (.isub, 1) := by decide +kernel
theorem dX2_append_21 : decode cX2_append 21 = .ok (.iaload, 1) := by decide +kernel
theorem dX2_append_22 : decode cX2_append 22 = .ok (.aaload, 1) := by decide +kernel
theorem dX2_append_23 : decode cX2_append 23 = .ok (.getfield 38, 3) := by decide +kernel
theorem dX2_append_26 : decode cX2_append 26 = .ok (.sipush 8000, 3) := by decide +kernel
theorem dX2_append_29 : decode cX2_append 29 = .ok (.if_icmp .le 10, 3) := by decide +kernel
theorem dX2_append_32 : decode cX2_append 32 = .ok (.aload_n 0, 1) := by decide +kernel
theorem dX2_append_33 : decode cX2_append 33 = .ok (.iload_n 3, 1) := by decide +kernel
theorem dX2_append_34 : decode cX2_append 34 = .ok (.iload 4, 2) := by decide +kernel
theorem dX2_append_36 : decode cX2_append 36 = .ok (.invokevirtual 75, 3) := by decide +kernel
theorem dX2_append_39 : decode cX2_append 39 = .ok (.aload_n 0, 1) := by decide +kernel
theorem dX2_append_40 : decode cX2_append 40 = .ok (.getfield 72, 3) := by decide +kernel
theorem dX2_append_43 : decode cX2_append 43 = .ok (.ifCond .le 24, 3) := by decide +kernel
theorem dX2_append_46 : decode cX2_append 46 = .ok (.aload_n 0, 1) := by decide +kernel
theorem dX2_append_47 : decode cX2_append 47 = .ok (.getfield 11, 3) := by decide +kernel
theorem dX2_append_50 : decode cX2_append 50 = .ok (.aload_n 0, 1) := by decide +kernel
theorem dX2_append_51 : decode cX2_append 51 = .ok (.getfield 27, 3) := by decide +kernel
theorem dX2_append_54 : decode cX2_append 54 = .ok (.aload_n 0, 1) := by decide +kernel
theorem dX2_append_55 : decode cX2_append 55 = .ok (.getfield 72, 3) := by decide +kernel
theorem dX2_append_58 : decode cX2_append 58 = .ok (.iconst 1, 1) := by decide +kernel
theorem dX2_append_59 : decode cX2_append 59 = .ok (.isub, 1) := by decide +kernel
theorem dX2_append_60 : decode cX2_append 60 = .ok (.iaload, 1) := by decide +kernel
theorem dX2_append_61 : decode cX2_append 61 = .ok (.aaload, 1) := by decide +kernel
theorem dX2_append_62 : decode cX2_append 62 = .ok (.aload_n 1, 1) := by decide +kernel
theorem dX2_append_63 : decode cX2_append 63 = .ok (.iload_n 2, 1) := by decide +kernel
theorem dX2_append_64 : decode cX2_append 64 = .ok (.invokevirtual 79, 3) := by decide +kernel
theorem dX2_append_67 : decode cX2_append 67 = .ok (.return_, 1) := by decide +kernel
theorem dX2_openSegment_0 : decode cX2_openSegment 0 = .ok (.iconst 4, 1) := by decide +kernel
theorem dX2_openSegment_1 : decode cX2_openSegment 1 = .ok (.istore_n 3, 1) := by decide +kernel
theorem dX2_openSegment_2 : decode cX2_openSegment 2 = .ok (.iload_n 3, 1) := by decide +kernel
theorem dX2_openSegment_3 : decode cX2_openSegment 3 = .ok (.bipush 16, 2) := by decide +kernel
theorem dX2_openSegment_5 : decode cX2_openSegment 5 = .ok (.if_icmp .ge 70, 3) := by decide +kernel
theorem dX2_openSegment_8 : decode cX2_openSegment 8 = .ok (.aload_n 0, 1) := by decide +kernel
theorem dX2_openSegment_9 : decode cX2_openSegment 9 = .ok (.getfield 11, 3) := by decide +kernel
theorem dX2_openSegment_12 : decode cX2_openSegment 12 = .ok (.iload_n 3, 1) := by decide +kernel
theorem dX2_openSegment_13 : decode cX2_openSegment 13 = .ok (.aaload, 1) := by decide +kernel
theorem dX2_openSegment_14 : decode cX2_openSegment 14 = .ok (.getfield 41, 3) := by decide +kernel
theorem dX2_openSegment_17 : decode cX2_openSegment 17 = .ok (.ifCond .ne 52, 3) := by decide +kernel
theorem dX2_openSegment_20 : decode cX2_openSegment 20 = .ok (.aload_n 0, 1) := by decide +kernel
theorem dX2_openSegment_21 : decode cX2_openSegment 21 = .ok (.getfield 11, 3) := by decide +kernel
theorem dX2_openSegment_24 : decode cX2_openSegment 24 = .ok (.iload_n 3, 1) := by decide +kernel
theorem dX2_openSegment_25 : decode cX2_openSegment 25 = .ok (.aaload, 1) := by decide +kernel
theorem dX2_openSegment_26 : decode cX2_openSegment 26 = .ok (.bipush 24, 2) := by decide +kernel
theorem dX2_openSegment_28 : decode cX2_openSegment 28 = .ok (.iload_n 1, 1) := by decide +kernel
theorem dX2_openSegment_29 : decode cX2_openSegment 29 = .ok (.iload_n 2, 1) := by decide +kernel
theorem dX2_openSegment_30 : decode cX2_openSegment 30 = .ok (.iconst 0, 1) := by decide +kernel
theorem dX2_openSegment_31 : decode cX2_openSegment 31 = .ok (.invokevirtual 51, 3) := by decide +kernel
theorem dX2_openSegment_34 : decode cX2_openSegment 34 = .ok (.aload_n 0, 1) := by decide +kernel
theorem dX2_openSegment_35 : decode cX2_openSegment 35 = .ok (.getfield 20, 3) := by decide +kernel
theorem dX2_openSegment_38 : decode cX2_openSegment 38 = .ok (.iload_n 3, 1) := by decide +kernel
theorem dX2_openSegment_39 : decode cX2_openSegment 39 = .ok (.iconst 0, 1) := by decide +kernel
theorem dX2_openSegment_40 : decode cX2_openSegment 40 = .ok (.iastore, 1) := by decide +kernel
theorem dX2_openSegment_41 : decode cX2_openSegment 41 = .ok (.aload_n 0, 1) := by decide +kernel
theorem dX2_openSegment_42 : decode cX2_openSegment 42 = .ok (.getfield 24, 3) := by decide +kernel
theorem dX2_openSegment_45 : decode cX2_openSegment 45 = .ok (.iload_n 3, 1) := by decide +kernel
theorem dX2_openSegment_46 : decode cX2_openSegment 46 = .ok (.iconst 0, 1) := by decide +kernel
theorem dX2_openSegment_47 : decode cX2_openSegment 47 = .ok (.iastore, 1) := by decide +kernel
theorem dX2_openSegment_48 : decode cX2_openSegment 48 = .ok (.aload_n 0, 1) := by decide +kernel
theorem dX2_openSegment_49 : decode cX2_openSegment 49 = .ok (.getfield 27, 3) := by decide +kernel
theorem dX2_openSegment_52 : decode cX2_openSegment 52 = .ok (.aload_n 0, 1) := by decide +kernel
theorem dX2_openSegment_53 : decode cX2_openSegment 53 = .ok (.getfield 72, 3) := by decide +kernel
theorem dX2_openSegment_56 : decode cX2_openSegment 56 = .ok (.iload_n 3, 1) := by decide +kernel
theorem dX2_openSegment_57 : decode cX2_openSegment 57 = .ok (.iastore, 1) := by decide +kernel
theorem dX2_openSegment_58 : decode cX2_openSegment 58 = .ok (.aload_n 0, 1) := by decide +kernel
theorem dX2_openSegment_59 : decode cX2_openSegment 59 = .ok (.dup, 1) := by decide +kernel
theorem dX2_openSegment_60 : decode cX2_openSegment 60 = .ok (.getfield 72, 3) := by decide +kernel
theorem dX2_openSegment_63 : decode cX2_openSegment 63 = .ok (.iconst 1, 1) := by decide +kernel
theorem dX2_openSegment_64 : decode cX2_openSegment 64 = .ok (.iadd, 1) := by decide +kernel
theorem dX2_openSegment_65 : decode cX2_openSegment 65 = .ok (.putfield 72, 3) := by decide +kernel
theorem dX2_openSegment_68 : decode cX2_openSegment 68 = .ok (.return_, 1) := by decide +kernel
theorem dX2_openSegment_69 : decode cX2_openSegment 69 = .ok (.iinc 3 1, 3) := by decide +kernel
theorem dX2_openSegment_72 : decode cX2_openSegment 72 = .ok (.goto (-70), 3) := by decide +kernel
theorem dX2_openSegment_75 : decode cX2_openSegment 75 = .ok (.return_, 1) := by decide +kernel
theorem dX2_cutFrom_0 : decode cX2_cutFrom 0 = .ok (.aload_n 0, 1) := by decide +kernel
theorem dX2_cutFrom_1 : decode cX2_cutFrom 1 = .ok (.getfield 72, 3) := by decide +kernel
theorem dX2_cutFrom_4 : decode cX2_cutFrom 4 = .ok (.ifCond .le 52, 3) := by decide +kernel
theorem dX2_cutFrom_7 : decode cX2_cutFrom 7 = .ok (.aload_n 0, 1) := by decide +kernel
theorem dX2_cutFrom_8 : decode cX2_cutFrom 8 = .ok (.getfield 11, 3) := by decide +kernel
theorem dX2_cutFrom_11 : decode cX2_cutFrom 11 = .ok (.aload_n 0, 1) := by decide +kernel
theorem dX2_cutFrom_12 : decode cX2_cutFrom 12 = .ok (.getfield 27, 3) := by decide +kernel
theorem dX2_cutFrom_15 : decode cX2_cutFrom 15 = .ok (.aload_n 0, 1) := by decide +kernel
theorem dX2_cutFrom_16 : decode cX2_cutFrom 16 = .ok (.getfield 72, 3) := by decide +kernel
theorem dX2_cutFrom_19 : decode cX2_cutFrom 19 = .ok (.iconst 1, 1) := by decide +kernel
theorem dX2_cutFrom_20 : decode cX2_cutFrom 20 = .ok (.isub, 1) := by decide +kernel
theorem dX2_cutFrom_21 : decode cX2_cutFrom 21 = .ok (.iaload, 1) := by decide +kernel
theorem dX2_cutFrom_22 : decode cX2_cutFrom 22 = .ok (.aaload, 1) := by decide +kernel
theorem dX2_cutFrom_23 : decode cX2_cutFrom 23 = .ok (.getfield 83, 3) := by decide +kernel
theorem dX2_cutFrom_26 : decode cX2_cutFrom 26 = .ok (.iload_n 1, 1) := by decide +kernel
theorem dX2_cutFrom_27 : decode cX2_cutFrom 27 = .ok (.if_icmp .lt 29, 3) := by decide +kernel
theorem dX2_cutFrom_30 : decode cX2_cutFrom 30 = .ok (.aload_n 0, 1) := by decide +kernel
theorem dX2_cutFrom_31 : decode cX2_cutFrom 31 = .ok (.dup, 1) := by decide +kernel
theorem dX2_cutFrom_32 : decode cX2_cutFrom 32 = .ok (.getfield 72, 3) := by decide +kernel
theorem dX2_cutFrom_35 : decode cX2_cutFrom 35 = .ok (.iconst 1, 1) := by decide +kernel
theorem dX2_cutFrom_36 : decode cX2_cutFrom 36 = .ok (.isub, 1) := by decide +kernel
theorem dX2_cutFrom_37 : decode cX2_cutFrom 37 = .ok (.putfield 72, 3) := by decide +kernel
theorem dX2_cutFrom_40 : decode cX2_cutFrom 40 = .ok (.aload_n 0, 1) := by decide +kernel
theorem dX2_cutFrom_41 : decode cX2_cutFrom 41 = .ok (.aload_n 0, 1) := by decide +kernel
theorem dX2_cutFrom_42 : decode cX2_cutFrom 42 = .ok (.getfield 27, 3) := by decide +kernel
theorem dX2_cutFrom_45 : decode cX2_cutFrom 45 = .ok (.aload_n 0, 1) := by decide +kernel
theorem dX2_cutFrom_46 : decode cX2_cutFrom 46 = .ok (.getfield 72, 3) := by decide +kernel
theorem dX2_cutFrom_49 : decode cX2_cutFrom 49 = .ok (.iaload, 1) := by decide +kernel
theorem dX2_cutFrom_50 : decode cX2_cutFrom 50 = .ok (.invokevirtual 86, 3) := by decide +kernel
theorem dX2_cutFrom_53 : decode cX2_cutFrom 53 = .ok (.goto (-53), 3) := by decide +kernel
theorem dX2_cutFrom_56 : decode cX2_cutFrom 56 = .ok (.aload_n 0, 1) := by decide +kernel
theorem dX2_cutFrom_57 : decode cX2_cutFrom 57 = .ok (.getfield 72, 3) := by decide +kernel
theorem dX2_cutFrom_60 : decode cX2_cutFrom 60 = .ok (.ifCond .le 40, 3) := by decide +kernel
theorem dX2_cutFrom_63 : decode cX2_cutFrom 63 = .ok (.aload_n 0, 1) := by decide +kernel
theorem dX2_cutFrom_64 : decode cX2_cutFrom 64 = .ok (.getfield 27, 3) := by decide +kernel
theorem dX2_cutFrom_67 : decode cX2_cutFrom 67 = .ok (.aload_n 0, 1) := by decide +kernel
theorem dX2_cutFrom_68 : decode cX2_cutFrom 68 = .ok (.getfield 72, 3) := by decide +kernel
theorem dX2_cutFrom_71 : decode cX2_cutFrom 71 = .ok (.iconst 1, 1) := by decide +kernel
theorem dX2_cutFrom_72 : decode cX2_cutFrom 72 = .ok (.isub, 1) := by decide +kernel
theorem dX2_cutFrom_73 : decode cX2_cutFrom 73 = .ok (.iaload, 1) := by decide +kernel
theorem dX2_cutFrom_74 : decode cX2_cutFrom 74 = .ok (.istore_n 2, 1) := by decide +kernel
theorem dX2_cutFrom_75 : decode cX2_cutFrom 75 = .ok (.aload_n 0, 1) := by decide +kernel
theorem dX2_cutFrom_76 : decode cX2_cutFrom 76 = .ok (.iload_n 2, 1) := by decide +kernel
theorem dX2_cutFrom_77 : decode cX2_cutFrom 77 = .ok (.aload_n 0, 1) := by decide +kernel
theorem dX2_cutFrom_78 : decode cX2_cutFrom 78 = .ok (.getfield 11, 3) := by decide +kernel
theorem dX2_cutFrom_81 : decode cX2_cutFrom 81 = .ok (.iload_n 2, 1) := by decide +kernel
theorem dX2_cutFrom_82 : decode cX2_cutFrom 82 = .ok (.aaload, 1) := by decide +kernel
theorem dX2_cutFrom_83 : decode cX2_cutFrom 83 = .ok (.iload_n 1, 1) := by decide +kernel
theorem dX2_cutFrom_84 : decode cX2_cutFrom 84 = .ok (.aload_n 0, 1) := by decide +kernel
theorem dX2_cutFrom_85 : decode cX2_cutFrom 85 = .ok (.getfield 11, 3) := by decide +kernel
theorem dX2_cutFrom_88 : decode cX2_cutFrom 88 = .ok (.iload_n 2, 1) := by decide +kernel
theorem dX2_cutFrom_89 : decode cX2_cutFrom 89 = .ok (.aaload, 1) := by decide +kernel
theorem dX2_cutFrom_90 : decode cX2_cutFrom 90 = .ok (.getfield 83, 3) := by decide +kernel
theorem dX2_cutFrom_93 : decode cX2_cutFrom 93 = .ok (.isub, 1) := by decide +kernel
theorem dX2_cutFrom_94 : decode cX2_cutFrom 94 = .ok (.invokevirtual 89, 3) := by decide +kernel
theorem dX2_cutFrom_97 : decode cX2_cutFrom 97 = .ok (.invokevirtual 93, 3) := by decide +kernel
theorem dX2_cutFrom_100 : decode cX2_cutFrom 100 = .ok (.return_, 1) := by decide +kernel
theorem dX2_baseMoved_0 : decode cX2_baseMoved 0 = .ok (.iconst 0, 1) := by decide +kernel
theorem dX2_baseMoved_1 : decode cX2_baseMoved 1 = .ok (.istore_n 3, 1) := by decide +kernel
theorem dX2_baseMoved_2 : decode cX2_baseMoved 2 = .ok (.iconst 0, 1) := by decide +kernel
theorem dX2_baseMoved_3 : decode cX2_baseMoved 3 = .ok (.istore 4, 2) := by decide +kernel
theorem dX2_baseMoved_5 : decode cX2_baseMoved 5 = .ok (.iload 4, 2) := by decide +kernel
theorem dX2_baseMoved_7 : decode cX2_baseMoved 7 = .ok (.aload_n 0, 1) := by decide +kernel
theorem dX2_baseMoved_8 : decode cX2_baseMoved 8 = .ok (.getfield 72, 3) := by decide +kernel
theorem dX2_baseMoved_11 : decode cX2_baseMoved 11 = .ok (.if_icmp .ge 98, 3) := by decide +kernel
theorem dX2_baseMoved_14 : decode cX2_baseMoved 14 = .ok (.aload_n 0, 1) := by decide +kernel
theorem dX2_baseMoved_15 : decode cX2_baseMoved 15 = .ok (.getfield 11, 3) := by decide +kernel
theorem dX2_baseMoved_18 : decode cX2_baseMoved 18 = .ok (.aload_n 0, 1) := by decide +kernel
theorem dX2_baseMoved_19 : decode cX2_baseMoved 19 = .ok (.getfield 27, 3) := by decide +kernel
theorem dX2_baseMoved_22 : decode cX2_baseMoved 22 = .ok (.iload 4, 2) := by decide +kernel
theorem dX2_baseMoved_24 : decode cX2_baseMoved 24 = .ok (.iaload, 1) := by decide +kernel
theorem dX2_baseMoved_25 : decode cX2_baseMoved 25 = .ok (.aaload, 1) := by decide +kernel
theorem dX2_baseMoved_26 : decode cX2_baseMoved 26 = .ok (.astore 5, 2) := by decide +kernel
theorem dX2_baseMoved_28 : decode cX2_baseMoved 28 = .ok (.iload_n 2, 1) := by decide +kernel
theorem dX2_baseMoved_29 : decode cX2_baseMoved 29 = .ok (.iload_n 1, 1) := by decide +kernel
theorem dX2_baseMoved_30 : decode cX2_baseMoved 30 = .ok (.if_icmp .le 35, 3) := by decide +kernel
theorem dX2_baseMoved_33 : decode cX2_baseMoved 33 = .ok (.iload 4, 2) := by decide +kernel
theorem dX2_baseMoved_35 : decode cX2_baseMoved 35 = .ok (.aload_n 0, 1) := by decide +kernel
theorem dX2_baseMoved_36 : decode cX2_baseMoved 36 = .ok (.getfield 72, 3) := by decide +kernel
theorem dX2_baseMoved_39 : decode cX2_baseMoved 39 = .ok (.iconst 1, 1) := by decide +kernel
theorem dX2_baseMoved_40 : decode cX2_baseMoved 40 = .ok (.isub, 1) := by decide +kernel
theorem dX2_baseMoved_41 : decode cX2_baseMoved 41 = .ok (.if_icmp .eq 20, 3) := by decide +kernel
theorem dX2_baseMoved_44 : decode cX2_baseMoved 44 = .ok (.aload 5, 2) := by decide +kernel
theorem dX2_baseMoved_46 : decode cX2_baseMoved 46 = .ok (.getfield 83, 3) := by decide +kernel
theorem dX2_baseMoved_49 : decode cX2_baseMoved 49 = .ok (.aload 5, 2) := by decide +kernel
theorem dX2_baseMoved_51 : decode cX2_baseMoved 51 = .ok (.getfield 96, 3) := by decide +kernel
theorem dX2_baseMoved_54 : decode cX2_baseMoved 54 = .ok (.iadd, 1) := by decide +kernel
theorem dX2_baseMoved_55 : decode cX2_baseMoved 55 = .ok (.iconst 1, 1) := by decide +kernel
theorem dX2_baseMoved_56 : decode cX2_baseMoved 56 = .ok (.isub, 1) := by decide +kernel
theorem dX2_baseMoved_57 : decode cX2_baseMoved 57 = .ok (.iload_n 1, 1) := by decide +kernel
theorem dX2_baseMoved_58 : decode cX2_baseMoved 58 = .ok (.if_icmp .le 7, 3) := by decide +kernel
theorem dX2_baseMoved_61 : decode cX2_baseMoved 61 = .ok (.iconst 1, 1) := by decide +kernel
theorem dX2_baseMoved_62 : decode cX2_baseMoved 62 = .ok (.goto 4, 3) := by decide +kernel
theorem dX2_baseMoved_65 : decode cX2_baseMoved 65 = .ok (.iconst 0, 1) := by decide +kernel
theorem dX2_baseMoved_66 : decode cX2_baseMoved 66 = .ok (.istore 6, 2) := by decide +kernel
theorem dX2_baseMoved_68 : decode cX2_baseMoved 68 = .ok (.iload 6, 2) := by decide +kernel
theorem dX2_baseMoved_70 : decode cX2_baseMoved 70 = .ok (.ifCond .eq 22, 3) := by decide +kernel
theorem dX2_baseMoved_73 : decode cX2_baseMoved 73 = .ok (.aload_n 0, 1) := by decide +kernel
theorem dX2_baseMoved_74 : decode cX2_baseMoved 74 = .ok (.getfield 27, 3) := by decide +kernel
theorem dX2_baseMoved_77 : decode cX2_baseMoved 77 = .ok (.iload_n 3, 1) := by decide +kernel
theorem dX2_baseMoved_78 : decode cX2_baseMoved 78 = .ok (.aload_n 0, 1) := by decide +kernel
theorem dX2_baseMoved_79 : decode cX2_baseMoved 79 = .ok (.getfield 27, 3) := by decide +kernel
theorem dX2_baseMoved_82 : decode cX2_baseMoved 82 = .ok (.iload 4, 2) := by decide +kernel
theorem dX2_baseMoved_84 : decode cX2_baseMoved 84 = .ok (.iaload, 1) := by decide +kernel
theorem dX2_baseMoved_85 : decode cX2_baseMoved 85 = .ok (.iastore, 1) := by decide +kernel
theorem dX2_baseMoved_86 : decode cX2_baseMoved 86 = .ok (.iinc 3 1, 3) := by decide +kernel
theorem dX2_baseMoved_89 : decode cX2_baseMoved 89 = .ok (.goto 14, 3) := by decide +kernel
theorem dX2_baseMoved_92 : decode cX2_baseMoved 92 = .ok (.aload_n 0, 1) := by decide +kernel
theorem dX2_baseMoved_93 : decode cX2_baseMoved 93 = .ok (.aload_n 0, 1) := by decide +kernel
theorem dX2_baseMoved_94 : decode cX2_baseMoved 94 = .ok (.getfield 27, 3) := by decide +kernel
theorem dX2_baseMoved_97 : decode cX2_baseMoved 97 = .ok (.iload 4, 2) := by decide +kernel
theorem dX2_baseMoved_99 : decode cX2_baseMoved 99 = .ok (.iaload, 1) := by decide +kernel
theorem dX2_baseMoved_100 : decode cX2_baseMoved 100 = .ok (.invokevirtual 86, 3) := by decide +kernel
theorem dX2_baseMoved_103 : decode cX2_baseMoved 103 = .ok (.iinc 4 1, 3) := by decide +kernel
theorem dX2_baseMoved_106 : decode cX2_baseMoved 106 = .ok (.goto (-101), 3) := by decide +kernel
theorem dX2_baseMoved_109 : decode cX2_baseMoved 109 = .ok (.aload_n 0, 1) := by decide +kernel
theorem dX2_baseMoved_110 : decode cX2_baseMoved 110 = .ok (.iload_n 3, 1) := by decide +kernel
theorem dX2_baseMoved_111 : decode cX2_baseMoved 111 = .ok (.putfield 72, 3) := by decide +kernel
theorem dX2_baseMoved_114 : decode cX2_baseMoved 114 = .ok (.return_, 1) := by decide +kernel
theorem dX2_remove_0 : decode cX2_remove 0 = .ok (.aload_n 0, 1) := by decide +kernel
theorem dX2_remove_1 : decode cX2_remove 1 = .ok (.getfield 11, 3) := by decide +kernel
theorem dX2_remove_4 : decode cX2_remove 4 = .ok (.iload_n 1, 1) := by decide +kernel
theorem dX2_remove_5 : decode cX2_remove 5 = .ok (.aaload, 1) := by decide +kernel
theorem dX2_remove_6 : decode cX2_remove 6 = .ok (.invokevirtual 99, 3) := by decide +kernel
theorem dX2_remove_9 : decode cX2_remove 9 = .ok (.aload_n 0, 1) := by decide +kernel
theorem dX2_remove_10 : decode cX2_remove 10 = .ok (.getfield 20, 3) := by decide +kernel
theorem dX2_remove_13 : decode cX2_remove 13 = .ok (.iload_n 1, 1) := by decide +kernel
theorem dX2_remove_14 : decode cX2_remove 14 = .ok (.iconst 0, 1) := by decide +kernel
theorem dX2_remove_15 : decode cX2_remove 15 = .ok (.iastore, 1) := by decide +kernel
theorem dX2_remove_16 : decode cX2_remove 16 = .ok (.aload_n 0, 1) := by decide +kernel
theorem dX2_remove_17 : decode cX2_remove 17 = .ok (.getfield 24, 3) := by decide +kernel
theorem dX2_remove_20 : decode cX2_remove 20 = .ok (.iload_n 1, 1) := by decide +kernel
theorem dX2_remove_21 : decode cX2_remove 21 = .ok (.iconst 0, 1) := by decide +kernel
theorem dX2_remove_22 : decode cX2_remove 22 = .ok (.iastore, 1) := by decide +kernel
theorem dX2_remove_23 : decode cX2_remove 23 = .ok (.return_, 1) := by decide +kernel
theorem dX2_cutTo_0 : decode cX2_cutTo 0 = .ok (.aload_n 0, 1) := by decide +kernel
theorem dX2_cutTo_1 : decode cX2_cutTo 1 = .ok (.getfield 11, 3) := by decide +kernel
theorem dX2_cutTo_4 : decode cX2_cutTo 4 = .ok (.iload_n 1, 1) := by decide +kernel
theorem dX2_cutTo_5 : decode cX2_cutTo 5 = .ok (.aaload, 1) := by decide +kernel
theorem dX2_cutTo_6 : decode cX2_cutTo 6 = .ok (.iload_n 2, 1) := by decide +kernel
theorem dX2_cutTo_7 : decode cX2_cutTo 7 = .ok (.invokevirtual 101, 3) := by decide +kernel
theorem dX2_cutTo_10 : decode cX2_cutTo 10 = .ok (.aload_n 0, 1) := by decide +kernel
theorem dX2_cutTo_11 : decode cX2_cutTo 11 = .ok (.getfield 20, 3) := by decide +kernel
theorem dX2_cutTo_14 : decode cX2_cutTo 14 = .ok (.iload_n 1, 1) := by decide +kernel
theorem dX2_cutTo_15 : decode cX2_cutTo 15 = .ok (.aload_n 0, 1) := by decide +kernel
theorem dX2_cutTo_16 : decode cX2_cutTo 16 = .ok (.getfield 20, 3) := by decide +kernel
theorem dX2_cutTo_19 : decode cX2_cutTo 19 = .ok (.iload_n 1, 1) := by decide +kernel
theorem dX2_cutTo_20 : decode cX2_cutTo 20 = .ok (.iaload, 1) := by decide +kernel
theorem dX2_cutTo_21 : decode cX2_cutTo 21 = .ok (.aload_n 0, 1) := by decide +kernel
theorem dX2_cutTo_22 : decode cX2_cutTo 22 = .ok (.getfield 11, 3) := by decide +kernel
theorem dX2_cutTo_25 : decode cX2_cutTo 25 = .ok (.iload_n 1, 1) := by decide +kernel
theorem dX2_cutTo_26 : decode cX2_cutTo 26 = .ok (.aaload, 1) := by decide +kernel
theorem dX2_cutTo_27 : decode cX2_cutTo 27 = .ok (.getfield 38, 3) := by decide +kernel
theorem dX2_cutTo_30 : decode cX2_cutTo 30 = .ok (.invokestatic 103, 3) := by decide +kernel
theorem dX2_cutTo_33 : decode cX2_cutTo 33 = .ok (.iastore, 1) := by decide +kernel
theorem dX2_cutTo_34 : decode cX2_cutTo 34 = .ok (.aload_n 0, 1) := by decide +kernel
theorem dX2_cutTo_35 : decode cX2_cutTo 35 = .ok (.getfield 24, 3) := by decide +kernel
theorem dX2_cutTo_38 : decode cX2_cutTo 38 = .ok (.iload_n 1, 1) := by decide +kernel
theorem dX2_cutTo_39 : decode cX2_cutTo 39 = .ok (.aload_n 0, 1) := by decide +kernel
theorem dX2_cutTo_40 : decode cX2_cutTo 40 = .ok (.getfield 24, 3) := by decide +kernel
theorem dX2_cutTo_43 : decode cX2_cutTo 43 = .ok (.iload_n 1, 1) := by decide +kernel
theorem dX2_cutTo_44 : decode cX2_cutTo 44 = .ok (.iaload, 1) := by decide +kernel
theorem dX2_cutTo_45 : decode cX2_cutTo 45 = .ok (.aload_n 0, 1) := by decide +kernel
theorem dX2_cutTo_46 : decode cX2_cutTo 46 = .ok (.getfield 11, 3) := by decide +kernel
theorem dX2_cutTo_49 : decode cX2_cutTo 49 = .ok (.iload_n 1, 1) := by decide +kernel
theorem dX2_cutTo_50 : decode cX2_cutTo 50 = .ok (.aaload, 1) := by decide +kernel
theorem dX2_cutTo_51 : decode cX2_cutTo 51 = .ok (.getfield 96, 3) := by decide +kernel
theorem dX2_cutTo_54 : decode cX2_cutTo 54 = .ok (.invokestatic 103, 3) := by decide +kernel
theorem dX2_cutTo_57 : decode cX2_cutTo 57 = .ok (.iastore, 1) := by decide +kernel
theorem dX2_cutTo_58 : decode cX2_cutTo 58 = .ok (.return_, 1) := by decide +kernel
theorem dX2_syncAll_0 : decode cX2_syncAll 0 = .ok (.iconst 0, 1) := by decide +kernel
theorem dX2_syncAll_1 : decode cX2_syncAll 1 = .ok (.istore_n 1, 1) := by decide +kernel
theorem dX2_syncAll_2 : decode cX2_syncAll 2 = .ok (.iload_n 1, 1) := by decide +kernel
theorem dX2_syncAll_3 : decode cX2_syncAll 3 = .ok (.bipush 16, 2) := by decide +kernel
theorem dX2_syncAll_5 : decode cX2_syncAll 5 = .ok (.if_icmp .ge 14, 3) := by decide +kernel
theorem dX2_syncAll_8 : decode cX2_syncAll 8 = .ok (.aload_n 0, 1) := by decide +kernel
theorem dX2_syncAll_9 : decode cX2_syncAll 9 = .ok (.iload_n 1, 1) := by decide +kernel
theorem dX2_syncAll_10 : decode cX2_syncAll 10 = .ok (.invokevirtual 109, 3) := by decide +kernel
theorem dX2_syncAll_13 : decode cX2_syncAll 13 = .ok (.iinc 1 1, 3) := by decide +kernel
theorem dX2_syncAll_16 : decode cX2_syncAll 16 = .ok (.goto (-14), 3) := by decide +kernel
theorem dX2_syncAll_19 : decode cX2_syncAll 19 = .ok (.aload_n 0, 1) := by decide +kernel
theorem dX2_syncAll_20 : decode cX2_syncAll 20 = .ok (.iconst 0, 1) := by decide +kernel
theorem dX2_syncAll_21 : decode cX2_syncAll 21 = .ok (.putfield 45, 3) := by decide +kernel
theorem dX2_syncAll_24 : decode cX2_syncAll 24 = .ok (.return_, 1) := by decide +kernel
theorem dX2_syncFile_0 : decode cX2_syncFile 0 = .ok (.aload_n 0, 1) := by decide +kernel
theorem dX2_syncFile_1 : decode cX2_syncFile 1 = .ok (.getfield 17, 3) := by decide +kernel
theorem dX2_syncFile_4 : decode cX2_syncFile 4 = .ok (.iload_n 1, 1) := by decide +kernel
theorem dX2_syncFile_5 : decode cX2_syncFile 5 = .ok (.aaload, 1) := by decide +kernel
theorem dX2_syncFile_6 : decode cX2_syncFile 6 = .ok (.aload_n 0, 1) := by decide +kernel
theorem dX2_syncFile_7 : decode cX2_syncFile 7 = .ok (.getfield 11, 3) := by decide +kernel
theorem dX2_syncFile_10 : decode cX2_syncFile 10 = .ok (.iload_n 1, 1) := by decide +kernel
theorem dX2_syncFile_11 : decode cX2_syncFile 11 = .ok (.aaload, 1) := by decide +kernel
theorem dX2_syncFile_12 : decode cX2_syncFile 12 = .ok (.if_acmp .eq 39, 3) := by decide +kernel
theorem dX2_syncFile_15 : decode cX2_syncFile 15 = .ok (.aload_n 0, 1) := by decide +kernel
theorem dX2_syncFile_16 : decode cX2_syncFile 16 = .ok (.getfield 17, 3) := by decide +kernel
theorem dX2_syncFile_19 : decode cX2_syncFile 19 = .ok (.iload_n 1, 1) := by decide +kernel
theorem dX2_syncFile_20 : decode cX2_syncFile 20 = .ok (.aaload, 1) := by decide +kernel
theorem dX2_syncFile_21 : decode cX2_syncFile 21 = .ok (.aload_n 0, 1) := by decide +kernel
theorem dX2_syncFile_22 : decode cX2_syncFile 22 = .ok (.getfield 11, 3) := by decide +kernel
theorem dX2_syncFile_25 : decode cX2_syncFile 25 = .ok (.iload_n 1, 1) := by decide +kernel
theorem dX2_syncFile_26 : decode cX2_syncFile 26 = .ok (.aaload, 1) := by decide +kernel
theorem dX2_syncFile_27 : decode cX2_syncFile 27 = .ok (.aload_n 0, 1) := by decide +kernel
theorem dX2_syncFile_28 : decode cX2_syncFile 28 = .ok (.getfield 24, 3) := by decide +kernel
theorem dX2_syncFile_31 : decode cX2_syncFile 31 = .ok (.iload_n 1, 1) := by decide +kernel
theorem dX2_syncFile_32 : decode cX2_syncFile 32 = .ok (.iaload, 1) := by decide +kernel
theorem dX2_syncFile_33 : decode cX2_syncFile 33 = .ok (.invokevirtual 112, 3) := by decide +kernel
theorem dX2_syncFile_36 : decode cX2_syncFile 36 = .ok (.aload_n 0, 1) := by decide +kernel
theorem dX2_syncFile_37 : decode cX2_syncFile 37 = .ok (.getfield 24, 3) := by decide +kernel
theorem dX2_syncFile_40 : decode cX2_syncFile 40 = .ok (.iload_n 1, 1) := by decide +kernel
theorem dX2_syncFile_41 : decode cX2_syncFile 41 = .ok (.aload_n 0, 1) := by decide +kernel
theorem dX2_syncFile_42 : decode cX2_syncFile 42 = .ok (.getfield 11, 3) := by decide +kernel
theorem dX2_syncFile_45 : decode cX2_syncFile 45 = .ok (.iload_n 1, 1) := by decide +kernel
theorem dX2_syncFile_46 : decode cX2_syncFile 46 = .ok (.aaload, 1) := by decide +kernel
theorem dX2_syncFile_47 : decode cX2_syncFile 47 = .ok (.getfield 96, 3) := by decide +kernel
theorem dX2_syncFile_50 : decode cX2_syncFile 50 = .ok (.iastore, 1) := by decide +kernel
theorem dX2_syncFile_51 : decode cX2_syncFile 51 = .ok (.aload_n 0, 1) := by decide +kernel
theorem dX2_syncFile_52 : decode cX2_syncFile 52 = .ok (.getfield 20, 3) := by decide +kernel
theorem dX2_syncFile_55 : decode cX2_syncFile 55 = .ok (.iload_n 1, 1) := by decide +kernel
theorem dX2_syncFile_56 : decode cX2_syncFile 56 = .ok (.aload_n 0, 1) := by decide +kernel
theorem dX2_syncFile_57 : decode cX2_syncFile 57 = .ok (.getfield 11, 3) := by decide +kernel
theorem dX2_syncFile_60 : decode cX2_syncFile 60 = .ok (.iload_n 1, 1) := by decide +kernel
theorem dX2_syncFile_61 : decode cX2_syncFile 61 = .ok (.aaload, 1) := by decide +kernel
theorem dX2_syncFile_62 : decode cX2_syncFile 62 = .ok (.getfield 38, 3) := by decide +kernel
theorem dX2_syncFile_65 : decode cX2_syncFile 65 = .ok (.iastore, 1) := by decide +kernel
theorem dX2_syncFile_66 : decode cX2_syncFile 66 = .ok (.return_, 1) := by decide +kernel
theorem dX2_fall_0 : decode cX2_fall 0 = .ok (.lload_n 1, 1) := by decide +kernel
theorem dX2_fall_1 : decode cX2_fall 1 = .ok (.lstore_n 3, 1) := by decide +kernel
theorem dX2_fall_2 : decode cX2_fall 2 = .ok (.iconst 0, 1) := by decide +kernel
theorem dX2_fall_3 : decode cX2_fall 3 = .ok (.istore 5, 2) := by decide +kernel
theorem dX2_fall_5 : decode cX2_fall 5 = .ok (.iload 5, 2) := by decide +kernel
theorem dX2_fall_7 : decode cX2_fall 7 = .ok (.bipush 16, 2) := by decide +kernel
theorem dX2_fall_9 : decode cX2_fall 9 = .ok (.if_icmp .ge 150, 3) := by decide +kernel
theorem dX2_fall_12 : decode cX2_fall 12 = .ok (.lload_n 3, 1) := by decide +kernel
theorem dX2_fall_13 : decode cX2_fall 13 = .ok (.ldc2_w 116, 3) := by decide +kernel
theorem dX2_fall_16 : decode cX2_fall 16 = .ok (.lmul, 1) := by decide +kernel
theorem dX2_fall_17 : decode cX2_fall 17 = .ok (.ldc2_w 118, 3) := by decide +kernel
theorem dX2_fall_20 : decode cX2_fall 20 = .ok (.ladd, 1) := by decide +kernel
theorem dX2_fall_21 : decode cX2_fall 21 = .ok (.lstore_n 3, 1) := by decide +kernel
theorem dX2_fall_22 : decode cX2_fall 22 = .ok (.iconst 2, 1) := by decide +kernel
theorem dX2_fall_23 : decode cX2_fall 23 = .ok (.iconst 0, 1) := by decide +kernel
theorem dX2_fall_24 : decode cX2_fall 24 = .ok (.aload_n 0, 1) := by decide +kernel
theorem dX2_fall_25 : decode cX2_fall 25 = .ok (.getfield 11, 3) := by decide +kernel
theorem dX2_fall_28 : decode cX2_fall 28 = .ok (.iload 5, 2) := by decide +kernel
theorem dX2_fall_30 : decode cX2_fall 30 = .ok (.aaload, 1) := by decide +kernel
theorem dX2_fall_31 : decode cX2_fall 31 = .ok (.getfield 38, 3) := by decide +kernel
theorem dX2_fall_34 : decode cX2_fall 34 = .ok (.aload_n 0, 1) := by decide +kernel
theorem dX2_fall_35 : decode cX2_fall 35 = .ok (.getfield 20, 3) := by decide +kernel
theorem dX2_fall_38 : decode cX2_fall 38 = .ok (.iload 5, 2) := by decide +kernel
theorem dX2_fall_40 : decode cX2_fall 40 = .ok (.iaload, 1) := by decide +kernel
theorem dX2_fall_41 : decode cX2_fall 41 = .ok (.isub, 1) := by decide +kernel
theorem dX2_fall_42 : decode cX2_fall 42 = .ok (.invokestatic 120, 3) := by decide +kernel
theorem dX2_fall_45 : decode cX2_fall 45 = .ok (.imul, 1) := by decide +kernel
theorem dX2_fall_46 : decode cX2_fall 46 = .ok (.iconst 1, 1) := by decide +kernel
theorem dX2_fall_47 : decode cX2_fall 47 = .ok (.iadd, 1) := by decide +kernel
theorem dX2_fall_48 : decode cX2_fall 48 = .ok (.istore 6, 2) := by decide +kernel
theorem dX2_fall_50 : decode cX2_fall 50 = .ok (.lload_n 3, 1) := by decide +kernel
theorem dX2_fall_51 : decode cX2_fall 51 = .ok (.bipush 61, 2) := by decide +kernel
theorem dX2_fall_53 : decode cX2_fall 53 = .ok (.lushr, 1) := by decide +kernel
theorem dX2_fall_54 : decode cX2_fall 54 = .ok (.lconst 0, 1) := by decide +kernel
theorem dX2_fall_55 : decode cX2_fall 55 = .ok (.lcmp, 1) := by decide +kernel
theorem dX2_fall_56 : decode cX2_fall 56 = .ok (.ifCond .eq 33, 3) := by decide +kernel
theorem dX2_fall_59 : decode cX2_fall 59 = .ok (.aload_n 0, 1) := by decide +kernel
theorem dX2_fall_60 : decode cX2_fall 60 = .ok (.iload 5, 2) := by decide +kernel
theorem dX2_fall_62 : decode cX2_fall 62 = .ok (.aload_n 0, 1) := by decide +kernel
theorem dX2_fall_63 : decode cX2_fall 63 = .ok (.getfield 20, 3) := by decide +kernel
theorem dX2_fall_66 : decode cX2_fall 66 = .ok (.iload 5, 2) := by decide +kernel
theorem dX2_fall_68 : decode cX2_fall 68 = .ok (.iaload, 1) := by decide +kernel
theorem dX2_fall_69 : decode cX2_fall 69 = .ok (.lload_n 3, 1) := by decide +kernel
theorem dX2_fall_70 : decode cX2_fall 70 = .ok (.bipush 33, 2) := by decide +kernel
theorem dX2_fall_72 : decode cX2_fall 72 = .ok (.lushr, 1) := by decide +kernel
theorem dX2_fall_73 : decode cX2_fall 73 = .ok (.ldc2_w 123, 3) := by decide +kernel
theorem dX2_fall_76 : decode cX2_fall 76 = .ok (.land, 1) := by decide +kernel
theorem dX2_fall_77 : decode cX2_fall 77 = .ok (.iload 6, 2) := by decide +kernel
theorem dX2_fall_79 : decode cX2_fall 79 = .ok (.i2l, 1) := by decide +kernel
theorem dX2_fall_80 : decode cX2_fall 80 = .ok (.lrem, 1) := by decide +kernel
theorem dX2_fall_81 : decode cX2_fall 81 = .ok (.l2i, 1) := by decide +kernel
theorem dX2_fall_82 : decode cX2_fall 82 = .ok (.iadd, 1) := by decide +kernel
theorem dX2_fall_83 : decode cX2_fall 83 = .ok (.invokevirtual 93, 3) := by decide +kernel
theorem dX2_fall_86 : decode cX2_fall 86 = .ok (.goto 61, 3) := by decide +kernel
theorem dX2_fall_89 : decode cX2_fall 89 = .ok (.aload_n 0, 1) := by decide +kernel
theorem dX2_fall_90 : decode cX2_fall 90 = .ok (.getfield 17, 3) := by decide +kernel
theorem dX2_fall_93 : decode cX2_fall 93 = .ok (.iload 5, 2) := by decide +kernel
theorem dX2_fall_95 : decode cX2_fall 95 = .ok (.aaload, 1) := by decide +kernel
theorem dX2_fall_96 : decode cX2_fall 96 = .ok (.aload_n 0, 1) := by decide +kernel
theorem dX2_fall_97 : decode cX2_fall 97 = .ok (.getfield 11, 3) := by decide +kernel
theorem dX2_fall_100 : decode cX2_fall 100 = .ok (.iload 5, 2) := by decide +kernel
theorem dX2_fall_102 : decode cX2_fall 102 = .ok (.aaload, 1) := by decide +kernel
theorem dX2_fall_103 : decode cX2_fall 103 = .ok (.if_acmp .eq 44, 3) := by decide +kernel
theorem dX2_fall_106 : decode cX2_fall 106 = .ok (.aload_n 0, 1) := by decide +kernel
theorem dX2_fall_107 : decode cX2_fall 107 = .ok (.getfield 11, 3) := by decide +kernel
theorem dX2_fall_110 : decode cX2_fall 110 = .ok (.iload 5, 2) := by decide +kernel
theorem dX2_fall_112 : decode cX2_fall 112 = .ok (.aaload, 1) := by decide +kernel
theorem dX2_fall_113 : decode cX2_fall 113 = .ok (.aload_n 0, 1) := by decide +kernel
theorem dX2_fall_114 : decode cX2_fall 114 = .ok (.getfield 17, 3) := by decide +kernel
theorem dX2_fall_117 : decode cX2_fall 117 = .ok (.iload 5, 2) := by decide +kernel
theorem dX2_fall_119 : decode cX2_fall 119 = .ok (.aaload, 1) := by decide +kernel
theorem dX2_fall_120 : decode cX2_fall 120 = .ok (.aload_n 0, 1) := by decide +kernel
theorem dX2_fall_121 : decode cX2_fall 121 = .ok (.getfield 24, 3) := by decide +kernel
theorem dX2_fall_124 : decode cX2_fall 124 = .ok (.iload 5, 2) := by decide +kernel
theorem dX2_fall_126 : decode cX2_fall 126 = .ok (.iaload, 1) := by decide +kernel
theorem dX2_fall_127 : decode cX2_fall 127 = .ok (.invokevirtual 112, 3) := by decide +kernel
theorem dX2_fall_130 : decode cX2_fall 130 = .ok (.aload_n 0, 1) := by decide +kernel
theorem dX2_fall_131 : decode cX2_fall 131 = .ok (.getfield 24, 3) := by decide +kernel
theorem dX2_fall_134 : decode cX2_fall 134 = .ok (.iload 5, 2) := by decide +kernel
theorem dX2_fall_136 : decode cX2_fall 136 = .ok (.aload_n 0, 1) := by decide +kernel
theorem dX2_fall_137 : decode cX2_fall 137 = .ok (.getfield 11, 3) := by decide +kernel
theorem dX2_fall_140 : decode cX2_fall 140 = .ok (.iload 5, 2) := by decide +kernel
theorem dX2_fall_142 : decode cX2_fall 142 = .ok (.aaload, 1) := by decide +kernel
theorem dX2_fall_143 : decode cX2_fall 143 = .ok (.getfield 96, 3) := by decide +kernel
theorem dX2_fall_146 : decode cX2_fall 146 = .ok (.iastore, 1) := by decide +kernel
theorem dX2_fall_147 : decode cX2_fall 147 = .ok (.aload_n 0, 1) := by decide +kernel
theorem dX2_fall_148 : decode cX2_fall 148 = .ok (.iload 5, 2) := by decide +kernel
theorem dX2_fall_150 : decode cX2_fall 150 = .ok (.invokevirtual 109, 3) := by decide +kernel
theorem dX2_fall_153 : decode cX2_fall 153 = .ok (.iinc 5 1, 3) := by decide +kernel
theorem dX2_fall_156 : decode cX2_fall 156 = .ok (.goto (-151), 3) := by decide +kernel
theorem dX2_fall_159 : decode cX2_fall 159 = .ok (.return_, 1) := by decide +kernel
theorem dX2_find_0 : decode cX2_find 0 = .ok (.aload_n 0, 1) := by decide +kernel
theorem dX2_find_1 : decode cX2_find 1 = .ok (.aload_n 0, 1) := by decide +kernel
theorem dX2_find_2 : decode cX2_find 2 = .ok (.iconst 0, 1) := by decide +kernel
theorem dX2_find_3 : decode cX2_find 3 = .ok (.iconst 1, 1) := by decide +kernel
theorem dX2_find_4 : decode cX2_find 4 = .ok (.bipush 32, 2) := by decide +kernel
theorem dX2_find_6 : decode cX2_find 6 = .ok (.invokevirtual 125, 3) := by decide +kernel
theorem dX2_find_9 : decode cX2_find 9 = .ok (.putfield 30, 3) := by decide +kernel
theorem dX2_find_12 : decode cX2_find 12 = .ok (.aload_n 0, 1) := by decide +kernel
theorem dX2_find_13 : decode cX2_find 13 = .ok (.aload_n 0, 1) := by decide +kernel
theorem dX2_find_14 : decode cX2_find 14 = .ok (.iconst 2, 1) := by decide +kernel
theorem dX2_find_15 : decode cX2_find 15 = .ok (.iconst 3, 1) := by decide +kernel
theorem dX2_find_16 : decode cX2_find 16 = .ok (.bipush 20, 2) := by decide +kernel
theorem dX2_find_18 : decode cX2_find 18 = .ok (.invokevirtual 125, 3) := by decide +kernel
theorem dX2_find_21 : decode cX2_find 21 = .ok (.putfield 34, 3) := by decide +kernel
theorem dX2_find_24 : decode cX2_find 24 = .ok (.aload_n 0, 1) := by decide +kernel
theorem dX2_find_25 : decode cX2_find 25 = .ok (.iconst 0, 1) := by decide +kernel
theorem dX2_find_26 : decode cX2_find 26 = .ok (.putfield 45, 3) := by decide +kernel
theorem dX2_find_29 : decode cX2_find 29 = .ok (.aload_n 0, 1) := by decide +kernel
theorem dX2_find_30 : decode cX2_find 30 = .ok (.invokevirtual 129, 3) := by decide +kernel
theorem dX2_find_33 : decode cX2_find 33 = .ok (.iconst 4, 1) := by decide +kernel
theorem dX2_find_34 : decode cX2_find 34 = .ok (.istore_n 1, 1) := by decide +kernel
theorem dX2_find_35 : decode cX2_find 35 = .ok (.iload_n 1, 1) := by decide +kernel
theorem dX2_find_36 : decode cX2_find 36 = .ok (.bipush 16, 2) := by decide +kernel
theorem dX2_find_38 : decode cX2_find 38 = .ok (.if_icmp .ge 48, 3) := by decide +kernel
theorem dX2_find_41 : decode cX2_find 41 = .ok (.aload_n 0, 1) := by decide +kernel
theorem dX2_find_42 : decode cX2_find 42 = .ok (.iload_n 1, 1) := by decide +kernel
theorem dX2_find_43 : decode cX2_find 43 = .ok (.invokevirtual 132, 3) := by decide +kernel
theorem dX2_find_46 : decode cX2_find 46 = .ok (.ifCond .eq 29, 3) := by decide +kernel
theorem dX2_find_49 : decode cX2_find 49 = .ok (.aload_n 0, 1) := by decide +kernel
theorem dX2_find_50 : decode cX2_find 50 = .ok (.iload_n 1, 1) := by decide +kernel
theorem dX2_find_51 : decode cX2_find 51 = .ok (.aload_n 0, 1) := by decide +kernel
theorem dX2_find_52 : decode cX2_find 52 = .ok (.getfield 11, 3) := by decide +kernel
theorem dX2_find_55 : decode cX2_find 55 = .ok (.iload_n 1, 1) := by decide +kernel
theorem dX2_find_56 : decode cX2_find 56 = .ok (.aaload, 1) := by decide +kernel
theorem dX2_find_57 : decode cX2_find 57 = .ok (.aload_n 0, 1) := by decide +kernel
theorem dX2_find_58 : decode cX2_find 58 = .ok (.getfield 11, 3) := by decide +kernel
theorem dX2_find_61 : decode cX2_find 61 = .ok (.iload_n 1, 1) := by decide +kernel
theorem dX2_find_62 : decode cX2_find 62 = .ok (.aaload, 1) := by decide +kernel
theorem dX2_find_63 : decode cX2_find 63 = .ok (.getfield 96, 3) := by decide +kernel
theorem dX2_find_66 : decode cX2_find 66 = .ok (.invokevirtual 89, 3) := by decide +kernel
theorem dX2_find_69 : decode cX2_find 69 = .ok (.invokevirtual 93, 3) := by decide +kernel
theorem dX2_find_72 : decode cX2_find 72 = .ok (.goto 8, 3) := by decide +kernel
theorem dX2_find_75 : decode cX2_find 75 = .ok (.aload_n 0, 1) := by decide +kernel
theorem dX2_find_76 : decode cX2_find 76 = .ok (.iload_n 1, 1) := by decide +kernel
theorem dX2_find_77 : decode cX2_find 77 = .ok (.invokevirtual 86, 3) := by decide +kernel
theorem dX2_find_80 : decode cX2_find 80 = .ok (.iinc 1 1, 3) := by decide +kernel
theorem dX2_find_83 : decode cX2_find 83 = .ok (.goto (-48), 3) := by decide +kernel
theorem dX2_find_86 : decode cX2_find 86 = .ok (.return_, 1) := by decide +kernel
theorem dX2_later_0 : decode cX2_later 0 = .ok (.aload_n 0, 1) := by decide +kernel
theorem dX2_later_1 : decode cX2_later 1 = .ok (.getfield 11, 3) := by decide +kernel
theorem dX2_later_4 : decode cX2_later 4 = .ok (.iload_n 1, 1) := by decide +kernel
theorem dX2_later_5 : decode cX2_later 5 = .ok (.aaload, 1) := by decide +kernel
theorem dX2_later_6 : decode cX2_later 6 = .ok (.getfield 41, 3) := by decide +kernel
theorem dX2_later_9 : decode cX2_later 9 = .ok (.ifCond .eq 20, 3) := by decide +kernel
theorem dX2_later_12 : decode cX2_later 12 = .ok (.aload_n 0, 1) := by decide +kernel
theorem dX2_later_13 : decode cX2_later 13 = .ok (.getfield 11, 3) := by decide +kernel
theorem dX2_later_16 : decode cX2_later 16 = .ok (.iload_n 1, 1) := by decide +kernel
theorem dX2_later_17 : decode cX2_later 17 = .ok (.aaload, 1) := by decide +kernel
theorem dX2_later_18 : decode cX2_later 18 = .ok (.getfield 38, 3) := by decide +kernel
theorem dX2_later_21 : decode cX2_later 21 = .ok (.iload_n 3, 1) := by decide +kernel
theorem dX2_later_22 : decode cX2_later 22 = .ok (.if_icmp .lt 7, 3) := by decide +kernel
theorem dX2_later_25 : decode cX2_later 25 = .ok (.iconst 1, 1) := by decide +kernel
theorem dX2_later_26 : decode cX2_later 26 = .ok (.goto 4, 3) := by decide +kernel
theorem dX2_later_29 : decode cX2_later 29 = .ok (.iconst 0, 1) := by decide +kernel
theorem dX2_later_30 : decode cX2_later 30 = .ok (.istore 4, 2) := by decide +kernel
theorem dX2_later_32 : decode cX2_later 32 = .ok (.aload_n 0, 1) := by decide +kernel
theorem dX2_later_33 : decode cX2_later 33 = .ok (.getfield 11, 3) := by decide +kernel
theorem dX2_later_36 : decode cX2_later 36 = .ok (.iload_n 2, 1) := by decide +kernel
theorem dX2_later_37 : decode cX2_later 37 = .ok (.aaload, 1) := by decide +kernel
theorem dX2_later_38 : decode cX2_later 38 = .ok (.getfield 41, 3) := by decide +kernel
theorem dX2_later_41 : decode cX2_later 41 = .ok (.ifCond .eq 20, 3) := by decide +kernel
theorem dX2_later_44 : decode cX2_later 44 = .ok (.aload_n 0, 1) := by decide +kernel
theorem dX2_later_45 : decode cX2_later 45 = .ok (.getfield 11, 3) := by decide +kernel
theorem dX2_later_48 : decode cX2_later 48 = .ok (.iload_n 2, 1) := by decide +kernel
theorem dX2_later_49 : decode cX2_later 49 = .ok (.aaload, 1) := by decide +kernel
theorem dX2_later_50 : decode cX2_later 50 = .ok (.getfield 38, 3) := by decide +kernel
theorem dX2_later_53 : decode cX2_later 53 = .ok (.iload_n 3, 1) := by decide +kernel
theorem dX2_later_54 : decode cX2_later 54 = .ok (.if_icmp .lt 7, 3) := by decide +kernel
theorem dX2_later_57 : decode cX2_later 57 = .ok (.iconst 1, 1) := by decide +kernel
theorem dX2_later_58 : decode cX2_later 58 = .ok (.goto 4, 3) := by decide +kernel
theorem dX2_later_61 : decode cX2_later 61 = .ok (.iconst 0, 1) := by decide +kernel
theorem dX2_later_62 : decode cX2_later 62 = .ok (.istore 5, 2) := by decide +kernel
theorem dX2_later_64 : decode cX2_later 64 = .ok (.iload 4, 2) := by decide +kernel
theorem dX2_later_66 : decode cX2_later 66 = .ok (.ifCond .eq 35, 3) := by decide +kernel
theorem dX2_later_69 : decode cX2_later 69 = .ok (.iload 5, 2) := by decide +kernel
theorem dX2_later_71 : decode cX2_later 71 = .ok (.ifCond .eq 30, 3) := by decide +kernel
theorem dX2_later_74 : decode cX2_later 74 = .ok (.aload_n 0, 1) := by decide +kernel
theorem dX2_later_75 : decode cX2_later 75 = .ok (.getfield 11, 3) := by decide +kernel
theorem dX2_later_78 : decode cX2_later 78 = .ok (.iload_n 1, 1) := by decide +kernel
theorem dX2_later_79 : decode cX2_later 79 = .ok (.aaload, 1) := by decide +kernel
theorem dX2_later_80 : decode cX2_later 80 = .ok (.getfield 83, 3) := by decide +kernel
theorem dX2_later_83 : decode cX2_later 83 = .ok (.aload_n 0, 1) := by decide +kernel
theorem dX2_later_84 : decode cX2_later 84 = .ok (.getfield 11, 3) := by decide +kernel
theorem dX2_later_87 : decode cX2_later 87 = .ok (.iload_n 2, 1) := by decide +kernel
theorem dX2_later_88 : decode cX2_later 88 = .ok (.aaload, 1) := by decide +kernel
theorem dX2_later_89 : decode cX2_later 89 = .ok (.getfield 83, 3) := by decide +kernel
theorem dX2_later_92 : decode cX2_later 92 = .ok (.if_icmp .le 7, 3) := by decide +kernel
theorem dX2_later_95 : decode cX2_later 95 = .ok (.iload_n 1, 1) := by decide +kernel
theorem dX2_later_96 : decode cX2_later 96 = .ok (.goto 4, 3) := by decide +kernel
theorem dX2_later_99 : decode cX2_later 99 = .ok (.iload_n 2, 1) := by decide +kernel
theorem dX2_later_100 : decode cX2_later 100 = .ok (.ireturn, 1) := by decide +kernel
theorem dX2_later_101 : decode cX2_later 101 = .ok (.iload 4, 2) := by decide +kernel
theorem dX2_later_103 : decode cX2_later 103 = .ok (.ifCond .eq 7, 3) := by decide +kernel
theorem dX2_later_106 : decode cX2_later 106 = .ok (.iload_n 1, 1) := by decide +kernel
theorem dX2_later_107 : decode cX2_later 107 = .ok (.goto 13, 3) := by decide +kernel
theorem dX2_later_110 : decode cX2_later 110 = .ok (.iload 5, 2) := by decide +kernel
theorem dX2_later_112 : decode cX2_later 112 = .ok (.ifCond .eq 7, 3) := by decide +kernel
theorem dX2_later_115 : decode cX2_later 115 = .ok (.iload_n 2, 1) := by decide +kernel
theorem dX2_later_116 : decode cX2_later 116 = .ok (.goto 4, 3) := by decide +kernel
theorem dX2_later_119 : decode cX2_later 119 = .ok (.iconst (-1), 1) := by decide +kernel
theorem dX2_later_120 : decode cX2_later 120 = .ok (.ireturn, 1) := by decide +kernel
theorem dX2_findChain_0 : decode cX2_findChain 0 = .ok (.aload_n 0, 1) := by decide +kernel
theorem dX2_findChain_1 : decode cX2_findChain 1 = .ok (.iconst 0, 1) := by decide +kernel
theorem dX2_findChain_2 : decode cX2_findChain 2 = .ok (.putfield 72, 3) := by decide +kernel
theorem dX2_findChain_5 : decode cX2_findChain 5 = .ok (.aload_n 0, 1) := by decide +kernel
theorem dX2_findChain_6 : decode cX2_findChain 6 = .ok (.getfield 34, 3) := by decide +kernel
theorem dX2_findChain_9 : decode cX2_findChain 9 = .ok (.iconst (-1), 1) := by decide +kernel
theorem dX2_findChain_10 : decode cX2_findChain 10 = .ok (.if_icmp .ne 7, 3) := by decide +kernel
theorem dX2_findChain_13 : decode cX2_findChain 13 = .ok (.iconst 0, 1) := by decide +kernel
theorem dX2_findChain_14 : decode cX2_findChain 14 = .ok (.goto 15, 3) := by decide +kernel
theorem dX2_findChain_17 : decode cX2_findChain 17 = .ok (.aload_n 0, 1) := by decide +kernel
theorem dX2_findChain_18 : decode cX2_findChain 18 = .ok (.getfield 11, 3) := by decide +kernel
theorem dX2_findChain_21 : decode cX2_findChain 21 = .ok (.aload_n 0, 1) := by decide +kernel
theorem dX2_findChain_22 : decode cX2_findChain 22 = .ok (.getfield 34, 3) := by decide +kernel
theorem dX2_findChain_25 : decode cX2_findChain 25 = .ok (.aaload, 1) := by decide +kernel
theorem dX2_findChain_26 : decode cX2_findChain 26 = .ok (.getfield 83, 3) := by decide +kernel
theorem dX2_findChain_29 : decode cX2_findChain 29 = .ok (.istore_n 1, 1) := by decide +kernel
theorem dX2_findChain_30 : decode cX2_findChain 30 = .ok (.aload_n 0, 1) := by decide +kernel
theorem dX2_findChain_31 : decode cX2_findChain 31 = .ok (.getfield 34, 3) := by decide +kernel
theorem dX2_findChain_34 : decode cX2_findChain 34 = .ok (.iconst (-1), 1) := by decide +kernel
theorem dX2_findChain_35 : decode cX2_findChain 35 = .ok (.if_icmp .ne 7, 3) := by decide +kernel
theorem dX2_findChain_38 : decode cX2_findChain 38 = .ok (.iconst 0, 1) := by decide +kernel
theorem dX2_findChain_39 : decode cX2_findChain 39 = .ok (.goto 15, 3) := by decide +kernel
theorem dX2_findChain_42 : decode cX2_findChain 42 = .ok (.aload_n 0, 1) := by decide +kernel
theorem dX2_findChain_43 : decode cX2_findChain 43 = .ok (.getfield 11, 3) := by decide +kernel
theorem dX2_findChain_46 : decode cX2_findChain 46 = .ok (.aload_n 0, 1) := by decide +kernel
theorem dX2_findChain_47 : decode cX2_findChain 47 = .ok (.getfield 34, 3) := by decide +kernel
theorem dX2_findChain_50 : decode cX2_findChain 50 = .ok (.aaload, 1) := by decide +kernel
theorem dX2_findChain_51 : decode cX2_findChain 51 = .ok (.getfield 136, 3) := by decide +kernel
theorem dX2_findChain_54 : decode cX2_findChain 54 = .ok (.istore_n 2, 1) := by decide +kernel
theorem dX2_findChain_55 : decode cX2_findChain 55 = .ok (.aload_n 0, 1) := by decide +kernel
theorem dX2_findChain_56 : decode cX2_findChain 56 = .ok (.iload_n 1, 1) := by decide +kernel
theorem dX2_findChain_57 : decode cX2_findChain 57 = .ok (.invokevirtual 139, 3) := by decide +kernel
theorem dX2_findChain_60 : decode cX2_findChain 60 = .ok (.istore_n 3, 1) := by decide +kernel
theorem dX2_findChain_61 : decode cX2_findChain 61 = .ok (.iload_n 3, 1) := by decide +kernel
theorem dX2_findChain_62 : decode cX2_findChain 62 = .ok (.iconst (-1), 1) := by decide +kernel
theorem dX2_findChain_63 : decode cX2_findChain 63 = .ok (.if_icmp .eq 17, 3) := by decide +kernel
theorem dX2_findChain_66 : decode cX2_findChain 66 = .ok (.aload_n 0, 1) := by decide +kernel
theorem dX2_findChain_67 : decode cX2_findChain 67 = .ok (.getfield 11, 3) := by decide +kernel
theorem dX2_findChain_70 : decode cX2_findChain 70 = .ok (.iload_n 3, 1) := by decide +kernel
theorem dX2_findChain_71 : decode cX2_findChain 71 = .ok (.aaload, 1) := by decide +kernel
theorem dX2_findChain_72 : decode cX2_findChain 72 = .ok (.iload_n 1, 1) := by decide +kernel
theorem dX2_findChain_73 : decode cX2_findChain 73 = .ok (.iload_n 2, 1) := by decide +kernel
theorem dX2_findChain_74 : decode cX2_findChain 74 = .ok (.invokestatic 142, 3) := by decide +kernel
theorem dX2_findChain_77 : decode cX2_findChain 77 = .ok (.ifCond .ne 4, 3) := by decide +kernel
theorem dX2_findChain_80 : decode cX2_findChain 80 = .ok (.return_, 1) := by decide +kernel
theorem dX2_findChain_81 : decode cX2_findChain 81 = .ok (.iload_n 3, 1) := by decide +kernel
theorem dX2_findChain_82 : decode cX2_findChain 82 = .ok (.iconst (-1), 1) := by decide +kernel
theorem dX2_findChain_83 : decode cX2_findChain 83 = .ok (.if_icmp .eq 76, 3) := by decide +kernel
theorem dX2_findChain_86 : decode cX2_findChain 86 = .ok (.aload_n 0, 1) := by decide +kernel
theorem dX2_findChain_87 : decode cX2_findChain 87 = .ok (.getfield 72, 3) := by decide +kernel
theorem dX2_findChain_90 : decode cX2_findChain 90 = .ok (.bipush 16, 2) := by decide +kernel
theorem dX2_findChain_92 : decode cX2_findChain 92 = .ok (.if_icmp .ge 67, 3) := by decide +kernel
theorem dX2_findChain_95 : decode cX2_findChain 95 = .ok (.aload_n 0, 1) := by decide +kernel
theorem dX2_findChain_96 : decode cX2_findChain 96 = .ok (.getfield 27, 3) := by decide +kernel
theorem dX2_findChain_99 : decode cX2_findChain 99 = .ok (.aload_n 0, 1) := by decide +kernel
theorem dX2_findChain_100 : decode cX2_findChain 100 = .ok (.getfield 72, 3) := by decide +kernel
theorem dX2_findChain_103 : decode cX2_findChain 103 = .ok (.iload_n 3, 1) := by decide +kernel
theorem dX2_findChain_104 : decode cX2_findChain 104 = .ok (.iastore, 1) := by decide +kernel
theorem dX2_findChain_105 : decode cX2_findChain 105 = .ok (.aload_n 0, 1) := by decide +kernel
theorem dX2_findChain_106 : decode cX2_findChain 106 = .ok (.dup, 1) := by decide +kernel
theorem dX2_findChain_107 : decode cX2_findChain 107 = .ok (.getfield 72, 3) := by decide +kernel
theorem dX2_findChain_110 : decode cX2_findChain 110 = .ok (.iconst 1, 1) := by decide +kernel
theorem dX2_findChain_111 : decode cX2_findChain 111 = .ok (.iadd, 1) := by decide +kernel
theorem dX2_findChain_112 : decode cX2_findChain 112 = .ok (.putfield 72, 3) := by decide +kernel
theorem dX2_findChain_115 : decode cX2_findChain 115 = .ok (.aload_n 0, 1) := by decide +kernel
theorem dX2_findChain_116 : decode cX2_findChain 116 = .ok (.getfield 11, 3) := by decide +kernel
theorem dX2_findChain_119 : decode cX2_findChain 119 = .ok (.iload_n 3, 1) := by decide +kernel
theorem dX2_findChain_120 : decode cX2_findChain 120 = .ok (.aaload, 1) := by decide +kernel
theorem dX2_findChain_121 : decode cX2_findChain 121 = .ok (.astore 4, 2) := by decide +kernel
theorem dX2_findChain_123 : decode cX2_findChain 123 = .ok (.aload 4, 2) := by decide +kernel
theorem dX2_findChain_125 : decode cX2_findChain 125 = .ok (.getfield 96, 3) := by decide +kernel
theorem dX2_findChain_128 : decode cX2_findChain 128 = .ok (.ifCond .ne 7, 3) := by decide +kernel
theorem dX2_findChain_131 : decode cX2_findChain 131 = .ok (.iconst (-1), 1) := by decide +kernel
theorem dX2_findChain_132 : decode cX2_findChain 132 = .ok (.goto 23, 3) := by decide +kernel
theorem dX2_findChain_135 : decode cX2_findChain 135 = .ok (.aload_n 0, 1) := by decide +kernel
theorem dX2_findChain_136 : decode cX2_findChain 136 = .ok (.aload 4, 2) := by decide +kernel
theorem dX2_findChain_138 : decode cX2_findChain 138 = .ok (.getfield 83, 3) := by decide +kernel
theorem dX2_findChain_141 : decode cX2_findChain 141 = .ok (.aload 4, 2) := by decide +kernel
theorem dX2_findChain_143 : decode cX2_findChain 143 = .ok (.getfield 96, 3) := by decide +kernel
theorem dX2_findChain_146 : decode cX2_findChain 146 = .ok (.iadd, 1) := by decide +kernel
theorem dX2_findChain_147 : decode cX2_findChain 147 = .ok (.aload 4, 2) := by decide +kernel
theorem dX2_findChain_149 : decode cX2_findChain 149 = .ok (.invokevirtual 146, 3) := by decide +kernel
theorem dX2_findChain_152 : decode cX2_findChain 152 = .ok (.invokevirtual 150, 3) := by decide +kernel
theorem dX2_findChain_155 : decode cX2_findChain 155 = .ok (.istore_n 3, 1) := by decide +kernel
theorem dX2_findChain_156 : decode cX2_findChain 156 = .ok (.goto (-75), 3) := by decide +kernel
theorem dX2_findChain_159 : decode cX2_findChain 159 = .ok (.return_, 1) := by decide +kernel
theorem dX2_firstSegment_0 : decode cX2_firstSegment 0 = .ok (.iconst (-1), 1) := by decide +kernel
theorem dX2_firstSegment_1 : decode cX2_firstSegment 1 = .ok (.istore_n 2, 1) := by decide +kernel
theorem dX2_firstSegment_2 : decode cX2_firstSegment 2 = .ok (.iconst 4, 1) := by decide +kernel
theorem dX2_firstSegment_3 : decode cX2_firstSegment 3 = .ok (.istore_n 3, 1) := by decide +kernel
theorem dX2_firstSegment_4 : decode cX2_firstSegment 4 = .ok (.iload_n 3, 1) := by decide +kernel
theorem dX2_firstSegment_5 : decode cX2_firstSegment 5 = .ok (.bipush 16, 2) := by decide +kernel
theorem dX2_firstSegment_7 : decode cX2_firstSegment 7 = .ok (.if_icmp .ge 60, 3) := by decide +kernel
theorem dX2_firstSegment_10 : decode cX2_firstSegment 10 = .ok (.aload_n 0, 1) := by decide +kernel
theorem dX2_firstSegment_11 : decode cX2_firstSegment 11 = .ok (.iload_n 3, 1) := by decide +kernel
theorem dX2_firstSegment_12 : decode cX2_firstSegment 12 = .ok (.invokevirtual 153, 3) := by decide +kernel
theorem dX2_firstSegment_15 : decode cX2_firstSegment 15 = .ok (.ifCond .eq 46, 3) := by decide +kernel
theorem dX2_firstSegment_18 : decode cX2_firstSegment 18 = .ok (.aload_n 0, 1) := by decide +kernel
theorem dX2_firstSegment_19 : decode cX2_firstSegment 19 = .ok (.getfield 11, 3) := by decide +kernel
theorem dX2_firstSegment_22 : decode cX2_firstSegment 22 = .ok (.iload_n 3, 1) := by decide +kernel
theorem dX2_firstSegment_23 : decode cX2_firstSegment 23 = .ok (.aaload, 1) := by decide +kernel
theorem dX2_firstSegment_24 : decode cX2_firstSegment 24 = .ok (.getfield 83, 3) := by decide +kernel
theorem dX2_firstSegment_27 : decode cX2_firstSegment 27 = .ok (.iload_n 1, 1) := by decide +kernel
theorem dX2_firstSegment_28 : decode cX2_firstSegment 28 = .ok (.iconst 1, 1) := by decide +kernel
theorem dX2_firstSegment_29 : decode cX2_firstSegment 29 = .ok (.iadd, 1) := by decide +kernel
theorem dX2_firstSegment_30 : decode cX2_firstSegment 30 = .ok (.if_icmp .gt 31, 3) := by decide +kernel
theorem dX2_firstSegment_33 : decode cX2_firstSegment 33 = .ok (.iload_n 2, 1) := by decide +kernel
theorem dX2_firstSegment_34 : decode cX2_firstSegment 34 = .ok (.iconst (-1), 1) := by decide +kernel
theorem dX2_firstSegment_35 : decode cX2_firstSegment 35 = .ok (.if_icmp .eq 24, 3) := by decide +kernel
theorem dX2_firstSegment_38 : decode cX2_firstSegment 38 = .ok (.aload_n 0, 1) := by decide +kernel
theorem dX2_firstSegment_39 : decode cX2_firstSegment 39 = .ok (.getfield 11, 3) := by decide +kernel
theorem dX2_firstSegment_42 : decode cX2_firstSegment 42 = .ok (.iload_n 3, 1) := by decide +kernel
theorem dX2_firstSegment_43 : decode cX2_firstSegment 43 = .ok (.aaload, 1) := by decide +kernel
theorem dX2_firstSegment_44 : decode cX2_firstSegment 44 = .ok (.getfield 83, 3) := by decide +kernel
theorem dX2_firstSegment_47 : decode cX2_firstSegment 47 = .ok (.aload_n 0, 1) := by decide +kernel
theorem dX2_firstSegment_48 : decode cX2_firstSegment 48 = .ok (.getfield 11, 3) := by decide +kernel
theorem dX2_firstSegment_51 : decode cX2_firstSegment 51 = .ok (.iload_n 2, 1) := by decide +kernel
theorem dX2_firstSegment_52 : decode cX2_firstSegment 52 = .ok (.aaload, 1) := by decide +kernel
theorem dX2_firstSegment_53 : decode cX2_firstSegment 53 = .ok (.getfield 83, 3) := by decide +kernel
theorem dX2_firstSegment_56 : decode cX2_firstSegment 56 = .ok (.if_icmp .le 5, 3) := by decide +kernel
theorem dX2_firstSegment_59 : decode cX2_firstSegment 59 = .ok (.iload_n 3, 1) := by decide +kernel
theorem dX2_firstSegment_60 : decode cX2_firstSegment 60 = .ok (.istore_n 2, 1) := by decide +kernel
theorem dX2_firstSegment_61 : decode cX2_firstSegment 61 = .ok (.iinc 3 1, 3) := by decide +kernel
theorem dX2_firstSegment_64 : decode cX2_firstSegment 64 = .ok (.goto (-60), 3) := by decide +kernel
theorem dX2_firstSegment_67 : decode cX2_firstSegment 67 = .ok (.iload_n 2, 1) := by decide +kernel
theorem dX2_firstSegment_68 : decode cX2_firstSegment 68 = .ok (.ireturn, 1) := by decide +kernel
theorem dX2_tellsTerm_0 : decode cX2_tellsTerm 0 = .ok (.iload_n 1, 1) := by decide +kernel
theorem dX2_tellsTerm_1 : decode cX2_tellsTerm 1 = .ok (.aload_n 0, 1) := by decide +kernel
theorem dX2_tellsTerm_2 : decode cX2_tellsTerm 2 = .ok (.getfield 83, 3) := by decide +kernel
theorem dX2_tellsTerm_5 : decode cX2_tellsTerm 5 = .ok (.isub, 1) := by decide +kernel
theorem dX2_tellsTerm_6 : decode cX2_tellsTerm 6 = .ok (.istore_n 3, 1) := by decide +kernel
theorem dX2_tellsTerm_7 : decode cX2_tellsTerm 7 = .ok (.iload_n 3, 1) := by decide +kernel
theorem dX2_tellsTerm_8 : decode cX2_tellsTerm 8 = .ok (.iconst (-1), 1) := by decide +kernel
theorem dX2_tellsTerm_9 : decode cX2_tellsTerm 9 = .ok (.if_icmp .lt 11, 3) := by decide +kernel
theorem dX2_tellsTerm_12 : decode cX2_tellsTerm 12 = .ok (.iload_n 3, 1) := by decide +kernel
theorem dX2_tellsTerm_13 : decode cX2_tellsTerm 13 = .ok (.aload_n 0, 1) := by decide +kernel
theorem dX2_tellsTerm_14 : decode cX2_tellsTerm 14 = .ok (.getfield 96, 3) := by decide +kernel
theorem dX2_tellsTerm_17 : decode cX2_tellsTerm 17 = .ok (.if_icmp .lt 5, 3) := by decide +kernel
theorem dX2_tellsTerm_20 : decode cX2_tellsTerm 20 = .ok (.iconst 0, 1) := by decide +kernel
theorem dX2_tellsTerm_21 : decode cX2_tellsTerm 21 = .ok (.ireturn, 1) := by decide +kernel
theorem dX2_tellsTerm_22 : decode cX2_tellsTerm 22 = .ok (.iload_n 2, 1) := by decide +kernel
theorem dX2_tellsTerm_23 : decode cX2_tellsTerm 23 = .ok (.iload_n 3, 1) := by decide +kernel
theorem dX2_tellsTerm_24 : decode cX2_tellsTerm 24 = .ok (.ifCond .ge 10, 3) := by decide +kernel
theorem dX2_tellsTerm_27 : decode cX2_tellsTerm 27 = .ok (.aload_n 0, 1) := by decide +kernel
theorem dX2_tellsTerm_28 : decode cX2_tellsTerm 28 = .ok (.getfield 136, 3) := by decide +kernel
theorem dX2_tellsTerm_31 : decode cX2_tellsTerm 31 = .ok (.goto 14, 3) := by decide +kernel
theorem dX2_tellsTerm_34 : decode cX2_tellsTerm 34 = .ok (.aload_n 0, 1) := by decide +kernel
theorem dX2_tellsTerm_35 : decode cX2_tellsTerm 35 = .ok (.getfield 156, 3) := by decide +kernel
theorem dX2_tellsTerm_38 : decode cX2_tellsTerm 38 = .ok (.iload_n 3, 1) := by decide +kernel
theorem dX2_tellsTerm_39 : decode cX2_tellsTerm 39 = .ok (.bipush 6, 2) := by decide +kernel
theorem dX2_tellsTerm_41 : decode cX2_tellsTerm 41 = .ok (.imul, 1) := by decide +kernel
theorem dX2_tellsTerm_42 : decode cX2_tellsTerm 42 = .ok (.iconst 0, 1) := by decide +kernel
theorem dX2_tellsTerm_43 : decode cX2_tellsTerm 43 = .ok (.iadd, 1) := by decide +kernel
theorem dX2_tellsTerm_44 : decode cX2_tellsTerm 44 = .ok (.iaload, 1) := by decide +kernel
theorem dX2_tellsTerm_45 : decode cX2_tellsTerm 45 = .ok (.if_icmp .ne 7, 3) := by decide +kernel
theorem dX2_tellsTerm_48 : decode cX2_tellsTerm 48 = .ok (.iconst 1, 1) := by decide +kernel
theorem dX2_tellsTerm_49 : decode cX2_tellsTerm 49 = .ok (.goto 4, 3) := by decide +kernel
theorem dX2_tellsTerm_52 : decode cX2_tellsTerm 52 = .ok (.iconst 0, 1) := by decide +kernel
theorem dX2_tellsTerm_53 : decode cX2_tellsTerm 53 = .ok (.ireturn, 1) := by decide +kernel
theorem dX2_segmentAt_0 : decode cX2_segmentAt 0 = .ok (.iconst 4, 1) := by decide +kernel
theorem dX2_segmentAt_1 : decode cX2_segmentAt 1 = .ok (.istore_n 3, 1) := by decide +kernel
theorem dX2_segmentAt_2 : decode cX2_segmentAt 2 = .ok (.iload_n 3, 1) := by decide +kernel
theorem dX2_segmentAt_3 : decode cX2_segmentAt 3 = .ok (.bipush 16, 2) := by decide +kernel
theorem dX2_segmentAt_5 : decode cX2_segmentAt 5 = .ok (.if_icmp .ge 45, 3) := by decide +kernel
theorem dX2_segmentAt_8 : decode cX2_segmentAt 8 = .ok (.aload_n 0, 1) := by decide +kernel
theorem dX2_segmentAt_9 : decode cX2_segmentAt 9 = .ok (.iload_n 3, 1) := by decide +kernel
theorem dX2_segmentAt_10 : decode cX2_segmentAt 10 = .ok (.invokevirtual 153, 3) := by decide +kernel
theorem dX2_segmentAt_13 : decode cX2_segmentAt 13 = .ok (.ifCond .eq 31, 3) := by decide +kernel
theorem dX2_segmentAt_16 : decode cX2_segmentAt 16 = .ok (.aload_n 0, 1) := by decide +kernel
theorem dX2_segmentAt_17 : decode cX2_segmentAt 17 = .ok (.getfield 11, 3) := by decide +kernel
theorem dX2_segmentAt_20 : decode cX2_segmentAt 20 = .ok (.iload_n 3, 1) := by decide +kernel
theorem dX2_segmentAt_21 : decode cX2_segmentAt 21 = .ok (.aaload, 1) := by decide +kernel
theorem dX2_segmentAt_22 : decode cX2_segmentAt 22 = .ok (.getfield 83, 3) := by decide +kernel
theorem dX2_segmentAt_25 : decode cX2_segmentAt 25 = .ok (.iload_n 1, 1) := by decide +kernel
theorem dX2_segmentAt_26 : decode cX2_segmentAt 26 = .ok (.if_icmp .ne 18, 3) := by decide +kernel
theorem dX2_segmentAt_29 : decode cX2_segmentAt 29 = .ok (.aload_n 0, 1) := by decide +kernel
theorem dX2_segmentAt_30 : decode cX2_segmentAt 30 = .ok (.getfield 11, 3) := by decide +kernel
theorem dX2_segmentAt_33 : decode cX2_segmentAt 33 = .ok (.iload_n 3, 1) := by decide +kernel
theorem dX2_segmentAt_34 : decode cX2_segmentAt 34 = .ok (.aaload, 1) := by decide +kernel
theorem dX2_segmentAt_35 : decode cX2_segmentAt 35 = .ok (.getfield 136, 3) := by decide +kernel
theorem dX2_segmentAt_38 : decode cX2_segmentAt 38 = .ok (.iload_n 2, 1) := by decide +kernel
theorem dX2_segmentAt_39 : decode cX2_segmentAt 39 = .ok (.if_icmp .ne 5, 3) := by decide +kernel
theorem dX2_segmentAt_42 : decode cX2_segmentAt 42 = .ok (.iload_n 3, 1) := by decide +kernel
theorem dX2_segmentAt_43 : decode cX2_segmentAt 43 = .ok (.ireturn, 1) := by decide +kernel
theorem dX2_segmentAt_44 : decode cX2_segmentAt 44 = .ok (.iinc 3 1, 3) := by decide +kernel
theorem dX2_segmentAt_47 : decode cX2_segmentAt 47 = .ok (.goto (-45), 3) := by decide +kernel
theorem dX2_segmentAt_50 : decode cX2_segmentAt 50 = .ok (.iconst (-1), 1) := by decide +kernel
theorem dX2_segmentAt_51 : decode cX2_segmentAt 51 = .ok (.ireturn, 1) := by decide +kernel
theorem dX2_isSegment_0 : decode cX2_isSegment 0 = .ok (.aload_n 0, 1) := by decide +kernel
theorem dX2_isSegment_1 : decode cX2_isSegment 1 = .ok (.getfield 11, 3) := by decide +kernel
theorem dX2_isSegment_4 : decode cX2_isSegment 4 = .ok (.iload_n 1, 1) := by decide +kernel
theorem dX2_isSegment_5 : decode cX2_isSegment 5 = .ok (.aaload, 1) := by decide +kernel
theorem dX2_isSegment_6 : decode cX2_isSegment 6 = .ok (.getfield 41, 3) := by decide +kernel
theorem dX2_isSegment_9 : decode cX2_isSegment 9 = .ok (.ifCond .eq 21, 3) := by decide +kernel
theorem dX2_isSegment_12 : decode cX2_isSegment 12 = .ok (.aload_n 0, 1) := by decide +kernel
theorem dX2_isSegment_13 : decode cX2_isSegment 13 = .ok (.getfield 11, 3) := by decide +kernel
theorem dX2_isSegment_16 : decode cX2_isSegment 16 = .ok (.iload_n 1, 1) := by decide +kernel
theorem dX2_isSegment_17 : decode cX2_isSegment 17 = .ok (.aaload, 1) := by decide +kernel
theorem dX2_isSegment_18 : decode cX2_isSegment 18 = .ok (.getfield 38, 3) := by decide +kernel
theorem dX2_isSegment_21 : decode cX2_isSegment 21 = .ok (.bipush 24, 2) := by decide +kernel
theorem dX2_isSegment_23 : decode cX2_isSegment 23 = .ok (.if_icmp .lt 7, 3) := by decide +kernel
theorem dX2_isSegment_26 : decode cX2_isSegment 26 = .ok (.iconst 1, 1) := by decide +kernel
theorem dX2_isSegment_27 : decode cX2_isSegment 27 = .ok (.goto 4, 3) := by decide +kernel
theorem dX2_isSegment_30 : decode cX2_isSegment 30 = .ok (.iconst 0, 1) := by decide +kernel
theorem dX2_isSegment_31 : decode cX2_isSegment 31 = .ok (.ireturn, 1) := by decide +kernel
theorem dX2_isChained_0 : decode cX2_isChained 0 = .ok (.iconst 0, 1) := by decide +kernel
theorem dX2_isChained_1 : decode cX2_isChained 1 = .ok (.istore_n 2, 1) := by decide +kernel
theorem dX2_isChained_2 : decode cX2_isChained 2 = .ok (.iload_n 2, 1) := by decide +kernel
theorem dX2_isChained_3 : decode cX2_isChained 3 = .ok (.aload_n 0, 1) := by decide +kernel
theorem dX2_isChained_4 : decode cX2_isChained 4 = .ok (.getfield 72, 3) := by decide +kernel
theorem dX2_isChained_7 : decode cX2_isChained 7 = .ok (.if_icmp .ge 21, 3) := by decide +kernel
theorem dX2_isChained_10 : decode cX2_isChained 10 = .ok (.aload_n 0, 1) := by decide +kernel
theorem dX2_isChained_11 : decode cX2_isChained 11 = .ok (.getfield 27, 3) := by decide +kernel
theorem dX2_isChained_14 : decode cX2_isChained 14 = .ok (.iload_n 2, 1) := by decide +kernel
theorem dX2_isChained_15 : decode cX2_isChained 15 = .ok (.iaload, 1) := by decide +kernel
theorem dX2_isChained_16 : decode cX2_isChained 16 = .ok (.iload_n 1, 1) := by decide +kernel
theorem dX2_isChained_17 : decode cX2_isChained 17 = .ok (.if_icmp .ne 5, 3) := by decide +kernel
theorem dX2_isChained_20 : decode cX2_isChained 20 = .ok (.iconst 1, 1) := by decide +kernel
theorem dX2_isChained_21 : decode cX2_isChained 21 = .ok (.ireturn, 1) := by decide +kernel
theorem dX2_isChained_22 : decode cX2_isChained 22 = .ok (.iinc 2 1, 3) := by decide +kernel
theorem dX2_isChained_25 : decode cX2_isChained 25 = .ok (.goto (-23), 3) := by decide +kernel
theorem dX2_isChained_28 : decode cX2_isChained 28 = .ok (.iconst 0, 1) := by decide +kernel
theorem dX2_isChained_29 : decode cX2_isChained 29 = .ok (.ireturn, 1) := by decide +kernel
theorem dX3_init_0 : decode cX3_init 0 = .ok (.aload_n 0, 1) := by decide +kernel
theorem dX3_init_1 : decode cX3_init 1 = .ok (.invokespecial 3, 3) := by decide +kernel
theorem dX3_init_4 : decode cX3_init 4 = .ok (.aload_n 0, 1) := by decide +kernel
theorem dX3_init_5 : decode cX3_init 5 = .ok (.bipush 7, 2) := by decide +kernel
theorem dX3_init_7 : decode cX3_init 7 = .ok (.newarray .int, 2) := by decide +kernel
theorem dX3_init_9 : decode cX3_init 9 = .ok (.putfield 9, 3) := by decide +kernel
theorem dX3_init_12 : decode cX3_init 12 = .ok (.aload_n 0, 1) := by decide +kernel
theorem dX3_init_13 : decode cX3_init 13 = .ok (.bipush 7, 2) := by decide +kernel
theorem dX3_init_15 : decode cX3_init 15 = .ok (.newarray .int, 2) := by decide +kernel
theorem dX3_init_17 : decode cX3_init 17 = .ok (.putfield 15, 3) := by decide +kernel
theorem dX3_init_20 : decode cX3_init 20 = .ok (.aload_n 0, 1) := by decide +kernel
theorem dX3_init_21 : decode cX3_init 21 = .ok (.bipush 7, 2) := by decide +kernel
theorem dX3_init_23 : decode cX3_init 23 = .ok (.newarray .int, 2) := by decide +kernel
theorem dX3_init_25 : decode cX3_init 25 = .ok (.putfield 18, 3) := by decide +kernel
theorem dX3_init_28 : decode cX3_init 28 = .ok (.aload_n 0, 1) := by decide +kernel
theorem dX3_init_29 : decode cX3_init 29 = .ok (.bipush 7, 2) := by decide +kernel
theorem dX3_init_31 : decode cX3_init 31 = .ok (.newarray .int, 2) := by decide +kernel
theorem dX3_init_33 : decode cX3_init 33 = .ok (.putfield 21, 3) := by decide +kernel
theorem dX3_init_36 : decode cX3_init 36 = .ok (.aload_n 0, 1) := by decide +kernel
theorem dX3_init_37 : decode cX3_init 37 = .ok (.bipush 7, 2) := by decide +kernel
theorem dX3_init_39 : decode cX3_init 39 = .ok (.newarray .int, 2) := by decide +kernel
theorem dX3_init_41 : decode cX3_init 41 = .ok (.putfield 24, 3) := by decide +kernel
theorem dX3_init_44 : decode cX3_init 44 = .ok (.aload_n 0, 1) := by decide +kernel
theorem dX3_init_45 : decode cX3_init 45 = .ok (.bipush 7, 2) := by decide +kernel
theorem dX3_init_47 : decode cX3_init 47 = .ok (.newarray .int, 2) := by decide +kernel
theorem dX3_init_49 : decode cX3_init 49 = .ok (.putfield 27, 3) := by decide +kernel
theorem dX3_init_52 : decode cX3_init 52 = .ok (.aload_n 0, 1) := by decide +kernel
theorem dX3_init_53 : decode cX3_init 53 = .ok (.bipush 7, 2) := by decide +kernel
theorem dX3_init_55 : decode cX3_init 55 = .ok (.newarray .boolean, 2) := by decide +kernel
theorem dX3_init_57 : decode cX3_init 57 = .ok (.putfield 30, 3) := by decide +kernel
theorem dX3_init_60 : decode cX3_init 60 = .ok (.aload_n 0, 1) := by decide +kernel
theorem dX3_init_61 : decode cX3_init 61 = .ok (.bipush 7, 2) := by decide +kernel
theorem dX3_init_63 : decode cX3_init 63 = .ok (.newarray .boolean, 2) := by decide +kernel
theorem dX3_init_65 : decode cX3_init 65 = .ok (.putfield 34, 3) := by decide +kernel
theorem dX3_init_68 : decode cX3_init 68 = .ok (.aload_n 0, 1) := by decide +kernel
theorem dX3_init_69 : decode cX3_init 69 = .ok (.iconst (-1), 1) := by decide +kernel
theorem dX3_init_70 : decode cX3_init 70 = .ok (.putfield 37, 3) := by decide +kernel
theorem dX3_init_73 : decode cX3_init 73 = .ok (.return_, 1) := by decide +kernel
theorem dX3_begin_0 : decode cX3_begin 0 = .ok (.aload_n 0, 1) := by decide +kernel
theorem dX3_begin_1 : decode cX3_begin 1 = .ok (.getfield 9, 3) := by decide +kernel
theorem dX3_begin_4 : decode cX3_begin 4 = .ok (.iload_n 1, 1) := by decide +kernel
theorem dX3_begin_5 : decode cX3_begin 5 = .ok (.iconst 1, 1) := by decide +kernel
theorem dX3_begin_6 : decode cX3_begin 6 = .ok (.iadd, 1) := by decide +kernel
theorem dX3_begin_7 : decode cX3_begin 7 = .ok (.invokestatic 41, 3) := by decide +kernel
theorem dX3_begin_10 : decode cX3_begin 10 = .ok (.aload_n 0, 1) := by decide +kernel
theorem dX3_begin_11 : decode cX3_begin 11 = .ok (.getfield 15, 3) := by decide +kernel
theorem dX3_begin_14 : decode cX3_begin 14 = .ok (.iconst 0, 1) := by decide +kernel
theorem dX3_begin_15 : decode cX3_begin 15 = .ok (.invokestatic 41, 3) := by decide +kernel
theorem dX3_begin_18 : decode cX3_begin 18 = .ok (.aload_n 0, 1) := by decide +kernel
theorem dX3_begin_19 : decode cX3_begin 19 = .ok (.getfield 18, 3) := by decide +kernel
theorem dX3_begin_22 : decode cX3_begin 22 = .ok (.iconst 0, 1) := by decide +kernel
theorem dX3_begin_23 : decode cX3_begin 23 = .ok (.invokestatic 41, 3) := by decide +kernel
theorem dX3_begin_26 : decode cX3_begin 26 = .ok (.aload_n 0, 1) := by decide +kernel
theorem dX3_begin_27 : decode cX3_begin 27 = .ok (.getfield 21, 3) := by decide +kernel
theorem dX3_begin_30 : decode cX3_begin 30 = .ok (.iconst 0, 1) := by decide +kernel
theorem dX3_begin_31 : decode cX3_begin 31 = .ok (.invokestatic 41, 3) := by decide +kernel
theorem dX3_begin_34 : decode cX3_begin 34 = .ok (.aload_n 0, 1) := by decide +kernel
theorem dX3_begin_35 : decode cX3_begin 35 = .ok (.getfield 24, 3) := by decide +kernel
theorem dX3_begin_38 : decode cX3_begin 38 = .ok (.iconst 0, 1) := by decide +kernel
theorem dX3_begin_39 : decode cX3_begin 39 = .ok (.invokestatic 41, 3) := by decide +kernel
theorem dX3_begin_42 : decode cX3_begin 42 = .ok (.aload_n 0, 1) := by decide +kernel
theorem dX3_begin_43 : decode cX3_begin 43 = .ok (.getfield 27, 3) := by decide +kernel
theorem dX3_begin_46 : decode cX3_begin 46 = .ok (.iload_n 2, 1) := by decide +kernel
theorem dX3_begin_47 : decode cX3_begin 47 = .ok (.invokestatic 41, 3) := by decide +kernel
theorem dX3_begin_50 : decode cX3_begin 50 = .ok (.iconst 0, 1) := by decide +kernel
theorem dX3_begin_51 : decode cX3_begin 51 = .ok (.istore_n 3, 1) := by decide +kernel
theorem dX3_begin_52 : decode cX3_begin 52 = .ok (.iload_n 3, 1) := by decide +kernel
theorem dX3_begin_53 : decode cX3_begin 53 = .ok (.bipush 7, 2) := by decide +kernel
theorem dX3_begin_55 : decode cX3_begin 55 = .ok (.if_icmp .ge 23, 3) := by decide +kernel
theorem dX3_begin_58 : decode cX3_begin 58 = .ok (.aload_n 0, 1) := by decide +kernel
theorem dX3_begin_59 : decode cX3_begin 59 = .ok (.getfield 30, 3) := by decide +kernel
theorem dX3_begin_62 : decode cX3_begin 62 = .ok (.iload_n 3, 1) := by decide +kernel
theorem dX3_begin_63 : decode cX3_begin 63 = .ok (.iconst 1, 1) := by decide +kernel
theorem dX3_begin_64 : decode cX3_begin 64 = .ok (.bastore, 1) := by decide +kernel
theorem dX3_begin_65 : decode cX3_begin 65 = .ok (.aload_n 0, 1) := by decide +kernel
theorem dX3_begin_66 : decode cX3_begin 66 = .ok (.getfield 34, 3) := by decide +kernel
theorem dX3_begin_69 : decode cX3_begin 69 = .ok (.iload_n 3, 1) := by decide +kernel
theorem dX3_begin_70 : decode cX3_begin 70 = .ok (.iconst 0, 1) := by decide +kernel
theorem dX3_begin_71 : decode cX3_begin 71 = .ok (.bastore, 1) := by decide +kernel
theorem dX3_begin_72 : decode cX3_begin 72 = .ok (.iinc 3 1, 3) := by decide +kernel
theorem dX3_begin_75 : decode cX3_begin 75 = .ok (.goto (-23), 3) := by decide +kernel
theorem dX3_begin_78 : decode cX3_begin 78 = .ok (.aload_n 0, 1) := by decide +kernel
theorem dX3_begin_79 : decode cX3_begin 79 = .ok (.iload_n 1, 1) := by decide +kernel
theorem dX3_begin_80 : decode cX3_begin 80 = .ok (.iconst 1, 1) := by decide +kernel
theorem dX3_begin_81 : decode cX3_begin 81 = .ok (.iadd, 1) := by decide +kernel
theorem dX3_begin_82 : decode cX3_begin 82 = .ok (.putfield 47, 3) := by decide +kernel
theorem dX3_begin_85 : decode cX3_begin 85 = .ok (.aload_n 0, 1) := by decide +kernel
theorem dX3_begin_86 : decode cX3_begin 86 = .ok (.iconst 0, 1) := by decide +kernel
theorem dX3_begin_87 : decode cX3_begin 87 = .ok (.putfield 50, 3) := by decide +kernel
theorem dX3_begin_90 : decode cX3_begin 90 = .ok (.aload_n 0, 1) := by decide +kernel
theorem dX3_begin_91 : decode cX3_begin 91 = .ok (.iconst (-1), 1) := by decide +kernel
theorem dX3_begin_92 : decode cX3_begin 92 = .ok (.putfield 37, 3) := by decide +kernel
theorem dX3_begin_95 : decode cX3_begin 95 = .ok (.return_, 1) := by decide +kernel
theorem dX3_most_0 : decode cX3_most 0 = .ok (.aload_n 0, 1) := by decide +kernel
theorem dX3_most_1 : decode cX3_most 1 = .ok (.iload_n 1, 1) := by decide +kernel
theorem dX3_most_2 : decode cX3_most 2 = .ok (.bipush 127, 2) := by decide +kernel
theorem dX3_most_4 : decode cX3_most 4 = .ok (.iand, 1) := by decide +kernel
theorem dX3_most_5 : decode cX3_most 5 = .ok (.invokestatic 53, 3) := by decide +kernel
theorem dX3_most_8 : decode cX3_most 8 = .ok (.istore_n 2, 1) := by decide +kernel
theorem dX3_most_9 : decode cX3_most 9 = .ok (.iload_n 1, 1) := by decide +kernel
theorem dX3_most_10 : decode cX3_most 10 = .ok (.bipush 7, 2) := by decide +kernel
theorem dX3_most_12 : decode cX3_most 12 = .ok (.ishr, 1) := by decide +kernel
theorem dX3_most_13 : decode cX3_most 13 = .ok (.bipush 127, 2) := by decide +kernel
theorem dX3_most_15 : decode cX3_most 15 = .ok (.iand, 1) := by decide +kernel
theorem dX3_most_16 : decode cX3_most 16 = .ok (.istore_n 3, 1) := by decide +kernel
theorem dX3_most_17 : decode cX3_most 17 = .ok (.iload_n 3, 1) := by decide +kernel
theorem dX3_most_18 : decode cX3_most 18 = .ok (.ifCond .ne 7, 3) := by decide +kernel
theorem dX3_most_21 : decode cX3_most 21 = .ok (.iload_n 2, 1) := by decide +kernel
theorem dX3_most_22 : decode cX3_most 22 = .ok (.goto 12, 3) := by decide +kernel
theorem dX3_most_25 : decode cX3_most 25 = .ok (.iload_n 2, 1) := by decide +kernel
theorem dX3_most_26 : decode cX3_most 26 = .ok (.aload_n 0, 1) := by decide +kernel
theorem dX3_most_27 : decode cX3_most 27 = .ok (.iload_n 3, 1) := by decide +kernel
theorem dX3_most_28 : decode cX3_most 28 = .ok (.invokestatic 53, 3) := by decide +kernel
theorem dX3_most_31 : decode cX3_most 31 = .ok (.invokestatic 57, 3) := by decide +kernel
theorem dX3_most_34 : decode cX3_most 34 = .ok (.ireturn, 1) := by decide +kernel
theorem dX3_mostOf_0 : decode cX3_mostOf 0 = .ok (.ldc 63, 2) := by decide +kernel
theorem dX3_mostOf_2 : decode cX3_mostOf 2 = .ok (.istore_n 2, 1) := by decide +kernel
theorem dX3_mostOf_3 : decode cX3_mostOf 3 = .ok (.iconst 0, 1) := by decide +kernel
theorem dX3_mostOf_4 : decode cX3_mostOf 4 = .ok (.istore_n 3, 1) := by decide +kernel
theorem dX3_mostOf_5 : decode cX3_mostOf 5 = .ok (.iload_n 3, 1) := by decide +kernel
theorem dX3_mostOf_6 : decode cX3_mostOf 6 = .ok (.bipush 7, 2) := by decide +kernel
theorem dX3_mostOf_8 : decode cX3_mostOf 8 = .ok (.if_icmp .ge 39, 3) := by decide +kernel
theorem dX3_mostOf_11 : decode cX3_mostOf 11 = .ok (.iload_n 1, 1) := by decide +kernel
theorem dX3_mostOf_12 : decode cX3_mostOf 12 = .ok (.iload_n 3, 1) := by decide +kernel
theorem dX3_mostOf_13 : decode cX3_mostOf 13 = .ok (.ishr, 1) := by decide +kernel
theorem dX3_mostOf_14 : decode cX3_mostOf 14 = .ok (.iconst 1, 1) := by decide +kernel
theorem dX3_mostOf_15 : decode cX3_mostOf 15 = .ok (.iand, 1) := by decide +kernel
theorem dX3_mostOf_16 : decode cX3_mostOf 16 = .ok (.ifCond .eq 25, 3) := by decide +kernel
theorem dX3_mostOf_19 : decode cX3_mostOf 19 = .ok (.aload_n 0, 1) := by decide +kernel
theorem dX3_mostOf_20 : decode cX3_mostOf 20 = .ok (.iload_n 3, 1) := by decide +kernel
theorem dX3_mostOf_21 : decode cX3_mostOf 21 = .ok (.iaload, 1) := by decide +kernel
theorem dX3_mostOf_22 : decode cX3_mostOf 22 = .ok (.iload_n 2, 1) := by decide +kernel
theorem dX3_mostOf_23 : decode cX3_mostOf 23 = .ok (.if_icmp .le 18, 3) := by decide +kernel
theorem dX3_mostOf_26 : decode cX3_mostOf 26 = .ok (.aload_n 0, 1) := by decide +kernel
theorem dX3_mostOf_27 : decode cX3_mostOf 27 = .ok (.iload_n 1, 1) := by decide +kernel
theorem dX3_mostOf_28 : decode cX3_mostOf 28 = .ok (.aload_n 0, 1) := by decide +kernel
theorem dX3_mostOf_29 : decode cX3_mostOf 29 = .ok (.iload_n 3, 1) := by decide +kernel
theorem dX3_mostOf_30 : decode cX3_mostOf 30 = .ok (.iaload, 1) := by decide +kernel
theorem dX3_mostOf_31 : decode cX3_mostOf 31 = .ok (.invokestatic 64, 3) := by decide +kernel
theorem dX3_mostOf_34 : decode cX3_mostOf 34 = .ok (.ifCond .eq 7, 3) := by decide +kernel
theorem dX3_mostOf_37 : decode cX3_mostOf 37 = .ok (.aload_n 0, 1) := by decide +kernel
theorem dX3_mostOf_38 : decode cX3_mostOf 38 = .ok (.iload_n 3, 1) := by decide +kernel
theorem dX3_mostOf_39 : decode cX3_mostOf 39 = .ok (.iaload, 1) := by decide +kernel
theorem dX3_mostOf_40 : decode cX3_mostOf 40 = .ok (.istore_n 2, 1) := by decide +kernel
theorem dX3_mostOf_41 : decode cX3_mostOf 41 = .ok (.iinc 3 1, 3) := by decide +kernel
theorem dX3_mostOf_44 : decode cX3_mostOf 44 = .ok (.goto (-39), 3) := by decide +kernel
theorem dX3_mostOf_47 : decode cX3_mostOf 47 = .ok (.iload_n 2, 1) := by decide +kernel
theorem dX3_mostOf_48 : decode cX3_mostOf 48 = .ok (.ireturn, 1) := by decide +kernel
theorem dX3_isReached_0 : decode cX3_isReached 0 = .ok (.iconst 0, 1) := by decide +kernel
theorem dX3_isReached_1 : decode cX3_isReached 1 = .ok (.istore_n 3, 1) := by decide +kernel
theorem dX3_isReached_2 : decode cX3_isReached 2 = .ok (.iconst 0, 1) := by decide +kernel
theorem dX3_isReached_3 : decode cX3_isReached 3 = .ok (.istore 4, 2) := by decide +kernel
theorem dX3_isReached_5 : decode cX3_isReached 5 = .ok (.iload 4, 2) := by decide +kernel
theorem dX3_isReached_7 : decode cX3_isReached 7 = .ok (.bipush 7, 2) := by decide +kernel
theorem dX3_isReached_9 : decode cX3_isReached 9 = .ok (.if_icmp .ge 29, 3) := by decide +kernel
theorem dX3_isReached_12 : decode cX3_isReached 12 = .ok (.iload_n 1, 1) := by decide +kernel
theorem dX3_isReached_13 : decode cX3_isReached 13 = .ok (.iload 4, 2) := by decide +kernel
theorem dX3_isReached_15 : decode cX3_isReached 15 = .ok (.ishr, 1) := by decide +kernel
theorem dX3_isReached_16 : decode cX3_isReached 16 = .ok (.iconst 1, 1) := by decide +kernel
theorem dX3_isReached_17 : decode cX3_isReached 17 = .ok (.iand, 1) := by decide +kernel
theorem dX3_isReached_18 : decode cX3_isReached 18 = .ok (.ifCond .eq 14, 3) := by decide +kernel
theorem dX3_isReached_21 : decode cX3_isReached 21 = .ok (.aload_n 0, 1) := by decide +kernel
theorem dX3_isReached_22 : decode cX3_isReached 22 = .ok (.iload 4, 2) := by decide +kernel
theorem dX3_isReached_24 : decode cX3_isReached 24 = .ok (.iaload, 1) := by decide +kernel
theorem dX3_isReached_25 : decode cX3_isReached 25 = .ok (.iload_n 2, 1) := by decide +kernel
theorem dX3_isReached_26 : decode cX3_isReached 26 = .ok (.if_icmp .lt 6, 3) := by decide +kernel
theorem dX3_isReached_29 : decode cX3_isReached 29 = .ok (.iinc 3 1, 3) := by decide +kernel
theorem dX3_isReached_32 : decode cX3_isReached 32 = .ok (.iinc 4 1, 3) := by decide +kernel
theorem dX3_isReached_35 : decode cX3_isReached 35 = .ok (.goto (-30), 3) := by decide +kernel
theorem dX3_isReached_38 : decode cX3_isReached 38 = .ok (.iconst 2, 1) := by decide +kernel
theorem dX3_isReached_39 : decode cX3_isReached 39 = .ok (.iload_n 3, 1) := by decide +kernel
theorem dX3_isReached_40 : decode cX3_isReached 40 = .ok (.imul, 1) := by decide +kernel
theorem dX3_isReached_41 : decode cX3_isReached 41 = .ok (.iload_n 1, 1) := by decide +kernel
theorem dX3_isReached_42 : decode cX3_isReached 42 = .ok (.invokestatic 68, 3) := by decide +kernel
theorem dX3_isReached_45 : decode cX3_isReached 45 = .ok (.if_icmp .le 7, 3) := by decide +kernel
theorem dX3_isReached_48 : decode cX3_isReached 48 = .ok (.iconst 1, 1) := by decide +kernel
theorem dX3_isReached_49 : decode cX3_isReached 49 = .ok (.goto 4, 3) := by decide +kernel
theorem dX3_isReached_52 : decode cX3_isReached 52 = .ok (.iconst 0, 1) := by decide +kernel
theorem dX3_isReached_53 : decode cX3_isReached 53 = .ok (.ireturn, 1) := by decide +kernel
theorem dX4_init_0 : decode cX4_init 0 = .ok (.aload_n 0, 1) := by decide +kernel
theorem dX4_init_1 : decode cX4_init 1 = .ok (.invokespecial 3, 3) := by decide +kernel
theorem dX4_init_4 : decode cX4_init 4 = .ok (.aload_n 0, 1) := by decide +kernel
theorem dX4_init_5 : decode cX4_init 5 = .ok (.bipush 36, 2) := by decide +kernel
theorem dX4_init_7 : decode cX4_init 7 = .ok (.newarray .int, 2) := by decide +kernel
theorem dX4_init_9 : decode cX4_init 9 = .ok (.putfield 9, 3) := by decide +kernel
theorem dX4_init_12 : decode cX4_init 12 = .ok (.aload_n 0, 1) := by decide +kernel
theorem dX4_init_13 : decode cX4_init 13 = .ok (.sipush 200, 3) := by decide +kernel
theorem dX4_init_16 : decode cX4_init 16 = .ok (.newarray .byte, 2) := by decide +kernel
theorem dX4_init_18 : decode cX4_init 18 = .ok (.putfield 15, 3) := by decide +kernel
theorem dX4_init_21 : decode cX4_init 21 = .ok (.return_, 1) := by decide +kernel
theorem dX4_copyFrom_0 : decode cX4_copyFrom 0 = .ok (.aload_n 0, 1) := by decide +kernel
theorem dX4_copyFrom_1 : decode cX4_copyFrom 1 = .ok (.aload_n 1, 1) := by decide +kernel
theorem dX4_copyFrom_2 : decode cX4_copyFrom 2 = .ok (.getfield 19, 3) := by decide +kernel
theorem dX4_copyFrom_5 : decode cX4_copyFrom 5 = .ok (.putfield 19, 3) := by decide +kernel
theorem dX4_copyFrom_8 : decode cX4_copyFrom 8 = .ok (.aload_n 0, 1) := by decide +kernel
theorem dX4_copyFrom_9 : decode cX4_copyFrom 9 = .ok (.aload_n 1, 1) := by decide +kernel
theorem dX4_copyFrom_10 : decode cX4_copyFrom 10 = .ok (.getfield 23, 3) := by decide +kernel
theorem dX4_copyFrom_13 : decode cX4_copyFrom 13 = .ok (.putfield 23, 3) := by decide +kernel
theorem dX4_copyFrom_16 : decode cX4_copyFrom 16 = .ok (.aload_n 0, 1) := by decide +kernel
theorem dX4_copyFrom_17 : decode cX4_copyFrom 17 = .ok (.aload_n 1, 1) := by decide +kernel
theorem dX4_copyFrom_18 : decode cX4_copyFrom 18 = .ok (.getfield 26, 3) := by decide +kernel
theorem dX4_copyFrom_21 : decode cX4_copyFrom 21 = .ok (.putfield 26, 3) := by decide +kernel
theorem dX4_copyFrom_24 : decode cX4_copyFrom 24 = .ok (.aload_n 0, 1) := by decide +kernel
theorem dX4_copyFrom_25 : decode cX4_copyFrom 25 = .ok (.aload_n 1, 1) := by decide +kernel
theorem dX4_copyFrom_26 : decode cX4_copyFrom 26 = .ok (.getfield 29, 3) := by decide +kernel
theorem dX4_copyFrom_29 : decode cX4_copyFrom 29 = .ok (.putfield 29, 3) := by decide +kernel
theorem dX4_copyFrom_32 : decode cX4_copyFrom 32 = .ok (.aload_n 0, 1) := by decide +kernel
theorem dX4_copyFrom_33 : decode cX4_copyFrom 33 = .ok (.aload_n 1, 1) := by decide +kernel
theorem dX4_copyFrom_34 : decode cX4_copyFrom 34 = .ok (.getfield 32, 3) := by decide +kernel
theorem dX4_copyFrom_37 : decode cX4_copyFrom 37 = .ok (.putfield 32, 3) := by decide +kernel
theorem dX4_copyFrom_40 : decode cX4_copyFrom 40 = .ok (.aload_n 0, 1) := by decide +kernel
theorem dX4_copyFrom_41 : decode cX4_copyFrom 41 = .ok (.aload_n 1, 1) := by decide +kernel
theorem dX4_copyFrom_42 : decode cX4_copyFrom 42 = .ok (.getfield 35, 3) := by decide +kernel
theorem dX4_copyFrom_45 : decode cX4_copyFrom 45 = .ok (.putfield 35, 3) := by decide +kernel
theorem dX4_copyFrom_48 : decode cX4_copyFrom 48 = .ok (.aload_n 0, 1) := by decide +kernel
theorem dX4_copyFrom_49 : decode cX4_copyFrom 49 = .ok (.aload_n 1, 1) := by decide +kernel
theorem dX4_copyFrom_50 : decode cX4_copyFrom 50 = .ok (.getfield 38, 3) := by decide +kernel
theorem dX4_copyFrom_53 : decode cX4_copyFrom 53 = .ok (.putfield 38, 3) := by decide +kernel
theorem dX4_copyFrom_56 : decode cX4_copyFrom 56 = .ok (.aload_n 0, 1) := by decide +kernel
theorem dX4_copyFrom_57 : decode cX4_copyFrom 57 = .ok (.aload_n 1, 1) := by decide +kernel
theorem dX4_copyFrom_58 : decode cX4_copyFrom 58 = .ok (.getfield 41, 3) := by decide +kernel
theorem dX4_copyFrom_61 : decode cX4_copyFrom 61 = .ok (.putfield 41, 3) := by decide +kernel
theorem dX4_copyFrom_64 : decode cX4_copyFrom 64 = .ok (.aload_n 0, 1) := by decide +kernel
theorem dX4_copyFrom_65 : decode cX4_copyFrom 65 = .ok (.aload_n 1, 1) := by decide +kernel
theorem dX4_copyFrom_66 : decode cX4_copyFrom 66 = .ok (.getfield 44, 3) := by decide +kernel
theorem dX4_copyFrom_69 : decode cX4_copyFrom 69 = .ok (.putfield 44, 3) := by decide +kernel
theorem dX4_copyFrom_72 : decode cX4_copyFrom 72 = .ok (.aload_n 0, 1) := by decide +kernel
theorem dX4_copyFrom_73 : decode cX4_copyFrom 73 = .ok (.aload_n 1, 1) := by decide +kernel
theorem dX4_copyFrom_74 : decode cX4_copyFrom 74 = .ok (.getfield 47, 3) := by decide +kernel
theorem dX4_copyFrom_77 : decode cX4_copyFrom 77 = .ok (.putfield 47, 3) := by decide +kernel
theorem dX4_copyFrom_80 : decode cX4_copyFrom 80 = .ok (.aload_n 0, 1) := by decide +kernel
theorem dX4_copyFrom_81 : decode cX4_copyFrom 81 = .ok (.aload_n 1, 1) := by decide +kernel
theorem dX4_copyFrom_82 : decode cX4_copyFrom 82 = .ok (.getfield 50, 3) := by decide +kernel
theorem dX4_copyFrom_85 : decode cX4_copyFrom 85 = .ok (.putfield 50, 3) := by decide +kernel
theorem dX4_copyFrom_88 : decode cX4_copyFrom 88 = .ok (.aload_n 0, 1) := by decide +kernel
theorem dX4_copyFrom_89 : decode cX4_copyFrom 89 = .ok (.aload_n 1, 1) := by decide +kernel
theorem dX4_copyFrom_90 : decode cX4_copyFrom 90 = .ok (.getfield 53, 3) := by decide +kernel
theorem dX4_copyFrom_93 : decode cX4_copyFrom 93 = .ok (.putfield 53, 3) := by decide +kernel
theorem dX4_copyFrom_96 : decode cX4_copyFrom 96 = .ok (.aload_n 0, 1) := by decide +kernel
theorem dX4_copyFrom_97 : decode cX4_copyFrom 97 = .ok (.aload_n 1, 1) := by decide +kernel
theorem dX4_copyFrom_98 : decode cX4_copyFrom 98 = .ok (.getfield 56, 3) := by decide +kernel
theorem dX4_copyFrom_101 : decode cX4_copyFrom 101 = .ok (.putfield 56, 3) := by decide +kernel
theorem dX4_copyFrom_104 : decode cX4_copyFrom 104 = .ok (.aload_n 0, 1) := by decide +kernel
theorem dX4_copyFrom_105 : decode cX4_copyFrom 105 = .ok (.aload_n 1, 1) := by decide +kernel
theorem dX4_copyFrom_106 : decode cX4_copyFrom 106 = .ok (.getfield 59, 3) := by decide +kernel
theorem dX4_copyFrom_109 : decode cX4_copyFrom 109 = .ok (.putfield 59, 3) := by decide +kernel
theorem dX4_copyFrom_112 : decode cX4_copyFrom 112 = .ok (.aload_n 0, 1) := by decide +kernel
theorem dX4_copyFrom_113 : decode cX4_copyFrom 113 = .ok (.aload_n 1, 1) := by decide +kernel
theorem dX4_copyFrom_114 : decode cX4_copyFrom 114 = .ok (.getfield 62, 3) := by decide +kernel
theorem dX4_copyFrom_117 : decode cX4_copyFrom 117 = .ok (.putfield 62, 3) := by decide +kernel
theorem dX4_copyFrom_120 : decode cX4_copyFrom 120 = .ok (.aload_n 0, 1) := by decide +kernel
theorem dX4_copyFrom_121 : decode cX4_copyFrom 121 = .ok (.aload_n 1, 1) := by decide +kernel
theorem dX4_copyFrom_122 : decode cX4_copyFrom 122 = .ok (.getfield 65, 3) := by decide +kernel
theorem dX4_copyFrom_125 : decode cX4_copyFrom 125 = .ok (.putfield 65, 3) := by decide +kernel
theorem dX4_copyFrom_128 : decode cX4_copyFrom 128 = .ok (.aload_n 1, 1) := by decide +kernel
theorem dX4_copyFrom_129 : decode cX4_copyFrom 129 = .ok (.getfield 9, 3) := by decide +kernel
theorem dX4_copyFrom_132 : decode cX4_copyFrom 132 = .ok (.iconst 0, 1) := by decide +kernel
theorem dX4_copyFrom_133 : decode cX4_copyFrom 133 = .ok (.aload_n 0, 1) := by decide +kernel
theorem dX4_copyFrom_134 : decode cX4_copyFrom 134 = .ok (.getfield 9, 3) := by decide +kernel
theorem dX4_copyFrom_137 : decode cX4_copyFrom 137 = .ok (.iconst 0, 1) := by decide +kernel
theorem dX4_copyFrom_138 : decode cX4_copyFrom 138 = .ok (.aload_n 0, 1) := by decide +kernel
theorem dX4_copyFrom_139 : decode cX4_copyFrom 139 = .ok (.getfield 9, 3) := by decide +kernel
theorem dX4_copyFrom_142 : decode cX4_copyFrom 142 = .ok (.arraylength, 1) := by decide +kernel
theorem dX4_copyFrom_143 : decode cX4_copyFrom 143 = .ok (.invokestatic 68, 3) := by decide +kernel
theorem dX4_copyFrom_146 : decode cX4_copyFrom 146 = .ok (.aload_n 1, 1) := by decide +kernel
theorem dX4_copyFrom_147 : decode cX4_copyFrom 147 = .ok (.getfield 15, 3) := by decide +kernel
theorem dX4_copyFrom_150 : decode cX4_copyFrom 150 = .ok (.iconst 0, 1) := by decide +kernel
theorem dX4_copyFrom_151 : decode cX4_copyFrom 151 = .ok (.aload_n 0, 1) := by decide +kernel
theorem dX4_copyFrom_152 : decode cX4_copyFrom 152 = .ok (.getfield 15, 3) := by decide +kernel
theorem dX4_copyFrom_155 : decode cX4_copyFrom 155 = .ok (.iconst 0, 1) := by decide +kernel
theorem dX4_copyFrom_156 : decode cX4_copyFrom 156 = .ok (.aload_n 0, 1) := by decide +kernel
theorem dX4_copyFrom_157 : decode cX4_copyFrom 157 = .ok (.getfield 15, 3) := by decide +kernel
theorem dX4_copyFrom_160 : decode cX4_copyFrom 160 = .ok (.arraylength, 1) := by decide +kernel
theorem dX4_copyFrom_161 : decode cX4_copyFrom 161 = .ok (.invokestatic 68, 3) := by decide +kernel
theorem dX4_copyFrom_164 : decode cX4_copyFrom 164 = .ok (.return_, 1) := by decide +kernel
theorem dX4_fill_0 : decode cX4_fill 0 = .ok (.aload_n 0, 1) := by decide +kernel
theorem dX4_fill_1 : decode cX4_fill 1 = .ok (.iconst 0, 1) := by decide +kernel
theorem dX4_fill_2 : decode cX4_fill 2 = .ok (.iload_n 3, 1) := by decide +kernel
theorem dX4_fill_3 : decode cX4_fill 3 = .ok (.aload_n 0, 1) := by decide +kernel
theorem dX4_fill_4 : decode cX4_fill 4 = .ok (.getfield 15, 3) := by decide +kernel
theorem dX4_fill_7 : decode cX4_fill 7 = .ok (.arraylength, 1) := by decide +kernel
theorem dX4_fill_8 : decode cX4_fill 8 = .ok (.invokestatic 74, 3) := by decide +kernel
theorem dX4_fill_11 : decode cX4_fill 11 = .ok (.aload_n 1, 1) := by decide +kernel
theorem dX4_fill_12 : decode cX4_fill 12 = .ok (.arraylength, 1) := by decide +kernel
theorem dX4_fill_13 : decode cX4_fill 13 = .ok (.iload_n 2, 1) := by decide +kernel
theorem dX4_fill_14 : decode cX4_fill 14 = .ok (.isub, 1) := by decide +kernel
theorem dX4_fill_15 : decode cX4_fill 15 = .ok (.invokestatic 74, 3) := by decide +kernel
theorem dX4_fill_18 : decode cX4_fill 18 = .ok (.invokestatic 80, 3) := by decide +kernel
theorem dX4_fill_21 : decode cX4_fill 21 = .ok (.putfield 65, 3) := by decide +kernel
theorem dX4_fill_24 : decode cX4_fill 24 = .ok (.aload_n 0, 1) := by decide +kernel
theorem dX4_fill_25 : decode cX4_fill 25 = .ok (.getfield 65, 3) := by decide +kernel
theorem dX4_fill_28 : decode cX4_fill 28 = .ok (.ifCond .le 17, 3) := by decide +kernel
theorem dX4_fill_31 : decode cX4_fill 31 = .ok (.aload_n 1, 1) := by decide +kernel
theorem dX4_fill_32 : decode cX4_fill 32 = .ok (.iload_n 2, 1) := by decide +kernel
theorem dX4_fill_33 : decode cX4_fill 33 = .ok (.aload_n 0, 1) := by decide +kernel
theorem dX4_fill_34 : decode cX4_fill 34 = .ok (.getfield 15, 3) := by decide +kernel
theorem dX4_fill_37 : decode cX4_fill 37 = .ok (.iconst 0, 1) := by decide +kernel
theorem dX4_fill_38 : decode cX4_fill 38 = .ok (.aload_n 0, 1) := by decide +kernel
theorem dX4_fill_39 : decode cX4_fill 39 = .ok (.getfield 65, 3) := by decide +kernel
theorem dX4_fill_42 : decode cX4_fill 42 = .ok (.invokestatic 68, 3) := by decide +kernel
theorem dX4_fill_45 : decode cX4_fill 45 = .ok (.return_, 1) := by decide +kernel
theorem dX5_init_0 : decode cX5_init 0 = .ok (.aload_n 0, 1) := by decide +kernel
theorem dX5_init_1 : decode cX5_init 1 = .ok (.invokespecial 3, 3) := by decide +kernel
theorem dX5_init_4 : decode cX5_init 4 = .ok (.aload_n 0, 1) := by decide +kernel
theorem dX5_init_5 : decode cX5_init 5 = .ok (.sipush 1800, 3) := by decide +kernel
theorem dX5_init_8 : decode cX5_init 8 = .ok (.newarray .int, 2) := by decide +kernel
theorem dX5_init_10 : decode cX5_init 10 = .ok (.putfield 9, 3) := by decide +kernel
theorem dX5_init_13 : decode cX5_init 13 = .ok (.aload_n 0, 1) := by decide +kernel
theorem dX5_init_14 : decode cX5_init 14 = .ok (.bipush 6, 2) := by decide +kernel
theorem dX5_init_16 : decode cX5_init 16 = .ok (.newarray .int, 2) := by decide +kernel
theorem dX5_init_18 : decode cX5_init 18 = .ok (.putfield 15, 3) := by decide +kernel
theorem dX5_init_21 : decode cX5_init 21 = .ok (.aload_n 0, 1) := by decide +kernel
theorem dX5_init_22 : decode cX5_init 22 = .ok (.iload_n 1, 1) := by decide +kernel
theorem dX5_init_23 : decode cX5_init 23 = .ok (.putfield 18, 3) := by decide +kernel
theorem dX5_init_26 : decode cX5_init 26 = .ok (.aload_n 0, 1) := by decide +kernel
theorem dX5_init_27 : decode cX5_init 27 = .ok (.iload_n 1, 1) := by decide +kernel
theorem dX5_init_28 : decode cX5_init 28 = .ok (.putfield 22, 3) := by decide +kernel
theorem dX5_init_31 : decode cX5_init 31 = .ok (.aload_n 0, 1) := by decide +kernel
theorem dX5_init_32 : decode cX5_init 32 = .ok (.iload_n 1, 1) := by decide +kernel
theorem dX5_init_33 : decode cX5_init 33 = .ok (.putfield 25, 3) := by decide +kernel
theorem dX5_init_36 : decode cX5_init 36 = .ok (.return_, 1) := by decide +kernel
theorem dX5_clear_0 : decode cX5_clear 0 = .ok (.aload_n 0, 1) := by decide +kernel
theorem dX5_clear_1 : decode cX5_clear 1 = .ok (.iconst 0, 1) := by decide +kernel
theorem dX5_clear_2 : decode cX5_clear 2 = .ok (.putfield 28, 3) := by decide +kernel
theorem dX5_clear_5 : decode cX5_clear 5 = .ok (.aload_n 0, 1) := by decide +kernel
theorem dX5_clear_6 : decode cX5_clear 6 = .ok (.iconst 0, 1) := by decide +kernel
theorem dX5_clear_7 : decode cX5_clear 7 = .ok (.putfield 31, 3) := by decide +kernel
theorem dX5_clear_10 : decode cX5_clear 10 = .ok (.aload_n 0, 1) := by decide +kernel
theorem dX5_clear_11 : decode cX5_clear 11 = .ok (.aload_n 0, 1) := by decide +kernel
theorem dX5_clear_12 : decode cX5_clear 12 = .ok (.getfield 18, 3) := by decide +kernel
theorem dX5_clear_15 : decode cX5_clear 15 = .ok (.putfield 22, 3) := by decide +kernel
theorem dX5_clear_18 : decode cX5_clear 18 = .ok (.aload_n 0, 1) := by decide +kernel
theorem dX5_clear_19 : decode cX5_clear 19 = .ok (.iconst 0, 1) := by decide +kernel
theorem dX5_clear_20 : decode cX5_clear 20 = .ok (.putfield 34, 3) := by decide +kernel
theorem dX5_clear_23 : decode cX5_clear 23 = .ok (.aload_n 0, 1) := by decide +kernel
theorem dX5_clear_24 : decode cX5_clear 24 = .ok (.invokevirtual 37, 3) := by decide +kernel
theorem dX5_clear_27 : decode cX5_clear 27 = .ok (.return_, 1) := by decide +kernel
theorem dX5_has_0 : decode cX5_has 0 = .ok (.iload_n 1, 1) := by decide +kernel
theorem dX5_has_1 : decode cX5_has 1 = .ok (.aload_n 0, 1) := by decide +kernel
theorem dX5_has_2 : decode cX5_has 2 = .ok (.getfield 28, 3) := by decide +kernel
theorem dX5_has_5 : decode cX5_has 5 = .ok (.if_icmp .le 15, 3) := by decide +kernel
theorem dX5_has_8 : decode cX5_has 8 = .ok (.iload_n 1, 1) := by decide +kernel
theorem dX5_has_9 : decode cX5_has 9 = .ok (.aload_n 0, 1) := by decide +kernel
theorem dX5_has_10 : decode cX5_has 10 = .ok (.getfield 34, 3) := by decide +kernel
theorem dX5_has_13 : decode cX5_has 13 = .ok (.if_icmp .gt 7, 3) := by decide +kernel
theorem dX5_has_16 : decode cX5_has 16 = .ok (.iconst 1, 1) := by decide +kernel
theorem dX5_has_17 : decode cX5_has 17 = .ok (.goto 4, 3) := by decide +kernel
theorem dX5_has_20 : decode cX5_has 20 = .ok (.iconst 0, 1) := by decide +kernel
theorem dX5_has_21 : decode cX5_has 21 = .ok (.ireturn, 1) := by decide +kernel
theorem dX5_at_0 : decode cX5_at 0 = .ok (.iload_n 1, 1) := by decide +kernel
theorem dX5_at_1 : decode cX5_at 1 = .ok (.aload_n 0, 1) := by decide +kernel
theorem dX5_at_2 : decode cX5_at 2 = .ok (.getfield 28, 3) := by decide +kernel
theorem dX5_at_5 : decode cX5_at 5 = .ok (.isub, 1) := by decide +kernel
theorem dX5_at_6 : decode cX5_at 6 = .ok (.iconst 1, 1) := by decide +kernel
theorem dX5_at_7 : decode cX5_at 7 = .ok (.isub, 1) := by decide +kernel
theorem dX5_at_8 : decode cX5_at 8 = .ok (.bipush 6, 2) := by decide +kernel
theorem dX5_at_10 : decode cX5_at 10 = .ok (.imul, 1) := by decide +kernel
theorem dX5_at_11 : decode cX5_at 11 = .ok (.ireturn, 1) := by decide +kernel
theorem dX5_length_0 : decode cX5_length 0 = .ok (.aload_n 0, 1) := by decide +kernel
theorem dX5_length_1 : decode cX5_length 1 = .ok (.getfield 34, 3) := by decide +kernel
theorem dX5_length_4 : decode cX5_length 4 = .ok (.aload_n 0, 1) := by decide +kernel
theorem dX5_length_5 : decode cX5_length 5 = .ok (.getfield 28, 3) := by decide +kernel
theorem dX5_length_8 : decode cX5_length 8 = .ok (.isub, 1) := by decide +kernel
theorem dX5_length_9 : decode cX5_length 9 = .ok (.ireturn, 1) := by decide +kernel
theorem dX5_termAt_0 : decode cX5_termAt 0 = .ok (.iload_n 1, 1) := by decide +kernel
theorem dX5_termAt_1 : decode cX5_termAt 1 = .ok (.aload_n 0, 1) := by decide +kernel
theorem dX5_termAt_2 : decode cX5_termAt 2 = .ok (.getfield 28, 3) := by decide +kernel
theorem dX5_termAt_5 : decode cX5_termAt 5 = .ok (.if_icmp .ne 8, 3) := by decide +kernel
theorem dX5_termAt_8 : decode cX5_termAt 8 = .ok (.aload_n 0, 1) := by decide +kernel
theorem dX5_termAt_9 : decode cX5_termAt 9 = .ok (.getfield 31, 3) := by decide +kernel
theorem dX5_termAt_12 : decode cX5_termAt 12 = .ok (.ireturn, 1) := by decide +kernel
theorem dX5_termAt_13 : decode cX5_termAt 13 = .ok (.aload_n 0, 1) := by decide +kernel
theorem dX5_termAt_14 : decode cX5_termAt 14 = .ok (.iload_n 1, 1) := by decide +kernel
theorem dX5_termAt_15 : decode cX5_termAt 15 = .ok (.invokevirtual 40, 3) := by decide +kernel
theorem dX5_termAt_18 : decode cX5_termAt 18 = .ok (.ifCond .eq 18, 3) := by decide +kernel
theorem dX5_termAt_21 : decode cX5_termAt 21 = .ok (.aload_n 0, 1) := by decide +kernel
theorem dX5_termAt_22 : decode cX5_termAt 22 = .ok (.getfield 9, 3) := by decide +kernel
theorem dX5_termAt_25 : decode cX5_termAt 25 = .ok (.aload_n 0, 1) := by decide +kernel
theorem dX5_termAt_26 : decode cX5_termAt 26 = .ok (.iload_n 1, 1) := by decide +kernel
theorem dX5_termAt_27 : decode cX5_termAt 27 = .ok (.invokevirtual 44, 3) := by decide +kernel
theorem dX5_termAt_30 : decode cX5_termAt 30 = .ok (.iconst 0, 1) := by decide +kernel
theorem dX5_termAt_31 : decode cX5_termAt 31 = .ok (.iadd, 1) := by decide +kernel
theorem dX5_termAt_32 : decode cX5_termAt 32 = .ok (.iaload, 1) := by decide +kernel
theorem dX5_termAt_33 : decode cX5_termAt 33 = .ok (.goto 4, 3) := by decide +kernel
theorem dX5_termAt_36 : decode cX5_termAt 36 = .ok (.iconst (-1), 1) := by decide +kernel
theorem dX5_termAt_37 : decode cX5_termAt 37 = .ok (.ireturn, 1) := by decide +kernel
theorem dX5_runStart_0 : decode cX5_runStart 0 = .ok (.iload_n 1, 1) := by decide +kernel
theorem dX5_runStart_1 : decode cX5_runStart 1 = .ok (.aload_n 0, 1) := by decide +kernel
theorem dX5_runStart_2 : decode cX5_runStart 2 = .ok (.getfield 28, 3) := by decide +kernel
theorem dX5_runStart_5 : decode cX5_runStart 5 = .ok (.iconst 1, 1) := by decide +kernel
theorem dX5_runStart_6 : decode cX5_runStart 6 = .ok (.iadd, 1) := by decide +kernel
theorem dX5_runStart_7 : decode cX5_runStart 7 = .ok (.invokestatic 48, 3) := by decide +kernel
theorem dX5_runStart_10 : decode cX5_runStart 10 = .ok (.istore_n 2, 1) := by decide +kernel
theorem dX5_runStart_11 : decode cX5_runStart 11 = .ok (.aload_n 0, 1) := by decide +kernel
theorem dX5_runStart_12 : decode cX5_runStart 12 = .ok (.iload_n 2, 1) := by decide +kernel
theorem dX5_runStart_13 : decode cX5_runStart 13 = .ok (.invokevirtual 54, 3) := by decide +kernel
theorem dX5_runStart_16 : decode cX5_runStart 16 = .ok (.istore_n 3, 1) := by decide +kernel
theorem dX5_runStart_17 : decode cX5_runStart 17 = .ok (.iload_n 2, 1) := by decide +kernel
theorem dX5_runStart_18 : decode cX5_runStart 18 = .ok (.aload_n 0, 1) := by decide +kernel
theorem dX5_runStart_19 : decode cX5_runStart 19 = .ok (.getfield 28, 3) := by decide +kernel
theorem dX5_runStart_22 : decode cX5_runStart 22 = .ok (.iconst 1, 1) := by decide +kernel
theorem dX5_runStart_23 : decode cX5_runStart 23 = .ok (.iadd, 1) := by decide +kernel
theorem dX5_runStart_24 : decode cX5_runStart 24 = .ok (.if_icmp .le 20, 3) := by decide +kernel
theorem dX5_runStart_27 : decode cX5_runStart 27 = .ok (.aload_n 0, 1) := by decide +kernel
theorem dX5_runStart_28 : decode cX5_runStart 28 = .ok (.iload_n 2, 1) := by decide +kernel
theorem dX5_runStart_29 : decode cX5_runStart 29 = .ok (.iconst 1, 1) := by decide +kernel
theorem dX5_runStart_30 : decode cX5_runStart 30 = .ok (.isub, 1) := by decide +kernel
theorem dX5_runStart_31 : decode cX5_runStart 31 = .ok (.invokevirtual 54, 3) := by decide +kernel
theorem dX5_runStart_34 : decode cX5_runStart 34 = .ok (.iload_n 3, 1) := by decide +kernel
theorem dX5_runStart_35 : decode cX5_runStart 35 = .ok (.if_icmp .ne 9, 3) := by decide +kernel
theorem dX5_runStart_38 : decode cX5_runStart 38 = .ok (.iinc 2 (-1), 3) := by decide +kernel
theorem dX5_runStart_41 : decode cX5_runStart 41 = .ok (.goto (-24), 3) := by decide +kernel
theorem dX5_runStart_44 : decode cX5_runStart 44 = .ok (.iload_n 2, 1) := by decide +kernel
theorem dX5_runStart_45 : decode cX5_runStart 45 = .ok (.ireturn, 1) := by decide +kernel
theorem dX5_rowOf_0 : decode cX5_rowOf 0 = .ok (.aload_n 0, 1) := by decide +kernel
theorem dX5_rowOf_1 : decode cX5_rowOf 1 = .ok (.getfield 15, 3) := by decide +kernel
theorem dX5_rowOf_4 : decode cX5_rowOf 4 = .ok (.iconst 0, 1) := by decide +kernel
theorem dX5_rowOf_5 : decode cX5_rowOf 5 = .ok (.iload_n 1, 1) := by decide +kernel
theorem dX5_rowOf_6 : decode cX5_rowOf 6 = .ok (.iastore, 1) := by decide +kernel
theorem dX5_rowOf_7 : decode cX5_rowOf 7 = .ok (.aload_n 0, 1) := by decide +kernel
theorem dX5_rowOf_8 : decode cX5_rowOf 8 = .ok (.getfield 15, 3) := by decide +kernel
theorem dX5_rowOf_11 : decode cX5_rowOf 11 = .ok (.iconst 1, 1) := by decide +kernel
theorem dX5_rowOf_12 : decode cX5_rowOf 12 = .ok (.iload_n 2, 1) := by decide +kernel
theorem dX5_rowOf_13 : decode cX5_rowOf 13 = .ok (.iastore, 1) := by decide +kernel
theorem dX5_rowOf_14 : decode cX5_rowOf 14 = .ok (.aload_n 0, 1) := by decide +kernel
theorem dX5_rowOf_15 : decode cX5_rowOf 15 = .ok (.getfield 15, 3) := by decide +kernel
theorem dX5_rowOf_18 : decode cX5_rowOf 18 = .ok (.iconst 2, 1) := by decide +kernel
theorem dX5_rowOf_19 : decode cX5_rowOf 19 = .ok (.iload_n 3, 1) := by decide +kernel
theorem dX5_rowOf_20 : decode cX5_rowOf 20 = .ok (.iastore, 1) := by decide +kernel
theorem dX5_rowOf_21 : decode cX5_rowOf 21 = .ok (.aload_n 0, 1) := by decide +kernel
theorem dX5_rowOf_22 : decode cX5_rowOf 22 = .ok (.getfield 15, 3) := by decide +kernel
theorem dX5_rowOf_25 : decode cX5_rowOf 25 = .ok (.iconst 3, 1) := by decide +kernel
theorem dX5_rowOf_26 : decode cX5_rowOf 26 = .ok (.iload 4, 2) := by decide +kernel
theorem dX5_rowOf_28 : decode cX5_rowOf 28 = .ok (.iastore, 1) := by decide +kernel
theorem dX5_rowOf_29 : decode cX5_rowOf 29 = .ok (.aload_n 0, 1) := by decide +kernel
theorem dX5_rowOf_30 : decode cX5_rowOf 30 = .ok (.getfield 15, 3) := by decide +kernel
theorem dX5_rowOf_33 : decode cX5_rowOf 33 = .ok (.iconst 4, 1) := by decide +kernel
theorem dX5_rowOf_34 : decode cX5_rowOf 34 = .ok (.iload 5, 2) := by decide +kernel
theorem dX5_rowOf_36 : decode cX5_rowOf 36 = .ok (.iastore, 1) := by decide +kernel
theorem dX5_rowOf_37 : decode cX5_rowOf 37 = .ok (.aload_n 0, 1) := by decide +kernel
theorem dX5_rowOf_38 : decode cX5_rowOf 38 = .ok (.getfield 15, 3) := by decide +kernel
theorem dX5_rowOf_41 : decode cX5_rowOf 41 = .ok (.iconst 5, 1) := by decide +kernel
theorem dX5_rowOf_42 : decode cX5_rowOf 42 = .ok (.iload 6, 2) := by decide +kernel
theorem dX5_rowOf_44 : decode cX5_rowOf 44 = .ok (.iastore, 1) := by decide +kernel
theorem dX5_rowOf_45 : decode cX5_rowOf 45 = .ok (.aload_n 0, 1) := by decide +kernel
theorem dX5_rowOf_46 : decode cX5_rowOf 46 = .ok (.getfield 15, 3) := by decide +kernel
theorem dX5_rowOf_49 : decode cX5_rowOf 49 = .ok (.areturn, 1) := by decide +kernel
theorem dX5_add_0 : decode cX5_add 0 = .ok (.aload_n 0, 1) := by decide +kernel
theorem dX5_add_1 : decode cX5_add 1 = .ok (.invokevirtual 57, 3) := by decide +kernel
theorem dX5_add_4 : decode cX5_add 4 = .ok (.sipush 300, 3) := by decide +kernel
theorem dX5_add_7 : decode cX5_add 7 = .ok (.if_icmp .lt 4, 3) := by decide +kernel
theorem dX5_add_10 : decode cX5_add 10 = .ok (.return_, 1) := by decide +kernel
theorem dX5_add_11 : decode cX5_add 11 = .ok (.aload_n 1, 1) := by decide +kernel
theorem dX5_add_12 : decode cX5_add 12 = .ok (.iload_n 2, 1) := by decide +kernel
theorem dX5_add_13 : decode cX5_add 13 = .ok (.aload_n 0, 1) := by decide +kernel
theorem dX5_add_14 : decode cX5_add 14 = .ok (.getfield 9, 3) := by decide +kernel
theorem dX5_add_17 : decode cX5_add 17 = .ok (.aload_n 0, 1) := by decide +kernel
theorem dX5_add_18 : decode cX5_add 18 = .ok (.invokevirtual 57, 3) := by decide +kernel
theorem dX5_add_21 : decode cX5_add 21 = .ok (.bipush 6, 2) := by decide +kernel
theorem dX5_add_23 : decode cX5_add 23 = .ok (.imul, 1) := by decide +kernel
theorem dX5_add_24 : decode cX5_add 24 = .ok (.bipush 6, 2) := by decide +kernel
theorem dX5_add_26 : decode cX5_add 26 = .ok (.invokestatic 61, 3) := by decide +kernel
theorem dX5_add_29 : decode cX5_add 29 = .ok (.aload_n 0, 1) := by decide +kernel
theorem dX5_add_30 : decode cX5_add 30 = .ok (.dup, 1) := by decide +kernel
theorem dX5_add_31 : decode cX5_add 31 = .ok (.getfield 34, 3) := by decide +kernel
theorem dX5_add_34 : decode cX5_add 34 = .ok (.iconst 1, 1) := by decide +kernel
theorem dX5_add_35 : decode cX5_add 35 = .ok (.iadd, 1) := by decide +kernel
theorem dX5_add_36 : decode cX5_add 36 = .ok (.putfield 34, 3) := by decide +kernel
theorem dX5_add_39 : decode cX5_add 39 = .ok (.aload_n 1, 1) := by decide +kernel
theorem dX5_add_40 : decode cX5_add 40 = .ok (.iload_n 2, 1) := by decide +kernel
theorem dX5_add_41 : decode cX5_add 41 = .ok (.iconst 1, 1) := by decide +kernel
theorem dX5_add_42 : decode cX5_add 42 = .ok (.iadd, 1) := by decide +kernel
theorem dX5_add_43 : decode cX5_add 43 = .ok (.iaload, 1) := by decide +kernel
theorem dX5_add_44 : decode cX5_add 44 = .ok (.iconst 1, 1) := by decide +kernel
theorem dX5_add_45 : decode cX5_add 45 = .ok (.if_icmp .ne 20, 3) := by decide +kernel
theorem dX5_add_48 : decode cX5_add 48 = .ok (.aload_n 0, 1) := by decide +kernel
theorem dX5_add_49 : decode cX5_add 49 = .ok (.aload_n 1, 1) := by decide +kernel
theorem dX5_add_50 : decode cX5_add 50 = .ok (.iload_n 2, 1) := by decide +kernel
theorem dX5_add_51 : decode cX5_add 51 = .ok (.iconst 3, 1) := by decide +kernel
theorem dX5_add_52 : decode cX5_add 52 = .ok (.iadd, 1) := by decide +kernel
theorem dX5_add_53 : decode cX5_add 53 = .ok (.iaload, 1) := by decide +kernel
theorem dX5_add_54 : decode cX5_add 54 = .ok (.putfield 25, 3) := by decide +kernel
theorem dX5_add_57 : decode cX5_add 57 = .ok (.aload_n 0, 1) := by decide +kernel
theorem dX5_add_58 : decode cX5_add 58 = .ok (.aload_n 0, 1) := by decide +kernel
theorem dX5_add_59 : decode cX5_add 59 = .ok (.getfield 34, 3) := by decide +kernel
theorem dX5_add_62 : decode cX5_add 62 = .ok (.putfield 67, 3) := by decide +kernel
theorem dX5_add_65 : decode cX5_add 65 = .ok (.return_, 1) := by decide +kernel
theorem dX5_cutFrom_0 : decode cX5_cutFrom 0 = .ok (.aload_n 0, 1) := by decide +kernel
theorem dX5_cutFrom_1 : decode cX5_cutFrom 1 = .ok (.aload_n 0, 1) := by decide +kernel
theorem dX5_cutFrom_2 : decode cX5_cutFrom 2 = .ok (.getfield 28, 3) := by decide +kernel
theorem dX5_cutFrom_5 : decode cX5_cutFrom 5 = .ok (.aload_n 0, 1) := by decide +kernel
theorem dX5_cutFrom_6 : decode cX5_cutFrom 6 = .ok (.getfield 34, 3) := by decide +kernel
theorem dX5_cutFrom_9 : decode cX5_cutFrom 9 = .ok (.iload_n 1, 1) := by decide +kernel
theorem dX5_cutFrom_10 : decode cX5_cutFrom 10 = .ok (.iconst 1, 1) := by decide +kernel
theorem dX5_cutFrom_11 : decode cX5_cutFrom 11 = .ok (.isub, 1) := by decide +kernel
theorem dX5_cutFrom_12 : decode cX5_cutFrom 12 = .ok (.invokestatic 70, 3) := by decide +kernel
theorem dX5_cutFrom_15 : decode cX5_cutFrom 15 = .ok (.invokestatic 48, 3) := by decide +kernel
theorem dX5_cutFrom_18 : decode cX5_cutFrom 18 = .ok (.putfield 34, 3) := by decide +kernel
theorem dX5_cutFrom_21 : decode cX5_cutFrom 21 = .ok (.aload_n 0, 1) := by decide +kernel
theorem dX5_cutFrom_22 : decode cX5_cutFrom 22 = .ok (.aload_n 0, 1) := by decide +kernel
theorem dX5_cutFrom_23 : decode cX5_cutFrom 23 = .ok (.getfield 73, 3) := by decide +kernel
theorem dX5_cutFrom_26 : decode cX5_cutFrom 26 = .ok (.aload_n 0, 1) := by decide +kernel
theorem dX5_cutFrom_27 : decode cX5_cutFrom 27 = .ok (.getfield 34, 3) := by decide +kernel
theorem dX5_cutFrom_30 : decode cX5_cutFrom 30 = .ok (.invokestatic 70, 3) := by decide +kernel
theorem dX5_cutFrom_33 : decode cX5_cutFrom 33 = .ok (.putfield 73, 3) := by decide +kernel
theorem dX5_cutFrom_36 : decode cX5_cutFrom 36 = .ok (.aload_n 0, 1) := by decide +kernel
theorem dX5_cutFrom_37 : decode cX5_cutFrom 37 = .ok (.invokevirtual 37, 3) := by decide +kernel
theorem dX5_cutFrom_40 : decode cX5_cutFrom 40 = .ok (.return_, 1) := by decide +kernel
theorem dX5_moveBase_0 : decode cX5_moveBase 0 = .ok (.aload_n 0, 1) := by decide +kernel
theorem dX5_moveBase_1 : decode cX5_moveBase 1 = .ok (.iload_n 1, 1) := by decide +kernel
theorem dX5_moveBase_2 : decode cX5_moveBase 2 = .ok (.invokevirtual 54, 3) := by decide +kernel
theorem dX5_moveBase_5 : decode cX5_moveBase 5 = .ok (.iload_n 2, 1) := by decide +kernel
theorem dX5_moveBase_6 : decode cX5_moveBase 6 = .ok (.if_icmp .ne 12, 3) := by decide +kernel
theorem dX5_moveBase_9 : decode cX5_moveBase 9 = .ok (.aload_n 0, 1) := by decide +kernel
theorem dX5_moveBase_10 : decode cX5_moveBase 10 = .ok (.getfield 34, 3) := by decide +kernel
theorem dX5_moveBase_13 : decode cX5_moveBase 13 = .ok (.iload_n 1, 1) := by decide +kernel
theorem dX5_moveBase_14 : decode cX5_moveBase 14 = .ok (.isub, 1) := by decide +kernel
theorem dX5_moveBase_15 : decode cX5_moveBase 15 = .ok (.goto 4, 3) := by decide +kernel
theorem dX5_moveBase_18 : decode cX5_moveBase 18 = .ok (.iconst 0, 1) := by decide +kernel
theorem dX5_moveBase_19 : decode cX5_moveBase 19 = .ok (.istore 4, 2) := by decide +kernel
theorem dX5_moveBase_21 : decode cX5_moveBase 21 = .ok (.iload 4, 2) := by decide +kernel
theorem dX5_moveBase_23 : decode cX5_moveBase 23 = .ok (.ifCond .le 27, 3) := by decide +kernel
theorem dX5_moveBase_26 : decode cX5_moveBase 26 = .ok (.aload_n 0, 1) := by decide +kernel
theorem dX5_moveBase_27 : decode cX5_moveBase 27 = .ok (.getfield 9, 3) := by decide +kernel
theorem dX5_moveBase_30 : decode cX5_moveBase 30 = .ok (.aload_n 0, 1) := by decide +kernel
theorem dX5_moveBase_31 : decode cX5_moveBase 31 = .ok (.iload_n 1, 1) := by decide +kernel
theorem dX5_moveBase_32 : decode cX5_moveBase 32 = .ok (.iconst 1, 1) := by decide +kernel
theorem dX5_moveBase_33 : decode cX5_moveBase 33 = .ok (.iadd, 1) := by decide +kernel
theorem dX5_moveBase_34 : decode cX5_moveBase 34 = .ok (.invokevirtual 44, 3) := by decide +kernel
theorem dX5_moveBase_37 : decode cX5_moveBase 37 = .ok (.aload_n 0, 1) := by decide +kernel
theorem dX5_moveBase_38 : decode cX5_moveBase 38 = .ok (.getfield 9, 3) := by decide +kernel
theorem dX5_moveBase_41 : decode cX5_moveBase 41 = .ok (.iconst 0, 1) := by decide +kernel
theorem dX5_moveBase_42 : decode cX5_moveBase 42 = .ok (.iload 4, 2) := by decide +kernel
theorem dX5_moveBase_44 : decode cX5_moveBase 44 = .ok (.bipush 6, 2) := by decide +kernel
theorem dX5_moveBase_46 : decode cX5_moveBase 46 = .ok (.imul, 1) := by decide +kernel
theorem dX5_moveBase_47 : decode cX5_moveBase 47 = .ok (.invokestatic 61, 3) := by decide +kernel
theorem dX5_moveBase_50 : decode cX5_moveBase 50 = .ok (.aload_n 0, 1) := by decide +kernel
theorem dX5_moveBase_51 : decode cX5_moveBase 51 = .ok (.iload_n 1, 1) := by decide +kernel
theorem dX5_moveBase_52 : decode cX5_moveBase 52 = .ok (.putfield 28, 3) := by decide +kernel
theorem dX5_moveBase_55 : decode cX5_moveBase 55 = .ok (.aload_n 0, 1) := by decide +kernel
theorem dX5_moveBase_56 : decode cX5_moveBase 56 = .ok (.iload_n 2, 1) := by decide +kernel
theorem dX5_moveBase_57 : decode cX5_moveBase 57 = .ok (.putfield 31, 3) := by decide +kernel
theorem dX5_moveBase_60 : decode cX5_moveBase 60 = .ok (.aload_n 0, 1) := by decide +kernel
theorem dX5_moveBase_61 : decode cX5_moveBase 61 = .ok (.iload_n 3, 1) := by decide +kernel
theorem dX5_moveBase_62 : decode cX5_moveBase 62 = .ok (.putfield 22, 3) := by decide +kernel
theorem dX5_moveBase_65 : decode cX5_moveBase 65 = .ok (.aload_n 0, 1) := by decide +kernel
theorem dX5_moveBase_66 : decode cX5_moveBase 66 = .ok (.iload_n 1, 1) := by decide +kernel
theorem dX5_moveBase_67 : decode cX5_moveBase 67 = .ok (.iload 4, 2) := by decide +kernel
theorem dX5_moveBase_69 : decode cX5_moveBase 69 = .ok (.iadd, 1) := by decide +kernel
theorem dX5_moveBase_70 : decode cX5_moveBase 70 = .ok (.putfield 34, 3) := by decide +kernel
theorem dX5_moveBase_73 : decode cX5_moveBase 73 = .ok (.aload_n 0, 1) := by decide +kernel
theorem dX5_moveBase_74 : decode cX5_moveBase 74 = .ok (.aload_n 0, 1) := by decide +kernel
theorem dX5_moveBase_75 : decode cX5_moveBase 75 = .ok (.getfield 73, 3) := by decide +kernel
theorem dX5_moveBase_78 : decode cX5_moveBase 78 = .ok (.aload_n 0, 1) := by decide +kernel
theorem dX5_moveBase_79 : decode cX5_moveBase 79 = .ok (.getfield 34, 3) := by decide +kernel
theorem dX5_moveBase_82 : decode cX5_moveBase 82 = .ok (.invokestatic 70, 3) := by decide +kernel
theorem dX5_moveBase_85 : decode cX5_moveBase 85 = .ok (.putfield 73, 3) := by decide +kernel
theorem dX5_moveBase_88 : decode cX5_moveBase 88 = .ok (.aload_n 0, 1) := by decide +kernel
theorem dX5_moveBase_89 : decode cX5_moveBase 89 = .ok (.invokevirtual 37, 3) := by decide +kernel
theorem dX5_moveBase_92 : decode cX5_moveBase 92 = .ok (.return_, 1) := by decide +kernel
theorem dX5_findMembers_0 : decode cX5_findMembers 0 = .ok (.aload_n 0, 1) := by decide +kernel
theorem dX5_findMembers_1 : decode cX5_findMembers 1 = .ok (.aload_n 0, 1) := by decide +kernel
theorem dX5_findMembers_2 : decode cX5_findMembers 2 = .ok (.aload_n 0, 1) := by decide +kernel
theorem dX5_findMembers_3 : decode cX5_findMembers 3 = .ok (.getfield 34, 3) := by decide +kernel
theorem dX5_findMembers_6 : decode cX5_findMembers 6 = .ok (.invokevirtual 76, 3) := by decide +kernel
theorem dX5_findMembers_9 : decode cX5_findMembers 9 = .ok (.putfield 67, 3) := by decide +kernel
theorem dX5_findMembers_12 : decode cX5_findMembers 12 = .ok (.aload_n 0, 1) := by decide +kernel
theorem dX5_findMembers_13 : decode cX5_findMembers 13 = .ok (.aload_n 0, 1) := by decide +kernel
theorem dX5_findMembers_14 : decode cX5_findMembers 14 = .ok (.getfield 67, 3) := by decide +kernel
theorem dX5_findMembers_17 : decode cX5_findMembers 17 = .ok (.aload_n 0, 1) := by decide +kernel
theorem dX5_findMembers_18 : decode cX5_findMembers 18 = .ok (.getfield 28, 3) := by decide +kernel
theorem dX5_findMembers_21 : decode cX5_findMembers 21 = .ok (.if_icmp .ne 10, 3) := by decide +kernel
theorem dX5_findMembers_24 : decode cX5_findMembers 24 = .ok (.aload_n 0, 1) := by decide +kernel
theorem dX5_findMembers_25 : decode cX5_findMembers 25 = .ok (.getfield 22, 3) := by decide +kernel
theorem dX5_findMembers_28 : decode cX5_findMembers 28 = .ok (.goto 18, 3) := by decide +kernel
theorem dX5_findMembers_31 : decode cX5_findMembers 31 = .ok (.aload_n 0, 1) := by decide +kernel
theorem dX5_findMembers_32 : decode cX5_findMembers 32 = .ok (.getfield 9, 3) := by decide +kernel
theorem dX5_findMembers_35 : decode cX5_findMembers 35 = .ok (.aload_n 0, 1) := by decide +kernel
theorem dX5_findMembers_36 : decode cX5_findMembers 36 = .ok (.aload_n 0, 1) := by decide +kernel
theorem dX5_findMembers_37 : decode cX5_findMembers 37 = .ok (.getfield 67, 3) := by decide +kernel
theorem dX5_findMembers_40 : decode cX5_findMembers 40 = .ok (.invokevirtual 44, 3) := by decide +kernel
theorem dX5_findMembers_43 : decode cX5_findMembers 43 = .ok (.iconst 3, 1) := by decide +kernel
theorem dX5_findMembers_44 : decode cX5_findMembers 44 = .ok (.iadd, 1) := by decide +kernel
theorem dX5_findMembers_45 : decode cX5_findMembers 45 = .ok (.iaload, 1) := by decide +kernel
theorem dX5_findMembers_46 : decode cX5_findMembers 46 = .ok (.putfield 25, 3) := by decide +kernel
theorem dX5_findMembers_49 : decode cX5_findMembers 49 = .ok (.return_, 1) := by decide +kernel
theorem dX5_membersUpTo_0 : decode cX5_membersUpTo 0 = .ok (.aload_n 0, 1) := by decide +kernel
theorem dX5_membersUpTo_1 : decode cX5_membersUpTo 1 = .ok (.iload_n 1, 1) := by decide +kernel
theorem dX5_membersUpTo_2 : decode cX5_membersUpTo 2 = .ok (.invokevirtual 76, 3) := by decide +kernel
theorem dX5_membersUpTo_5 : decode cX5_membersUpTo 5 = .ok (.istore_n 2, 1) := by decide +kernel
theorem dX5_membersUpTo_6 : decode cX5_membersUpTo 6 = .ok (.iload_n 2, 1) := by decide +kernel
theorem dX5_membersUpTo_7 : decode cX5_membersUpTo 7 = .ok (.aload_n 0, 1) := by decide +kernel
theorem dX5_membersUpTo_8 : decode cX5_membersUpTo 8 = .ok (.getfield 28, 3) := by decide +kernel
theorem dX5_membersUpTo_11 : decode cX5_membersUpTo 11 = .ok (.if_icmp .ne 10, 3) := by decide +kernel
theorem dX5_membersUpTo_14 : decode cX5_membersUpTo 14 = .ok (.aload_n 0, 1) := by decide +kernel
theorem dX5_membersUpTo_15 : decode cX5_membersUpTo 15 = .ok (.getfield 22, 3) := by decide +kernel
theorem dX5_membersUpTo_18 : decode cX5_membersUpTo 18 = .ok (.goto 15, 3) := by decide +kernel
theorem dX5_membersUpTo_21 : decode cX5_membersUpTo 21 = .ok (.aload_n 0, 1) := by decide +kernel
theorem dX5_membersUpTo_22 : decode cX5_membersUpTo 22 = .ok (.getfield 9, 3) := by decide +kernel
theorem dX5_membersUpTo_25 : decode cX5_membersUpTo 25 = .ok (.aload_n 0, 1) := by decide +kernel
theorem dX5_membersUpTo_26 : decode cX5_membersUpTo 26 = .ok (.iload_n 2, 1) := by decide +kernel
theorem dX5_membersUpTo_27 : decode cX5_membersUpTo 27 = .ok (.invokevirtual 44, 3) := by decide +kernel
theorem dX5_membersUpTo_30 : decode cX5_membersUpTo 30 = .ok (.iconst 3, 1) := by decide +kernel
theorem dX5_membersUpTo_31 : decode cX5_membersUpTo 31 = .ok (.iadd, 1) := by decide +kernel
theorem dX5_membersUpTo_32 : decode cX5_membersUpTo 32 = .ok (.iaload, 1) := by decide +kernel
theorem dX5_membersUpTo_33 : decode cX5_membersUpTo 33 = .ok (.ireturn, 1) := by decide +kernel
theorem dX5_membersBehind_0 : decode cX5_membersBehind 0 = .ok (.iload_n 1, 1) := by decide +kernel
theorem dX5_membersBehind_1 : decode cX5_membersBehind 1 = .ok (.aload_n 0, 1) := by decide +kernel
theorem dX5_membersBehind_2 : decode cX5_membersBehind 2 = .ok (.getfield 34, 3) := by decide +kernel
theorem dX5_membersBehind_5 : decode cX5_membersBehind 5 = .ok (.invokestatic 70, 3) := by decide +kernel
theorem dX5_membersBehind_8 : decode cX5_membersBehind 8 = .ok (.aload_n 0, 1) := by decide +kernel
theorem dX5_membersBehind_9 : decode cX5_membersBehind 9 = .ok (.getfield 28, 3) := by decide +kernel
theorem dX5_membersBehind_12 : decode cX5_membersBehind 12 = .ok (.isub, 1) := by decide +kernel
theorem dX5_membersBehind_13 : decode cX5_membersBehind 13 = .ok (.iconst 1, 1) := by decide +kernel
theorem dX5_membersBehind_14 : decode cX5_membersBehind 14 = .ok (.isub, 1) := by decide +kernel
theorem dX5_membersBehind_15 : decode cX5_membersBehind 15 = .ok (.istore_n 2, 1) := by decide +kernel
theorem dX5_membersBehind_16 : decode cX5_membersBehind 16 = .ok (.iload_n 2, 1) := by decide +kernel
theorem dX5_membersBehind_17 : decode cX5_membersBehind 17 = .ok (.ifCond .lt 24, 3) := by decide +kernel
theorem dX5_membersBehind_20 : decode cX5_membersBehind 20 = .ok (.aload_n 0, 1) := by decide +kernel
theorem dX5_membersBehind_21 : decode cX5_membersBehind 21 = .ok (.getfield 9, 3) := by decide +kernel
theorem dX5_membersBehind_24 : decode cX5_membersBehind 24 = .ok (.iload_n 2, 1) := by decide +kernel
theorem dX5_membersBehind_25 : decode cX5_membersBehind 25 = .ok (.bipush 6, 2) := by decide +kernel
theorem dX5_membersBehind_27 : decode cX5_membersBehind 27 = .ok (.imul, 1) := by decide +kernel
theorem dX5_membersBehind_28 : decode cX5_membersBehind 28 = .ok (.iconst 1, 1) := by decide +kernel
theorem dX5_membersBehind_29 : decode cX5_membersBehind 29 = .ok (.iadd, 1) := by decide +kernel
theorem dX5_membersBehind_30 : decode cX5_membersBehind 30 = .ok (.iaload, 1) := by decide +kernel
theorem dX5_membersBehind_31 : decode cX5_membersBehind 31 = .ok (.iconst 1, 1) := by decide +kernel
theorem dX5_membersBehind_32 : decode cX5_membersBehind 32 = .ok (.if_icmp .eq 9, 3) := by decide +kernel
theorem dX5_membersBehind_35 : decode cX5_membersBehind 35 = .ok (.iinc 2 (-1), 3) := by decide +kernel
theorem dX5_membersBehind_38 : decode cX5_membersBehind 38 = .ok (.goto (-22), 3) := by decide +kernel
theorem dX5_membersBehind_41 : decode cX5_membersBehind 41 = .ok (.aload_n 0, 1) := by decide +kernel
theorem dX5_membersBehind_42 : decode cX5_membersBehind 42 = .ok (.getfield 28, 3) := by decide +kernel
theorem dX5_membersBehind_45 : decode cX5_membersBehind 45 = .ok (.iconst 1, 1) := by decide +kernel
theorem dX5_membersBehind_46 : decode cX5_membersBehind 46 = .ok (.iadd, 1) := by decide +kernel
theorem dX5_membersBehind_47 : decode cX5_membersBehind 47 = .ok (.iconst (-1), 1) := by decide +kernel
theorem dX5_membersBehind_48 : decode cX5_membersBehind 48 = .ok (.iload_n 2, 1) := by decide +kernel
theorem dX5_membersBehind_49 : decode cX5_membersBehind 49 = .ok (.invokestatic 48, 3) := by decide +kernel
theorem dX5_membersBehind_52 : decode cX5_membersBehind 52 = .ok (.iadd, 1) := by decide +kernel
theorem dX5_membersBehind_53 : decode cX5_membersBehind 53 = .ok (.ireturn, 1) := by decide +kernel
theorem dX6_init_0 : decode cX6_init 0 = .ok (.aload_n 0, 1) := by decide +kernel
theorem dX6_init_1 : decode cX6_init 1 = .ok (.invokespecial 3, 3) := by decide +kernel
theorem dX6_init_4 : decode cX6_init 4 = .ok (.aload_n 0, 1) := by decide +kernel
theorem dX6_init_5 : decode cX6_init 5 = .ok (.bipush 80, 2) := by decide +kernel
theorem dX6_init_7 : decode cX6_init 7 = .ok (.newarray .int, 2) := by decide +kernel
theorem dX6_init_9 : decode cX6_init 9 = .ok (.putfield 11, 3) := by decide +kernel
theorem dX6_init_12 : decode cX6_init 12 = .ok (.aload_n 0, 1) := by decide +kernel
theorem dX6_init_13 : decode cX6_init 13 = .ok (.sipush 1616, 3) := by decide +kernel
theorem dX6_init_16 : decode cX6_init 16 = .ok (.newarray .byte, 2) := by decide +kernel
theorem dX6_init_18 : decode cX6_init 18 = .ok (.putfield 15, 3) := by decide +kernel
theorem dX6_init_21 : decode cX6_init 21 = .ok (.aload_n 0, 1) := by decide +kernel
theorem dX6_init_22 : decode cX6_init 22 = .ok (.sipush 128, 3) := by decide +kernel
theorem dX6_init_25 : decode cX6_init 25 = .ok (.newarray .int, 2) := by decide +kernel
theorem dX6_init_27 : decode cX6_init 27 = .ok (.putfield 19, 3) := by decide +kernel
theorem dX6_init_30 : decode cX6_init 30 = .ok (.aload_n 0, 1) := by decide +kernel
theorem dX6_init_31 : decode cX6_init 31 = .ok (.sipush 128, 3) := by decide +kernel
theorem dX6_init_34 : decode cX6_init 34 = .ok (.newarray .int, 2) := by decide +kernel
theorem dX6_init_36 : decode cX6_init 36 = .ok (.putfield 22, 3) := by decide +kernel
theorem dX6_init_39 : decode cX6_init 39 = .ok (.aload_n 0, 1) := by decide +kernel
theorem dX6_init_40 : decode cX6_init 40 = .ok (.sipush 128, 3) := by decide +kernel
theorem dX6_init_43 : decode cX6_init 43 = .ok (.newarray .int, 2) := by decide +kernel
theorem dX6_init_45 : decode cX6_init 45 = .ok (.putfield 25, 3) := by decide +kernel
theorem dX6_init_48 : decode cX6_init 48 = .ok (.aload_n 0, 1) := by decide +kernel
theorem dX6_init_49 : decode cX6_init 49 = .ok (.sipush 16896, 3) := by decide +kernel
theorem dX6_init_52 : decode cX6_init 52 = .ok (.newarray .byte, 2) := by decide +kernel
theorem dX6_init_54 : decode cX6_init 54 = .ok (.putfield 28, 3) := by decide +kernel
theorem dX6_init_57 : decode cX6_init 57 = .ok (.aload_n 0, 1) := by decide +kernel
theorem dX6_init_58 : decode cX6_init 58 = .ok (.sipush 134, 3) := by decide +kernel
theorem dX6_init_61 : decode cX6_init 61 = .ok (.newarray .byte, 2) := by decide +kernel
theorem dX6_init_63 : decode cX6_init 63 = .ok (.putfield 31, 3) := by decide +kernel
theorem dX6_init_66 : decode cX6_init 66 = .ok (.aload_n 0, 1) := by decide +kernel
theorem dX6_init_67 : decode cX6_init 67 = .ok (.iconst 0, 1) := by decide +kernel
theorem dX6_init_68 : decode cX6_init 68 = .ok (.newarray .byte, 2) := by decide +kernel
theorem dX6_init_70 : decode cX6_init 70 = .ok (.putfield 34, 3) := by decide +kernel
theorem dX6_init_73 : decode cX6_init 73 = .ok (.aload_n 0, 1) := by decide +kernel
theorem dX6_init_74 : decode cX6_init 74 = .ok (.aload_n 1, 1) := by decide +kernel
theorem dX6_init_75 : decode cX6_init 75 = .ok (.putfield 37, 3) := by decide +kernel
theorem dX6_init_78 : decode cX6_init 78 = .ok (.iconst 0, 1) := by decide +kernel
theorem dX6_init_79 : decode cX6_init 79 = .ok (.istore_n 2, 1) := by decide +kernel
theorem dX6_init_80 : decode cX6_init 80 = .ok (.iload_n 2, 1) := by decide +kernel
theorem dX6_init_81 : decode cX6_init 81 = .ok (.sipush 128, 3) := by decide +kernel
theorem dX6_init_84 : decode cX6_init 84 = .ok (.if_icmp .ge 16, 3) := by decide +kernel
theorem dX6_init_87 : decode cX6_init 87 = .ok (.aload_n 0, 1) := by decide +kernel
theorem dX6_init_88 : decode cX6_init 88 = .ok (.getfield 19, 3) := by decide +kernel
theorem dX6_init_91 : decode cX6_init 91 = .ok (.iload_n 2, 1) := by decide +kernel
theorem dX6_init_92 : decode cX6_init 92 = .ok (.iload_n 2, 1) := by decide +kernel
theorem dX6_init_93 : decode cX6_init 93 = .ok (.iastore, 1) := by decide +kernel
theorem dX6_init_94 : decode cX6_init 94 = .ok (.iinc 2 1, 3) := by decide +kernel
theorem dX6_init_97 : decode cX6_init 97 = .ok (.goto (-17), 3) := by decide +kernel
theorem dX6_init_100 : decode cX6_init 100 = .ok (.return_, 1) := by decide +kernel
theorem dX6_clear_0 : decode cX6_clear 0 = .ok (.aload_n 0, 1) := by decide +kernel
theorem dX6_clear_1 : decode cX6_clear 1 = .ok (.iconst 0, 1) := by decide +kernel
theorem dX6_clear_2 : decode cX6_clear 2 = .ok (.putfield 41, 3) := by decide +kernel
theorem dX6_clear_5 : decode cX6_clear 5 = .ok (.aload_n 0, 1) := by decide +kernel
theorem dX6_clear_6 : decode cX6_clear 6 = .ok (.iconst 0, 1) := by decide +kernel
theorem dX6_clear_7 : decode cX6_clear 7 = .ok (.putfield 45, 3) := by decide +kernel
theorem dX6_clear_10 : decode cX6_clear 10 = .ok (.aload_n 0, 1) := by decide +kernel
theorem dX6_clear_11 : decode cX6_clear 11 = .ok (.iconst 0, 1) := by decide +kernel
theorem dX6_clear_12 : decode cX6_clear 12 = .ok (.putfield 48, 3) := by decide +kernel
theorem dX6_clear_15 : decode cX6_clear 15 = .ok (.return_, 1) := by decide +kernel
theorem dX6_admit_0 : decode cX6_admit 0 = .ok (.aload_n 0, 1) := by decide +kernel
theorem dX6_admit_1 : decode cX6_admit 1 = .ok (.iconst 0, 1) := by decide +kernel
theorem dX6_admit_2 : decode cX6_admit 2 = .ok (.putfield 51, 3) := by decide +kernel
theorem dX6_admit_5 : decode cX6_admit 5 = .ok (.aload_n 0, 1) := by decide +kernel
theorem dX6_admit_6 : decode cX6_admit 6 = .ok (.iload_n 1, 1) := by decide +kernel
theorem dX6_admit_7 : decode cX6_admit 7 = .ok (.putfield 54, 3) := by decide +kernel
theorem dX6_admit_10 : decode cX6_admit 10 = .ok (.aload_n 0, 1) := by decide +kernel
theorem dX6_admit_11 : decode cX6_admit 11 = .ok (.iconst 0, 1) := by decide +kernel
theorem dX6_admit_12 : decode cX6_admit 12 = .ok (.putfield 57, 3) := by decide +kernel
theorem dX6_admit_15 : decode cX6_admit 15 = .ok (.aload_n 2, 1) := by decide +kernel
theorem dX6_admit_16 : decode cX6_admit 16 = .ok (.iload_n 3, 1) := by decide +kernel
theorem dX6_admit_17 : decode cX6_admit 17 = .ok (.iconst 5, 1) := by decide +kernel
theorem dX6_admit_18 : decode cX6_admit 18 = .ok (.iadd, 1) := by decide +kernel
theorem dX6_admit_19 : decode cX6_admit 19 = .ok (.iaload, 1) := by decide +kernel
theorem dX6_admit_20 : decode cX6_admit 20 = .ok (.iconst (-1), 1) := by decide +kernel
theorem dX6_admit_21 : decode cX6_admit 21 = .ok (.if_icmp .ne 10, 3) := by decide +kernel
theorem dX6_admit_24 : decode cX6_admit 24 = .ok (.aload_n 0, 1) := by decide +kernel
theorem dX6_admit_25 : decode cX6_admit 25 = .ok (.iload_n 1, 1) := by decide +kernel
theorem dX6_admit_26 : decode cX6_admit 26 = .ok (.invokevirtual 60, 3) := by decide +kernel
theorem dX6_admit_29 : decode cX6_admit 29 = .ok (.iconst (-1), 1) := by decide +kernel
theorem dX6_admit_30 : decode cX6_admit 30 = .ok (.ireturn, 1) := by decide +kernel
theorem dX6_admit_31 : decode cX6_admit 31 = .ok (.aload_n 0, 1) := by decide +kernel
theorem dX6_admit_32 : decode cX6_admit 32 = .ok (.aload_n 2, 1) := by decide +kernel
theorem dX6_admit_33 : decode cX6_admit 33 = .ok (.iload_n 3, 1) := by decide +kernel
theorem dX6_admit_34 : decode cX6_admit 34 = .ok (.iconst 3, 1) := by decide +kernel
theorem dX6_admit_35 : decode cX6_admit 35 = .ok (.iadd, 1) := by decide +kernel
theorem dX6_admit_36 : decode cX6_admit 36 = .ok (.iaload, 1) := by decide +kernel
theorem dX6_admit_37 : decode cX6_admit 37 = .ok (.invokevirtual 64, 3) := by decide +kernel
theorem dX6_admit_40 : decode cX6_admit 40 = .ok (.istore 4, 2) := by decide +kernel
theorem dX6_admit_42 : decode cX6_admit 42 = .ok (.iload 4, 2) := by decide +kernel
theorem dX6_admit_44 : decode cX6_admit 44 = .ok (.iconst (-1), 1) := by decide +kernel
theorem dX6_admit_45 : decode cX6_admit 45 = .ok (.if_icmp .ne 10, 3) := by decide +kernel
theorem dX6_admit_48 : decode cX6_admit 48 = .ok (.aload_n 0, 1) := by decide +kernel
theorem dX6_admit_49 : decode cX6_admit 49 = .ok (.iconst 2, 1) := by decide +kernel
theorem dX6_admit_50 : decode cX6_admit 50 = .ok (.putfield 51, 3) := by decide +kernel
theorem dX6_admit_53 : decode cX6_admit 53 = .ok (.iconst (-1), 1) := by decide +kernel
theorem dX6_admit_54 : decode cX6_admit 54 = .ok (.ireturn, 1) := by decide +kernel
theorem dX6_admit_55 : decode cX6_admit 55 = .ok (.iload 4, 2) := by decide +kernel
theorem dX6_admit_57 : decode cX6_admit 57 = .ok (.iconst 5, 1) := by decide +kernel
theorem dX6_admit_58 : decode cX6_admit 58 = .ok (.imul, 1) := by decide +kernel
theorem dX6_admit_59 : decode cX6_admit 59 = .ok (.istore 5, 2) := by decide +kernel
theorem dX6_admit_61 : decode cX6_admit 61 = .ok (.aload_n 0, 1) := by decide +kernel
theorem dX6_admit_62 : decode cX6_admit 62 = .ok (.getfield 11, 3) := by decide +kernel
theorem dX6_admit_65 : decode cX6_admit 65 = .ok (.iload 5, 2) := by decide +kernel
theorem dX6_admit_67 : decode cX6_admit 67 = .ok (.iconst 2, 1) := by decide +kernel
theorem dX6_admit_68 : decode cX6_admit 68 = .ok (.iadd, 1) := by decide +kernel
theorem dX6_admit_69 : decode cX6_admit 69 = .ok (.iaload, 1) := by decide +kernel
theorem dX6_admit_70 : decode cX6_admit 70 = .ok (.istore 6, 2) := by decide +kernel
theorem dX6_admit_72 : decode cX6_admit 72 = .ok (.aload_n 0, 1) := by decide +kernel
theorem dX6_admit_73 : decode cX6_admit 73 = .ok (.getfield 11, 3) := by decide +kernel
theorem dX6_admit_76 : decode cX6_admit 76 = .ok (.iload 5, 2) := by decide +kernel
theorem dX6_admit_78 : decode cX6_admit 78 = .ok (.iconst 1, 1) := by decide +kernel
theorem dX6_admit_79 : decode cX6_admit 79 = .ok (.iadd, 1) := by decide +kernel
theorem dX6_admit_80 : decode cX6_admit 80 = .ok (.iload_n 1, 1) := by decide +kernel
theorem dX6_admit_81 : decode cX6_admit 81 = .ok (.iastore, 1) := by decide +kernel
theorem dX6_admit_82 : decode cX6_admit 82 = .ok (.aload_n 2, 1) := by decide +kernel
theorem dX6_admit_83 : decode cX6_admit 83 = .ok (.iload_n 3, 1) := by decide +kernel
theorem dX6_admit_84 : decode cX6_admit 84 = .ok (.iconst 4, 1) := by decide +kernel
theorem dX6_admit_85 : decode cX6_admit 85 = .ok (.iadd, 1) := by decide +kernel
theorem dX6_admit_86 : decode cX6_admit 86 = .ok (.iaload, 1) := by decide +kernel
theorem dX6_admit_87 : decode cX6_admit 87 = .ok (.iload 6, 2) := by decide +kernel
theorem dX6_admit_89 : decode cX6_admit 89 = .ok (.if_icmp .le 6, 3) := by decide +kernel
theorem dX6_admit_92 : decode cX6_admit 92 = .ok (.iload 4, 2) := by decide +kernel
theorem dX6_admit_94 : decode cX6_admit 94 = .ok (.ireturn, 1) := by decide +kernel
theorem dX6_admit_95 : decode cX6_admit 95 = .ok (.aload_n 2, 1) := by decide +kernel
theorem dX6_admit_96 : decode cX6_admit 96 = .ok (.iload_n 3, 1) := by decide +kernel
theorem dX6_admit_97 : decode cX6_admit 97 = .ok (.iconst 4, 1) := by decide +kernel
theorem dX6_admit_98 : decode cX6_admit 98 = .ok (.iadd, 1) := by decide +kernel
theorem dX6_admit_99 : decode cX6_admit 99 = .ok (.iaload, 1) := by decide +kernel
theorem dX6_admit_100 : decode cX6_admit 100 = .ok (.iload 6, 2) := by decide +kernel
theorem dX6_admit_102 : decode cX6_admit 102 = .ok (.if_icmp .ge 10, 3) := by decide +kernel
theorem dX6_admit_105 : decode cX6_admit 105 = .ok (.aload_n 0, 1) := by decide +kernel
theorem dX6_admit_106 : decode cX6_admit 106 = .ok (.iconst (-1), 1) := by decide +kernel
theorem dX6_admit_107 : decode cX6_admit 107 = .ok (.putfield 51, 3) := by decide +kernel
theorem dX6_admit_110 : decode cX6_admit 110 = .ok (.iconst (-1), 1) := by decide +kernel
theorem dX6_admit_111 : decode cX6_admit 111 = .ok (.ireturn, 1) := by decide +kernel
theorem dX6_admit_112 : decode cX6_admit 112 = .ok (.aload_n 0, 1) := by decide +kernel
theorem dX6_admit_113 : decode cX6_admit 113 = .ok (.aload_n 0, 1) := by decide +kernel
theorem dX6_admit_114 : decode cX6_admit 114 = .ok (.getfield 11, 3) := by decide +kernel
theorem dX6_admit_117 : decode cX6_admit 117 = .ok (.iload 5, 2) := by decide +kernel
theorem dX6_admit_119 : decode cX6_admit 119 = .ok (.iconst 3, 1) := by decide +kernel
theorem dX6_admit_120 : decode cX6_admit 120 = .ok (.iadd, 1) := by decide +kernel
theorem dX6_admit_121 : decode cX6_admit 121 = .ok (.iaload, 1) := by decide +kernel
theorem dX6_admit_122 : decode cX6_admit 122 = .ok (.putfield 54, 3) := by decide +kernel
theorem dX6_admit_125 : decode cX6_admit 125 = .ok (.aload_n 0, 1) := by decide +kernel
theorem dX6_admit_126 : decode cX6_admit 126 = .ok (.aload_n 0, 1) := by decide +kernel
theorem dX6_admit_127 : decode cX6_admit 127 = .ok (.getfield 11, 3) := by decide +kernel
theorem dX6_admit_130 : decode cX6_admit 130 = .ok (.iload 5, 2) := by decide +kernel
theorem dX6_admit_132 : decode cX6_admit 132 = .ok (.iconst 4, 1) := by decide +kernel
theorem dX6_admit_133 : decode cX6_admit 133 = .ok (.iadd, 1) := by decide +kernel
theorem dX6_admit_134 : decode cX6_admit 134 = .ok (.iaload, 1) := by decide +kernel
theorem dX6_admit_135 : decode cX6_admit 135 = .ok (.putfield 57, 3) := by decide +kernel
theorem dX6_admit_138 : decode cX6_admit 138 = .ok (.aload_n 0, 1) := by decide +kernel
theorem dX6_admit_139 : decode cX6_admit 139 = .ok (.getfield 15, 3) := by decide +kernel
theorem dX6_admit_142 : decode cX6_admit 142 = .ok (.iload 4, 2) := by decide +kernel
theorem dX6_admit_144 : decode cX6_admit 144 = .ok (.bipush 101, 2) := by decide +kernel
theorem dX6_admit_146 : decode cX6_admit 146 = .ok (.imul, 1) := by decide +kernel
theorem dX6_admit_147 : decode cX6_admit 147 = .ok (.aload_n 0, 1) := by decide +kernel
theorem dX6_admit_148 : decode cX6_admit 148 = .ok (.getfield 31, 3) := by decide +kernel
theorem dX6_admit_151 : decode cX6_admit 151 = .ok (.iconst 0, 1) := by decide +kernel
theorem dX6_admit_152 : decode cX6_admit 152 = .ok (.aload_n 0, 1) := by decide +kernel
theorem dX6_admit_153 : decode cX6_admit 153 = .ok (.getfield 57, 3) := by decide +kernel
theorem dX6_admit_156 : decode cX6_admit 156 = .ok (.invokestatic 68, 3) := by decide +kernel
theorem dX6_admit_159 : decode cX6_admit 159 = .ok (.iconst (-1), 1) := by decide +kernel
theorem dX6_admit_160 : decode cX6_admit 160 = .ok (.ireturn, 1) := by decide +kernel
theorem dX6_operate_0 : decode cX6_operate 0 = .ok (.aload_n 0, 1) := by decide +kernel
theorem dX6_operate_1 : decode cX6_operate 1 = .ok (.getfield 37, 3) := by decide +kernel
theorem dX6_operate_4 : decode cX6_operate 4 = .ok (.iload_n 3, 1) := by decide +kernel
theorem dX6_operate_5 : decode cX6_operate 5 = .ok (.bipush 6, 2) := by decide +kernel
theorem dX6_operate_7 : decode cX6_operate 7 = .ok (.invokevirtual 76, 3) := by decide +kernel
theorem dX6_operate_10 : decode cX6_operate 10 = .ok (.istore 4, 2) := by decide +kernel
theorem dX6_operate_12 : decode cX6_operate 12 = .ok (.aload_n 0, 1) := by decide +kernel
theorem dX6_operate_13 : decode cX6_operate 13 = .ok (.getfield 37, 3) := by decide +kernel
theorem dX6_operate_16 : decode cX6_operate 16 = .ok (.iload_n 3, 1) := by decide +kernel
theorem dX6_operate_17 : decode cX6_operate 17 = .ok (.bipush 7, 2) := by decide +kernel
theorem dX6_operate_19 : decode cX6_operate 19 = .ok (.invokevirtual 76, 3) := by decide +kernel
theorem dX6_operate_22 : decode cX6_operate 22 = .ok (.istore 5, 2) := by decide +kernel
theorem dX6_operate_24 : decode cX6_operate 24 = .ok (.aload_n 0, 1) := by decide +kernel
theorem dX6_operate_25 : decode cX6_operate 25 = .ok (.getfield 37, 3) := by decide +kernel
theorem dX6_operate_28 : decode cX6_operate 28 = .ok (.iload_n 3, 1) := by decide +kernel
theorem dX6_operate_29 : decode cX6_operate 29 = .ok (.bipush 8, 2) := by decide +kernel
theorem dX6_operate_31 : decode cX6_operate 31 = .ok (.invokevirtual 76, 3) := by decide +kernel
theorem dX6_operate_34 : decode cX6_operate 34 = .ok (.istore 6, 2) := by decide +kernel
theorem dX6_operate_36 : decode cX6_operate 36 = .ok (.aload_n 0, 1) := by decide +kernel
theorem dX6_operate_37 : decode cX6_operate 37 = .ok (.getfield 37, 3) := by decide +kernel
theorem dX6_operate_40 : decode cX6_operate 40 = .ok (.iload_n 3, 1) := by decide +kernel
theorem dX6_operate_41 : decode cX6_operate 41 = .ok (.bipush 9, 2) := by decide +kernel
theorem dX6_operate_43 : decode cX6_operate 43 = .ok (.invokevirtual 76, 3) := by decide +kernel
theorem dX6_operate_46 : decode cX6_operate 46 = .ok (.iload 5, 2) := by decide +kernel
theorem dX6_operate_48 : decode cX6_operate 48 = .ok (.isub, 1) := by decide +kernel
theorem dX6_operate_49 : decode cX6_operate 49 = .ok (.istore 7, 2) := by decide +kernel
theorem dX6_operate_51 : decode cX6_operate 51 = .ok (.aload_n 0, 1) := by decide +kernel
theorem dX6_operate_52 : decode cX6_operate 52 = .ok (.getfield 37, 3) := by decide +kernel
theorem dX6_operate_55 : decode cX6_operate 55 = .ok (.iload_n 3, 1) := by decide +kernel
theorem dX6_operate_56 : decode cX6_operate 56 = .ok (.iconst 1, 1) := by decide +kernel
theorem dX6_operate_57 : decode cX6_operate 57 = .ok (.invokevirtual 76, 3) := by decide +kernel
theorem dX6_operate_60 : decode cX6_operate 60 = .ok (.lookupswitch 59 #[(0, 28), (1, 41)], 28) := by decide +kernel
theorem dX6_operate_88 : decode cX6_operate 88 = .ok (.aload_n 0, 1) := by decide +kernel
theorem dX6_operate_89 : decode cX6_operate 89 = .ok (.iload 4, 2) := by decide +kernel
theorem dX6_operate_91 : decode cX6_operate 91 = .ok (.iload 5, 2) := by decide +kernel
theorem dX6_operate_93 : decode cX6_operate 93 = .ok (.iload 7, 2) := by decide +kernel
theorem dX6_operate_95 : decode cX6_operate 95 = .ok (.invokevirtual 80, 3) := by decide +kernel
theorem dX6_operate_98 : decode cX6_operate 98 = .ok (.goto 29, 3) := by decide +kernel
theorem dX6_operate_101 : decode cX6_operate 101 = .ok (.aload_n 0, 1) := by decide +kernel
theorem dX6_operate_102 : decode cX6_operate 102 = .ok (.iload 4, 2) := by decide +kernel
theorem dX6_operate_104 : decode cX6_operate 104 = .ok (.iload 5, 2) := by decide +kernel
theorem dX6_operate_106 : decode cX6_operate 106 = .ok (.iload 6, 2) := by decide +kernel
theorem dX6_operate_108 : decode cX6_operate 108 = .ok (.iload 7, 2) := by decide +kernel
theorem dX6_operate_110 : decode cX6_operate 110 = .ok (.iload 6, 2) := by decide +kernel
theorem dX6_operate_112 : decode cX6_operate 112 = .ok (.isub, 1) := by decide +kernel
theorem dX6_operate_113 : decode cX6_operate 113 = .ok (.invokevirtual 84, 3) := by decide +kernel
theorem dX6_operate_116 : decode cX6_operate 116 = .ok (.goto 11, 3) := by decide +kernel
theorem dX6_operate_119 : decode cX6_operate 119 = .ok (.aload_n 0, 1) := by decide +kernel
theorem dX6_operate_120 : decode cX6_operate 120 = .ok (.iload 4, 2) := by decide +kernel
theorem dX6_operate_122 : decode cX6_operate 122 = .ok (.iload 5, 2) := by decide +kernel
theorem dX6_operate_124 : decode cX6_operate 124 = .ok (.invokevirtual 88, 3) := by decide +kernel
theorem dX6_operate_127 : decode cX6_operate 127 = .ok (.iload_n 1, 1) := by decide +kernel
theorem dX6_operate_128 : decode cX6_operate 128 = .ok (.iconst 5, 1) := by decide +kernel
theorem dX6_operate_129 : decode cX6_operate 129 = .ok (.imul, 1) := by decide +kernel
theorem dX6_operate_130 : decode cX6_operate 130 = .ok (.istore 8, 2) := by decide +kernel
theorem dX6_operate_132 : decode cX6_operate 132 = .ok (.aload_n 0, 1) := by decide +kernel
theorem dX6_operate_133 : decode cX6_operate 133 = .ok (.getfield 11, 3) := by decide +kernel
theorem dX6_operate_136 : decode cX6_operate 136 = .ok (.iload 8, 2) := by decide +kernel
theorem dX6_operate_138 : decode cX6_operate 138 = .ok (.iconst 2, 1) := by decide +kernel
theorem dX6_operate_139 : decode cX6_operate 139 = .ok (.iadd, 1) := by decide +kernel
theorem dX6_operate_140 : decode cX6_operate 140 = .ok (.iload_n 2, 1) := by decide +kernel
theorem dX6_operate_141 : decode cX6_operate 141 = .ok (.iastore, 1) := by decide +kernel
theorem dX6_operate_142 : decode cX6_operate 142 = .ok (.aload_n 0, 1) := by decide +kernel
theorem dX6_operate_143 : decode cX6_operate 143 = .ok (.getfield 11, 3) := by decide +kernel
theorem dX6_operate_146 : decode cX6_operate 146 = .ok (.iload 8, 2) := by decide +kernel
theorem dX6_operate_148 : decode cX6_operate 148 = .ok (.iconst 3, 1) := by decide +kernel
theorem dX6_operate_149 : decode cX6_operate 149 = .ok (.iadd, 1) := by decide +kernel
theorem dX6_operate_150 : decode cX6_operate 150 = .ok (.aload_n 0, 1) := by decide +kernel
theorem dX6_operate_151 : decode cX6_operate 151 = .ok (.getfield 54, 3) := by decide +kernel
theorem dX6_operate_154 : decode cX6_operate 154 = .ok (.iastore, 1) := by decide +kernel
theorem dX6_operate_155 : decode cX6_operate 155 = .ok (.aload_n 0, 1) := by decide +kernel
theorem dX6_operate_156 : decode cX6_operate 156 = .ok (.getfield 11, 3) := by decide +kernel
theorem dX6_operate_159 : decode cX6_operate 159 = .ok (.iload 8, 2) := by decide +kernel
theorem dX6_operate_161 : decode cX6_operate 161 = .ok (.iconst 4, 1) := by decide +kernel
theorem dX6_operate_162 : decode cX6_operate 162 = .ok (.iadd, 1) := by decide +kernel
theorem dX6_operate_163 : decode cX6_operate 163 = .ok (.aload_n 0, 1) := by decide +kernel
theorem dX6_operate_164 : decode cX6_operate 164 = .ok (.getfield 57, 3) := by decide +kernel
theorem dX6_operate_167 : decode cX6_operate 167 = .ok (.iastore, 1) := by decide +kernel
theorem dX6_operate_168 : decode cX6_operate 168 = .ok (.aload_n 0, 1) := by decide +kernel
theorem dX6_operate_169 : decode cX6_operate 169 = .ok (.getfield 31, 3) := by decide +kernel
theorem dX6_operate_172 : decode cX6_operate 172 = .ok (.iconst 0, 1) := by decide +kernel
theorem dX6_operate_173 : decode cX6_operate 173 = .ok (.aload_n 0, 1) := by decide +kernel
theorem dX6_operate_174 : decode cX6_operate 174 = .ok (.getfield 15, 3) := by decide +kernel
theorem dX6_operate_177 : decode cX6_operate 177 = .ok (.iload_n 1, 1) := by decide +kernel
theorem dX6_operate_178 : decode cX6_operate 178 = .ok (.bipush 101, 2) := by decide +kernel
theorem dX6_operate_180 : decode cX6_operate 180 = .ok (.imul, 1) := by decide +kernel
theorem dX6_operate_181 : decode cX6_operate 181 = .ok (.aload_n 0, 1) := by decide +kernel
theorem dX6_operate_182 : decode cX6_operate 182 = .ok (.getfield 57, 3) := by decide +kernel
theorem dX6_operate_185 : decode cX6_operate 185 = .ok (.invokestatic 68, 3) := by decide +kernel
theorem dX6_operate_188 : decode cX6_operate 188 = .ok (.return_, 1) := by decide +kernel
theorem dX6_openSession_0 : decode cX6_openSession 0 = .ok (.aload_n 0, 1) := by decide +kernel
theorem dX6_openSession_1 : decode cX6_openSession 1 = .ok (.getfield 41, 3) := by decide +kernel
theorem dX6_openSession_4 : decode cX6_openSession 4 = .ok (.bipush 16, 2) := by decide +kernel
theorem dX6_openSession_6 : decode cX6_openSession 6 = .ok (.if_icmp .ne 7, 3) := by decide +kernel
theorem dX6_openSession_9 : decode cX6_openSession 9 = .ok (.aload_n 0, 1) := by decide +kernel
theorem dX6_openSession_10 : decode cX6_openSession 10 = .ok (.invokevirtual 92, 3) := by decide +kernel
theorem dX6_openSession_13 : decode cX6_openSession 13 = .ok (.aload_n 0, 1) := by decide +kernel
theorem dX6_openSession_14 : decode cX6_openSession 14 = .ok (.getfield 41, 3) := by decide +kernel
theorem dX6_openSession_17 : decode cX6_openSession 17 = .ok (.iconst 5, 1) := by decide +kernel
theorem dX6_openSession_18 : decode cX6_openSession 18 = .ok (.imul, 1) := by decide +kernel
theorem dX6_openSession_19 : decode cX6_openSession 19 = .ok (.istore_n 2, 1) := by decide +kernel
theorem dX6_openSession_20 : decode cX6_openSession 20 = .ok (.aload_n 0, 1) := by decide +kernel
theorem dX6_openSession_21 : decode cX6_openSession 21 = .ok (.getfield 11, 3) := by decide +kernel
theorem dX6_openSession_24 : decode cX6_openSession 24 = .ok (.iload_n 2, 1) := by decide +kernel
theorem dX6_openSession_25 : decode cX6_openSession 25 = .ok (.iload_n 2, 1) := by decide +kernel
theorem dX6_openSession_26 : decode cX6_openSession 26 = .ok (.iconst 5, 1) := by decide +kernel
theorem dX6_openSession_27 : decode cX6_openSession 27 = .ok (.iadd, 1) := by decide +kernel
theorem dX6_openSession_28 : decode cX6_openSession 28 = .ok (.iconst 0, 1) := by decide +kernel
theorem dX6_openSession_29 : decode cX6_openSession 29 = .ok (.invokestatic 95, 3) := by decide +kernel
theorem dX6_openSession_32 : decode cX6_openSession 32 = .ok (.aload_n 0, 1) := by decide +kernel
theorem dX6_openSession_33 : decode cX6_openSession 33 = .ok (.getfield 11, 3) := by decide +kernel
theorem dX6_openSession_36 : decode cX6_openSession 36 = .ok (.iload_n 2, 1) := by decide +kernel
theorem dX6_openSession_37 : decode cX6_openSession 37 = .ok (.iload_n 1, 1) := by decide +kernel
theorem dX6_openSession_38 : decode cX6_openSession 38 = .ok (.iastore, 1) := by decide +kernel
theorem dX6_openSession_39 : decode cX6_openSession 39 = .ok (.aload_n 0, 1) := by decide +kernel
theorem dX6_openSession_40 : decode cX6_openSession 40 = .ok (.getfield 11, 3) := by decide +kernel
theorem dX6_openSession_43 : decode cX6_openSession 43 = .ok (.iload_n 2, 1) := by decide +kernel
theorem dX6_openSession_44 : decode cX6_openSession 44 = .ok (.iconst 1, 1) := by decide +kernel
theorem dX6_openSession_45 : decode cX6_openSession 45 = .ok (.iadd, 1) := by decide +kernel
theorem dX6_openSession_46 : decode cX6_openSession 46 = .ok (.iload_n 1, 1) := by decide +kernel
theorem dX6_openSession_47 : decode cX6_openSession 47 = .ok (.iastore, 1) := by decide +kernel
theorem dX6_openSession_48 : decode cX6_openSession 48 = .ok (.aload_n 0, 1) := by decide +kernel
theorem dX6_openSession_49 : decode cX6_openSession 49 = .ok (.dup, 1) := by decide +kernel
theorem dX6_openSession_50 : decode cX6_openSession 50 = .ok (.getfield 41, 3) := by decide +kernel
theorem dX6_openSession_53 : decode cX6_openSession 53 = .ok (.iconst 1, 1) := by decide +kernel
theorem dX6_openSession_54 : decode cX6_openSession 54 = .ok (.iadd, 1) := by decide +kernel
theorem dX6_openSession_55 : decode cX6_openSession 55 = .ok (.putfield 41, 3) := by decide +kernel
theorem dX6_openSession_58 : decode cX6_openSession 58 = .ok (.return_, 1) := by decide +kernel
theorem dX6_dropOldestSession_0 : decode cX6_dropOldestSession 0 = .ok (.iconst 0, 1) := by decide +kernel
theorem dX6_dropOldestSession_1 : decode cX6_dropOldestSession 1 = .ok (.istore_n 1, 1) := by decide +kernel
theorem dX6_dropOldestSession_2 : decode cX6_dropOldestSession 2 = .ok (.iconst 1, 1) := by decide +kernel
theorem dX6_dropOldestSession_3 : decode cX6_dropOldestSession 3 = .ok (.istore_n 2, 1) := by decide +kernel
theorem dX6_dropOldestSession_4 : decode cX6_dropOldestSession 4 = .ok (.iload_n 2, 1) := by decide +kernel
theorem dX6_dropOldestSession_5 : decode cX6_dropOldestSession 5 = .ok (.aload_n 0, 1) := by decide +kernel
theorem dX6_dropOldestSession_6 : decode cX6_dropOldestSession 6 = .ok (.getfield 41, 3) := by decide +kernel
theorem dX6_dropOldestSession_9 : decode cX6_dropOldestSession 9 = .ok (.if_icmp .ge 34, 3) := by decide +kernel
theorem dX6_dropOldestSession_12 : decode cX6_dropOldestSession 12 = .ok (.aload_n 0, 1) := by decide +kernel
theorem dX6_dropOldestSession_13 : decode cX6_dropOldestSession 13 = .ok (.getfield 11, 3) := by decide +kernel
theorem dX6_dropOldestSession_16 : decode cX6_dropOldestSession 16 = .ok (.iload_n 2, 1) := by decide +kernel
theorem dX6_dropOldestSession_17 : decode cX6_dropOldestSession 17 = .ok (.iconst 5, 1) := by decide +kernel
theorem dX6_dropOldestSession_18 : decode cX6_dropOldestSession 18 = .ok (.imul, 1) := by decide +kernel
theorem dX6_dropOldestSession_19 : decode cX6_dropOldestSession 19 = .ok (.iconst 1, 1) := by decide +kernel
theorem dX6_dropOldestSession_20 : decode cX6_dropOldestSession 20 = .ok (.iadd, 1) := by decide +kernel
theorem dX6_dropOldestSession_21 : decode cX6_dropOldestSession 21 = .ok (.iaload, 1) := by decide +kernel
theorem dX6_dropOldestSession_22 : decode cX6_dropOldestSession 22 = .ok (.aload_n 0, 1) := by decide +kernel
theorem dX6_dropOldestSession_23 : decode cX6_dropOldestSession 23 = .ok (.getfield 11, 3) := by decide +kernel
theorem dX6_dropOldestSession_26 : decode cX6_dropOldestSession 26 = .ok (.iload_n 1, 1) := by decide +kernel
theorem dX6_dropOldestSession_27 : decode cX6_dropOldestSession 27 = .ok (.iconst 5, 1) := by decide +kernel
theorem dX6_dropOldestSession_28 : decode cX6_dropOldestSession 28 = .ok (.imul, 1) := by decide +kernel
theorem dX6_dropOldestSession_29 : decode cX6_dropOldestSession 29 = .ok (.iconst 1, 1) := by decide +kernel
theorem dX6_dropOldestSession_30 : decode cX6_dropOldestSession 30 = .ok (.iadd, 1) := by decide +kernel
theorem dX6_dropOldestSession_31 : decode cX6_dropOldestSession 31 = .ok (.iaload, 1) := by decide +kernel
theorem dX6_dropOldestSession_32 : decode cX6_dropOldestSession 32 = .ok (.if_icmp .ge 5, 3) := by decide +kernel
theorem dX6_dropOldestSession_35 : decode cX6_dropOldestSession 35 = .ok (.iload_n 2, 1) := by decide +kernel
theorem dX6_dropOldestSession_36 : decode cX6_dropOldestSession 36 = .ok (.istore_n 1, 1) := by decide +kernel
theorem dX6_dropOldestSession_37 : decode cX6_dropOldestSession 37 = .ok (.iinc 2 1, 3) := by decide +kernel
theorem dX6_dropOldestSession_40 : decode cX6_dropOldestSession 40 = .ok (.goto (-36), 3) := by decide +kernel
theorem dX6_dropOldestSession_43 : decode cX6_dropOldestSession 43 = .ok (.aload_n 0, 1) := by decide +kernel
theorem dX6_dropOldestSession_44 : decode cX6_dropOldestSession 44 = .ok (.dup, 1) := by decide +kernel
theorem dX6_dropOldestSession_45 : decode cX6_dropOldestSession 45 = .ok (.getfield 41, 3) := by decide +kernel
theorem dX6_dropOldestSession_48 : decode cX6_dropOldestSession 48 = .ok (.iconst 1, 1) := by decide +kernel
theorem dX6_dropOldestSession_49 : decode cX6_dropOldestSession 49 = .ok (.isub, 1) := by decide +kernel
theorem dX6_dropOldestSession_50 : decode cX6_dropOldestSession 50 = .ok (.putfield 41, 3) := by decide +kernel
theorem dX6_dropOldestSession_53 : decode cX6_dropOldestSession 53 = .ok (.aload_n 0, 1) := by decide +kernel
theorem dX6_dropOldestSession_54 : decode cX6_dropOldestSession 54 = .ok (.getfield 41, 3) := by decide +kernel
theorem dX6_dropOldestSession_57 : decode cX6_dropOldestSession 57 = .ok (.iload_n 1, 1) := by decide +kernel
theorem dX6_dropOldestSession_58 : decode cX6_dropOldestSession 58 = .ok (.isub, 1) := by decide +kernel
theorem dX6_dropOldestSession_59 : decode cX6_dropOldestSession 59 = .ok (.istore_n 2, 1) := by decide +kernel
theorem dX6_dropOldestSession_60 : decode cX6_dropOldestSession 60 = .ok (.iload_n 1, 1) := by decide +kernel
theorem dX6_dropOldestSession_61 : decode cX6_dropOldestSession 61 = .ok (.iconst 1, 1) := by decide +kernel
theorem dX6_dropOldestSession_62 : decode cX6_dropOldestSession 62 = .ok (.iadd, 1) := by decide +kernel
theorem dX6_dropOldestSession_63 : decode cX6_dropOldestSession 63 = .ok (.istore_n 3, 1) := by decide +kernel
theorem dX6_dropOldestSession_64 : decode cX6_dropOldestSession 64 = .ok (.aload_n 0, 1) := by decide +kernel
theorem dX6_dropOldestSession_65 : decode cX6_dropOldestSession 65 = .ok (.getfield 11, 3) := by decide +kernel
theorem dX6_dropOldestSession_68 : decode cX6_dropOldestSession 68 = .ok (.iload_n 3, 1) := by decide +kernel
theorem dX6_dropOldestSession_69 : decode cX6_dropOldestSession 69 = .ok (.iconst 5, 1) := by decide +kernel
theorem dX6_dropOldestSession_70 : decode cX6_dropOldestSession 70 = .ok (.imul, 1) := by decide +kernel
theorem dX6_dropOldestSession_71 : decode cX6_dropOldestSession 71 = .ok (.aload_n 0, 1) := by decide +kernel
theorem dX6_dropOldestSession_72 : decode cX6_dropOldestSession 72 = .ok (.getfield 11, 3) := by decide +kernel
theorem dX6_dropOldestSession_75 : decode cX6_dropOldestSession 75 = .ok (.iload_n 1, 1) := by decide +kernel
theorem dX6_dropOldestSession_76 : decode cX6_dropOldestSession 76 = .ok (.iconst 5, 1) := by decide +kernel
theorem dX6_dropOldestSession_77 : decode cX6_dropOldestSession 77 = .ok (.imul, 1) := by decide +kernel
theorem dX6_dropOldestSession_78 : decode cX6_dropOldestSession 78 = .ok (.iload_n 2, 1) := by decide +kernel
theorem dX6_dropOldestSession_79 : decode cX6_dropOldestSession 79 = .ok (.iconst 5, 1) := by decide +kernel
theorem dX6_dropOldestSession_80 : decode cX6_dropOldestSession 80 = .ok (.imul, 1) := by decide +kernel
theorem dX6_dropOldestSession_81 : decode cX6_dropOldestSession 81 = .ok (.invokestatic 68, 3) := by decide +kernel
theorem dX6_dropOldestSession_84 : decode cX6_dropOldestSession 84 = .ok (.aload_n 0, 1) := by decide +kernel
theorem dX6_dropOldestSession_85 : decode cX6_dropOldestSession 85 = .ok (.getfield 15, 3) := by decide +kernel
theorem dX6_dropOldestSession_88 : decode cX6_dropOldestSession 88 = .ok (.iload_n 3, 1) := by decide +kernel
theorem dX6_dropOldestSession_89 : decode cX6_dropOldestSession 89 = .ok (.bipush 101, 2) := by decide +kernel
theorem dX6_dropOldestSession_91 : decode cX6_dropOldestSession 91 = .ok (.imul, 1) := by decide +kernel
theorem dX6_dropOldestSession_92 : decode cX6_dropOldestSession 92 = .ok (.aload_n 0, 1) := by decide +kernel
theorem dX6_dropOldestSession_93 : decode cX6_dropOldestSession 93 = .ok (.getfield 15, 3) := by decide +kernel
theorem dX6_dropOldestSession_96 : decode cX6_dropOldestSession 96 = .ok (.iload_n 1, 1) := by decide +kernel
theorem dX6_dropOldestSession_97 : decode cX6_dropOldestSession 97 = .ok (.bipush 101, 2) := by decide +kernel
theorem dX6_dropOldestSession_99 : decode cX6_dropOldestSession 99 = .ok (.imul, 1) := by decide +kernel
theorem dX6_dropOldestSession_100 : decode cX6_dropOldestSession 100 = .ok (.iload_n 2, 1) := by decide +kernel
theorem dX6_dropOldestSession_101 : decode cX6_dropOldestSession 101 = .ok (.bipush 101, 2) := by decide +kernel
theorem dX6_dropOldestSession_103 : decode cX6_dropOldestSession 103 = .ok (.imul, 1) := by decide +kernel
theorem dX6_dropOldestSession_104 : decode cX6_dropOldestSession 104 = .ok (.invokestatic 68, 3) := by decide +kernel
theorem dX6_dropOldestSession_107 : decode cX6_dropOldestSession 107 = .ok (.return_, 1) := by decide +kernel
theorem dX6_findSession_0 : decode cX6_findSession 0 = .ok (.iconst 0, 1) := by decide +kernel
theorem dX6_findSession_1 : decode cX6_findSession 1 = .ok (.istore_n 2, 1) := by decide +kernel
theorem dX6_findSession_2 : decode cX6_findSession 2 = .ok (.iload_n 2, 1) := by decide +kernel
theorem dX6_findSession_3 : decode cX6_findSession 3 = .ok (.aload_n 0, 1) := by decide +kernel
theorem dX6_findSession_4 : decode cX6_findSession 4 = .ok (.getfield 41, 3) := by decide +kernel
theorem dX6_findSession_7 : decode cX6_findSession 7 = .ok (.if_icmp .ge 23, 3) := by decide +kernel
theorem dX6_findSession_10 : decode cX6_findSession 10 = .ok (.aload_n 0, 1) := by decide +kernel
theorem dX6_findSession_11 : decode cX6_findSession 11 = .ok (.getfield 11, 3) := by decide +kernel
theorem dX6_findSession_14 : decode cX6_findSession 14 = .ok (.iload_n 2, 1) := by decide +kernel
theorem dX6_findSession_15 : decode cX6_findSession 15 = .ok (.iconst 5, 1) := by decide +kernel
theorem dX6_findSession_16 : decode cX6_findSession 16 = .ok (.imul, 1) := by decide +kernel
theorem dX6_findSession_17 : decode cX6_findSession 17 = .ok (.iaload, 1) := by decide +kernel
theorem dX6_findSession_18 : decode cX6_findSession 18 = .ok (.iload_n 1, 1) := by decide +kernel
theorem dX6_findSession_19 : decode cX6_findSession 19 = .ok (.if_icmp .ne 5, 3) := by decide +kernel
theorem dX6_findSession_22 : decode cX6_findSession 22 = .ok (.iload_n 2, 1) := by decide +kernel
theorem dX6_findSession_23 : decode cX6_findSession 23 = .ok (.ireturn, 1) := by decide +kernel
theorem dX6_findSession_24 : decode cX6_findSession 24 = .ok (.iinc 2 1, 3) := by decide +kernel
theorem dX6_findSession_27 : decode cX6_findSession 27 = .ok (.goto (-25), 3) := by decide +kernel
theorem dX6_findSession_30 : decode cX6_findSession 30 = .ok (.iconst (-1), 1) := by decide +kernel
theorem dX6_findSession_31 : decode cX6_findSession 31 = .ok (.ireturn, 1) := by decide +kernel
theorem dX6_putKey_0 : decode cX6_putKey 0 = .ok (.aload_n 0, 1) := by decide +kernel
theorem dX6_putKey_1 : decode cX6_putKey 1 = .ok (.iload_n 1, 1) := by decide +kernel
theorem dX6_putKey_2 : decode cX6_putKey 2 = .ok (.iload_n 2, 1) := by decide +kernel
theorem dX6_putKey_3 : decode cX6_putKey 3 = .ok (.invokevirtual 101, 3) := by decide +kernel
theorem dX6_putKey_6 : decode cX6_putKey 6 = .ok (.istore 4, 2) := by decide +kernel
theorem dX6_putKey_8 : decode cX6_putKey 8 = .ok (.aload_n 0, 1) := by decide +kernel
theorem dX6_putKey_9 : decode cX6_putKey 9 = .ok (.iload 4, 2) := by decide +kernel
theorem dX6_putKey_11 : decode cX6_putKey 11 = .ok (.iload_n 1, 1) := by decide +kernel
theorem dX6_putKey_12 : decode cX6_putKey 12 = .ok (.iload_n 2, 1) := by decide +kernel
theorem dX6_putKey_13 : decode cX6_putKey 13 = .ok (.invokevirtual 104, 3) := by decide +kernel
theorem dX6_putKey_16 : decode cX6_putKey 16 = .ok (.istore 5, 2) := by decide +kernel
theorem dX6_putKey_18 : decode cX6_putKey 18 = .ok (.aload_n 0, 1) := by decide +kernel
theorem dX6_putKey_19 : decode cX6_putKey 19 = .ok (.iload 4, 2) := by decide +kernel
theorem dX6_putKey_21 : decode cX6_putKey 21 = .ok (.iload 5, 2) := by decide +kernel
theorem dX6_putKey_23 : decode cX6_putKey 23 = .ok (.iload_n 2, 1) := by decide +kernel
theorem dX6_putKey_24 : decode cX6_putKey 24 = .ok (.iload_n 3, 1) := by decide +kernel
theorem dX6_putKey_25 : decode cX6_putKey 25 = .ok (.iadd, 1) := by decide +kernel
theorem dX6_putKey_26 : decode cX6_putKey 26 = .ok (.invokevirtual 108, 3) := by decide +kernel
theorem dX6_putKey_29 : decode cX6_putKey 29 = .ok (.ifCond .ne 10, 3) := by decide +kernel
theorem dX6_putKey_32 : decode cX6_putKey 32 = .ok (.aload_n 0, 1) := by decide +kernel
theorem dX6_putKey_33 : decode cX6_putKey 33 = .ok (.iconst 2, 1) := by decide +kernel
theorem dX6_putKey_34 : decode cX6_putKey 34 = .ok (.iconst (-1), 1) := by decide +kernel
theorem dX6_putKey_35 : decode cX6_putKey 35 = .ok (.invokevirtual 112, 3) := by decide +kernel
theorem dX6_putKey_38 : decode cX6_putKey 38 = .ok (.return_, 1) := by decide +kernel
theorem dX6_putKey_39 : decode cX6_putKey 39 = .ok (.aload_n 0, 1) := by decide +kernel
theorem dX6_putKey_40 : decode cX6_putKey 40 = .ok (.iload 5, 2) := by decide +kernel
theorem dX6_putKey_42 : decode cX6_putKey 42 = .ok (.ifCond .eq 7, 3) := by decide +kernel
theorem dX6_putKey_45 : decode cX6_putKey 45 = .ok (.iconst 1, 1) := by decide +kernel
theorem dX6_putKey_46 : decode cX6_putKey 46 = .ok (.goto 4, 3) := by decide +kernel
theorem dX6_putKey_49 : decode cX6_putKey 49 = .ok (.iconst 0, 1) := by decide +kernel
theorem dX6_putKey_50 : decode cX6_putKey 50 = .ok (.iload 5, 2) := by decide +kernel
theorem dX6_putKey_52 : decode cX6_putKey 52 = .ok (.ifCond .eq 8, 3) := by decide +kernel
theorem dX6_putKey_55 : decode cX6_putKey 55 = .ok (.iload 4, 2) := by decide +kernel
theorem dX6_putKey_57 : decode cX6_putKey 57 = .ok (.goto 4, 3) := by decide +kernel
theorem dX6_putKey_60 : decode cX6_putKey 60 = .ok (.iconst (-1), 1) := by decide +kernel
theorem dX6_putKey_61 : decode cX6_putKey 61 = .ok (.invokevirtual 112, 3) := by decide +kernel
theorem dX6_putKey_64 : decode cX6_putKey 64 = .ok (.iload 5, 2) := by decide +kernel
theorem dX6_putKey_66 : decode cX6_putKey 66 = .ok (.ifCond .ne 11, 3) := by decide +kernel
theorem dX6_putKey_69 : decode cX6_putKey 69 = .ok (.aload_n 0, 1) := by decide +kernel
theorem dX6_putKey_70 : decode cX6_putKey 70 = .ok (.iload 4, 2) := by decide +kernel
theorem dX6_putKey_72 : decode cX6_putKey 72 = .ok (.iload_n 1, 1) := by decide +kernel
theorem dX6_putKey_73 : decode cX6_putKey 73 = .ok (.iload_n 2, 1) := by decide +kernel
theorem dX6_putKey_74 : decode cX6_putKey 74 = .ok (.invokevirtual 115, 3) := by decide +kernel
theorem dX6_putKey_77 : decode cX6_putKey 77 = .ok (.aload_n 0, 1) := by decide +kernel
theorem dX6_putKey_78 : decode cX6_putKey 78 = .ok (.iload 4, 2) := by decide +kernel
theorem dX6_putKey_80 : decode cX6_putKey 80 = .ok (.iload_n 1, 1) := by decide +kernel
theorem dX6_putKey_81 : decode cX6_putKey 81 = .ok (.iload_n 2, 1) := by decide +kernel
theorem dX6_putKey_82 : decode cX6_putKey 82 = .ok (.iadd, 1) := by decide +kernel
theorem dX6_putKey_83 : decode cX6_putKey 83 = .ok (.iload_n 3, 1) := by decide +kernel
theorem dX6_putKey_84 : decode cX6_putKey 84 = .ok (.invokevirtual 118, 3) := by decide +kernel
theorem dX6_putKey_87 : decode cX6_putKey 87 = .ok (.return_, 1) := by decide +kernel
theorem dX6_swapKey_0 : decode cX6_swapKey 0 = .ok (.aload_n 0, 1) := by decide +kernel
theorem dX6_swapKey_1 : decode cX6_swapKey 1 = .ok (.iload_n 1, 1) := by decide +kernel
theorem dX6_swapKey_2 : decode cX6_swapKey 2 = .ok (.iload_n 2, 1) := by decide +kernel
theorem dX6_swapKey_3 : decode cX6_swapKey 3 = .ok (.invokevirtual 101, 3) := by decide +kernel
theorem dX6_swapKey_6 : decode cX6_swapKey 6 = .ok (.istore 5, 2) := by decide +kernel
theorem dX6_swapKey_8 : decode cX6_swapKey 8 = .ok (.aload_n 0, 1) := by decide +kernel
theorem dX6_swapKey_9 : decode cX6_swapKey 9 = .ok (.iload 5, 2) := by decide +kernel
theorem dX6_swapKey_11 : decode cX6_swapKey 11 = .ok (.iload_n 1, 1) := by decide +kernel
theorem dX6_swapKey_12 : decode cX6_swapKey 12 = .ok (.iload_n 2, 1) := by decide +kernel
theorem dX6_swapKey_13 : decode cX6_swapKey 13 = .ok (.invokevirtual 104, 3) := by decide +kernel
theorem dX6_swapKey_16 : decode cX6_swapKey 16 = .ok (.ifCond .ne 12, 3) := by decide +kernel
theorem dX6_swapKey_19 : decode cX6_swapKey 19 = .ok (.aload_n 0, 1) := by decide +kernel
theorem dX6_swapKey_20 : decode cX6_swapKey 20 = .ok (.iconst 3, 1) := by decide +kernel
theorem dX6_swapKey_21 : decode cX6_swapKey 21 = .ok (.iconst (-1), 1) := by decide +kernel
theorem dX6_swapKey_22 : decode cX6_swapKey 22 = .ok (.invokevirtual 112, 3) := by decide +kernel
theorem dX6_swapKey_25 : decode cX6_swapKey 25 = .ok (.goto 68, 3) := by decide +kernel
theorem dX6_swapKey_28 : decode cX6_swapKey 28 = .ok (.aload_n 0, 1) := by decide +kernel
theorem dX6_swapKey_29 : decode cX6_swapKey 29 = .ok (.iload 5, 2) := by decide +kernel
theorem dX6_swapKey_31 : decode cX6_swapKey 31 = .ok (.iload_n 1, 1) := by decide +kernel
theorem dX6_swapKey_32 : decode cX6_swapKey 32 = .ok (.iload_n 2, 1) := by decide +kernel
theorem dX6_swapKey_33 : decode cX6_swapKey 33 = .ok (.iadd, 1) := by decide +kernel
theorem dX6_swapKey_34 : decode cX6_swapKey 34 = .ok (.iload_n 3, 1) := by decide +kernel
theorem dX6_swapKey_35 : decode cX6_swapKey 35 = .ok (.invokevirtual 121, 3) := by decide +kernel
theorem dX6_swapKey_38 : decode cX6_swapKey 38 = .ok (.ifCond .ne 13, 3) := by decide +kernel
theorem dX6_swapKey_41 : decode cX6_swapKey 41 = .ok (.aload_n 0, 1) := by decide +kernel
theorem dX6_swapKey_42 : decode cX6_swapKey 42 = .ok (.iconst 0, 1) := by decide +kernel
theorem dX6_swapKey_43 : decode cX6_swapKey 43 = .ok (.iload 5, 2) := by decide +kernel
theorem dX6_swapKey_45 : decode cX6_swapKey 45 = .ok (.invokevirtual 112, 3) := by decide +kernel
theorem dX6_swapKey_48 : decode cX6_swapKey 48 = .ok (.goto 45, 3) := by decide +kernel
theorem dX6_swapKey_51 : decode cX6_swapKey 51 = .ok (.aload_n 0, 1) := by decide +kernel
theorem dX6_swapKey_52 : decode cX6_swapKey 52 = .ok (.iload 5, 2) := by decide +kernel
theorem dX6_swapKey_54 : decode cX6_swapKey 54 = .ok (.iconst 1, 1) := by decide +kernel
theorem dX6_swapKey_55 : decode cX6_swapKey 55 = .ok (.iload_n 2, 1) := by decide +kernel
theorem dX6_swapKey_56 : decode cX6_swapKey 56 = .ok (.iload 4, 2) := by decide +kernel
theorem dX6_swapKey_58 : decode cX6_swapKey 58 = .ok (.iadd, 1) := by decide +kernel
theorem dX6_swapKey_59 : decode cX6_swapKey 59 = .ok (.invokevirtual 108, 3) := by decide +kernel
theorem dX6_swapKey_62 : decode cX6_swapKey 62 = .ok (.ifCond .ne 12, 3) := by decide +kernel
theorem dX6_swapKey_65 : decode cX6_swapKey 65 = .ok (.aload_n 0, 1) := by decide +kernel
theorem dX6_swapKey_66 : decode cX6_swapKey 66 = .ok (.iconst 2, 1) := by decide +kernel
theorem dX6_swapKey_67 : decode cX6_swapKey 67 = .ok (.iconst (-1), 1) := by decide +kernel
theorem dX6_swapKey_68 : decode cX6_swapKey 68 = .ok (.invokevirtual 112, 3) := by decide +kernel
theorem dX6_swapKey_71 : decode cX6_swapKey 71 = .ok (.goto 22, 3) := by decide +kernel
theorem dX6_swapKey_74 : decode cX6_swapKey 74 = .ok (.aload_n 0, 1) := by decide +kernel
theorem dX6_swapKey_75 : decode cX6_swapKey 75 = .ok (.iconst 1, 1) := by decide +kernel
theorem dX6_swapKey_76 : decode cX6_swapKey 76 = .ok (.iconst (-1), 1) := by decide +kernel
theorem dX6_swapKey_77 : decode cX6_swapKey 77 = .ok (.invokevirtual 112, 3) := by decide +kernel
theorem dX6_swapKey_80 : decode cX6_swapKey 80 = .ok (.aload_n 0, 1) := by decide +kernel
theorem dX6_swapKey_81 : decode cX6_swapKey 81 = .ok (.iload 5, 2) := by decide +kernel
theorem dX6_swapKey_83 : decode cX6_swapKey 83 = .ok (.iload_n 1, 1) := by decide +kernel
theorem dX6_swapKey_84 : decode cX6_swapKey 84 = .ok (.iload_n 2, 1) := by decide +kernel
theorem dX6_swapKey_85 : decode cX6_swapKey 85 = .ok (.iadd, 1) := by decide +kernel
theorem dX6_swapKey_86 : decode cX6_swapKey 86 = .ok (.iload_n 3, 1) := by decide +kernel
theorem dX6_swapKey_87 : decode cX6_swapKey 87 = .ok (.iadd, 1) := by decide +kernel
theorem dX6_swapKey_88 : decode cX6_swapKey 88 = .ok (.iload 4, 2) := by decide +kernel
theorem dX6_swapKey_90 : decode cX6_swapKey 90 = .ok (.invokevirtual 118, 3) := by decide +kernel
theorem dX6_swapKey_93 : decode cX6_swapKey 93 = .ok (.return_, 1) := by decide +kernel
theorem dX6_removeKey_0 : decode cX6_removeKey 0 = .ok (.aload_n 0, 1) := by decide +kernel
theorem dX6_removeKey_1 : decode cX6_removeKey 1 = .ok (.iload_n 1, 1) := by decide +kernel
theorem dX6_removeKey_2 : decode cX6_removeKey 2 = .ok (.iload_n 2, 1) := by decide +kernel
theorem dX6_removeKey_3 : decode cX6_removeKey 3 = .ok (.invokevirtual 101, 3) := by decide +kernel
theorem dX6_removeKey_6 : decode cX6_removeKey 6 = .ok (.istore_n 3, 1) := by decide +kernel
theorem dX6_removeKey_7 : decode cX6_removeKey 7 = .ok (.aload_n 0, 1) := by decide +kernel
theorem dX6_removeKey_8 : decode cX6_removeKey 8 = .ok (.iload_n 3, 1) := by decide +kernel
theorem dX6_removeKey_9 : decode cX6_removeKey 9 = .ok (.iload_n 1, 1) := by decide +kernel
theorem dX6_removeKey_10 : decode cX6_removeKey 10 = .ok (.iload_n 2, 1) := by decide +kernel
theorem dX6_removeKey_11 : decode cX6_removeKey 11 = .ok (.invokevirtual 104, 3) := by decide +kernel
theorem dX6_removeKey_14 : decode cX6_removeKey 14 = .ok (.ifCond .ne 10, 3) := by decide +kernel
theorem dX6_removeKey_17 : decode cX6_removeKey 17 = .ok (.aload_n 0, 1) := by decide +kernel
theorem dX6_removeKey_18 : decode cX6_removeKey 18 = .ok (.iconst 0, 1) := by decide +kernel
theorem dX6_removeKey_19 : decode cX6_removeKey 19 = .ok (.iconst (-1), 1) := by decide +kernel
theorem dX6_removeKey_20 : decode cX6_removeKey 20 = .ok (.invokevirtual 112, 3) := by decide +kernel
theorem dX6_removeKey_23 : decode cX6_removeKey 23 = .ok (.return_, 1) := by decide +kernel
theorem dX6_removeKey_24 : decode cX6_removeKey 24 = .ok (.aload_n 0, 1) := by decide +kernel
theorem dX6_removeKey_25 : decode cX6_removeKey 25 = .ok (.iconst 1, 1) := by decide +kernel
theorem dX6_removeKey_26 : decode cX6_removeKey 26 = .ok (.iload_n 3, 1) := by decide +kernel
theorem dX6_removeKey_27 : decode cX6_removeKey 27 = .ok (.invokevirtual 112, 3) := by decide +kernel
theorem dX6_removeKey_30 : decode cX6_removeKey 30 = .ok (.aload_n 0, 1) := by decide +kernel
theorem dX6_removeKey_31 : decode cX6_removeKey 31 = .ok (.getfield 19, 3) := by decide +kernel
theorem dX6_removeKey_34 : decode cX6_removeKey 34 = .ok (.iload_n 3, 1) := by decide +kernel
theorem dX6_removeKey_35 : decode cX6_removeKey 35 = .ok (.iaload, 1) := by decide +kernel
theorem dX6_removeKey_36 : decode cX6_removeKey 36 = .ok (.istore 4, 2) := by decide +kernel
theorem dX6_removeKey_38 : decode cX6_removeKey 38 = .ok (.aload_n 0, 1) := by decide +kernel
theorem dX6_removeKey_39 : decode cX6_removeKey 39 = .ok (.dup, 1) := by decide +kernel
theorem dX6_removeKey_40 : decode cX6_removeKey 40 = .ok (.getfield 48, 3) := by decide +kernel
theorem dX6_removeKey_43 : decode cX6_removeKey 43 = .ok (.aload_n 0, 1) := by decide +kernel
theorem dX6_removeKey_44 : decode cX6_removeKey 44 = .ok (.iload_n 3, 1) := by decide +kernel
theorem dX6_removeKey_45 : decode cX6_removeKey 45 = .ok (.invokevirtual 124, 3) := by decide +kernel
theorem dX6_removeKey_48 : decode cX6_removeKey 48 = .ok (.isub, 1) := by decide +kernel
theorem dX6_removeKey_49 : decode cX6_removeKey 49 = .ok (.putfield 48, 3) := by decide +kernel
theorem dX6_removeKey_52 : decode cX6_removeKey 52 = .ok (.aload_n 0, 1) := by decide +kernel
theorem dX6_removeKey_53 : decode cX6_removeKey 53 = .ok (.dup, 1) := by decide +kernel
theorem dX6_removeKey_54 : decode cX6_removeKey 54 = .ok (.getfield 45, 3) := by decide +kernel
theorem dX6_removeKey_57 : decode cX6_removeKey 57 = .ok (.iconst 1, 1) := by decide +kernel
theorem dX6_removeKey_58 : decode cX6_removeKey 58 = .ok (.isub, 1) := by decide +kernel
theorem dX6_removeKey_59 : decode cX6_removeKey 59 = .ok (.putfield 45, 3) := by decide +kernel
theorem dX6_removeKey_62 : decode cX6_removeKey 62 = .ok (.aload_n 0, 1) := by decide +kernel
theorem dX6_removeKey_63 : decode cX6_removeKey 63 = .ok (.getfield 19, 3) := by decide +kernel
theorem dX6_removeKey_66 : decode cX6_removeKey 66 = .ok (.iload_n 3, 1) := by decide +kernel
theorem dX6_removeKey_67 : decode cX6_removeKey 67 = .ok (.iconst 1, 1) := by decide +kernel
theorem dX6_removeKey_68 : decode cX6_removeKey 68 = .ok (.iadd, 1) := by decide +kernel
theorem dX6_removeKey_69 : decode cX6_removeKey 69 = .ok (.aload_n 0, 1) := by decide +kernel
theorem dX6_removeKey_70 : decode cX6_removeKey 70 = .ok (.getfield 19, 3) := by decide +kernel
theorem dX6_removeKey_73 : decode cX6_removeKey 73 = .ok (.iload_n 3, 1) := by decide +kernel
theorem dX6_removeKey_74 : decode cX6_removeKey 74 = .ok (.aload_n 0, 1) := by decide +kernel
theorem dX6_removeKey_75 : decode cX6_removeKey 75 = .ok (.getfield 45, 3) := by decide +kernel
theorem dX6_removeKey_78 : decode cX6_removeKey 78 = .ok (.iload_n 3, 1) := by decide +kernel
theorem dX6_removeKey_79 : decode cX6_removeKey 79 = .ok (.isub, 1) := by decide +kernel
theorem dX6_removeKey_80 : decode cX6_removeKey 80 = .ok (.invokestatic 68, 3) := by decide +kernel
theorem dX6_removeKey_83 : decode cX6_removeKey 83 = .ok (.aload_n 0, 1) := by decide +kernel
theorem dX6_removeKey_84 : decode cX6_removeKey 84 = .ok (.getfield 19, 3) := by decide +kernel
theorem dX6_removeKey_87 : decode cX6_removeKey 87 = .ok (.aload_n 0, 1) := by decide +kernel
theorem dX6_removeKey_88 : decode cX6_removeKey 88 = .ok (.getfield 45, 3) := by decide +kernel
theorem dX6_removeKey_91 : decode cX6_removeKey 91 = .ok (.iload 4, 2) := by decide +kernel
theorem dX6_removeKey_93 : decode cX6_removeKey 93 = .ok (.iastore, 1) := by decide +kernel
theorem dX6_removeKey_94 : decode cX6_removeKey 94 = .ok (.return_, 1) := by decide +kernel
theorem dX6_look_0 : decode cX6_look 0 = .ok (.aload_n 0, 1) := by decide +kernel
theorem dX6_look_1 : decode cX6_look 1 = .ok (.iconst 0, 1) := by decide +kernel
theorem dX6_look_2 : decode cX6_look 2 = .ok (.putfield 57, 3) := by decide +kernel
theorem dX6_look_5 : decode cX6_look 5 = .ok (.aload_n 0, 1) := by decide +kernel
theorem dX6_look_6 : decode cX6_look 6 = .ok (.getfield 37, 3) := by decide +kernel
theorem dX6_look_9 : decode cX6_look 9 = .ok (.iload_n 1, 1) := by decide +kernel
theorem dX6_look_10 : decode cX6_look 10 = .ok (.bipush 6, 2) := by decide +kernel
theorem dX6_look_12 : decode cX6_look 12 = .ok (.invokevirtual 76, 3) := by decide +kernel
theorem dX6_look_15 : decode cX6_look 15 = .ok (.istore_n 2, 1) := by decide +kernel
theorem dX6_look_16 : decode cX6_look 16 = .ok (.aload_n 0, 1) := by decide +kernel
theorem dX6_look_17 : decode cX6_look 17 = .ok (.getfield 37, 3) := by decide +kernel
theorem dX6_look_20 : decode cX6_look 20 = .ok (.iload_n 1, 1) := by decide +kernel
theorem dX6_look_21 : decode cX6_look 21 = .ok (.bipush 7, 2) := by decide +kernel
theorem dX6_look_23 : decode cX6_look 23 = .ok (.invokevirtual 76, 3) := by decide +kernel
theorem dX6_look_26 : decode cX6_look 26 = .ok (.istore_n 3, 1) := by decide +kernel
theorem dX6_look_27 : decode cX6_look 27 = .ok (.aload_n 0, 1) := by decide +kernel
theorem dX6_look_28 : decode cX6_look 28 = .ok (.getfield 37, 3) := by decide +kernel
theorem dX6_look_31 : decode cX6_look 31 = .ok (.iload_n 1, 1) := by decide +kernel
theorem dX6_look_32 : decode cX6_look 32 = .ok (.bipush 9, 2) := by decide +kernel
theorem dX6_look_34 : decode cX6_look 34 = .ok (.invokevirtual 76, 3) := by decide +kernel
theorem dX6_look_37 : decode cX6_look 37 = .ok (.iload_n 3, 1) := by decide +kernel
theorem dX6_look_38 : decode cX6_look 38 = .ok (.isub, 1) := by decide +kernel
theorem dX6_look_39 : decode cX6_look 39 = .ok (.istore 4, 2) := by decide +kernel
theorem dX6_look_41 : decode cX6_look 41 = .ok (.aload_n 0, 1) := by decide +kernel
theorem dX6_look_42 : decode cX6_look 42 = .ok (.iload_n 2, 1) := by decide +kernel
theorem dX6_look_43 : decode cX6_look 43 = .ok (.iload_n 3, 1) := by decide +kernel
theorem dX6_look_44 : decode cX6_look 44 = .ok (.invokevirtual 101, 3) := by decide +kernel
theorem dX6_look_47 : decode cX6_look 47 = .ok (.istore 5, 2) := by decide +kernel
theorem dX6_look_49 : decode cX6_look 49 = .ok (.aload_n 0, 1) := by decide +kernel
theorem dX6_look_50 : decode cX6_look 50 = .ok (.getfield 37, 3) := by decide +kernel
theorem dX6_look_53 : decode cX6_look 53 = .ok (.iload_n 1, 1) := by decide +kernel
theorem dX6_look_54 : decode cX6_look 54 = .ok (.iconst 1, 1) := by decide +kernel
theorem dX6_look_55 : decode cX6_look 55 = .ok (.invokevirtual 76, 3) := by decide +kernel
theorem dX6_look_58 : decode cX6_look 58 = .ok (.lookupswitch 113 #[(3, 26), (4, 64)], 26) := by decide +kernel
theorem dX6_look_84 : decode cX6_look 84 = .ok (.aload_n 0, 1) := by decide +kernel
theorem dX6_look_85 : decode cX6_look 85 = .ok (.iload 5, 2) := by decide +kernel
theorem dX6_look_87 : decode cX6_look 87 = .ok (.iload_n 2, 1) := by decide +kernel
theorem dX6_look_88 : decode cX6_look 88 = .ok (.iload_n 3, 1) := by decide +kernel
theorem dX6_look_89 : decode cX6_look 89 = .ok (.invokevirtual 104, 3) := by decide +kernel
theorem dX6_look_92 : decode cX6_look 92 = .ok (.istore 6, 2) := by decide +kernel
theorem dX6_look_94 : decode cX6_look 94 = .ok (.aload_n 0, 1) := by decide +kernel
theorem dX6_look_95 : decode cX6_look 95 = .ok (.iload 6, 2) := by decide +kernel
theorem dX6_look_97 : decode cX6_look 97 = .ok (.ifCond .eq 7, 3) := by decide +kernel
theorem dX6_look_100 : decode cX6_look 100 = .ok (.iconst 1, 1) := by decide +kernel
theorem dX6_look_101 : decode cX6_look 101 = .ok (.goto 4, 3) := by decide +kernel
theorem dX6_look_104 : decode cX6_look 104 = .ok (.iconst 0, 1) := by decide +kernel
theorem dX6_look_105 : decode cX6_look 105 = .ok (.iload 6, 2) := by decide +kernel
theorem dX6_look_107 : decode cX6_look 107 = .ok (.ifCond .eq 8, 3) := by decide +kernel
theorem dX6_look_110 : decode cX6_look 110 = .ok (.iload 5, 2) := by decide +kernel
theorem dX6_look_112 : decode cX6_look 112 = .ok (.goto 4, 3) := by decide +kernel
theorem dX6_look_115 : decode cX6_look 115 = .ok (.iconst (-1), 1) := by decide +kernel
theorem dX6_look_116 : decode cX6_look 116 = .ok (.invokevirtual 112, 3) := by decide +kernel
theorem dX6_look_119 : decode cX6_look 119 = .ok (.goto 58, 3) := by decide +kernel
theorem dX6_look_122 : decode cX6_look 122 = .ok (.iconst 0, 1) := by decide +kernel
theorem dX6_look_123 : decode cX6_look 123 = .ok (.aload_n 0, 1) := by decide +kernel
theorem dX6_look_124 : decode cX6_look 124 = .ok (.iload_n 2, 1) := by decide +kernel
theorem dX6_look_125 : decode cX6_look 125 = .ok (.iload_n 3, 1) := by decide +kernel
theorem dX6_look_126 : decode cX6_look 126 = .ok (.iadd, 1) := by decide +kernel
theorem dX6_look_127 : decode cX6_look 127 = .ok (.iload 4, 2) := by decide +kernel
theorem dX6_look_129 : decode cX6_look 129 = .ok (.invokevirtual 101, 3) := by decide +kernel
theorem dX6_look_132 : decode cX6_look 132 = .ok (.iload 5, 2) := by decide +kernel
theorem dX6_look_134 : decode cX6_look 134 = .ok (.isub, 1) := by decide +kernel
theorem dX6_look_135 : decode cX6_look 135 = .ok (.invokestatic 127, 3) := by decide +kernel
theorem dX6_look_138 : decode cX6_look 138 = .ok (.istore 7, 2) := by decide +kernel
theorem dX6_look_140 : decode cX6_look 140 = .ok (.aload_n 0, 1) := by decide +kernel
theorem dX6_look_141 : decode cX6_look 141 = .ok (.iload 7, 2) := by decide +kernel
theorem dX6_look_143 : decode cX6_look 143 = .ok (.sipush 255, 3) := by decide +kernel
theorem dX6_look_146 : decode cX6_look 146 = .ok (.iand, 1) := by decide +kernel
theorem dX6_look_147 : decode cX6_look 147 = .ok (.iconst (-1), 1) := by decide +kernel
theorem dX6_look_148 : decode cX6_look 148 = .ok (.invokevirtual 112, 3) := by decide +kernel
theorem dX6_look_151 : decode cX6_look 151 = .ok (.aload_n 0, 1) := by decide +kernel
theorem dX6_look_152 : decode cX6_look 152 = .ok (.getfield 31, 3) := by decide +kernel
theorem dX6_look_155 : decode cX6_look 155 = .ok (.iconst 1, 1) := by decide +kernel
theorem dX6_look_156 : decode cX6_look 156 = .ok (.iload 7, 2) := by decide +kernel
theorem dX6_look_158 : decode cX6_look 158 = .ok (.bipush 8, 2) := by decide +kernel
theorem dX6_look_160 : decode cX6_look 160 = .ok (.ishr, 1) := by decide +kernel
theorem dX6_look_161 : decode cX6_look 161 = .ok (.i2b, 1) := by decide +kernel
theorem dX6_look_162 : decode cX6_look 162 = .ok (.bastore, 1) := by decide +kernel
theorem dX6_look_163 : decode cX6_look 163 = .ok (.aload_n 0, 1) := by decide +kernel
theorem dX6_look_164 : decode cX6_look 164 = .ok (.iconst 2, 1) := by decide +kernel
theorem dX6_look_165 : decode cX6_look 165 = .ok (.putfield 57, 3) := by decide +kernel
theorem dX6_look_168 : decode cX6_look 168 = .ok (.goto 9, 3) := by decide +kernel
theorem dX6_look_171 : decode cX6_look 171 = .ok (.aload_n 0, 1) := by decide +kernel
theorem dX6_look_172 : decode cX6_look 172 = .ok (.iload 5, 2) := by decide +kernel
theorem dX6_look_174 : decode cX6_look 174 = .ok (.invokevirtual 132, 3) := by decide +kernel
theorem dX6_look_177 : decode cX6_look 177 = .ok (.return_, 1) := by decide +kernel
theorem dX6_say_0 : decode cX6_say 0 = .ok (.aload_n 0, 1) := by decide +kernel
theorem dX6_say_1 : decode cX6_say 1 = .ok (.getfield 31, 3) := by decide +kernel
theorem dX6_say_4 : decode cX6_say 4 = .ok (.iconst 0, 1) := by decide +kernel
theorem dX6_say_5 : decode cX6_say 5 = .ok (.iload_n 1, 1) := by decide +kernel
theorem dX6_say_6 : decode cX6_say 6 = .ok (.i2b, 1) := by decide +kernel
theorem dX6_say_7 : decode cX6_say 7 = .ok (.bastore, 1) := by decide +kernel
theorem dX6_say_8 : decode cX6_say 8 = .ok (.aload_n 0, 1) := by decide +kernel
theorem dX6_say_9 : decode cX6_say 9 = .ok (.iconst 1, 1) := by decide +kernel
theorem dX6_say_10 : decode cX6_say 10 = .ok (.putfield 57, 3) := by decide +kernel
theorem dX6_say_13 : decode cX6_say 13 = .ok (.iload_n 2, 1) := by decide +kernel
theorem dX6_say_14 : decode cX6_say 14 = .ok (.ifCond .lt 59, 3) := by decide +kernel
theorem dX6_say_17 : decode cX6_say 17 = .ok (.iload_n 2, 1) := by decide +kernel
theorem dX6_say_18 : decode cX6_say 18 = .ok (.aload_n 0, 1) := by decide +kernel
theorem dX6_say_19 : decode cX6_say 19 = .ok (.getfield 45, 3) := by decide +kernel
theorem dX6_say_22 : decode cX6_say 22 = .ok (.if_icmp .ge 51, 3) := by decide +kernel
theorem dX6_say_25 : decode cX6_say 25 = .ok (.aload_n 0, 1) := by decide +kernel
theorem dX6_say_26 : decode cX6_say 26 = .ok (.getfield 19, 3) := by decide +kernel
theorem dX6_say_29 : decode cX6_say 29 = .ok (.iload_n 2, 1) := by decide +kernel
theorem dX6_say_30 : decode cX6_say 30 = .ok (.iaload, 1) := by decide +kernel
theorem dX6_say_31 : decode cX6_say 31 = .ok (.istore_n 3, 1) := by decide +kernel
theorem dX6_say_32 : decode cX6_say 32 = .ok (.aload_n 0, 1) := by decide +kernel
theorem dX6_say_33 : decode cX6_say 33 = .ok (.getfield 28, 3) := by decide +kernel
theorem dX6_say_36 : decode cX6_say 36 = .ok (.iload_n 3, 1) := by decide +kernel
theorem dX6_say_37 : decode cX6_say 37 = .ok (.sipush 132, 3) := by decide +kernel
theorem dX6_say_40 : decode cX6_say 40 = .ok (.imul, 1) := by decide +kernel
theorem dX6_say_41 : decode cX6_say 41 = .ok (.bipush 32, 2) := by decide +kernel
theorem dX6_say_43 : decode cX6_say 43 = .ok (.iadd, 1) := by decide +kernel
theorem dX6_say_44 : decode cX6_say 44 = .ok (.aload_n 0, 1) := by decide +kernel
theorem dX6_say_45 : decode cX6_say 45 = .ok (.getfield 31, 3) := by decide +kernel
theorem dX6_say_48 : decode cX6_say 48 = .ok (.iconst 1, 1) := by decide +kernel
theorem dX6_say_49 : decode cX6_say 49 = .ok (.aload_n 0, 1) := by decide +kernel
theorem dX6_say_50 : decode cX6_say 50 = .ok (.getfield 25, 3) := by decide +kernel
theorem dX6_say_53 : decode cX6_say 53 = .ok (.iload_n 3, 1) := by decide +kernel
theorem dX6_say_54 : decode cX6_say 54 = .ok (.iaload, 1) := by decide +kernel
theorem dX6_say_55 : decode cX6_say 55 = .ok (.invokestatic 68, 3) := by decide +kernel
theorem dX6_say_58 : decode cX6_say 58 = .ok (.aload_n 0, 1) := by decide +kernel
theorem dX6_say_59 : decode cX6_say 59 = .ok (.dup, 1) := by decide +kernel
theorem dX6_say_60 : decode cX6_say 60 = .ok (.getfield 57, 3) := by decide +kernel
theorem dX6_say_63 : decode cX6_say 63 = .ok (.aload_n 0, 1) := by decide +kernel
theorem dX6_say_64 : decode cX6_say 64 = .ok (.getfield 25, 3) := by decide +kernel
theorem dX6_say_67 : decode cX6_say 67 = .ok (.iload_n 3, 1) := by decide +kernel
theorem dX6_say_68 : decode cX6_say 68 = .ok (.iaload, 1) := by decide +kernel
theorem dX6_say_69 : decode cX6_say 69 = .ok (.iadd, 1) := by decide +kernel
theorem dX6_say_70 : decode cX6_say 70 = .ok (.putfield 57, 3) := by decide +kernel
theorem dX6_say_73 : decode cX6_say 73 = .ok (.return_, 1) := by decide +kernel
theorem dX6_sayNext_0 : decode cX6_sayNext 0 = .ok (.aload_n 0, 1) := by decide +kernel
theorem dX6_sayNext_1 : decode cX6_sayNext 1 = .ok (.iload_n 1, 1) := by decide +kernel
theorem dX6_sayNext_2 : decode cX6_sayNext 2 = .ok (.aload_n 0, 1) := by decide +kernel
theorem dX6_sayNext_3 : decode cX6_sayNext 3 = .ok (.getfield 45, 3) := by decide +kernel
theorem dX6_sayNext_6 : decode cX6_sayNext 6 = .ok (.if_icmp .ge 7, 3) := by decide +kernel
theorem dX6_sayNext_9 : decode cX6_sayNext 9 = .ok (.iconst 1, 1) := by decide +kernel
theorem dX6_sayNext_10 : decode cX6_sayNext 10 = .ok (.goto 4, 3) := by decide +kernel
theorem dX6_sayNext_13 : decode cX6_sayNext 13 = .ok (.iconst 0, 1) := by decide +kernel
theorem dX6_sayNext_14 : decode cX6_sayNext 14 = .ok (.iconst (-1), 1) := by decide +kernel
theorem dX6_sayNext_15 : decode cX6_sayNext 15 = .ok (.invokevirtual 112, 3) := by decide +kernel
theorem dX6_sayNext_18 : decode cX6_sayNext 18 = .ok (.iload_n 1, 1) := by decide +kernel
theorem dX6_sayNext_19 : decode cX6_sayNext 19 = .ok (.aload_n 0, 1) := by decide +kernel
theorem dX6_sayNext_20 : decode cX6_sayNext 20 = .ok (.getfield 45, 3) := by decide +kernel
theorem dX6_sayNext_23 : decode cX6_sayNext 23 = .ok (.if_icmp .ge 98, 3) := by decide +kernel
theorem dX6_sayNext_26 : decode cX6_sayNext 26 = .ok (.aload_n 0, 1) := by decide +kernel
theorem dX6_sayNext_27 : decode cX6_sayNext 27 = .ok (.getfield 19, 3) := by decide +kernel
theorem dX6_sayNext_30 : decode cX6_sayNext 30 = .ok (.iload_n 1, 1) := by decide +kernel
theorem dX6_sayNext_31 : decode cX6_sayNext 31 = .ok (.iaload, 1) := by decide +kernel
theorem dX6_sayNext_32 : decode cX6_sayNext 32 = .ok (.istore_n 2, 1) := by decide +kernel
theorem dX6_sayNext_33 : decode cX6_sayNext 33 = .ok (.aload_n 0, 1) := by decide +kernel
theorem dX6_sayNext_34 : decode cX6_sayNext 34 = .ok (.getfield 31, 3) := by decide +kernel
theorem dX6_sayNext_37 : decode cX6_sayNext 37 = .ok (.iconst 1, 1) := by decide +kernel
theorem dX6_sayNext_38 : decode cX6_sayNext 38 = .ok (.aload_n 0, 1) := by decide +kernel
theorem dX6_sayNext_39 : decode cX6_sayNext 39 = .ok (.getfield 22, 3) := by decide +kernel
theorem dX6_sayNext_42 : decode cX6_sayNext 42 = .ok (.iload_n 2, 1) := by decide +kernel
theorem dX6_sayNext_43 : decode cX6_sayNext 43 = .ok (.iaload, 1) := by decide +kernel
theorem dX6_sayNext_44 : decode cX6_sayNext 44 = .ok (.i2b, 1) := by decide +kernel
theorem dX6_sayNext_45 : decode cX6_sayNext 45 = .ok (.bastore, 1) := by decide +kernel
theorem dX6_sayNext_46 : decode cX6_sayNext 46 = .ok (.aload_n 0, 1) := by decide +kernel
theorem dX6_sayNext_47 : decode cX6_sayNext 47 = .ok (.getfield 28, 3) := by decide +kernel
theorem dX6_sayNext_50 : decode cX6_sayNext 50 = .ok (.iload_n 2, 1) := by decide +kernel
theorem dX6_sayNext_51 : decode cX6_sayNext 51 = .ok (.sipush 132, 3) := by decide +kernel
theorem dX6_sayNext_54 : decode cX6_sayNext 54 = .ok (.imul, 1) := by decide +kernel
theorem dX6_sayNext_55 : decode cX6_sayNext 55 = .ok (.aload_n 0, 1) := by decide +kernel
theorem dX6_sayNext_56 : decode cX6_sayNext 56 = .ok (.getfield 31, 3) := by decide +kernel
theorem dX6_sayNext_59 : decode cX6_sayNext 59 = .ok (.iconst 2, 1) := by decide +kernel
theorem dX6_sayNext_60 : decode cX6_sayNext 60 = .ok (.aload_n 0, 1) := by decide +kernel
theorem dX6_sayNext_61 : decode cX6_sayNext 61 = .ok (.getfield 22, 3) := by decide +kernel
theorem dX6_sayNext_64 : decode cX6_sayNext 64 = .ok (.iload_n 2, 1) := by decide +kernel
theorem dX6_sayNext_65 : decode cX6_sayNext 65 = .ok (.iaload, 1) := by decide +kernel
theorem dX6_sayNext_66 : decode cX6_sayNext 66 = .ok (.invokestatic 68, 3) := by decide +kernel
theorem dX6_sayNext_69 : decode cX6_sayNext 69 = .ok (.aload_n 0, 1) := by decide +kernel
theorem dX6_sayNext_70 : decode cX6_sayNext 70 = .ok (.getfield 28, 3) := by decide +kernel
theorem dX6_sayNext_73 : decode cX6_sayNext 73 = .ok (.iload_n 2, 1) := by decide +kernel
theorem dX6_sayNext_74 : decode cX6_sayNext 74 = .ok (.sipush 132, 3) := by decide +kernel
theorem dX6_sayNext_77 : decode cX6_sayNext 77 = .ok (.imul, 1) := by decide +kernel
theorem dX6_sayNext_78 : decode cX6_sayNext 78 = .ok (.bipush 32, 2) := by decide +kernel
theorem dX6_sayNext_80 : decode cX6_sayNext 80 = .ok (.iadd, 1) := by decide +kernel
theorem dX6_sayNext_81 : decode cX6_sayNext 81 = .ok (.aload_n 0, 1) := by decide +kernel
theorem dX6_sayNext_82 : decode cX6_sayNext 82 = .ok (.getfield 31, 3) := by decide +kernel
theorem dX6_sayNext_85 : decode cX6_sayNext 85 = .ok (.iconst 2, 1) := by decide +kernel
theorem dX6_sayNext_86 : decode cX6_sayNext 86 = .ok (.aload_n 0, 1) := by decide +kernel
theorem dX6_sayNext_87 : decode cX6_sayNext 87 = .ok (.getfield 22, 3) := by decide +kernel
theorem dX6_sayNext_90 : decode cX6_sayNext 90 = .ok (.iload_n 2, 1) := by decide +kernel
theorem dX6_sayNext_91 : decode cX6_sayNext 91 = .ok (.iaload, 1) := by decide +kernel
theorem dX6_sayNext_92 : decode cX6_sayNext 92 = .ok (.iadd, 1) := by decide +kernel
theorem dX6_sayNext_93 : decode cX6_sayNext 93 = .ok (.aload_n 0, 1) := by decide +kernel
theorem dX6_sayNext_94 : decode cX6_sayNext 94 = .ok (.getfield 25, 3) := by decide +kernel
theorem dX6_sayNext_97 : decode cX6_sayNext 97 = .ok (.iload_n 2, 1) := by decide +kernel
theorem dX6_sayNext_98 : decode cX6_sayNext 98 = .ok (.iaload, 1) := by decide +kernel
theorem dX6_sayNext_99 : decode cX6_sayNext 99 = .ok (.invokestatic 68, 3) := by decide +kernel
theorem dX6_sayNext_102 : decode cX6_sayNext 102 = .ok (.aload_n 0, 1) := by decide +kernel
theorem dX6_sayNext_103 : decode cX6_sayNext 103 = .ok (.iconst 2, 1) := by decide +kernel
theorem dX6_sayNext_104 : decode cX6_sayNext 104 = .ok (.aload_n 0, 1) := by decide +kernel
theorem dX6_sayNext_105 : decode cX6_sayNext 105 = .ok (.getfield 22, 3) := by decide +kernel
theorem dX6_sayNext_108 : decode cX6_sayNext 108 = .ok (.iload_n 2, 1) := by decide +kernel
theorem dX6_sayNext_109 : decode cX6_sayNext 109 = .ok (.iaload, 1) := by decide +kernel
theorem dX6_sayNext_110 : decode cX6_sayNext 110 = .ok (.iadd, 1) := by decide +kernel
theorem dX6_sayNext_111 : decode cX6_sayNext 111 = .ok (.aload_n 0, 1) := by decide +kernel
theorem dX6_sayNext_112 : decode cX6_sayNext 112 = .ok (.getfield 25, 3) := by decide +kernel
theorem dX6_sayNext_115 : decode cX6_sayNext 115 = .ok (.iload_n 2, 1) := by decide +kernel
theorem dX6_sayNext_116 : decode cX6_sayNext 116 = .ok (.iaload, 1) := by decide +kernel
theorem dX6_sayNext_117 : decode cX6_sayNext 117 = .ok (.iadd, 1) := by decide +kernel
theorem dX6_sayNext_118 : decode cX6_sayNext 118 = .ok (.putfield 57, 3) := by decide +kernel
theorem dX6_sayNext_121 : decode cX6_sayNext 121 = .ok (.return_, 1) := by decide +kernel
theorem dX6_lowerBound_0 : decode cX6_lowerBound 0 = .ok (.iconst 0, 1) := by decide +kernel
theorem dX6_lowerBound_1 : decode cX6_lowerBound 1 = .ok (.istore_n 3, 1) := by decide +kernel
theorem dX6_lowerBound_2 : decode cX6_lowerBound 2 = .ok (.aload_n 0, 1) := by decide +kernel
theorem dX6_lowerBound_3 : decode cX6_lowerBound 3 = .ok (.getfield 45, 3) := by decide +kernel
theorem dX6_lowerBound_6 : decode cX6_lowerBound 6 = .ok (.istore 4, 2) := by decide +kernel
theorem dX6_lowerBound_8 : decode cX6_lowerBound 8 = .ok (.iload_n 3, 1) := by decide +kernel
theorem dX6_lowerBound_9 : decode cX6_lowerBound 9 = .ok (.iload 4, 2) := by decide +kernel
theorem dX6_lowerBound_11 : decode cX6_lowerBound 11 = .ok (.if_icmp .ge 42, 3) := by decide +kernel
theorem dX6_lowerBound_14 : decode cX6_lowerBound 14 = .ok (.iload_n 3, 1) := by decide +kernel
theorem dX6_lowerBound_15 : decode cX6_lowerBound 15 = .ok (.iload 4, 2) := by decide +kernel
theorem dX6_lowerBound_17 : decode cX6_lowerBound 17 = .ok (.iadd, 1) := by decide +kernel
theorem dX6_lowerBound_18 : decode cX6_lowerBound 18 = .ok (.iconst 2, 1) := by decide +kernel
theorem dX6_lowerBound_19 : decode cX6_lowerBound 19 = .ok (.idiv, 1) := by decide +kernel
theorem dX6_lowerBound_20 : decode cX6_lowerBound 20 = .ok (.istore 5, 2) := by decide +kernel
theorem dX6_lowerBound_22 : decode cX6_lowerBound 22 = .ok (.aload_n 0, 1) := by decide +kernel
theorem dX6_lowerBound_23 : decode cX6_lowerBound 23 = .ok (.aload_n 0, 1) := by decide +kernel
theorem dX6_lowerBound_24 : decode cX6_lowerBound 24 = .ok (.getfield 19, 3) := by decide +kernel
theorem dX6_lowerBound_27 : decode cX6_lowerBound 27 = .ok (.iload 5, 2) := by decide +kernel
theorem dX6_lowerBound_29 : decode cX6_lowerBound 29 = .ok (.iaload, 1) := by decide +kernel
theorem dX6_lowerBound_30 : decode cX6_lowerBound 30 = .ok (.iload_n 1, 1) := by decide +kernel
theorem dX6_lowerBound_31 : decode cX6_lowerBound 31 = .ok (.iload_n 2, 1) := by decide +kernel
theorem dX6_lowerBound_32 : decode cX6_lowerBound 32 = .ok (.invokevirtual 135, 3) := by decide +kernel
theorem dX6_lowerBound_35 : decode cX6_lowerBound 35 = .ok (.ifCond .ge 11, 3) := by decide +kernel
theorem dX6_lowerBound_38 : decode cX6_lowerBound 38 = .ok (.iload 5, 2) := by decide +kernel
theorem dX6_lowerBound_40 : decode cX6_lowerBound 40 = .ok (.iconst 1, 1) := by decide +kernel
theorem dX6_lowerBound_41 : decode cX6_lowerBound 41 = .ok (.iadd, 1) := by decide +kernel
theorem dX6_lowerBound_42 : decode cX6_lowerBound 42 = .ok (.istore_n 3, 1) := by decide +kernel
theorem dX6_lowerBound_43 : decode cX6_lowerBound 43 = .ok (.goto 7, 3) := by decide +kernel
theorem dX6_lowerBound_46 : decode cX6_lowerBound 46 = .ok (.iload 5, 2) := by decide +kernel
theorem dX6_lowerBound_48 : decode cX6_lowerBound 48 = .ok (.istore 4, 2) := by decide +kernel
theorem dX6_lowerBound_50 : decode cX6_lowerBound 50 = .ok (.goto (-42), 3) := by decide +kernel
theorem dX6_lowerBound_53 : decode cX6_lowerBound 53 = .ok (.iload_n 3, 1) := by decide +kernel
theorem dX6_lowerBound_54 : decode cX6_lowerBound 54 = .ok (.ireturn, 1) := by decide +kernel
theorem dX6_isKey_0 : decode cX6_isKey 0 = .ok (.iload_n 1, 1) := by decide +kernel
theorem dX6_isKey_1 : decode cX6_isKey 1 = .ok (.aload_n 0, 1) := by decide +kernel
theorem dX6_isKey_2 : decode cX6_isKey 2 = .ok (.getfield 45, 3) := by decide +kernel
theorem dX6_isKey_5 : decode cX6_isKey 5 = .ok (.if_icmp .ge 22, 3) := by decide +kernel
theorem dX6_isKey_8 : decode cX6_isKey 8 = .ok (.aload_n 0, 1) := by decide +kernel
theorem dX6_isKey_9 : decode cX6_isKey 9 = .ok (.aload_n 0, 1) := by decide +kernel
theorem dX6_isKey_10 : decode cX6_isKey 10 = .ok (.getfield 19, 3) := by decide +kernel
theorem dX6_isKey_13 : decode cX6_isKey 13 = .ok (.iload_n 1, 1) := by decide +kernel
theorem dX6_isKey_14 : decode cX6_isKey 14 = .ok (.iaload, 1) := by decide +kernel
theorem dX6_isKey_15 : decode cX6_isKey 15 = .ok (.iload_n 2, 1) := by decide +kernel
theorem dX6_isKey_16 : decode cX6_isKey 16 = .ok (.iload_n 3, 1) := by decide +kernel
theorem dX6_isKey_17 : decode cX6_isKey 17 = .ok (.invokevirtual 135, 3) := by decide +kernel
theorem dX6_isKey_20 : decode cX6_isKey 20 = .ok (.ifCond .ne 7, 3) := by decide +kernel
theorem dX6_isKey_23 : decode cX6_isKey 23 = .ok (.iconst 1, 1) := by decide +kernel
theorem dX6_isKey_24 : decode cX6_isKey 24 = .ok (.goto 4, 3) := by decide +kernel
theorem dX6_isKey_27 : decode cX6_isKey 27 = .ok (.iconst 0, 1) := by decide +kernel
theorem dX6_isKey_28 : decode cX6_isKey 28 = .ok (.ireturn, 1) := by decide +kernel
theorem dX6_compare_0 : decode cX6_compare 0 = .ok (.aload_n 0, 1) := by decide +kernel
theorem dX6_compare_1 : decode cX6_compare 1 = .ok (.getfield 22, 3) := by decide +kernel
theorem dX6_compare_4 : decode cX6_compare 4 = .ok (.iload_n 1, 1) := by decide +kernel
theorem dX6_compare_5 : decode cX6_compare 5 = .ok (.iaload, 1) := by decide +kernel
theorem dX6_compare_6 : decode cX6_compare 6 = .ok (.istore 4, 2) := by decide +kernel
theorem dX6_compare_8 : decode cX6_compare 8 = .ok (.iconst 0, 1) := by decide +kernel
theorem dX6_compare_9 : decode cX6_compare 9 = .ok (.istore 5, 2) := by decide +kernel
theorem dX6_compare_11 : decode cX6_compare 11 = .ok (.iload 5, 2) := by decide +kernel
theorem dX6_compare_13 : decode cX6_compare 13 = .ok (.iload 4, 2) := by decide +kernel
theorem dX6_compare_15 : decode cX6_compare 15 = .ok (.if_icmp .ge 59, 3) := by decide +kernel
theorem dX6_compare_18 : decode cX6_compare 18 = .ok (.iload 5, 2) := by decide +kernel
theorem dX6_compare_20 : decode cX6_compare 20 = .ok (.iload_n 3, 1) := by decide +kernel
theorem dX6_compare_21 : decode cX6_compare 21 = .ok (.if_icmp .ge 53, 3) := by decide +kernel
theorem dX6_compare_24 : decode cX6_compare 24 = .ok (.aload_n 0, 1) := by decide +kernel
theorem dX6_compare_25 : decode cX6_compare 25 = .ok (.getfield 28, 3) := by decide +kernel
theorem dX6_compare_28 : decode cX6_compare 28 = .ok (.iload_n 1, 1) := by decide +kernel
theorem dX6_compare_29 : decode cX6_compare 29 = .ok (.sipush 132, 3) := by decide +kernel
theorem dX6_compare_32 : decode cX6_compare 32 = .ok (.imul, 1) := by decide +kernel
theorem dX6_compare_33 : decode cX6_compare 33 = .ok (.iload 5, 2) := by decide +kernel
theorem dX6_compare_35 : decode cX6_compare 35 = .ok (.iadd, 1) := by decide +kernel
theorem dX6_compare_36 : decode cX6_compare 36 = .ok (.baload, 1) := by decide +kernel
theorem dX6_compare_37 : decode cX6_compare 37 = .ok (.sipush 255, 3) := by decide +kernel
theorem dX6_compare_40 : decode cX6_compare 40 = .ok (.iand, 1) := by decide +kernel
theorem dX6_compare_41 : decode cX6_compare 41 = .ok (.aload_n 0, 1) := by decide +kernel
theorem dX6_compare_42 : decode cX6_compare 42 = .ok (.getfield 37, 3) := by decide +kernel
theorem dX6_compare_45 : decode cX6_compare 45 = .ok (.getfield 139, 3) := by decide +kernel
theorem dX6_compare_48 : decode cX6_compare 48 = .ok (.iload_n 2, 1) := by decide +kernel
theorem dX6_compare_49 : decode cX6_compare 49 = .ok (.iload 5, 2) := by decide +kernel
theorem dX6_compare_51 : decode cX6_compare 51 = .ok (.iadd, 1) := by decide +kernel
theorem dX6_compare_52 : decode cX6_compare 52 = .ok (.baload, 1) := by decide +kernel
theorem dX6_compare_53 : decode cX6_compare 53 = .ok (.sipush 255, 3) := by decide +kernel
theorem dX6_compare_56 : decode cX6_compare 56 = .ok (.iand, 1) := by decide +kernel
theorem dX6_compare_57 : decode cX6_compare 57 = .ok (.isub, 1) := by decide +kernel
theorem dX6_compare_58 : decode cX6_compare 58 = .ok (.istore 6, 2) := by decide +kernel
theorem dX6_compare_60 : decode cX6_compare 60 = .ok (.iload 6, 2) := by decide +kernel
theorem dX6_compare_62 : decode cX6_compare 62 = .ok (.ifCond .eq 6, 3) := by decide +kernel
theorem dX6_compare_65 : decode cX6_compare 65 = .ok (.iload 6, 2) := by decide +kernel
theorem dX6_compare_67 : decode cX6_compare 67 = .ok (.ireturn, 1) := by decide +kernel
theorem dX6_compare_68 : decode cX6_compare 68 = .ok (.iinc 5 1, 3) := by decide +kernel
theorem dX6_compare_71 : decode cX6_compare 71 = .ok (.goto (-60), 3) := by decide +kernel
theorem dX6_compare_74 : decode cX6_compare 74 = .ok (.iload 4, 2) := by decide +kernel
theorem dX6_compare_76 : decode cX6_compare 76 = .ok (.iload_n 3, 1) := by decide +kernel
theorem dX6_compare_77 : decode cX6_compare 77 = .ok (.isub, 1) := by decide +kernel
theorem dX6_compare_78 : decode cX6_compare 78 = .ok (.ireturn, 1) := by decide +kernel
theorem dX6_hasValue_0 : decode cX6_hasValue 0 = .ok (.aload_n 0, 1) := by decide +kernel
theorem dX6_hasValue_1 : decode cX6_hasValue 1 = .ok (.getfield 19, 3) := by decide +kernel
theorem dX6_hasValue_4 : decode cX6_hasValue 4 = .ok (.iload_n 1, 1) := by decide +kernel
theorem dX6_hasValue_5 : decode cX6_hasValue 5 = .ok (.iaload, 1) := by decide +kernel
theorem dX6_hasValue_6 : decode cX6_hasValue 6 = .ok (.istore 4, 2) := by decide +kernel
theorem dX6_hasValue_8 : decode cX6_hasValue 8 = .ok (.aload_n 0, 1) := by decide +kernel
theorem dX6_hasValue_9 : decode cX6_hasValue 9 = .ok (.getfield 25, 3) := by decide +kernel
theorem dX6_hasValue_12 : decode cX6_hasValue 12 = .ok (.iload 4, 2) := by decide +kernel
theorem dX6_hasValue_14 : decode cX6_hasValue 14 = .ok (.iaload, 1) := by decide +kernel
theorem dX6_hasValue_15 : decode cX6_hasValue 15 = .ok (.iload_n 3, 1) := by decide +kernel
theorem dX6_hasValue_16 : decode cX6_hasValue 16 = .ok (.if_icmp .eq 5, 3) := by decide +kernel
theorem dX6_hasValue_19 : decode cX6_hasValue 19 = .ok (.iconst 0, 1) := by decide +kernel
theorem dX6_hasValue_20 : decode cX6_hasValue 20 = .ok (.ireturn, 1) := by decide +kernel
theorem dX6_hasValue_21 : decode cX6_hasValue 21 = .ok (.iconst 0, 1) := by decide +kernel
theorem dX6_hasValue_22 : decode cX6_hasValue 22 = .ok (.istore 5, 2) := by decide +kernel
theorem dX6_hasValue_24 : decode cX6_hasValue 24 = .ok (.iload 5, 2) := by decide +kernel
theorem dX6_hasValue_26 : decode cX6_hasValue 26 = .ok (.iload_n 3, 1) := by decide +kernel
theorem dX6_hasValue_27 : decode cX6_hasValue 27 = .ok (.if_icmp .ge 43, 3) := by decide +kernel
theorem dX6_hasValue_30 : decode cX6_hasValue 30 = .ok (.aload_n 0, 1) := by decide +kernel
theorem dX6_hasValue_31 : decode cX6_hasValue 31 = .ok (.getfield 28, 3) := by decide +kernel
theorem dX6_hasValue_34 : decode cX6_hasValue 34 = .ok (.iload 4, 2) := by decide +kernel
theorem dX6_hasValue_36 : decode cX6_hasValue 36 = .ok (.sipush 132, 3) := by decide +kernel
theorem dX6_hasValue_39 : decode cX6_hasValue 39 = .ok (.imul, 1) := by decide +kernel
theorem dX6_hasValue_40 : decode cX6_hasValue 40 = .ok (.bipush 32, 2) := by decide +kernel
theorem dX6_hasValue_42 : decode cX6_hasValue 42 = .ok (.iadd, 1) := by decide +kernel
theorem dX6_hasValue_43 : decode cX6_hasValue 43 = .ok (.iload 5, 2) := by decide +kernel
theorem dX6_hasValue_45 : decode cX6_hasValue 45 = .ok (.iadd, 1) := by decide +kernel
theorem dX6_hasValue_46 : decode cX6_hasValue 46 = .ok (.baload, 1) := by decide +kernel
theorem dX6_hasValue_47 : decode cX6_hasValue 47 = .ok (.aload_n 0, 1) := by decide +kernel
theorem dX6_hasValue_48 : decode cX6_hasValue 48 = .ok (.getfield 37, 3) := by decide +kernel
theorem dX6_hasValue_51 : decode cX6_hasValue 51 = .ok (.getfield 139, 3) := by decide +kernel
theorem dX6_hasValue_54 : decode cX6_hasValue 54 = .ok (.iload_n 2, 1) := by decide +kernel
theorem dX6_hasValue_55 : decode cX6_hasValue 55 = .ok (.iload 5, 2) := by decide +kernel
theorem dX6_hasValue_57 : decode cX6_hasValue 57 = .ok (.iadd, 1) := by decide +kernel
theorem dX6_hasValue_58 : decode cX6_hasValue 58 = .ok (.baload, 1) := by decide +kernel
theorem dX6_hasValue_59 : decode cX6_hasValue 59 = .ok (.if_icmp .eq 5, 3) := by decide +kernel
theorem dX6_hasValue_62 : decode cX6_hasValue 62 = .ok (.iconst 0, 1) := by decide +kernel
theorem dX6_hasValue_63 : decode cX6_hasValue 63 = .ok (.ireturn, 1) := by decide +kernel
theorem dX6_hasValue_64 : decode cX6_hasValue 64 = .ok (.iinc 5 1, 3) := by decide +kernel
theorem dX6_hasValue_67 : decode cX6_hasValue 67 = .ok (.goto (-43), 3) := by decide +kernel
theorem dX6_hasValue_70 : decode cX6_hasValue 70 = .ok (.iconst 1, 1) := by decide +kernel
theorem dX6_hasValue_71 : decode cX6_hasValue 71 = .ok (.ireturn, 1) := by decide +kernel
theorem dX6_mayStore_0 : decode cX6_mayStore 0 = .ok (.iload_n 2, 1) := by decide +kernel
theorem dX6_mayStore_1 : decode cX6_mayStore 1 = .ok (.ifCond .eq 11, 3) := by decide +kernel
theorem dX6_mayStore_4 : decode cX6_mayStore 4 = .ok (.aload_n 0, 1) := by decide +kernel
theorem dX6_mayStore_5 : decode cX6_mayStore 5 = .ok (.iload_n 1, 1) := by decide +kernel
theorem dX6_mayStore_6 : decode cX6_mayStore 6 = .ok (.invokevirtual 124, 3) := by decide +kernel
theorem dX6_mayStore_9 : decode cX6_mayStore 9 = .ok (.goto 4, 3) := by decide +kernel
theorem dX6_mayStore_12 : decode cX6_mayStore 12 = .ok (.iconst 0, 1) := by decide +kernel
theorem dX6_mayStore_13 : decode cX6_mayStore 13 = .ok (.istore 4, 2) := by decide +kernel
theorem dX6_mayStore_15 : decode cX6_mayStore 15 = .ok (.iload_n 2, 1) := by decide +kernel
theorem dX6_mayStore_16 : decode cX6_mayStore 16 = .ok (.ifCond .ne 13, 3) := by decide +kernel
theorem dX6_mayStore_19 : decode cX6_mayStore 19 = .ok (.aload_n 0, 1) := by decide +kernel
theorem dX6_mayStore_20 : decode cX6_mayStore 20 = .ok (.getfield 45, 3) := by decide +kernel
theorem dX6_mayStore_23 : decode cX6_mayStore 23 = .ok (.sipush 128, 3) := by decide +kernel
theorem dX6_mayStore_26 : decode cX6_mayStore 26 = .ok (.if_icmp .ge 28, 3) := by decide +kernel
theorem dX6_mayStore_29 : decode cX6_mayStore 29 = .ok (.aload_n 0, 1) := by decide +kernel
theorem dX6_mayStore_30 : decode cX6_mayStore 30 = .ok (.getfield 48, 3) := by decide +kernel
theorem dX6_mayStore_33 : decode cX6_mayStore 33 = .ok (.iload 4, 2) := by decide +kernel
theorem dX6_mayStore_35 : decode cX6_mayStore 35 = .ok (.isub, 1) := by decide +kernel
theorem dX6_mayStore_36 : decode cX6_mayStore 36 = .ok (.iload_n 3, 1) := by decide +kernel
theorem dX6_mayStore_37 : decode cX6_mayStore 37 = .ok (.bipush 15, 2) := by decide +kernel
theorem dX6_mayStore_39 : decode cX6_mayStore 39 = .ok (.iadd, 1) := by decide +kernel
theorem dX6_mayStore_40 : decode cX6_mayStore 40 = .ok (.bipush 16, 2) := by decide +kernel
theorem dX6_mayStore_42 : decode cX6_mayStore 42 = .ok (.idiv, 1) := by decide +kernel
theorem dX6_mayStore_43 : decode cX6_mayStore 43 = .ok (.iadd, 1) := by decide +kernel
theorem dX6_mayStore_44 : decode cX6_mayStore 44 = .ok (.sipush 700, 3) := by decide +kernel
theorem dX6_mayStore_47 : decode cX6_mayStore 47 = .ok (.if_icmp .gt 7, 3) := by decide +kernel
theorem dX6_mayStore_50 : decode cX6_mayStore 50 = .ok (.iconst 1, 1) := by decide +kernel
theorem dX6_mayStore_51 : decode cX6_mayStore 51 = .ok (.goto 4, 3) := by decide +kernel
theorem dX6_mayStore_54 : decode cX6_mayStore 54 = .ok (.iconst 0, 1) := by decide +kernel
theorem dX6_mayStore_55 : decode cX6_mayStore 55 = .ok (.ireturn, 1) := by decide +kernel
theorem dX6_unitsOf_0 : decode cX6_unitsOf 0 = .ok (.aload_n 0, 1) := by decide +kernel
theorem dX6_unitsOf_1 : decode cX6_unitsOf 1 = .ok (.getfield 19, 3) := by decide +kernel
theorem dX6_unitsOf_4 : decode cX6_unitsOf 4 = .ok (.iload_n 1, 1) := by decide +kernel
theorem dX6_unitsOf_5 : decode cX6_unitsOf 5 = .ok (.iaload, 1) := by decide +kernel
theorem dX6_unitsOf_6 : decode cX6_unitsOf 6 = .ok (.istore_n 2, 1) := by decide +kernel
theorem dX6_unitsOf_7 : decode cX6_unitsOf 7 = .ok (.aload_n 0, 1) := by decide +kernel
theorem dX6_unitsOf_8 : decode cX6_unitsOf 8 = .ok (.getfield 22, 3) := by decide +kernel
theorem dX6_unitsOf_11 : decode cX6_unitsOf 11 = .ok (.iload_n 2, 1) := by decide +kernel
theorem dX6_unitsOf_12 : decode cX6_unitsOf 12 = .ok (.iaload, 1) := by decide +kernel
theorem dX6_unitsOf_13 : decode cX6_unitsOf 13 = .ok (.aload_n 0, 1) := by decide +kernel
theorem dX6_unitsOf_14 : decode cX6_unitsOf 14 = .ok (.getfield 25, 3) := by decide +kernel
theorem dX6_unitsOf_17 : decode cX6_unitsOf 17 = .ok (.iload_n 2, 1) := by decide +kernel
theorem dX6_unitsOf_18 : decode cX6_unitsOf 18 = .ok (.iaload, 1) := by decide +kernel
theorem dX6_unitsOf_19 : decode cX6_unitsOf 19 = .ok (.iadd, 1) := by decide +kernel
theorem dX6_unitsOf_20 : decode cX6_unitsOf 20 = .ok (.bipush 15, 2) := by decide +kernel
theorem dX6_unitsOf_22 : decode cX6_unitsOf 22 = .ok (.iadd, 1) := by decide +kernel
theorem dX6_unitsOf_23 : decode cX6_unitsOf 23 = .ok (.bipush 16, 2) := by decide +kernel
theorem dX6_unitsOf_25 : decode cX6_unitsOf 25 = .ok (.idiv, 1) := by decide +kernel
theorem dX6_unitsOf_26 : decode cX6_unitsOf 26 = .ok (.ireturn, 1) := by decide +kernel
theorem dX6_insertKey_0 : decode cX6_insertKey 0 = .ok (.aload_n 0, 1) := by decide +kernel
theorem dX6_insertKey_1 : decode cX6_insertKey 1 = .ok (.getfield 19, 3) := by decide +kernel
theorem dX6_insertKey_4 : decode cX6_insertKey 4 = .ok (.aload_n 0, 1) := by decide +kernel
theorem dX6_insertKey_5 : decode cX6_insertKey 5 = .ok (.getfield 45, 3) := by decide +kernel
theorem dX6_insertKey_8 : decode cX6_insertKey 8 = .ok (.iaload, 1) := by decide +kernel
theorem dX6_insertKey_9 : decode cX6_insertKey 9 = .ok (.istore 4, 2) := by decide +kernel
theorem dX6_insertKey_11 : decode cX6_insertKey 11 = .ok (.aload_n 0, 1) := by decide +kernel
theorem dX6_insertKey_12 : decode cX6_insertKey 12 = .ok (.getfield 19, 3) := by decide +kernel
theorem dX6_insertKey_15 : decode cX6_insertKey 15 = .ok (.iload_n 1, 1) := by decide +kernel
theorem dX6_insertKey_16 : decode cX6_insertKey 16 = .ok (.aload_n 0, 1) := by decide +kernel
theorem dX6_insertKey_17 : decode cX6_insertKey 17 = .ok (.getfield 19, 3) := by decide +kernel
theorem dX6_insertKey_20 : decode cX6_insertKey 20 = .ok (.iload_n 1, 1) := by decide +kernel
theorem dX6_insertKey_21 : decode cX6_insertKey 21 = .ok (.iconst 1, 1) := by decide +kernel
theorem dX6_insertKey_22 : decode cX6_insertKey 22 = .ok (.iadd, 1) := by decide +kernel
theorem dX6_insertKey_23 : decode cX6_insertKey 23 = .ok (.aload_n 0, 1) := by decide +kernel
theorem dX6_insertKey_24 : decode cX6_insertKey 24 = .ok (.getfield 45, 3) := by decide +kernel
theorem dX6_insertKey_27 : decode cX6_insertKey 27 = .ok (.iload_n 1, 1) := by decide +kernel
theorem dX6_insertKey_28 : decode cX6_insertKey 28 = .ok (.isub, 1) := by decide +kernel
theorem dX6_insertKey_29 : decode cX6_insertKey 29 = .ok (.invokestatic 68, 3) := by decide +kernel
theorem dX6_insertKey_32 : decode cX6_insertKey 32 = .ok (.aload_n 0, 1) := by decide +kernel
theorem dX6_insertKey_33 : decode cX6_insertKey 33 = .ok (.getfield 19, 3) := by decide +kernel
theorem dX6_insertKey_36 : decode cX6_insertKey 36 = .ok (.iload_n 1, 1) := by decide +kernel
theorem dX6_insertKey_37 : decode cX6_insertKey 37 = .ok (.iload 4, 2) := by decide +kernel
theorem dX6_insertKey_39 : decode cX6_insertKey 39 = .ok (.iastore, 1) := by decide +kernel
theorem dX6_insertKey_40 : decode cX6_insertKey 40 = .ok (.aload_n 0, 1) := by decide +kernel
theorem dX6_insertKey_41 : decode cX6_insertKey 41 = .ok (.dup, 1) := by decide +kernel
theorem dX6_insertKey_42 : decode cX6_insertKey 42 = .ok (.getfield 45, 3) := by decide +kernel
theorem dX6_insertKey_45 : decode cX6_insertKey 45 = .ok (.iconst 1, 1) := by decide +kernel
theorem dX6_insertKey_46 : decode cX6_insertKey 46 = .ok (.iadd, 1) := by decide +kernel
theorem dX6_insertKey_47 : decode cX6_insertKey 47 = .ok (.putfield 45, 3) := by decide +kernel
theorem dX6_insertKey_50 : decode cX6_insertKey 50 = .ok (.aload_n 0, 1) := by decide +kernel
theorem dX6_insertKey_51 : decode cX6_insertKey 51 = .ok (.getfield 22, 3) := by decide +kernel
theorem dX6_insertKey_54 : decode cX6_insertKey 54 = .ok (.iload 4, 2) := by decide +kernel
theorem dX6_insertKey_56 : decode cX6_insertKey 56 = .ok (.iload_n 3, 1) := by decide +kernel
theorem dX6_insertKey_57 : decode cX6_insertKey 57 = .ok (.iastore, 1) := by decide +kernel
theorem dX6_insertKey_58 : decode cX6_insertKey 58 = .ok (.aload_n 0, 1) := by decide +kernel
theorem dX6_insertKey_59 : decode cX6_insertKey 59 = .ok (.getfield 25, 3) := by decide +kernel
theorem dX6_insertKey_62 : decode cX6_insertKey 62 = .ok (.iload 4, 2) := by decide +kernel
theorem dX6_insertKey_64 : decode cX6_insertKey 64 = .ok (.iconst 0, 1) := by decide +kernel
theorem dX6_insertKey_65 : decode cX6_insertKey 65 = .ok (.iastore, 1) := by decide +kernel
theorem dX6_insertKey_66 : decode cX6_insertKey 66 = .ok (.aload_n 0, 1) := by decide +kernel
theorem dX6_insertKey_67 : decode cX6_insertKey 67 = .ok (.getfield 37, 3) := by decide +kernel
theorem dX6_insertKey_70 : decode cX6_insertKey 70 = .ok (.getfield 139, 3) := by decide +kernel
theorem dX6_insertKey_73 : decode cX6_insertKey 73 = .ok (.iload_n 2, 1) := by decide +kernel
theorem dX6_insertKey_74 : decode cX6_insertKey 74 = .ok (.aload_n 0, 1) := by decide +kernel
theorem dX6_insertKey_75 : decode cX6_insertKey 75 = .ok (.getfield 28, 3) := by decide +kernel
theorem dX6_insertKey_78 : decode cX6_insertKey 78 = .ok (.iload 4, 2) := by decide +kernel
theorem dX6_insertKey_80 : decode cX6_insertKey 80 = .ok (.sipush 132, 3) := by decide +kernel
theorem dX6_insertKey_83 : decode cX6_insertKey 83 = .ok (.imul, 1) := by decide +kernel
theorem dX6_insertKey_84 : decode cX6_insertKey 84 = .ok (.iload_n 3, 1) := by decide +kernel
theorem dX6_insertKey_85 : decode cX6_insertKey 85 = .ok (.invokestatic 68, 3) := by decide +kernel
theorem dX6_insertKey_88 : decode cX6_insertKey 88 = .ok (.aload_n 0, 1) := by decide +kernel
theorem dX6_insertKey_89 : decode cX6_insertKey 89 = .ok (.dup, 1) := by decide +kernel
theorem dX6_insertKey_90 : decode cX6_insertKey 90 = .ok (.getfield 48, 3) := by decide +kernel
theorem dX6_insertKey_93 : decode cX6_insertKey 93 = .ok (.aload_n 0, 1) := by decide +kernel
theorem dX6_insertKey_94 : decode cX6_insertKey 94 = .ok (.iload_n 1, 1) := by decide +kernel
theorem dX6_insertKey_95 : decode cX6_insertKey 95 = .ok (.invokevirtual 124, 3) := by decide +kernel
theorem dX6_insertKey_98 : decode cX6_insertKey 98 = .ok (.iadd, 1) := by decide +kernel
theorem dX6_insertKey_99 : decode cX6_insertKey 99 = .ok (.putfield 48, 3) := by decide +kernel
theorem dX6_insertKey_102 : decode cX6_insertKey 102 = .ok (.return_, 1) := by decide +kernel
theorem dX6_storeValue_0 : decode cX6_storeValue 0 = .ok (.aload_n 0, 1) := by decide +kernel
theorem dX6_storeValue_1 : decode cX6_storeValue 1 = .ok (.getfield 19, 3) := by decide +kernel
theorem dX6_storeValue_4 : decode cX6_storeValue 4 = .ok (.iload_n 1, 1) := by decide +kernel
theorem dX6_storeValue_5 : decode cX6_storeValue 5 = .ok (.iaload, 1) := by decide +kernel
theorem dX6_storeValue_6 : decode cX6_storeValue 6 = .ok (.istore 4, 2) := by decide +kernel
theorem dX6_storeValue_8 : decode cX6_storeValue 8 = .ok (.aload_n 0, 1) := by decide +kernel
theorem dX6_storeValue_9 : decode cX6_storeValue 9 = .ok (.dup, 1) := by decide +kernel
theorem dX6_storeValue_10 : decode cX6_storeValue 10 = .ok (.getfield 48, 3) := by decide +kernel
theorem dX6_storeValue_13 : decode cX6_storeValue 13 = .ok (.aload_n 0, 1) := by decide +kernel
theorem dX6_storeValue_14 : decode cX6_storeValue 14 = .ok (.iload_n 1, 1) := by decide +kernel
theorem dX6_storeValue_15 : decode cX6_storeValue 15 = .ok (.invokevirtual 124, 3) := by decide +kernel
theorem dX6_storeValue_18 : decode cX6_storeValue 18 = .ok (.isub, 1) := by decide +kernel
theorem dX6_storeValue_19 : decode cX6_storeValue 19 = .ok (.putfield 48, 3) := by decide +kernel
theorem dX6_storeValue_22 : decode cX6_storeValue 22 = .ok (.aload_n 0, 1) := by decide +kernel
theorem dX6_storeValue_23 : decode cX6_storeValue 23 = .ok (.getfield 25, 3) := by decide +kernel
theorem dX6_storeValue_26 : decode cX6_storeValue 26 = .ok (.iload 4, 2) := by decide +kernel
theorem dX6_storeValue_28 : decode cX6_storeValue 28 = .ok (.iload_n 3, 1) := by decide +kernel
theorem dX6_storeValue_29 : decode cX6_storeValue 29 = .ok (.iastore, 1) := by decide +kernel
theorem dX6_storeValue_30 : decode cX6_storeValue 30 = .ok (.aload_n 0, 1) := by decide +kernel
theorem dX6_storeValue_31 : decode cX6_storeValue 31 = .ok (.getfield 37, 3) := by decide +kernel
theorem dX6_storeValue_34 : decode cX6_storeValue 34 = .ok (.getfield 139, 3) := by decide +kernel
theorem dX6_storeValue_37 : decode cX6_storeValue 37 = .ok (.iload_n 2, 1) := by decide +kernel
theorem dX6_storeValue_38 : decode cX6_storeValue 38 = .ok (.aload_n 0, 1) := by decide +kernel
theorem dX6_storeValue_39 : decode cX6_storeValue 39 = .ok (.getfield 28, 3) := by decide +kernel
theorem dX6_storeValue_42 : decode cX6_storeValue 42 = .ok (.iload 4, 2) := by decide +kernel
theorem dX6_storeValue_44 : decode cX6_storeValue 44 = .ok (.sipush 132, 3) := by decide +kernel
theorem dX6_storeValue_47 : decode cX6_storeValue 47 = .ok (.imul, 1) := by decide +kernel
theorem dX6_storeValue_48 : decode cX6_storeValue 48 = .ok (.bipush 32, 2) := by decide +kernel
theorem dX6_storeValue_50 : decode cX6_storeValue 50 = .ok (.iadd, 1) := by decide +kernel
theorem dX6_storeValue_51 : decode cX6_storeValue 51 = .ok (.iload_n 3, 1) := by decide +kernel
theorem dX6_storeValue_52 : decode cX6_storeValue 52 = .ok (.invokestatic 68, 3) := by decide +kernel
theorem dX6_storeValue_55 : decode cX6_storeValue 55 = .ok (.aload_n 0, 1) := by decide +kernel
theorem dX6_storeValue_56 : decode cX6_storeValue 56 = .ok (.dup, 1) := by decide +kernel
theorem dX6_storeValue_57 : decode cX6_storeValue 57 = .ok (.getfield 48, 3) := by decide +kernel
theorem dX6_storeValue_60 : decode cX6_storeValue 60 = .ok (.aload_n 0, 1) := by decide +kernel
theorem dX6_storeValue_61 : decode cX6_storeValue 61 = .ok (.iload_n 1, 1) := by decide +kernel
theorem dX6_storeValue_62 : decode cX6_storeValue 62 = .ok (.invokevirtual 124, 3) := by decide +kernel
theorem dX6_storeValue_65 : decode cX6_storeValue 65 = .ok (.iadd, 1) := by decide +kernel
theorem dX6_storeValue_66 : decode cX6_storeValue 66 = .ok (.putfield 48, 3) := by decide +kernel
theorem dX6_storeValue_69 : decode cX6_storeValue 69 = .ok (.return_, 1) := by decide +kernel
theorem dX6_copyKey_0 : decode cX6_copyKey 0 = .ok (.aload_n 0, 1) := by decide +kernel
theorem dX6_copyKey_1 : decode cX6_copyKey 1 = .ok (.getfield 19, 3) := by decide +kernel
theorem dX6_copyKey_4 : decode cX6_copyKey 4 = .ok (.iload_n 1, 1) := by decide +kernel
theorem dX6_copyKey_5 : decode cX6_copyKey 5 = .ok (.iaload, 1) := by decide +kernel
theorem dX6_copyKey_6 : decode cX6_copyKey 6 = .ok (.istore_n 3, 1) := by decide +kernel
theorem dX6_copyKey_7 : decode cX6_copyKey 7 = .ok (.aload_n 0, 1) := by decide +kernel
theorem dX6_copyKey_8 : decode cX6_copyKey 8 = .ok (.getfield 28, 3) := by decide +kernel
theorem dX6_copyKey_11 : decode cX6_copyKey 11 = .ok (.iload_n 3, 1) := by decide +kernel
theorem dX6_copyKey_12 : decode cX6_copyKey 12 = .ok (.sipush 132, 3) := by decide +kernel
theorem dX6_copyKey_15 : decode cX6_copyKey 15 = .ok (.imul, 1) := by decide +kernel
theorem dX6_copyKey_16 : decode cX6_copyKey 16 = .ok (.aload_n 2, 1) := by decide +kernel
theorem dX6_copyKey_17 : decode cX6_copyKey 17 = .ok (.iconst 0, 1) := by decide +kernel
theorem dX6_copyKey_18 : decode cX6_copyKey 18 = .ok (.aload_n 0, 1) := by decide +kernel
theorem dX6_copyKey_19 : decode cX6_copyKey 19 = .ok (.getfield 22, 3) := by decide +kernel
theorem dX6_copyKey_22 : decode cX6_copyKey 22 = .ok (.iload_n 3, 1) := by decide +kernel
theorem dX6_copyKey_23 : decode cX6_copyKey 23 = .ok (.iaload, 1) := by decide +kernel
theorem dX6_copyKey_24 : decode cX6_copyKey 24 = .ok (.invokestatic 68, 3) := by decide +kernel
theorem dX6_copyKey_27 : decode cX6_copyKey 27 = .ok (.aload_n 0, 1) := by decide +kernel
theorem dX6_copyKey_28 : decode cX6_copyKey 28 = .ok (.getfield 22, 3) := by decide +kernel
theorem dX6_copyKey_31 : decode cX6_copyKey 31 = .ok (.iload_n 3, 1) := by decide +kernel
theorem dX6_copyKey_32 : decode cX6_copyKey 32 = .ok (.iaload, 1) := by decide +kernel
theorem dX6_copyKey_33 : decode cX6_copyKey 33 = .ok (.ireturn, 1) := by decide +kernel
theorem dX6_copyValue_0 : decode cX6_copyValue 0 = .ok (.aload_n 0, 1) := by decide +kernel
theorem dX6_copyValue_1 : decode cX6_copyValue 1 = .ok (.getfield 19, 3) := by decide +kernel
theorem dX6_copyValue_4 : decode cX6_copyValue 4 = .ok (.iload_n 1, 1) := by decide +kernel
theorem dX6_copyValue_5 : decode cX6_copyValue 5 = .ok (.iaload, 1) := by decide +kernel
theorem dX6_copyValue_6 : decode cX6_copyValue 6 = .ok (.istore_n 3, 1) := by decide +kernel
theorem dX6_copyValue_7 : decode cX6_copyValue 7 = .ok (.aload_n 0, 1) := by decide +kernel
theorem dX6_copyValue_8 : decode cX6_copyValue 8 = .ok (.getfield 28, 3) := by decide +kernel
theorem dX6_copyValue_11 : decode cX6_copyValue 11 = .ok (.iload_n 3, 1) := by decide +kernel
theorem dX6_copyValue_12 : decode cX6_copyValue 12 = .ok (.sipush 132, 3) := by decide +kernel
theorem dX6_copyValue_15 : decode cX6_copyValue 15 = .ok (.imul, 1) := by decide +kernel
theorem dX6_copyValue_16 : decode cX6_copyValue 16 = .ok (.bipush 32, 2) := by decide +kernel
theorem dX6_copyValue_18 : decode cX6_copyValue 18 = .ok (.iadd, 1) := by decide +kernel
theorem dX6_copyValue_19 : decode cX6_copyValue 19 = .ok (.aload_n 2, 1) := by decide +kernel
theorem dX6_copyValue_20 : decode cX6_copyValue 20 = .ok (.iconst 0, 1) := by decide +kernel
theorem dX6_copyValue_21 : decode cX6_copyValue 21 = .ok (.aload_n 0, 1) := by decide +kernel
theorem dX6_copyValue_22 : decode cX6_copyValue 22 = .ok (.getfield 25, 3) := by decide +kernel
theorem dX6_copyValue_25 : decode cX6_copyValue 25 = .ok (.iload_n 3, 1) := by decide +kernel
theorem dX6_copyValue_26 : decode cX6_copyValue 26 = .ok (.iaload, 1) := by decide +kernel
theorem dX6_copyValue_27 : decode cX6_copyValue 27 = .ok (.invokestatic 68, 3) := by decide +kernel
theorem dX6_copyValue_30 : decode cX6_copyValue 30 = .ok (.aload_n 0, 1) := by decide +kernel
theorem dX6_copyValue_31 : decode cX6_copyValue 31 = .ok (.getfield 25, 3) := by decide +kernel
theorem dX6_copyValue_34 : decode cX6_copyValue 34 = .ok (.iload_n 3, 1) := by decide +kernel
theorem dX6_copyValue_35 : decode cX6_copyValue 35 = .ok (.iaload, 1) := by decide +kernel
theorem dX6_copyValue_36 : decode cX6_copyValue 36 = .ok (.ireturn, 1) := by decide +kernel
theorem dX6_save_0 : decode cX6_save 0 = .ok (.aload_n 0, 1) := by decide +kernel
theorem dX6_save_1 : decode cX6_save 1 = .ok (.invokevirtual 142, 3) := by decide +kernel
theorem dX6_save_4 : decode cX6_save 4 = .ok (.istore_n 1, 1) := by decide +kernel
theorem dX6_save_5 : decode cX6_save 5 = .ok (.aload_n 0, 1) := by decide +kernel
theorem dX6_save_6 : decode cX6_save 6 = .ok (.getfield 34, 3) := by decide +kernel
theorem dX6_save_9 : decode cX6_save 9 = .ok (.arraylength, 1) := by decide +kernel
theorem dX6_save_10 : decode cX6_save 10 = .ok (.iload_n 1, 1) := by decide +kernel
theorem dX6_save_11 : decode cX6_save 11 = .ok (.if_icmp .ge 14, 3) := by decide +kernel
theorem dX6_save_14 : decode cX6_save 14 = .ok (.aload_n 0, 1) := by decide +kernel
theorem dX6_save_15 : decode cX6_save 15 = .ok (.iload_n 1, 1) := by decide +kernel
theorem dX6_save_16 : decode cX6_save 16 = .ok (.iload_n 1, 1) := by decide +kernel
theorem dX6_save_17 : decode cX6_save 17 = .ok (.iconst 2, 1) := by decide +kernel
theorem dX6_save_18 : decode cX6_save 18 = .ok (.idiv, 1) := by decide +kernel
theorem dX6_save_19 : decode cX6_save 19 = .ok (.iadd, 1) := by decide +kernel
theorem dX6_save_20 : decode cX6_save 20 = .ok (.newarray .byte, 2) := by decide +kernel
theorem dX6_save_22 : decode cX6_save 22 = .ok (.putfield 34, 3) := by decide +kernel
theorem dX6_save_25 : decode cX6_save 25 = .ok (.aload_n 0, 1) := by decide +kernel
theorem dX6_save_26 : decode cX6_save 26 = .ok (.iconst 0, 1) := by decide +kernel
theorem dX6_save_27 : decode cX6_save 27 = .ok (.aload_n 0, 1) := by decide +kernel
theorem dX6_save_28 : decode cX6_save 28 = .ok (.getfield 41, 3) := by decide +kernel
theorem dX6_save_31 : decode cX6_save 31 = .ok (.invokevirtual 146, 3) := by decide +kernel
theorem dX6_save_34 : decode cX6_save 34 = .ok (.istore_n 2, 1) := by decide +kernel
theorem dX6_save_35 : decode cX6_save 35 = .ok (.iconst 0, 1) := by decide +kernel
theorem dX6_save_36 : decode cX6_save 36 = .ok (.istore_n 3, 1) := by decide +kernel
theorem dX6_save_37 : decode cX6_save 37 = .ok (.iload_n 3, 1) := by decide +kernel
theorem dX6_save_38 : decode cX6_save 38 = .ok (.aload_n 0, 1) := by decide +kernel
theorem dX6_save_39 : decode cX6_save 39 = .ok (.getfield 41, 3) := by decide +kernel
theorem dX6_save_42 : decode cX6_save 42 = .ok (.if_icmp .ge 106, 3) := by decide +kernel
theorem dX6_save_45 : decode cX6_save 45 = .ok (.iload_n 3, 1) := by decide +kernel
theorem dX6_save_46 : decode cX6_save 46 = .ok (.iconst 5, 1) := by decide +kernel
theorem dX6_save_47 : decode cX6_save 47 = .ok (.imul, 1) := by decide +kernel
theorem dX6_save_48 : decode cX6_save 48 = .ok (.istore 4, 2) := by decide +kernel
theorem dX6_save_50 : decode cX6_save 50 = .ok (.iconst 0, 1) := by decide +kernel
theorem dX6_save_51 : decode cX6_save 51 = .ok (.istore 5, 2) := by decide +kernel
theorem dX6_save_53 : decode cX6_save 53 = .ok (.iload 5, 2) := by decide +kernel
theorem dX6_save_55 : decode cX6_save 55 = .ok (.iconst 4, 1) := by decide +kernel
theorem dX6_save_56 : decode cX6_save 56 = .ok (.if_icmp .ge 25, 3) := by decide +kernel
theorem dX6_save_59 : decode cX6_save 59 = .ok (.aload_n 0, 1) := by decide +kernel
theorem dX6_save_60 : decode cX6_save 60 = .ok (.iload_n 2, 1) := by decide +kernel
theorem dX6_save_61 : decode cX6_save 61 = .ok (.aload_n 0, 1) := by decide +kernel
theorem dX6_save_62 : decode cX6_save 62 = .ok (.getfield 11, 3) := by decide +kernel
theorem dX6_save_65 : decode cX6_save 65 = .ok (.iload 4, 2) := by decide +kernel
theorem dX6_save_67 : decode cX6_save 67 = .ok (.iload 5, 2) := by decide +kernel
theorem dX6_save_69 : decode cX6_save 69 = .ok (.iadd, 1) := by decide +kernel
theorem dX6_save_70 : decode cX6_save 70 = .ok (.iaload, 1) := by decide +kernel
theorem dX6_save_71 : decode cX6_save 71 = .ok (.invokevirtual 146, 3) := by decide +kernel
theorem dX6_save_74 : decode cX6_save 74 = .ok (.istore_n 2, 1) := by decide +kernel
theorem dX6_save_75 : decode cX6_save 75 = .ok (.iinc 5 1, 3) := by decide +kernel
theorem dX6_save_78 : decode cX6_save 78 = .ok (.goto (-25), 3) := by decide +kernel
theorem dX6_save_81 : decode cX6_save 81 = .ok (.aload_n 0, 1) := by decide +kernel
theorem dX6_save_82 : decode cX6_save 82 = .ok (.getfield 11, 3) := by decide +kernel
theorem dX6_save_85 : decode cX6_save 85 = .ok (.iload 4, 2) := by decide +kernel
theorem dX6_save_87 : decode cX6_save 87 = .ok (.iconst 4, 1) := by decide +kernel
theorem dX6_save_88 : decode cX6_save 88 = .ok (.iadd, 1) := by decide +kernel
theorem dX6_save_89 : decode cX6_save 89 = .ok (.iaload, 1) := by decide +kernel
theorem dX6_save_90 : decode cX6_save 90 = .ok (.istore 5, 2) := by decide +kernel
theorem dX6_save_92 : decode cX6_save 92 = .ok (.aload_n 0, 1) := by decide +kernel
theorem dX6_save_93 : decode cX6_save 93 = .ok (.getfield 34, 3) := by decide +kernel
theorem dX6_save_96 : decode cX6_save 96 = .ok (.iload_n 2, 1) := by decide +kernel
theorem dX6_save_97 : decode cX6_save 97 = .ok (.iload 5, 2) := by decide +kernel
theorem dX6_save_99 : decode cX6_save 99 = .ok (.bipush 8, 2) := by decide +kernel
theorem dX6_save_101 : decode cX6_save 101 = .ok (.ishr, 1) := by decide +kernel
theorem dX6_save_102 : decode cX6_save 102 = .ok (.i2b, 1) := by decide +kernel
theorem dX6_save_103 : decode cX6_save 103 = .ok (.bastore, 1) := by decide +kernel
theorem dX6_save_104 : decode cX6_save 104 = .ok (.aload_n 0, 1) := by decide +kernel
theorem dX6_save_105 : decode cX6_save 105 = .ok (.getfield 34, 3) := by decide +kernel
theorem dX6_save_108 : decode cX6_save 108 = .ok (.iload_n 2, 1) := by decide +kernel
theorem dX6_save_109 : decode cX6_save 109 = .ok (.iconst 1, 1) := by decide +kernel
theorem dX6_save_110 : decode cX6_save 110 = .ok (.iadd, 1) := by decide +kernel
theorem dX6_save_111 : decode cX6_save 111 = .ok (.iload 5, 2) := by decide +kernel
theorem dX6_save_113 : decode cX6_save 113 = .ok (.i2b, 1) := by decide +kernel
theorem dX6_save_114 : decode cX6_save 114 = .ok (.bastore, 1) := by decide +kernel
theorem dX6_save_115 : decode cX6_save 115 = .ok (.aload_n 0, 1) := by decide +kernel
theorem dX6_save_116 : decode cX6_save 116 = .ok (.getfield 15, 3) := by decide +kernel
theorem dX6_save_119 : decode cX6_save 119 = .ok (.iload_n 3, 1) := by decide +kernel
theorem dX6_save_120 : decode cX6_save 120 = .ok (.bipush 101, 2) := by decide +kernel
theorem dX6_save_122 : decode cX6_save 122 = .ok (.imul, 1) := by decide +kernel
theorem dX6_save_123 : decode cX6_save 123 = .ok (.aload_n 0, 1) := by decide +kernel
theorem dX6_save_124 : decode cX6_save 124 = .ok (.getfield 34, 3) := by decide +kernel
theorem dX6_save_127 : decode cX6_save 127 = .ok (.iload_n 2, 1) := by decide +kernel
theorem dX6_save_128 : decode cX6_save 128 = .ok (.iconst 2, 1) := by decide +kernel
theorem dX6_save_129 : decode cX6_save 129 = .ok (.iadd, 1) := by decide +kernel
theorem dX6_save_130 : decode cX6_save 130 = .ok (.iload 5, 2) := by decide +kernel
theorem dX6_save_132 : decode cX6_save 132 = .ok (.invokestatic 68, 3) := by decide +kernel
theorem dX6_save_135 : decode cX6_save 135 = .ok (.iload_n 2, 1) := by decide +kernel
theorem dX6_save_136 : decode cX6_save 136 = .ok (.iconst 2, 1) := by decide +kernel
theorem dX6_save_137 : decode cX6_save 137 = .ok (.iload 5, 2) := by decide +kernel
theorem dX6_save_139 : decode cX6_save 139 = .ok (.iadd, 1) := by decide +kernel
theorem dX6_save_140 : decode cX6_save 140 = .ok (.iadd, 1) := by decide +kernel
theorem dX6_save_141 : decode cX6_save 141 = .ok (.istore_n 2, 1) := by decide +kernel
theorem dX6_save_142 : decode cX6_save 142 = .ok (.iinc 3 1, 3) := by decide +kernel
theorem dX6_save_145 : decode cX6_save 145 = .ok (.goto (-108), 3) := by decide +kernel
theorem dX6_save_148 : decode cX6_save 148 = .ok (.aload_n 0, 1) := by decide +kernel
theorem dX6_save_149 : decode cX6_save 149 = .ok (.iload_n 2, 1) := by decide +kernel
theorem dX6_save_150 : decode cX6_save 150 = .ok (.aload_n 0, 1) := by decide +kernel
theorem dX6_save_151 : decode cX6_save 151 = .ok (.getfield 45, 3) := by decide +kernel
theorem dX6_save_154 : decode cX6_save 154 = .ok (.invokevirtual 146, 3) := by decide +kernel
theorem dX6_save_157 : decode cX6_save 157 = .ok (.istore_n 2, 1) := by decide +kernel
theorem dX6_save_158 : decode cX6_save 158 = .ok (.iconst 0, 1) := by decide +kernel
theorem dX6_save_159 : decode cX6_save 159 = .ok (.istore_n 3, 1) := by decide +kernel
theorem dX6_save_160 : decode cX6_save 160 = .ok (.iload_n 3, 1) := by decide +kernel
theorem dX6_save_161 : decode cX6_save 161 = .ok (.aload_n 0, 1) := by decide +kernel
theorem dX6_save_162 : decode cX6_save 162 = .ok (.getfield 45, 3) := by decide +kernel
theorem dX6_save_165 : decode cX6_save 165 = .ok (.if_icmp .ge 143, 3) := by decide +kernel
theorem dX6_save_168 : decode cX6_save 168 = .ok (.aload_n 0, 1) := by decide +kernel
theorem dX6_save_169 : decode cX6_save 169 = .ok (.getfield 19, 3) := by decide +kernel
theorem dX6_save_172 : decode cX6_save 172 = .ok (.iload_n 3, 1) := by decide +kernel
theorem dX6_save_173 : decode cX6_save 173 = .ok (.iaload, 1) := by decide +kernel
theorem dX6_save_174 : decode cX6_save 174 = .ok (.istore 4, 2) := by decide +kernel
theorem dX6_save_176 : decode cX6_save 176 = .ok (.aload_n 0, 1) := by decide +kernel
theorem dX6_save_177 : decode cX6_save 177 = .ok (.getfield 34, 3) := by decide +kernel
theorem dX6_save_180 : decode cX6_save 180 = .ok (.iload_n 2, 1) := by decide +kernel
theorem dX6_save_181 : decode cX6_save 181 = .ok (.aload_n 0, 1) := by decide +kernel
theorem dX6_save_182 : decode cX6_save 182 = .ok (.getfield 22, 3) := by decide +kernel
theorem dX6_save_185 : decode cX6_save 185 = .ok (.iload 4, 2) := by decide +kernel
theorem dX6_save_187 : decode cX6_save 187 = .ok (.iaload, 1) := by decide +kernel
theorem dX6_save_188 : decode cX6_save 188 = .ok (.i2b, 1) := by decide +kernel
theorem dX6_save_189 : decode cX6_save 189 = .ok (.bastore, 1) := by decide +kernel
theorem dX6_save_190 : decode cX6_save 190 = .ok (.aload_n 0, 1) := by decide +kernel
theorem dX6_save_191 : decode cX6_save 191 = .ok (.getfield 34, 3) := by decide +kernel
theorem dX6_save_194 : decode cX6_save 194 = .ok (.iload_n 2, 1) := by decide +kernel
theorem dX6_save_195 : decode cX6_save 195 = .ok (.iconst 1, 1) := by decide +kernel
theorem dX6_save_196 : decode cX6_save 196 = .ok (.iadd, 1) := by decide +kernel
theorem dX6_save_197 : decode cX6_save 197 = .ok (.aload_n 0, 1) := by decide +kernel
theorem dX6_save_198 : decode cX6_save 198 = .ok (.getfield 25, 3) := by decide +kernel
theorem dX6_save_201 : decode cX6_save 201 = .ok (.iload 4, 2) := by decide +kernel
theorem dX6_save_203 : decode cX6_save 203 = .ok (.iaload, 1) := by decide +kernel
theorem dX6_save_204 : decode cX6_save 204 = .ok (.bipush 8, 2) := by decide +kernel
theorem dX6_save_206 : decode cX6_save 206 = .ok (.ishr, 1) := by decide +kernel
theorem dX6_save_207 : decode cX6_save 207 = .ok (.i2b, 1) := by decide +kernel
theorem dX6_save_208 : decode cX6_save 208 = .ok (.bastore, 1) := by decide +kernel
theorem dX6_save_209 : decode cX6_save 209 = .ok (.aload_n 0, 1) := by decide +kernel
theorem dX6_save_210 : decode cX6_save 210 = .ok (.getfield 34, 3) := by decide +kernel
theorem dX6_save_213 : decode cX6_save 213 = .ok (.iload_n 2, 1) := by decide +kernel
theorem dX6_save_214 : decode cX6_save 214 = .ok (.iconst 2, 1) := by decide +kernel
theorem dX6_save_215 : decode cX6_save 215 = .ok (.iadd, 1) := by decide +kernel
theorem dX6_save_216 : decode cX6_save 216 = .ok (.aload_n 0, 1) := by decide +kernel
theorem dX6_save_217 : decode cX6_save 217 = .ok (.getfield 25, 3) := by decide +kernel
theorem dX6_save_220 : decode cX6_save 220 = .ok (.iload 4, 2) := by decide +kernel
theorem dX6_save_222 : decode cX6_save 222 = .ok (.iaload, 1) := by decide +kernel
theorem dX6_save_223 : decode cX6_save 223 = .ok (.i2b, 1) := by decide +kernel
theorem dX6_save_224 : decode cX6_save 224 = .ok (.bastore, 1) := by decide +kernel
theorem dX6_save_225 : decode cX6_save 225 = .ok (.aload_n 0, 1) := by decide +kernel
theorem dX6_save_226 : decode cX6_save 226 = .ok (.getfield 28, 3) := by decide +kernel
theorem dX6_save_229 : decode cX6_save 229 = .ok (.iload 4, 2) := by decide +kernel
theorem dX6_save_231 : decode cX6_save 231 = .ok (.sipush 132, 3) := by decide +kernel
theorem dX6_save_234 : decode cX6_save 234 = .ok (.imul, 1) := by decide +kernel
theorem dX6_save_235 : decode cX6_save 235 = .ok (.aload_n 0, 1) := by decide +kernel
theorem dX6_save_236 : decode cX6_save 236 = .ok (.getfield 34, 3) := by decide +kernel
theorem dX6_save_239 : decode cX6_save 239 = .ok (.iload_n 2, 1) := by decide +kernel
theorem dX6_save_240 : decode cX6_save 240 = .ok (.iconst 3, 1) := by decide +kernel
theorem dX6_save_241 : decode cX6_save 241 = .ok (.iadd, 1) := by decide +kernel
theorem dX6_save_242 : decode cX6_save 242 = .ok (.aload_n 0, 1) := by decide +kernel
theorem dX6_save_243 : decode cX6_save 243 = .ok (.getfield 22, 3) := by decide +kernel
theorem dX6_save_246 : decode cX6_save 246 = .ok (.iload 4, 2) := by decide +kernel
theorem dX6_save_248 : decode cX6_save 248 = .ok (.iaload, 1) := by decide +kernel
theorem dX6_save_249 : decode cX6_save 249 = .ok (.invokestatic 68, 3) := by decide +kernel
theorem dX6_save_252 : decode cX6_save 252 = .ok (.iload_n 2, 1) := by decide +kernel
theorem dX6_save_253 : decode cX6_save 253 = .ok (.iconst 3, 1) := by decide +kernel
theorem dX6_save_254 : decode cX6_save 254 = .ok (.aload_n 0, 1) := by decide +kernel
theorem dX6_save_255 : decode cX6_save 255 = .ok (.getfield 22, 3) := by decide +kernel
theorem dX6_save_258 : decode cX6_save 258 = .ok (.iload 4, 2) := by decide +kernel
theorem dX6_save_260 : decode cX6_save 260 = .ok (.iaload, 1) := by decide +kernel
theorem dX6_save_261 : decode cX6_save 261 = .ok (.iadd, 1) := by decide +kernel
theorem dX6_save_262 : decode cX6_save 262 = .ok (.iadd, 1) := by decide +kernel
theorem dX6_save_263 : decode cX6_save 263 = .ok (.istore_n 2, 1) := by decide +kernel
theorem dX6_save_264 : decode cX6_save 264 = .ok (.aload_n 0, 1) := by decide +kernel
theorem dX6_save_265 : decode cX6_save 265 = .ok (.getfield 28, 3) := by decide +kernel
theorem dX6_save_268 : decode cX6_save 268 = .ok (.iload 4, 2) := by decide +kernel
theorem dX6_save_270 : decode cX6_save 270 = .ok (.sipush 132, 3) := by decide +kernel
theorem dX6_save_273 : decode cX6_save 273 = .ok (.imul, 1) := by decide +kernel
theorem dX6_save_274 : decode cX6_save 274 = .ok (.bipush 32, 2) := by decide +kernel
theorem dX6_save_276 : decode cX6_save 276 = .ok (.iadd, 1) := by decide +kernel
theorem dX6_save_277 : decode cX6_save 277 = .ok (.aload_n 0, 1) := by decide +kernel
theorem dX6_save_278 : decode cX6_save 278 = .ok (.getfield 34, 3) := by decide +kernel
theorem dX6_save_281 : decode cX6_save 281 = .ok (.iload_n 2, 1) := by decide +kernel
theorem dX6_save_282 : decode cX6_save 282 = .ok (.aload_n 0, 1) := by decide +kernel
theorem dX6_save_283 : decode cX6_save 283 = .ok (.getfield 25, 3) := by decide +kernel
theorem dX6_save_286 : decode cX6_save 286 = .ok (.iload 4, 2) := by decide +kernel
theorem dX6_save_288 : decode cX6_save 288 = .ok (.iaload, 1) := by decide +kernel
theorem dX6_save_289 : decode cX6_save 289 = .ok (.invokestatic 68, 3) := by decide +kernel
theorem dX6_save_292 : decode cX6_save 292 = .ok (.iload_n 2, 1) := by decide +kernel
theorem dX6_save_293 : decode cX6_save 293 = .ok (.aload_n 0, 1) := by decide +kernel
theorem dX6_save_294 : decode cX6_save 294 = .ok (.getfield 25, 3) := by decide +kernel
theorem dX6_save_297 : decode cX6_save 297 = .ok (.iload 4, 2) := by decide +kernel
theorem dX6_save_299 : decode cX6_save 299 = .ok (.iaload, 1) := by decide +kernel
theorem dX6_save_300 : decode cX6_save 300 = .ok (.iadd, 1) := by decide +kernel
theorem dX6_save_301 : decode cX6_save 301 = .ok (.istore_n 2, 1) := by decide +kernel
theorem dX6_save_302 : decode cX6_save 302 = .ok (.iinc 3 1, 3) := by decide +kernel
theorem dX6_save_305 : decode cX6_save 305 = .ok (.goto (-145), 3) := by decide +kernel
theorem dX6_save_308 : decode cX6_save 308 = .ok (.iload_n 1, 1) := by decide +kernel
theorem dX6_save_309 : decode cX6_save 309 = .ok (.ireturn, 1) := by decide +kernel
theorem dX6_savedSize_0 : decode cX6_savedSize 0 = .ok (.bipush 8, 2) := by decide +kernel
theorem dX6_savedSize_2 : decode cX6_savedSize 2 = .ok (.istore_n 1, 1) := by decide +kernel
theorem dX6_savedSize_3 : decode cX6_savedSize 3 = .ok (.iconst 0, 1) := by decide +kernel
theorem dX6_savedSize_4 : decode cX6_savedSize 4 = .ok (.istore_n 2, 1) := by decide +kernel
theorem dX6_savedSize_5 : decode cX6_savedSize 5 = .ok (.iload_n 2, 1) := by decide +kernel
theorem dX6_savedSize_6 : decode cX6_savedSize 6 = .ok (.aload_n 0, 1) := by decide +kernel
theorem dX6_savedSize_7 : decode cX6_savedSize 7 = .ok (.getfield 41, 3) := by decide +kernel
theorem dX6_savedSize_10 : decode cX6_savedSize 10 = .ok (.if_icmp .ge 25, 3) := by decide +kernel
theorem dX6_savedSize_13 : decode cX6_savedSize 13 = .ok (.iload_n 1, 1) := by decide +kernel
theorem dX6_savedSize_14 : decode cX6_savedSize 14 = .ok (.bipush 18, 2) := by decide +kernel
theorem dX6_savedSize_16 : decode cX6_savedSize 16 = .ok (.aload_n 0, 1) := by decide +kernel
theorem dX6_savedSize_17 : decode cX6_savedSize 17 = .ok (.getfield 11, 3) := by decide +kernel
theorem dX6_savedSize_20 : decode cX6_savedSize 20 = .ok (.iload_n 2, 1) := by decide +kernel
theorem dX6_savedSize_21 : decode cX6_savedSize 21 = .ok (.iconst 5, 1) := by decide +kernel
theorem dX6_savedSize_22 : decode cX6_savedSize 22 = .ok (.imul, 1) := by decide +kernel
theorem dX6_savedSize_23 : decode cX6_savedSize 23 = .ok (.iconst 4, 1) := by decide +kernel
theorem dX6_savedSize_24 : decode cX6_savedSize 24 = .ok (.iadd, 1) := by decide +kernel
theorem dX6_savedSize_25 : decode cX6_savedSize 25 = .ok (.iaload, 1) := by decide +kernel
theorem dX6_savedSize_26 : decode cX6_savedSize 26 = .ok (.iadd, 1) := by decide +kernel
theorem dX6_savedSize_27 : decode cX6_savedSize 27 = .ok (.iadd, 1) := by decide +kernel
theorem dX6_savedSize_28 : decode cX6_savedSize 28 = .ok (.istore_n 1, 1) := by decide +kernel
theorem dX6_savedSize_29 : decode cX6_savedSize 29 = .ok (.iinc 2 1, 3) := by decide +kernel
theorem dX6_savedSize_32 : decode cX6_savedSize 32 = .ok (.goto (-27), 3) := by decide +kernel
theorem dX6_savedSize_35 : decode cX6_savedSize 35 = .ok (.iconst 0, 1) := by decide +kernel
theorem dX6_savedSize_36 : decode cX6_savedSize 36 = .ok (.istore_n 2, 1) := by decide +kernel
theorem dX6_savedSize_37 : decode cX6_savedSize 37 = .ok (.iload_n 2, 1) := by decide +kernel
theorem dX6_savedSize_38 : decode cX6_savedSize 38 = .ok (.aload_n 0, 1) := by decide +kernel
theorem dX6_savedSize_39 : decode cX6_savedSize 39 = .ok (.getfield 45, 3) := by decide +kernel
theorem dX6_savedSize_42 : decode cX6_savedSize 42 = .ok (.if_icmp .ge 37, 3) := by decide +kernel
theorem dX6_savedSize_45 : decode cX6_savedSize 45 = .ok (.iload_n 1, 1) := by decide +kernel
theorem dX6_savedSize_46 : decode cX6_savedSize 46 = .ok (.iconst 3, 1) := by decide +kernel
theorem dX6_savedSize_47 : decode cX6_savedSize 47 = .ok (.aload_n 0, 1) := by decide +kernel
theorem dX6_savedSize_48 : decode cX6_savedSize 48 = .ok (.getfield 22, 3) := by decide +kernel
theorem dX6_savedSize_51 : decode cX6_savedSize 51 = .ok (.aload_n 0, 1) := by decide +kernel
theorem dX6_savedSize_52 : decode cX6_savedSize 52 = .ok (.getfield 19, 3) := by decide +kernel
theorem dX6_savedSize_55 : decode cX6_savedSize 55 = .ok (.iload_n 2, 1) := by decide +kernel
theorem dX6_savedSize_56 : decode cX6_savedSize 56 = .ok (.iaload, 1) := by decide +kernel
theorem dX6_savedSize_57 : decode cX6_savedSize 57 = .ok (.iaload, 1) := by decide +kernel
theorem dX6_savedSize_58 : decode cX6_savedSize 58 = .ok (.iadd, 1) := by decide +kernel
theorem dX6_savedSize_59 : decode cX6_savedSize 59 = .ok (.aload_n 0, 1) := by decide +kernel
theorem dX6_savedSize_60 : decode cX6_savedSize 60 = .ok (.getfield 25, 3) := by decide +kernel
theorem dX6_savedSize_63 : decode cX6_savedSize 63 = .ok (.aload_n 0, 1) := by decide +kernel
theorem dX6_savedSize_64 : decode cX6_savedSize 64 = .ok (.getfield 19, 3) := by decide +kernel
theorem dX6_savedSize_67 : decode cX6_savedSize 67 = .ok (.iload_n 2, 1) := by decide +kernel
theorem dX6_savedSize_68 : decode cX6_savedSize 68 = .ok (.iaload, 1) := by decide +kernel
theorem dX6_savedSize_69 : decode cX6_savedSize 69 = .ok (.iaload, 1) := by decide +kernel
theorem dX6_savedSize_70 : decode cX6_savedSize 70 = .ok (.iadd, 1) := by decide +kernel
theorem dX6_savedSize_71 : decode cX6_savedSize 71 = .ok (.iadd, 1) := by decide +kernel
theorem dX6_savedSize_72 : decode cX6_savedSize 72 = .ok (.istore_n 1, 1) := by decide +kernel
theorem dX6_savedSize_73 : decode cX6_savedSize 73 = .ok (.iinc 2 1, 3) := by decide +kernel
theorem dX6_savedSize_76 : decode cX6_savedSize 76 = .ok (.goto (-39), 3) := by decide +kernel
theorem dX6_savedSize_79 : decode cX6_savedSize 79 = .ok (.iload_n 1, 1) := by decide +kernel
theorem dX6_savedSize_80 : decode cX6_savedSize 80 = .ok (.ireturn, 1) := by decide +kernel
theorem dX6_saveNumber_0 : decode cX6_saveNumber 0 = .ok (.iconst 0, 1) := by decide +kernel
theorem dX6_saveNumber_1 : decode cX6_saveNumber 1 = .ok (.istore_n 3, 1) := by decide +kernel
theorem dX6_saveNumber_2 : decode cX6_saveNumber 2 = .ok (.iload_n 3, 1) := by decide +kernel
theorem dX6_saveNumber_3 : decode cX6_saveNumber 3 = .ok (.iconst 4, 1) := by decide +kernel
theorem dX6_saveNumber_4 : decode cX6_saveNumber 4 = .ok (.if_icmp .ge 27, 3) := by decide +kernel
theorem dX6_saveNumber_7 : decode cX6_saveNumber 7 = .ok (.aload_n 0, 1) := by decide +kernel
theorem dX6_saveNumber_8 : decode cX6_saveNumber 8 = .ok (.getfield 34, 3) := by decide +kernel
theorem dX6_saveNumber_11 : decode cX6_saveNumber 11 = .ok (.iload_n 1, 1) := by decide +kernel
theorem dX6_saveNumber_12 : decode cX6_saveNumber 12 = .ok (.iload_n 3, 1) := by decide +kernel
theorem dX6_saveNumber_13 : decode cX6_saveNumber 13 = .ok (.iadd, 1) := by decide +kernel
theorem dX6_saveNumber_14 : decode cX6_saveNumber 14 = .ok (.iload_n 2, 1) := by decide +kernel
theorem dX6_saveNumber_15 : decode cX6_saveNumber 15 = .ok (.bipush 24, 2) := by decide +kernel
theorem dX6_saveNumber_17 : decode cX6_saveNumber 17 = .ok (.bipush 8, 2) := by decide +kernel
theorem dX6_saveNumber_19 : decode cX6_saveNumber 19 = .ok (.iload_n 3, 1) := by decide +kernel
theorem dX6_saveNumber_20 : decode cX6_saveNumber 20 = .ok (.imul, 1) := by decide +kernel
theorem dX6_saveNumber_21 : decode cX6_saveNumber 21 = .ok (.isub, 1) := by decide +kernel
theorem dX6_saveNumber_22 : decode cX6_saveNumber 22 = .ok (.ishr, 1) := by decide +kernel
theorem dX6_saveNumber_23 : decode cX6_saveNumber 23 = .ok (.i2b, 1) := by decide +kernel
theorem dX6_saveNumber_24 : decode cX6_saveNumber 24 = .ok (.bastore, 1) := by decide +kernel
theorem dX6_saveNumber_25 : decode cX6_saveNumber 25 = .ok (.iinc 3 1, 3) := by decide +kernel
theorem dX6_saveNumber_28 : decode cX6_saveNumber 28 = .ok (.goto (-26), 3) := by decide +kernel
theorem dX6_saveNumber_31 : decode cX6_saveNumber 31 = .ok (.iload_n 1, 1) := by decide +kernel
theorem dX6_saveNumber_32 : decode cX6_saveNumber 32 = .ok (.iconst 4, 1) := by decide +kernel
theorem dX6_saveNumber_33 : decode cX6_saveNumber 33 = .ok (.iadd, 1) := by decide +kernel
theorem dX6_saveNumber_34 : decode cX6_saveNumber 34 = .ok (.ireturn, 1) := by decide +kernel
theorem dX6_load_0 : decode cX6_load 0 = .ok (.aload_n 0, 1) := by decide +kernel
theorem dX6_load_1 : decode cX6_load 1 = .ok (.invokevirtual 149, 3) := by decide +kernel
theorem dX6_load_4 : decode cX6_load 4 = .ok (.aload_n 0, 1) := by decide +kernel
theorem dX6_load_5 : decode cX6_load 5 = .ok (.aload_n 1, 1) := by decide +kernel
theorem dX6_load_6 : decode cX6_load 6 = .ok (.iload_n 2, 1) := by decide +kernel
theorem dX6_load_7 : decode cX6_load 7 = .ok (.invokevirtual 152, 3) := by decide +kernel
theorem dX6_load_10 : decode cX6_load 10 = .ok (.istore_n 3, 1) := by decide +kernel
theorem dX6_load_11 : decode cX6_load 11 = .ok (.aload_n 1, 1) := by decide +kernel
theorem dX6_load_12 : decode cX6_load 12 = .ok (.iload_n 3, 1) := by decide +kernel
theorem dX6_load_13 : decode cX6_load 13 = .ok (.iconst 4, 1) := by decide +kernel
theorem dX6_load_14 : decode cX6_load 14 = .ok (.iload_n 2, 1) := by decide +kernel
theorem dX6_load_15 : decode cX6_load 15 = .ok (.invokestatic 156, 3) := by decide +kernel
theorem dX6_load_18 : decode cX6_load 18 = .ok (.istore 4, 2) := by decide +kernel
theorem dX6_load_20 : decode cX6_load 20 = .ok (.iinc 3 4, 3) := by decide +kernel
theorem dX6_load_23 : decode cX6_load 23 = .ok (.iconst 0, 1) := by decide +kernel
theorem dX6_load_24 : decode cX6_load 24 = .ok (.istore 5, 2) := by decide +kernel
theorem dX6_load_26 : decode cX6_load 26 = .ok (.iload 5, 2) := by decide +kernel
theorem dX6_load_28 : decode cX6_load 28 = .ok (.iload 4, 2) := by decide +kernel
theorem dX6_load_30 : decode cX6_load 30 = .ok (.if_icmp .ge 173, 3) := by decide +kernel
theorem dX6_load_33 : decode cX6_load 33 = .ok (.iload 5, 2) := by decide +kernel
theorem dX6_load_35 : decode cX6_load 35 = .ok (.sipush 128, 3) := by decide +kernel
theorem dX6_load_38 : decode cX6_load 38 = .ok (.if_icmp .ge 165, 3) := by decide +kernel
theorem dX6_load_41 : decode cX6_load 41 = .ok (.iload_n 3, 1) := by decide +kernel
theorem dX6_load_42 : decode cX6_load 42 = .ok (.iconst 3, 1) := by decide +kernel
theorem dX6_load_43 : decode cX6_load 43 = .ok (.iadd, 1) := by decide +kernel
theorem dX6_load_44 : decode cX6_load 44 = .ok (.iload_n 2, 1) := by decide +kernel
theorem dX6_load_45 : decode cX6_load 45 = .ok (.if_icmp .gt 158, 3) := by decide +kernel
theorem dX6_load_48 : decode cX6_load 48 = .ok (.aload_n 1, 1) := by decide +kernel
theorem dX6_load_49 : decode cX6_load 49 = .ok (.iload_n 3, 1) := by decide +kernel
theorem dX6_load_50 : decode cX6_load 50 = .ok (.iconst 1, 1) := by decide +kernel
theorem dX6_load_51 : decode cX6_load 51 = .ok (.iload_n 2, 1) := by decide +kernel
theorem dX6_load_52 : decode cX6_load 52 = .ok (.invokestatic 156, 3) := by decide +kernel
theorem dX6_load_55 : decode cX6_load 55 = .ok (.istore 6, 2) := by decide +kernel
theorem dX6_load_57 : decode cX6_load 57 = .ok (.aload_n 1, 1) := by decide +kernel
theorem dX6_load_58 : decode cX6_load 58 = .ok (.iload_n 3, 1) := by decide +kernel
theorem dX6_load_59 : decode cX6_load 59 = .ok (.iconst 1, 1) := by decide +kernel
theorem dX6_load_60 : decode cX6_load 60 = .ok (.iadd, 1) := by decide +kernel
theorem dX6_load_61 : decode cX6_load 61 = .ok (.iconst 2, 1) := by decide +kernel
theorem dX6_load_62 : decode cX6_load 62 = .ok (.iload_n 2, 1) := by decide +kernel
theorem dX6_load_63 : decode cX6_load 63 = .ok (.invokestatic 156, 3) := by decide +kernel
theorem dX6_load_66 : decode cX6_load 66 = .ok (.istore 7, 2) := by decide +kernel
theorem dX6_load_68 : decode cX6_load 68 = .ok (.iinc 3 3, 3) := by decide +kernel
theorem dX6_load_71 : decode cX6_load 71 = .ok (.iload 6, 2) := by decide +kernel
theorem dX6_load_73 : decode cX6_load 73 = .ok (.bipush 32, 2) := by decide +kernel
theorem dX6_load_75 : decode cX6_load 75 = .ok (.if_icmp .gt 21, 3) := by decide +kernel
theorem dX6_load_78 : decode cX6_load 78 = .ok (.iload 7, 2) := by decide +kernel
theorem dX6_load_80 : decode cX6_load 80 = .ok (.bipush 100, 2) := by decide +kernel
theorem dX6_load_82 : decode cX6_load 82 = .ok (.if_icmp .gt 14, 3) := by decide +kernel
theorem dX6_load_85 : decode cX6_load 85 = .ok (.iload_n 3, 1) := by decide +kernel
theorem dX6_load_86 : decode cX6_load 86 = .ok (.iload 6, 2) := by decide +kernel
theorem dX6_load_88 : decode cX6_load 88 = .ok (.iadd, 1) := by decide +kernel
theorem dX6_load_89 : decode cX6_load 89 = .ok (.iload 7, 2) := by decide +kernel
theorem dX6_load_91 : decode cX6_load 91 = .ok (.iadd, 1) := by decide +kernel
theorem dX6_load_92 : decode cX6_load 92 = .ok (.iload_n 2, 1) := by decide +kernel
theorem dX6_load_93 : decode cX6_load 93 = .ok (.if_icmp .le 4, 3) := by decide +kernel
theorem dX6_load_96 : decode cX6_load 96 = .ok (.return_, 1) := by decide +kernel
theorem dX6_load_97 : decode cX6_load 97 = .ok (.aload_n 0, 1) := by decide +kernel
theorem dX6_load_98 : decode cX6_load 98 = .ok (.getfield 19, 3) := by decide +kernel
theorem dX6_load_101 : decode cX6_load 101 = .ok (.iload 5, 2) := by decide +kernel
theorem dX6_load_103 : decode cX6_load 103 = .ok (.iaload, 1) := by decide +kernel
theorem dX6_load_104 : decode cX6_load 104 = .ok (.istore 8, 2) := by decide +kernel
theorem dX6_load_106 : decode cX6_load 106 = .ok (.aload_n 0, 1) := by decide +kernel
theorem dX6_load_107 : decode cX6_load 107 = .ok (.getfield 22, 3) := by decide +kernel
theorem dX6_load_110 : decode cX6_load 110 = .ok (.iload 8, 2) := by decide +kernel
theorem dX6_load_112 : decode cX6_load 112 = .ok (.iload 6, 2) := by decide +kernel
theorem dX6_load_114 : decode cX6_load 114 = .ok (.iastore, 1) := by decide +kernel
theorem dX6_load_115 : decode cX6_load 115 = .ok (.aload_n 0, 1) := by decide +kernel
theorem dX6_load_116 : decode cX6_load 116 = .ok (.getfield 25, 3) := by decide +kernel
theorem dX6_load_119 : decode cX6_load 119 = .ok (.iload 8, 2) := by decide +kernel
theorem dX6_load_121 : decode cX6_load 121 = .ok (.iload 7, 2) := by decide +kernel
theorem dX6_load_123 : decode cX6_load 123 = .ok (.iastore, 1) := by decide +kernel
theorem dX6_load_124 : decode cX6_load 124 = .ok (.aload_n 1, 1) := by decide +kernel
theorem dX6_load_125 : decode cX6_load 125 = .ok (.iload_n 3, 1) := by decide +kernel
theorem dX6_load_126 : decode cX6_load 126 = .ok (.aload_n 0, 1) := by decide +kernel
theorem dX6_load_127 : decode cX6_load 127 = .ok (.getfield 28, 3) := by decide +kernel
theorem dX6_load_130 : decode cX6_load 130 = .ok (.iload 8, 2) := by decide +kernel
theorem dX6_load_132 : decode cX6_load 132 = .ok (.sipush 132, 3) := by decide +kernel
theorem dX6_load_135 : decode cX6_load 135 = .ok (.imul, 1) := by decide +kernel
theorem dX6_load_136 : decode cX6_load 136 = .ok (.iload 6, 2) := by decide +kernel
theorem dX6_load_138 : decode cX6_load 138 = .ok (.invokestatic 68, 3) := by decide +kernel
theorem dX6_load_141 : decode cX6_load 141 = .ok (.aload_n 1, 1) := by decide +kernel
theorem dX6_load_142 : decode cX6_load 142 = .ok (.iload_n 3, 1) := by decide +kernel
theorem dX6_load_143 : decode cX6_load 143 = .ok (.iload 6, 2) := by decide +kernel
theorem dX6_load_145 : decode cX6_load 145 = .ok (.iadd, 1) := by decide +kernel
theorem dX6_load_146 : decode cX6_load 146 = .ok (.aload_n 0, 1) := by decide +kernel
theorem dX6_load_147 : decode cX6_load 147 = .ok (.getfield 28, 3) := by decide +kernel
theorem dX6_load_150 : decode cX6_load 150 = .ok (.iload 8, 2) := by decide +kernel
theorem dX6_load_152 : decode cX6_load 152 = .ok (.sipush 132, 3) := by decide +kernel
theorem dX6_load_155 : decode cX6_load 155 = .ok (.imul, 1) := by decide +kernel
theorem dX6_load_156 : decode cX6_load 156 = .ok (.bipush 32, 2) := by decide +kernel
theorem dX6_load_158 : decode cX6_load 158 = .ok (.iadd, 1) := by decide +kernel
theorem dX6_load_159 : decode cX6_load 159 = .ok (.iload 7, 2) := by decide +kernel
theorem dX6_load_161 : decode cX6_load 161 = .ok (.invokestatic 68, 3) := by decide +kernel
theorem dX6_load_164 : decode cX6_load 164 = .ok (.iload_n 3, 1) := by decide +kernel
theorem dX6_load_165 : decode cX6_load 165 = .ok (.iload 6, 2) := by decide +kernel
theorem dX6_load_167 : decode cX6_load 167 = .ok (.iload 7, 2) := by decide +kernel
theorem dX6_load_169 : decode cX6_load 169 = .ok (.iadd, 1) := by decide +kernel
theorem dX6_load_170 : decode cX6_load 170 = .ok (.iadd, 1) := by decide +kernel
theorem dX6_load_171 : decode cX6_load 171 = .ok (.istore_n 3, 1) := by decide +kernel
theorem dX6_load_172 : decode cX6_load 172 = .ok (.aload_n 0, 1) := by decide +kernel
theorem dX6_load_173 : decode cX6_load 173 = .ok (.dup, 1) := by decide +kernel
theorem dX6_load_174 : decode cX6_load 174 = .ok (.getfield 45, 3) := by decide +kernel
theorem dX6_load_177 : decode cX6_load 177 = .ok (.iconst 1, 1) := by decide +kernel
theorem dX6_load_178 : decode cX6_load 178 = .ok (.iadd, 1) := by decide +kernel
theorem dX6_load_179 : decode cX6_load 179 = .ok (.putfield 45, 3) := by decide +kernel
theorem dX6_load_182 : decode cX6_load 182 = .ok (.aload_n 0, 1) := by decide +kernel
theorem dX6_load_183 : decode cX6_load 183 = .ok (.dup, 1) := by decide +kernel
theorem dX6_load_184 : decode cX6_load 184 = .ok (.getfield 48, 3) := by decide +kernel
theorem dX6_load_187 : decode cX6_load 187 = .ok (.aload_n 0, 1) := by decide +kernel
theorem dX6_load_188 : decode cX6_load 188 = .ok (.iload 5, 2) := by decide +kernel
theorem dX6_load_190 : decode cX6_load 190 = .ok (.invokevirtual 124, 3) := by decide +kernel
theorem dX6_load_193 : decode cX6_load 193 = .ok (.iadd, 1) := by decide +kernel
theorem dX6_load_194 : decode cX6_load 194 = .ok (.putfield 48, 3) := by decide +kernel
theorem dX6_load_197 : decode cX6_load 197 = .ok (.iinc 5 1, 3) := by decide +kernel
theorem dX6_load_200 : decode cX6_load 200 = .ok (.goto (-174), 3) := by decide +kernel
theorem dX6_load_203 : decode cX6_load 203 = .ok (.return_, 1) := by decide +kernel
theorem dX6_loadSessions_0 : decode cX6_loadSessions 0 = .ok (.aload_n 1, 1) := by decide +kernel
theorem dX6_loadSessions_1 : decode cX6_loadSessions 1 = .ok (.iconst 0, 1) := by decide +kernel
theorem dX6_loadSessions_2 : decode cX6_loadSessions 2 = .ok (.iconst 4, 1) := by decide +kernel
theorem dX6_loadSessions_3 : decode cX6_loadSessions 3 = .ok (.iload_n 2, 1) := by decide +kernel
theorem dX6_loadSessions_4 : decode cX6_loadSessions 4 = .ok (.invokestatic 156, 3) := by decide +kernel
theorem dX6_loadSessions_7 : decode cX6_loadSessions 7 = .ok (.istore_n 3, 1) := by decide +kernel
theorem dX6_loadSessions_8 : decode cX6_loadSessions 8 = .ok (.iconst 4, 1) := by decide +kernel
theorem dX6_loadSessions_9 : decode cX6_loadSessions 9 = .ok (.istore 4, 2) := by decide +kernel
theorem dX6_loadSessions_11 : decode cX6_loadSessions 11 = .ok (.iconst 0, 1) := by decide +kernel
theorem dX6_loadSessions_12 : decode cX6_loadSessions 12 = .ok (.istore 5, 2) := by decide +kernel
theorem dX6_loadSessions_14 : decode cX6_loadSessions 14 = .ok (.iload 5, 2) := by decide +kernel
theorem dX6_loadSessions_16 : decode cX6_loadSessions 16 = .ok (.iload_n 3, 1) := by decide +kernel
theorem dX6_loadSessions_17 : decode cX6_loadSessions 17 = .ok (.if_icmp .ge 156, 3) := by decide +kernel
theorem dX6_loadSessions_20 : decode cX6_loadSessions 20 = .ok (.iload 5, 2) := by decide +kernel
theorem dX6_loadSessions_22 : decode cX6_loadSessions 22 = .ok (.bipush 16, 2) := by decide +kernel
theorem dX6_loadSessions_24 : decode cX6_loadSessions 24 = .ok (.if_icmp .ge 149, 3) := by decide +kernel
theorem dX6_loadSessions_27 : decode cX6_loadSessions 27 = .ok (.iload 4, 2) := by decide +kernel
theorem dX6_loadSessions_29 : decode cX6_loadSessions 29 = .ok (.bipush 18, 2) := by decide +kernel
theorem dX6_loadSessions_31 : decode cX6_loadSessions 31 = .ok (.iadd, 1) := by decide +kernel
theorem dX6_loadSessions_32 : decode cX6_loadSessions 32 = .ok (.iload_n 2, 1) := by decide +kernel
theorem dX6_loadSessions_33 : decode cX6_loadSessions 33 = .ok (.if_icmp .gt 140, 3) := by decide +kernel
theorem dX6_loadSessions_36 : decode cX6_loadSessions 36 = .ok (.aload_n 1, 1) := by decide +kernel
theorem dX6_loadSessions_37 : decode cX6_loadSessions 37 = .ok (.iload 4, 2) := by decide +kernel
theorem dX6_loadSessions_39 : decode cX6_loadSessions 39 = .ok (.bipush 18, 2) := by decide +kernel
theorem dX6_loadSessions_41 : decode cX6_loadSessions 41 = .ok (.iadd, 1) := by decide +kernel
theorem dX6_loadSessions_42 : decode cX6_loadSessions 42 = .ok (.iconst 2, 1) := by decide +kernel
theorem dX6_loadSessions_43 : decode cX6_loadSessions 43 = .ok (.isub, 1) := by decide +kernel
theorem dX6_loadSessions_44 : decode cX6_loadSessions 44 = .ok (.iconst 2, 1) := by decide +kernel
theorem dX6_loadSessions_45 : decode cX6_loadSessions 45 = .ok (.iload_n 2, 1) := by decide +kernel
theorem dX6_loadSessions_46 : decode cX6_loadSessions 46 = .ok (.invokestatic 156, 3) := by decide +kernel
theorem dX6_loadSessions_49 : decode cX6_loadSessions 49 = .ok (.istore 6, 2) := by decide +kernel
theorem dX6_loadSessions_51 : decode cX6_loadSessions 51 = .ok (.iload 6, 2) := by decide +kernel
theorem dX6_loadSessions_53 : decode cX6_loadSessions 53 = .ok (.bipush 101, 2) := by decide +kernel
theorem dX6_loadSessions_55 : decode cX6_loadSessions 55 = .ok (.if_icmp .gt 15, 3) := by decide +kernel
theorem dX6_loadSessions_58 : decode cX6_loadSessions 58 = .ok (.iload 4, 2) := by decide +kernel
theorem dX6_loadSessions_60 : decode cX6_loadSessions 60 = .ok (.bipush 18, 2) := by decide +kernel
theorem dX6_loadSessions_62 : decode cX6_loadSessions 62 = .ok (.iadd, 1) := by decide +kernel
theorem dX6_loadSessions_63 : decode cX6_loadSessions 63 = .ok (.iload 6, 2) := by decide +kernel
theorem dX6_loadSessions_65 : decode cX6_loadSessions 65 = .ok (.iadd, 1) := by decide +kernel
theorem dX6_loadSessions_66 : decode cX6_loadSessions 66 = .ok (.iload_n 2, 1) := by decide +kernel
theorem dX6_loadSessions_67 : decode cX6_loadSessions 67 = .ok (.if_icmp .le 5, 3) := by decide +kernel
theorem dX6_loadSessions_70 : decode cX6_loadSessions 70 = .ok (.iload_n 2, 1) := by decide +kernel
theorem dX6_loadSessions_71 : decode cX6_loadSessions 71 = .ok (.ireturn, 1) := by decide +kernel
theorem dX6_loadSessions_72 : decode cX6_loadSessions 72 = .ok (.iload 5, 2) := by decide +kernel
theorem dX6_loadSessions_74 : decode cX6_loadSessions 74 = .ok (.iconst 5, 1) := by decide +kernel
theorem dX6_loadSessions_75 : decode cX6_loadSessions 75 = .ok (.imul, 1) := by decide +kernel
theorem dX6_loadSessions_76 : decode cX6_loadSessions 76 = .ok (.istore 7, 2) := by decide +kernel
theorem dX6_loadSessions_78 : decode cX6_loadSessions 78 = .ok (.iconst 0, 1) := by decide +kernel
theorem dX6_loadSessions_79 : decode cX6_loadSessions 79 = .ok (.istore 8, 2) := by decide +kernel
theorem dX6_loadSessions_81 : decode cX6_loadSessions 81 = .ok (.iload 8, 2) := by decide +kernel
theorem dX6_loadSessions_83 : decode cX6_loadSessions 83 = .ok (.iconst 4, 1) := by decide +kernel
theorem dX6_loadSessions_84 : decode cX6_loadSessions 84 = .ok (.if_icmp .ge 32, 3) := by decide +kernel
theorem dX6_loadSessions_87 : decode cX6_loadSessions 87 = .ok (.aload_n 0, 1) := by decide +kernel
theorem dX6_loadSessions_88 : decode cX6_loadSessions 88 = .ok (.getfield 11, 3) := by decide +kernel
theorem dX6_loadSessions_91 : decode cX6_loadSessions 91 = .ok (.iload 7, 2) := by decide +kernel
theorem dX6_loadSessions_93 : decode cX6_loadSessions 93 = .ok (.iload 8, 2) := by decide +kernel
theorem dX6_loadSessions_95 : decode cX6_loadSessions 95 = .ok (.iadd, 1) := by decide +kernel
theorem dX6_loadSessions_96 : decode cX6_loadSessions 96 = .ok (.aload_n 1, 1) := by decide +kernel
theorem dX6_loadSessions_97 : decode cX6_loadSessions 97 = .ok (.iload 4, 2) := by decide +kernel
theorem dX6_loadSessions_99 : decode cX6_loadSessions 99 = .ok (.iconst 4, 1) := by decide +kernel
theorem dX6_loadSessions_100 : decode cX6_loadSessions 100 = .ok (.iload 8, 2) := by decide +kernel
theorem dX6_loadSessions_102 : decode cX6_loadSessions 102 = .ok (.imul, 1) := by decide +kernel
theorem dX6_loadSessions_103 : decode cX6_loadSessions 103 = .ok (.iadd, 1) := by decide +kernel
theorem dX6_loadSessions_104 : decode cX6_loadSessions 104 = .ok (.iconst 4, 1) := by decide +kernel
theorem dX6_loadSessions_105 : decode cX6_loadSessions 105 = .ok (.iload_n 2, 1) := by decide +kernel
theorem dX6_loadSessions_106 : decode cX6_loadSessions 106 = .ok (.invokestatic 156, 3) := by decide +kernel
theorem dX6_loadSessions_109 : decode cX6_loadSessions 109 = .ok (.iastore, 1) := by decide +kernel
theorem dX6_loadSessions_110 : decode cX6_loadSessions 110 = .ok (.iinc 8 1, 3) := by decide +kernel
theorem dX6_loadSessions_113 : decode cX6_loadSessions 113 = .ok (.goto (-32), 3) := by decide +kernel
theorem dX6_loadSessions_116 : decode cX6_loadSessions 116 = .ok (.aload_n 0, 1) := by decide +kernel
theorem dX6_loadSessions_117 : decode cX6_loadSessions 117 = .ok (.getfield 11, 3) := by decide +kernel
theorem dX6_loadSessions_120 : decode cX6_loadSessions 120 = .ok (.iload 7, 2) := by decide +kernel
theorem dX6_loadSessions_122 : decode cX6_loadSessions 122 = .ok (.iconst 4, 1) := by decide +kernel
theorem dX6_loadSessions_123 : decode cX6_loadSessions 123 = .ok (.iadd, 1) := by decide +kernel
theorem dX6_loadSessions_124 : decode cX6_loadSessions 124 = .ok (.iload 6, 2) := by decide +kernel
theorem dX6_loadSessions_126 : decode cX6_loadSessions 126 = .ok (.iastore, 1) := by decide +kernel
theorem dX6_loadSessions_127 : decode cX6_loadSessions 127 = .ok (.aload_n 1, 1) := by decide +kernel
theorem dX6_loadSessions_128 : decode cX6_loadSessions 128 = .ok (.iload 4, 2) := by decide +kernel
theorem dX6_loadSessions_130 : decode cX6_loadSessions 130 = .ok (.bipush 18, 2) := by decide +kernel
theorem dX6_loadSessions_132 : decode cX6_loadSessions 132 = .ok (.iadd, 1) := by decide +kernel
theorem dX6_loadSessions_133 : decode cX6_loadSessions 133 = .ok (.aload_n 0, 1) := by decide +kernel
theorem dX6_loadSessions_134 : decode cX6_loadSessions 134 = .ok (.getfield 15, 3) := by decide +kernel
theorem dX6_loadSessions_137 : decode cX6_loadSessions 137 = .ok (.iload 5, 2) := by decide +kernel
theorem dX6_loadSessions_139 : decode cX6_loadSessions 139 = .ok (.bipush 101, 2) := by decide +kernel
theorem dX6_loadSessions_141 : decode cX6_loadSessions 141 = .ok (.imul, 1) := by decide +kernel
theorem dX6_loadSessions_142 : decode cX6_loadSessions 142 = .ok (.iload 6, 2) := by decide +kernel
theorem dX6_loadSessions_144 : decode cX6_loadSessions 144 = .ok (.invokestatic 68, 3) := by decide +kernel
theorem dX6_loadSessions_147 : decode cX6_loadSessions 147 = .ok (.iload 4, 2) := by decide +kernel
theorem dX6_loadSessions_149 : decode cX6_loadSessions 149 = .ok (.bipush 18, 2) := by decide +kernel
theorem dX6_loadSessions_151 : decode cX6_loadSessions 151 = .ok (.iload 6, 2) := by decide +kernel
theorem dX6_loadSessions_153 : decode cX6_loadSessions 153 = .ok (.iadd, 1) := by decide +kernel
theorem dX6_loadSessions_154 : decode cX6_loadSessions 154 = .ok (.iadd, 1) := by decide +kernel
theorem dX6_loadSessions_155 : decode cX6_loadSessions 155 = .ok (.istore 4, 2) := by decide +kernel
theorem dX6_loadSessions_157 : decode cX6_loadSessions 157 = .ok (.aload_n 0, 1) := by decide +kernel
theorem dX6_loadSessions_158 : decode cX6_loadSessions 158 = .ok (.dup, 1) := by decide +kernel
theorem dX6_loadSessions_159 : decode cX6_loadSessions 159 = .ok (.getfield 41, 3) := by decide +kernel
theorem dX6_loadSessions_162 : decode cX6_loadSessions 162 = .ok (.iconst 1, 1) := by decide +kernel
theorem dX6_loadSessions_163 : decode cX6_loadSessions 163 = .ok (.iadd, 1) := by decide +kernel
theorem dX6_loadSessions_164 : decode cX6_loadSessions 164 = .ok (.putfield 41, 3) := by decide +kernel
theorem dX6_loadSessions_167 : decode cX6_loadSessions 167 = .ok (.iinc 5 1, 3) := by decide +kernel
theorem dX6_loadSessions_170 : decode cX6_loadSessions 170 = .ok (.goto (-156), 3) := by decide +kernel
theorem dX6_loadSessions_173 : decode cX6_loadSessions 173 = .ok (.iload 4, 2) := by decide +kernel
theorem dX6_loadSessions_175 : decode cX6_loadSessions 175 = .ok (.ireturn, 1) := by decide +kernel
theorem dX6_numberAt_0 : decode cX6_numberAt 0 = .ok (.iconst 0, 1) := by decide +kernel
theorem dX6_numberAt_1 : decode cX6_numberAt 1 = .ok (.istore 4, 2) := by decide +kernel
theorem dX6_numberAt_3 : decode cX6_numberAt 3 = .ok (.iload_n 1, 1) := by decide +kernel
theorem dX6_numberAt_4 : decode cX6_numberAt 4 = .ok (.istore 5, 2) := by decide +kernel
theorem dX6_numberAt_6 : decode cX6_numberAt 6 = .ok (.iload 5, 2) := by decide +kernel
theorem dX6_numberAt_8 : decode cX6_numberAt 8 = .ok (.iload_n 1, 1) := by decide +kernel
theorem dX6_numberAt_9 : decode cX6_numberAt 9 = .ok (.iload_n 2, 1) := by decide +kernel
theorem dX6_numberAt_10 : decode cX6_numberAt 10 = .ok (.iadd, 1) := by decide +kernel
theorem dX6_numberAt_11 : decode cX6_numberAt 11 = .ok (.if_icmp .ge 38, 3) := by decide +kernel
theorem dX6_numberAt_14 : decode cX6_numberAt 14 = .ok (.iload 5, 2) := by decide +kernel
theorem dX6_numberAt_16 : decode cX6_numberAt 16 = .ok (.iload_n 3, 1) := by decide +kernel
theorem dX6_numberAt_17 : decode cX6_numberAt 17 = .ok (.if_icmp .ge 32, 3) := by decide +kernel
theorem dX6_numberAt_20 : decode cX6_numberAt 20 = .ok (.iload 5, 2) := by decide +kernel
theorem dX6_numberAt_22 : decode cX6_numberAt 22 = .ok (.aload_n 0, 1) := by decide +kernel
theorem dX6_numberAt_23 : decode cX6_numberAt 23 = .ok (.arraylength, 1) := by decide +kernel
theorem dX6_numberAt_24 : decode cX6_numberAt 24 = .ok (.if_icmp .ge 25, 3) := by decide +kernel
theorem dX6_numberAt_27 : decode cX6_numberAt 27 = .ok (.iload 4, 2) := by decide +kernel
theorem dX6_numberAt_29 : decode cX6_numberAt 29 = .ok (.bipush 8, 2) := by decide +kernel
theorem dX6_numberAt_31 : decode cX6_numberAt 31 = .ok (.ishl, 1) := by decide +kernel
theorem dX6_numberAt_32 : decode cX6_numberAt 32 = .ok (.aload_n 0, 1) := by decide +kernel
theorem dX6_numberAt_33 : decode cX6_numberAt 33 = .ok (.iload 5, 2) := by decide +kernel
theorem dX6_numberAt_35 : decode cX6_numberAt 35 = .ok (.baload, 1) := by decide +kernel
theorem dX6_numberAt_36 : decode cX6_numberAt 36 = .ok (.sipush 255, 3) := by decide +kernel
theorem dX6_numberAt_39 : decode cX6_numberAt 39 = .ok (.iand, 1) := by decide +kernel
theorem dX6_numberAt_40 : decode cX6_numberAt 40 = .ok (.ior, 1) := by decide +kernel
theorem dX6_numberAt_41 : decode cX6_numberAt 41 = .ok (.istore 4, 2) := by decide +kernel
theorem dX6_numberAt_43 : decode cX6_numberAt 43 = .ok (.iinc 5 1, 3) := by decide +kernel
theorem dX6_numberAt_46 : decode cX6_numberAt 46 = .ok (.goto (-40), 3) := by decide +kernel
theorem dX6_numberAt_49 : decode cX6_numberAt 49 = .ok (.iload 4, 2) := by decide +kernel
theorem dX6_numberAt_51 : decode cX6_numberAt 51 = .ok (.ireturn, 1) := by decide +kernel
theorem dX7_init_0 : decode cX7_init 0 = .ok (.aload_n 0, 1) := by decide +kernel
theorem dX7_init_1 : decode cX7_init 1 = .ok (.invokespecial 3, 3) := by decide +kernel
theorem dX7_init_4 : decode cX7_init 4 = .ok (.aload_n 0, 1) := by decide +kernel
theorem dX7_init_5 : decode cX7_init 5 = .ok (.iconst 0, 1) := by decide +kernel
theorem dX7_init_6 : decode cX7_init 6 = .ok (.newarray .int, 2) := by decide +kernel
theorem dX7_init_8 : decode cX7_init 8 = .ok (.putfield 9, 3) := by decide +kernel
theorem dX7_init_11 : decode cX7_init 11 = .ok (.aload_n 0, 1) := by decide +kernel
theorem dX7_init_12 : decode cX7_init 12 = .ok (.iconst 0, 1) := by decide +kernel
theorem dX7_init_13 : decode cX7_init 13 = .ok (.newarray .int, 2) := by decide +kernel
theorem dX7_init_15 : decode cX7_init 15 = .ok (.putfield 15, 3) := by decide +kernel
theorem dX7_init_18 : decode cX7_init 18 = .ok (.aload_n 0, 1) := by decide +kernel
theorem dX7_init_19 : decode cX7_init 19 = .ok (.iconst 0, 1) := by decide +kernel
theorem dX7_init_20 : decode cX7_init 20 = .ok (.newarray .byte, 2) := by decide +kernel
theorem dX7_init_22 : decode cX7_init 22 = .ok (.putfield 18, 3) := by decide +kernel
theorem dX7_init_25 : decode cX7_init 25 = .ok (.return_, 1) := by decide +kernel
theorem dX7_write_0 : decode cX7_write 0 = .ok (.aload_n 0, 1) := by decide +kernel
theorem dX7_write_1 : decode cX7_write 1 = .ok (.iconst 1, 1) := by decide +kernel
theorem dX7_write_2 : decode cX7_write 2 = .ok (.putfield 22, 3) := by decide +kernel
theorem dX7_write_5 : decode cX7_write 5 = .ok (.aload_n 0, 1) := by decide +kernel
theorem dX7_write_6 : decode cX7_write 6 = .ok (.iload_n 1, 1) := by decide +kernel
theorem dX7_write_7 : decode cX7_write 7 = .ok (.putfield 26, 3) := by decide +kernel
theorem dX7_write_10 : decode cX7_write 10 = .ok (.aload_n 0, 1) := by decide +kernel
theorem dX7_write_11 : decode cX7_write 11 = .ok (.iload_n 2, 1) := by decide +kernel
theorem dX7_write_12 : decode cX7_write 12 = .ok (.putfield 30, 3) := by decide +kernel
theorem dX7_write_15 : decode cX7_write 15 = .ok (.aload_n 0, 1) := by decide +kernel
theorem dX7_write_16 : decode cX7_write 16 = .ok (.iload_n 3, 1) := by decide +kernel
theorem dX7_write_17 : decode cX7_write 17 = .ok (.putfield 33, 3) := by decide +kernel
theorem dX7_write_20 : decode cX7_write 20 = .ok (.aload_n 0, 1) := by decide +kernel
theorem dX7_write_21 : decode cX7_write 21 = .ok (.iload 4, 2) := by decide +kernel
theorem dX7_write_23 : decode cX7_write 23 = .ok (.putfield 36, 3) := by decide +kernel
theorem dX7_write_26 : decode cX7_write 26 = .ok (.aload_n 0, 1) := by decide +kernel
theorem dX7_write_27 : decode cX7_write 27 = .ok (.iconst 0, 1) := by decide +kernel
theorem dX7_write_28 : decode cX7_write 28 = .ok (.putfield 39, 3) := by decide +kernel
theorem dX7_write_31 : decode cX7_write 31 = .ok (.aload_n 0, 1) := by decide +kernel
theorem dX7_write_32 : decode cX7_write 32 = .ok (.iconst 0, 1) := by decide +kernel
theorem dX7_write_33 : decode cX7_write 33 = .ok (.putfield 42, 3) := by decide +kernel
theorem dX7_write_36 : decode cX7_write 36 = .ok (.return_, 1) := by decide +kernel
theorem dX7_remove_0 : decode cX7_remove 0 = .ok (.aload_n 0, 1) := by decide +kernel
theorem dX7_remove_1 : decode cX7_remove 1 = .ok (.iconst 0, 1) := by decide +kernel
theorem dX7_remove_2 : decode cX7_remove 2 = .ok (.putfield 22, 3) := by decide +kernel
theorem dX7_remove_5 : decode cX7_remove 5 = .ok (.aload_n 0, 1) := by decide +kernel
theorem dX7_remove_6 : decode cX7_remove 6 = .ok (.iconst 0, 1) := by decide +kernel
theorem dX7_remove_7 : decode cX7_remove 7 = .ok (.putfield 26, 3) := by decide +kernel
theorem dX7_remove_10 : decode cX7_remove 10 = .ok (.aload_n 0, 1) := by decide +kernel
theorem dX7_remove_11 : decode cX7_remove 11 = .ok (.iconst 0, 1) := by decide +kernel
theorem dX7_remove_12 : decode cX7_remove 12 = .ok (.putfield 39, 3) := by decide +kernel
theorem dX7_remove_15 : decode cX7_remove 15 = .ok (.return_, 1) := by decide +kernel
theorem dX7_add_0 : decode cX7_add 0 = .ok (.aload_n 0, 1) := by decide +kernel
theorem dX7_add_1 : decode cX7_add 1 = .ok (.aload_n 0, 1) := by decide +kernel
theorem dX7_add_2 : decode cX7_add 2 = .ok (.getfield 39, 3) := by decide +kernel
theorem dX7_add_5 : decode cX7_add 5 = .ok (.iconst 1, 1) := by decide +kernel
theorem dX7_add_6 : decode cX7_add 6 = .ok (.iadd, 1) := by decide +kernel
theorem dX7_add_7 : decode cX7_add 7 = .ok (.invokevirtual 45, 3) := by decide +kernel
theorem dX7_add_10 : decode cX7_add 10 = .ok (.aload_n 1, 1) := by decide +kernel
theorem dX7_add_11 : decode cX7_add 11 = .ok (.iload_n 2, 1) := by decide +kernel
theorem dX7_add_12 : decode cX7_add 12 = .ok (.aload_n 0, 1) := by decide +kernel
theorem dX7_add_13 : decode cX7_add 13 = .ok (.getfield 9, 3) := by decide +kernel
theorem dX7_add_16 : decode cX7_add 16 = .ok (.aload_n 0, 1) := by decide +kernel
theorem dX7_add_17 : decode cX7_add 17 = .ok (.getfield 39, 3) := by decide +kernel
theorem dX7_add_20 : decode cX7_add 20 = .ok (.bipush 6, 2) := by decide +kernel
theorem dX7_add_22 : decode cX7_add 22 = .ok (.imul, 1) := by decide +kernel
theorem dX7_add_23 : decode cX7_add 23 = .ok (.bipush 6, 2) := by decide +kernel
theorem dX7_add_25 : decode cX7_add 25 = .ok (.invokestatic 49, 3) := by decide +kernel
theorem dX7_add_28 : decode cX7_add 28 = .ok (.aload_n 0, 1) := by decide +kernel
theorem dX7_add_29 : decode cX7_add 29 = .ok (.dup, 1) := by decide +kernel
theorem dX7_add_30 : decode cX7_add 30 = .ok (.getfield 26, 3) := by decide +kernel
theorem dX7_add_33 : decode cX7_add 33 = .ok (.bipush 25, 2) := by decide +kernel
theorem dX7_add_35 : decode cX7_add 35 = .ok (.aload_n 1, 1) := by decide +kernel
theorem dX7_add_36 : decode cX7_add 36 = .ok (.iload_n 2, 1) := by decide +kernel
theorem dX7_add_37 : decode cX7_add 37 = .ok (.iconst 2, 1) := by decide +kernel
theorem dX7_add_38 : decode cX7_add 38 = .ok (.iadd, 1) := by decide +kernel
theorem dX7_add_39 : decode cX7_add 39 = .ok (.iaload, 1) := by decide +kernel
theorem dX7_add_40 : decode cX7_add 40 = .ok (.iadd, 1) := by decide +kernel
theorem dX7_add_41 : decode cX7_add 41 = .ok (.iadd, 1) := by decide +kernel
theorem dX7_add_42 : decode cX7_add 42 = .ok (.putfield 26, 3) := by decide +kernel
theorem dX7_add_45 : decode cX7_add 45 = .ok (.aload_n 0, 1) := by decide +kernel
theorem dX7_add_46 : decode cX7_add 46 = .ok (.getfield 15, 3) := by decide +kernel
theorem dX7_add_49 : decode cX7_add 49 = .ok (.aload_n 0, 1) := by decide +kernel
theorem dX7_add_50 : decode cX7_add 50 = .ok (.getfield 39, 3) := by decide +kernel
theorem dX7_add_53 : decode cX7_add 53 = .ok (.aload_n 0, 1) := by decide +kernel
theorem dX7_add_54 : decode cX7_add 54 = .ok (.getfield 26, 3) := by decide +kernel
theorem dX7_add_57 : decode cX7_add 57 = .ok (.iastore, 1) := by decide +kernel
theorem dX7_add_58 : decode cX7_add 58 = .ok (.aload_n 0, 1) := by decide +kernel
theorem dX7_add_59 : decode cX7_add 59 = .ok (.dup, 1) := by decide +kernel
theorem dX7_add_60 : decode cX7_add 60 = .ok (.getfield 39, 3) := by decide +kernel
theorem dX7_add_63 : decode cX7_add 63 = .ok (.iconst 1, 1) := by decide +kernel
theorem dX7_add_64 : decode cX7_add 64 = .ok (.iadd, 1) := by decide +kernel
theorem dX7_add_65 : decode cX7_add 65 = .ok (.putfield 39, 3) := by decide +kernel
theorem dX7_add_68 : decode cX7_add 68 = .ok (.return_, 1) := by decide +kernel
theorem dX7_makeRoom_0 : decode cX7_makeRoom 0 = .ok (.aload_n 0, 1) := by decide +kernel
theorem dX7_makeRoom_1 : decode cX7_makeRoom 1 = .ok (.getfield 15, 3) := by decide +kernel
theorem dX7_makeRoom_4 : decode cX7_makeRoom 4 = .ok (.arraylength, 1) := by decide +kernel
theorem dX7_makeRoom_5 : decode cX7_makeRoom 5 = .ok (.iload_n 1, 1) := by decide +kernel
theorem dX7_makeRoom_6 : decode cX7_makeRoom 6 = .ok (.if_icmp .ge 39, 3) := by decide +kernel
theorem dX7_makeRoom_9 : decode cX7_makeRoom 9 = .ok (.bipush 16, 2) := by decide +kernel
theorem dX7_makeRoom_11 : decode cX7_makeRoom 11 = .ok (.iconst 2, 1) := by decide +kernel
theorem dX7_makeRoom_12 : decode cX7_makeRoom 12 = .ok (.iload_n 1, 1) := by decide +kernel
theorem dX7_makeRoom_13 : decode cX7_makeRoom 13 = .ok (.imul, 1) := by decide +kernel
theorem dX7_makeRoom_14 : decode cX7_makeRoom 14 = .ok (.invokestatic 55, 3) := by decide +kernel
theorem dX7_makeRoom_17 : decode cX7_makeRoom 17 = .ok (.istore_n 2, 1) := by decide +kernel
theorem dX7_makeRoom_18 : decode cX7_makeRoom 18 = .ok (.aload_n 0, 1) := by decide +kernel
theorem dX7_makeRoom_19 : decode cX7_makeRoom 19 = .ok (.aload_n 0, 1) := by decide +kernel
theorem dX7_makeRoom_20 : decode cX7_makeRoom 20 = .ok (.getfield 15, 3) := by decide +kernel
theorem dX7_makeRoom_23 : decode cX7_makeRoom 23 = .ok (.iload_n 2, 1) := by decide +kernel
theorem dX7_makeRoom_24 : decode cX7_makeRoom 24 = .ok (.invokestatic 61, 3) := by decide +kernel
theorem dX7_makeRoom_27 : decode cX7_makeRoom 27 = .ok (.putfield 15, 3) := by decide +kernel
theorem dX7_makeRoom_30 : decode cX7_makeRoom 30 = .ok (.aload_n 0, 1) := by decide +kernel
theorem dX7_makeRoom_31 : decode cX7_makeRoom 31 = .ok (.aload_n 0, 1) := by decide +kernel
theorem dX7_makeRoom_32 : decode cX7_makeRoom 32 = .ok (.getfield 9, 3) := by decide +kernel
theorem dX7_makeRoom_35 : decode cX7_makeRoom 35 = .ok (.iload_n 2, 1) := by decide +kernel
theorem dX7_makeRoom_36 : decode cX7_makeRoom 36 = .ok (.bipush 6, 2) := by decide +kernel
theorem dX7_makeRoom_38 : decode cX7_makeRoom 38 = .ok (.imul, 1) := by decide +kernel
theorem dX7_makeRoom_39 : decode cX7_makeRoom 39 = .ok (.invokestatic 61, 3) := by decide +kernel
theorem dX7_makeRoom_42 : decode cX7_makeRoom 42 = .ok (.putfield 9, 3) := by decide +kernel
theorem dX7_makeRoom_45 : decode cX7_makeRoom 45 = .ok (.return_, 1) := by decide +kernel
theorem dX7_makeRoomForBytes_0 : decode cX7_makeRoomForBytes 0 = .ok (.aload_n 0, 1) := by decide +kernel
theorem dX7_makeRoomForBytes_1 : decode cX7_makeRoomForBytes 1 = .ok (.getfield 18, 3) := by decide +kernel
theorem dX7_makeRoomForBytes_4 : decode cX7_makeRoomForBytes 4 = .ok (.arraylength, 1) := by decide +kernel
theorem dX7_makeRoomForBytes_5 : decode cX7_makeRoomForBytes 5 = .ok (.iload_n 1, 1) := by decide +kernel
theorem dX7_makeRoomForBytes_6 : decode cX7_makeRoomForBytes 6 = .ok (.if_icmp .ge 14, 3) := by decide +kernel
theorem dX7_makeRoomForBytes_9 : decode cX7_makeRoomForBytes 9 = .ok (.aload_n 0, 1) := by decide +kernel
theorem dX7_makeRoomForBytes_10 : decode cX7_makeRoomForBytes 10 = .ok (.iload_n 1, 1) := by decide +kernel
theorem dX7_makeRoomForBytes_11 : decode cX7_makeRoomForBytes 11 = .ok (.iload_n 1, 1) := by decide +kernel
theorem dX7_makeRoomForBytes_12 : decode cX7_makeRoomForBytes 12 = .ok (.iconst 2, 1) := by decide +kernel
theorem dX7_makeRoomForBytes_13 : decode cX7_makeRoomForBytes 13 = .ok (.idiv, 1) := by decide +kernel
theorem dX7_makeRoomForBytes_14 : decode cX7_makeRoomForBytes 14 = .ok (.iadd, 1) := by decide +kernel
theorem dX7_makeRoomForBytes_15 : decode cX7_makeRoomForBytes 15 = .ok (.newarray .byte, 2) := by decide +kernel
theorem dX7_makeRoomForBytes_17 : decode cX7_makeRoomForBytes 17 = .ok (.putfield 18, 3) := by decide +kernel
theorem dX7_makeRoomForBytes_20 : decode cX7_makeRoomForBytes 20 = .ok (.return_, 1) := by decide +kernel
theorem dX7_frameStart_0 : decode cX7_frameStart 0 = .ok (.iload_n 1, 1) := by decide +kernel
theorem dX7_frameStart_1 : decode cX7_frameStart 1 = .ok (.ifCond .le 22, 3) := by decide +kernel
theorem dX7_frameStart_4 : decode cX7_frameStart 4 = .ok (.iload_n 1, 1) := by decide +kernel
theorem dX7_frameStart_5 : decode cX7_frameStart 5 = .ok (.aload_n 0, 1) := by decide +kernel
theorem dX7_frameStart_6 : decode cX7_frameStart 6 = .ok (.getfield 39, 3) := by decide +kernel
theorem dX7_frameStart_9 : decode cX7_frameStart 9 = .ok (.if_icmp .gt 14, 3) := by decide +kernel
theorem dX7_frameStart_12 : decode cX7_frameStart 12 = .ok (.aload_n 0, 1) := by decide +kernel
theorem dX7_frameStart_13 : decode cX7_frameStart 13 = .ok (.getfield 15, 3) := by decide +kernel
theorem dX7_frameStart_16 : decode cX7_frameStart 16 = .ok (.iload_n 1, 1) := by decide +kernel
theorem dX7_frameStart_17 : decode cX7_frameStart 17 = .ok (.iconst 1, 1) := by decide +kernel
theorem dX7_frameStart_18 : decode cX7_frameStart 18 = .ok (.isub, 1) := by decide +kernel
theorem dX7_frameStart_19 : decode cX7_frameStart 19 = .ok (.iaload, 1) := by decide +kernel
theorem dX7_frameStart_20 : decode cX7_frameStart 20 = .ok (.goto 5, 3) := by decide +kernel
theorem dX7_frameStart_23 : decode cX7_frameStart 23 = .ok (.bipush 24, 2) := by decide +kernel
theorem dX7_frameStart_25 : decode cX7_frameStart 25 = .ok (.ireturn, 1) := by decide +kernel
theorem dX7_lastTerm_0 : decode cX7_lastTerm 0 = .ok (.aload_n 0, 1) := by decide +kernel
theorem dX7_lastTerm_1 : decode cX7_lastTerm 1 = .ok (.getfield 39, 3) := by decide +kernel
theorem dX7_lastTerm_4 : decode cX7_lastTerm 4 = .ok (.ifCond .le 22, 3) := by decide +kernel
theorem dX7_lastTerm_7 : decode cX7_lastTerm 7 = .ok (.aload_n 0, 1) := by decide +kernel
theorem dX7_lastTerm_8 : decode cX7_lastTerm 8 = .ok (.getfield 9, 3) := by decide +kernel
theorem dX7_lastTerm_11 : decode cX7_lastTerm 11 = .ok (.aload_n 0, 1) := by decide +kernel
theorem dX7_lastTerm_12 : decode cX7_lastTerm 12 = .ok (.getfield 39, 3) := by decide +kernel
theorem dX7_lastTerm_15 : decode cX7_lastTerm 15 = .ok (.iconst 1, 1) := by decide +kernel
theorem dX7_lastTerm_16 : decode cX7_lastTerm 16 = .ok (.isub, 1) := by decide +kernel
theorem dX7_lastTerm_17 : decode cX7_lastTerm 17 = .ok (.bipush 6, 2) := by decide +kernel
theorem dX7_lastTerm_19 : decode cX7_lastTerm 19 = .ok (.imul, 1) := by decide +kernel
theorem dX7_lastTerm_20 : decode cX7_lastTerm 20 = .ok (.iconst 0, 1) := by decide +kernel
theorem dX7_lastTerm_21 : decode cX7_lastTerm 21 = .ok (.iadd, 1) := by decide +kernel
theorem dX7_lastTerm_22 : decode cX7_lastTerm 22 = .ok (.iaload, 1) := by decide +kernel
theorem dX7_lastTerm_23 : decode cX7_lastTerm 23 = .ok (.goto 7, 3) := by decide +kernel
theorem dX7_lastTerm_26 : decode cX7_lastTerm 26 = .ok (.aload_n 0, 1) := by decide +kernel
theorem dX7_lastTerm_27 : decode cX7_lastTerm 27 = .ok (.getfield 33, 3) := by decide +kernel
theorem dX7_lastTerm_30 : decode cX7_lastTerm 30 = .ok (.ireturn, 1) := by decide +kernel
theorem dX7_cutTo_0 : decode cX7_cutTo 0 = .ok (.aload_n 0, 1) := by decide +kernel
theorem dX7_cutTo_1 : decode cX7_cutTo 1 = .ok (.getfield 26, 3) := by decide +kernel
theorem dX7_cutTo_4 : decode cX7_cutTo 4 = .ok (.iload_n 1, 1) := by decide +kernel
theorem dX7_cutTo_5 : decode cX7_cutTo 5 = .ok (.if_icmp .le 43, 3) := by decide +kernel
theorem dX7_cutTo_8 : decode cX7_cutTo 8 = .ok (.aload_n 0, 1) := by decide +kernel
theorem dX7_cutTo_9 : decode cX7_cutTo 9 = .ok (.iload_n 1, 1) := by decide +kernel
theorem dX7_cutTo_10 : decode cX7_cutTo 10 = .ok (.putfield 26, 3) := by decide +kernel
theorem dX7_cutTo_13 : decode cX7_cutTo 13 = .ok (.aload_n 0, 1) := by decide +kernel
theorem dX7_cutTo_14 : decode cX7_cutTo 14 = .ok (.getfield 39, 3) := by decide +kernel
theorem dX7_cutTo_17 : decode cX7_cutTo 17 = .ok (.ifCond .le 31, 3) := by decide +kernel
theorem dX7_cutTo_20 : decode cX7_cutTo 20 = .ok (.aload_n 0, 1) := by decide +kernel
theorem dX7_cutTo_21 : decode cX7_cutTo 21 = .ok (.getfield 15, 3) := by decide +kernel
theorem dX7_cutTo_24 : decode cX7_cutTo 24 = .ok (.aload_n 0, 1) := by decide +kernel
theorem dX7_cutTo_25 : decode cX7_cutTo 25 = .ok (.getfield 39, 3) := by decide +kernel
theorem dX7_cutTo_28 : decode cX7_cutTo 28 = .ok (.iconst 1, 1) := by decide +kernel
theorem dX7_cutTo_29 : decode cX7_cutTo 29 = .ok (.isub, 1) := by decide +kernel
theorem dX7_cutTo_30 : decode cX7_cutTo 30 = .ok (.iaload, 1) := by decide +kernel
theorem dX7_cutTo_31 : decode cX7_cutTo 31 = .ok (.iload_n 1, 1) := by decide +kernel
theorem dX7_cutTo_32 : decode cX7_cutTo 32 = .ok (.if_icmp .le 16, 3) := by decide +kernel
theorem dX7_cutTo_35 : decode cX7_cutTo 35 = .ok (.aload_n 0, 1) := by decide +kernel
theorem dX7_cutTo_36 : decode cX7_cutTo 36 = .ok (.dup, 1) := by decide +kernel
theorem dX7_cutTo_37 : decode cX7_cutTo 37 = .ok (.getfield 39, 3) := by decide +kernel
theorem dX7_cutTo_40 : decode cX7_cutTo 40 = .ok (.iconst 1, 1) := by decide +kernel
theorem dX7_cutTo_41 : decode cX7_cutTo 41 = .ok (.isub, 1) := by decide +kernel
theorem dX7_cutTo_42 : decode cX7_cutTo 42 = .ok (.putfield 39, 3) := by decide +kernel
theorem dX7_cutTo_45 : decode cX7_cutTo 45 = .ok (.goto (-32), 3) := by decide +kernel
theorem dX7_cutTo_48 : decode cX7_cutTo 48 = .ok (.return_, 1) := by decide +kernel
theorem dX7_takeOver_0 : decode cX7_takeOver 0 = .ok (.aload_n 0, 1) := by decide +kernel
theorem dX7_takeOver_1 : decode cX7_takeOver 1 = .ok (.aload_n 1, 1) := by decide +kernel
theorem dX7_takeOver_2 : decode cX7_takeOver 2 = .ok (.getfield 22, 3) := by decide +kernel
theorem dX7_takeOver_5 : decode cX7_takeOver 5 = .ok (.putfield 22, 3) := by decide +kernel
theorem dX7_takeOver_8 : decode cX7_takeOver 8 = .ok (.aload_n 0, 1) := by decide +kernel
theorem dX7_takeOver_9 : decode cX7_takeOver 9 = .ok (.aload_n 1, 1) := by decide +kernel
theorem dX7_takeOver_10 : decode cX7_takeOver 10 = .ok (.getfield 26, 3) := by decide +kernel
theorem dX7_takeOver_13 : decode cX7_takeOver 13 = .ok (.putfield 26, 3) := by decide +kernel
theorem dX7_takeOver_16 : decode cX7_takeOver 16 = .ok (.aload_n 0, 1) := by decide +kernel
theorem dX7_takeOver_17 : decode cX7_takeOver 17 = .ok (.aload_n 1, 1) := by decide +kernel
theorem dX7_takeOver_18 : decode cX7_takeOver 18 = .ok (.getfield 30, 3) := by decide +kernel
theorem dX7_takeOver_21 : decode cX7_takeOver 21 = .ok (.putfield 30, 3) := by decide +kernel
theorem dX7_takeOver_24 : decode cX7_takeOver 24 = .ok (.aload_n 0, 1) := by decide +kernel
theorem dX7_takeOver_25 : decode cX7_takeOver 25 = .ok (.aload_n 1, 1) := by decide +kernel
theorem dX7_takeOver_26 : decode cX7_takeOver 26 = .ok (.getfield 33, 3) := by decide +kernel
theorem dX7_takeOver_29 : decode cX7_takeOver 29 = .ok (.putfield 33, 3) := by decide +kernel
theorem dX7_takeOver_32 : decode cX7_takeOver 32 = .ok (.aload_n 0, 1) := by decide +kernel
theorem dX7_takeOver_33 : decode cX7_takeOver 33 = .ok (.aload_n 1, 1) := by decide +kernel
theorem dX7_takeOver_34 : decode cX7_takeOver 34 = .ok (.getfield 36, 3) := by decide +kernel
theorem dX7_takeOver_37 : decode cX7_takeOver 37 = .ok (.putfield 36, 3) := by decide +kernel
theorem dX7_takeOver_40 : decode cX7_takeOver 40 = .ok (.aload_n 0, 1) := by decide +kernel
theorem dX7_takeOver_41 : decode cX7_takeOver 41 = .ok (.aload_n 1, 1) := by decide +kernel
theorem dX7_takeOver_42 : decode cX7_takeOver 42 = .ok (.getfield 39, 3) := by decide +kernel
theorem dX7_takeOver_45 : decode cX7_takeOver 45 = .ok (.invokevirtual 45, 3) := by decide +kernel
theorem dX7_takeOver_48 : decode cX7_takeOver 48 = .ok (.aload_n 1, 1) := by decide +kernel
theorem dX7_takeOver_49 : decode cX7_takeOver 49 = .ok (.getfield 39, 3) := by decide +kernel
theorem dX7_takeOver_52 : decode cX7_takeOver 52 = .ok (.iload_n 2, 1) := by decide +kernel
theorem dX7_takeOver_53 : decode cX7_takeOver 53 = .ok (.isub, 1) := by decide +kernel
theorem dX7_takeOver_54 : decode cX7_takeOver 54 = .ok (.istore_n 3, 1) := by decide +kernel
theorem dX7_takeOver_55 : decode cX7_takeOver 55 = .ok (.iload_n 3, 1) := by decide +kernel
theorem dX7_takeOver_56 : decode cX7_takeOver 56 = .ok (.ifCond .le 40, 3) := by decide +kernel
theorem dX7_takeOver_59 : decode cX7_takeOver 59 = .ok (.aload_n 1, 1) := by decide +kernel
theorem dX7_takeOver_60 : decode cX7_takeOver 60 = .ok (.getfield 9, 3) := by decide +kernel
theorem dX7_takeOver_63 : decode cX7_takeOver 63 = .ok (.iload_n 2, 1) := by decide +kernel
theorem dX7_takeOver_64 : decode cX7_takeOver 64 = .ok (.bipush 6, 2) := by decide +kernel
theorem dX7_takeOver_66 : decode cX7_takeOver 66 = .ok (.imul, 1) := by decide +kernel
theorem dX7_takeOver_67 : decode cX7_takeOver 67 = .ok (.aload_n 0, 1) := by decide +kernel
theorem dX7_takeOver_68 : decode cX7_takeOver 68 = .ok (.getfield 9, 3) := by decide +kernel
theorem dX7_takeOver_71 : decode cX7_takeOver 71 = .ok (.iload_n 2, 1) := by decide +kernel
theorem dX7_takeOver_72 : decode cX7_takeOver 72 = .ok (.bipush 6, 2) := by decide +kernel
theorem dX7_takeOver_74 : decode cX7_takeOver 74 = .ok (.imul, 1) := by decide +kernel
theorem dX7_takeOver_75 : decode cX7_takeOver 75 = .ok (.iload_n 3, 1) := by decide +kernel
theorem dX7_takeOver_76 : decode cX7_takeOver 76 = .ok (.bipush 6, 2) := by decide +kernel
theorem dX7_takeOver_78 : decode cX7_takeOver 78 = .ok (.imul, 1) := by decide +kernel
theorem dX7_takeOver_79 : decode cX7_takeOver 79 = .ok (.invokestatic 49, 3) := by decide +kernel
theorem dX7_takeOver_82 : decode cX7_takeOver 82 = .ok (.aload_n 1, 1) := by decide +kernel
theorem dX7_takeOver_83 : decode cX7_takeOver 83 = .ok (.getfield 15, 3) := by decide +kernel
theorem dX7_takeOver_86 : decode cX7_takeOver 86 = .ok (.iload_n 2, 1) := by decide +kernel
theorem dX7_takeOver_87 : decode cX7_takeOver 87 = .ok (.aload_n 0, 1) := by decide +kernel
theorem dX7_takeOver_88 : decode cX7_takeOver 88 = .ok (.getfield 15, 3) := by decide +kernel
theorem dX7_takeOver_91 : decode cX7_takeOver 91 = .ok (.iload_n 2, 1) := by decide +kernel
theorem dX7_takeOver_92 : decode cX7_takeOver 92 = .ok (.iload_n 3, 1) := by decide +kernel
theorem dX7_takeOver_93 : decode cX7_takeOver 93 = .ok (.invokestatic 49, 3) := by decide +kernel
theorem dX7_takeOver_96 : decode cX7_takeOver 96 = .ok (.aload_n 0, 1) := by decide +kernel
theorem dX7_takeOver_97 : decode cX7_takeOver 97 = .ok (.aload_n 1, 1) := by decide +kernel
theorem dX7_takeOver_98 : decode cX7_takeOver 98 = .ok (.getfield 39, 3) := by decide +kernel
theorem dX7_takeOver_101 : decode cX7_takeOver 101 = .ok (.putfield 39, 3) := by decide +kernel
theorem dX7_takeOver_104 : decode cX7_takeOver 104 = .ok (.return_, 1) := by decide +kernel
theorem dX8_init_0 : decode cX8_init 0 = .ok (.aload_n 0, 1) := by decide +kernel
theorem dX8_init_1 : decode cX8_init 1 = .ok (.invokespecial 3, 3) := by decide +kernel
theorem dX8_init_4 : decode cX8_init 4 = .ok (.aload_n 0, 1) := by decide +kernel
theorem dX8_init_5 : decode cX8_init 5 = .ok (.bipush 32, 2) := by decide +kernel
theorem dX8_init_7 : decode cX8_init 7 = .ok (.newarray .boolean, 2) := by decide +kernel
theorem dX8_init_9 : decode cX8_init 9 = .ok (.putfield 9, 3) := by decide +kernel
theorem dX8_init_12 : decode cX8_init 12 = .ok (.aload_n 0, 1) := by decide +kernel
theorem dX8_init_13 : decode cX8_init 13 = .ok (.bipush 32, 2) := by decide +kernel
theorem dX8_init_15 : decode cX8_init 15 = .ok (.newarray .int, 2) := by decide +kernel
theorem dX8_init_17 : decode cX8_init 17 = .ok (.putfield 15, 3) := by decide +kernel
theorem dX8_init_20 : decode cX8_init 20 = .ok (.aload_n 0, 1) := by decide +kernel
theorem dX8_init_21 : decode cX8_init 21 = .ok (.bipush 32, 2) := by decide +kernel
theorem dX8_init_23 : decode cX8_init 23 = .ok (.newarray .int, 2) := by decide +kernel
theorem dX8_init_25 : decode cX8_init 25 = .ok (.putfield 19, 3) := by decide +kernel
theorem dX8_init_28 : decode cX8_init 28 = .ok (.aload_n 0, 1) := by decide +kernel
theorem dX8_init_29 : decode cX8_init 29 = .ok (.bipush 32, 2) := by decide +kernel
theorem dX8_init_31 : decode cX8_init 31 = .ok (.newarray .int, 2) := by decide +kernel
theorem dX8_init_33 : decode cX8_init 33 = .ok (.putfield 22, 3) := by decide +kernel
theorem dX8_init_36 : decode cX8_init 36 = .ok (.aload_n 0, 1) := by decide +kernel
theorem dX8_init_37 : decode cX8_init 37 = .ok (.bipush 32, 2) := by decide +kernel
theorem dX8_init_39 : decode cX8_init 39 = .ok (.newarray .int, 2) := by decide +kernel
theorem dX8_init_41 : decode cX8_init 41 = .ok (.putfield 25, 3) := by decide +kernel
theorem dX8_init_44 : decode cX8_init 44 = .ok (.aload_n 0, 1) := by decide +kernel
theorem dX8_init_45 : decode cX8_init 45 = .ok (.bipush 32, 2) := by decide +kernel
theorem dX8_init_47 : decode cX8_init 47 = .ok (.newarray .int, 2) := by decide +kernel
theorem dX8_init_49 : decode cX8_init 49 = .ok (.putfield 28, 3) := by decide +kernel
theorem dX8_init_52 : decode cX8_init 52 = .ok (.aload_n 0, 1) := by decide +kernel
theorem dX8_init_53 : decode cX8_init 53 = .ok (.bipush 32, 2) := by decide +kernel
theorem dX8_init_55 : decode cX8_init 55 = .ok (.newarray .int, 2) := by decide +kernel
theorem dX8_init_57 : decode cX8_init 57 = .ok (.putfield 31, 3) := by decide +kernel
theorem dX8_init_60 : decode cX8_init 60 = .ok (.return_, 1) := by decide +kernel
theorem dX8_begin_0 : decode cX8_begin 0 = .ok (.aload_n 0, 1) := by decide +kernel
theorem dX8_begin_1 : decode cX8_begin 1 = .ok (.getfield 34, 3) := by decide +kernel
theorem dX8_begin_4 : decode cX8_begin 4 = .ok (.invokestatic 38, 3) := by decide +kernel
theorem dX8_begin_7 : decode cX8_begin 7 = .ok (.istore 5, 2) := by decide +kernel
theorem dX8_begin_9 : decode cX8_begin 9 = .ok (.aload_n 0, 1) := by decide +kernel
theorem dX8_begin_10 : decode cX8_begin 10 = .ok (.dup, 1) := by decide +kernel
theorem dX8_begin_11 : decode cX8_begin 11 = .ok (.getfield 34, 3) := by decide +kernel
theorem dX8_begin_14 : decode cX8_begin 14 = .ok (.iconst 1, 1) := by decide +kernel
theorem dX8_begin_15 : decode cX8_begin 15 = .ok (.iadd, 1) := by decide +kernel
theorem dX8_begin_16 : decode cX8_begin 16 = .ok (.putfield 34, 3) := by decide +kernel
theorem dX8_begin_19 : decode cX8_begin 19 = .ok (.aload_n 0, 1) := by decide +kernel
theorem dX8_begin_20 : decode cX8_begin 20 = .ok (.getfield 9, 3) := by decide +kernel
theorem dX8_begin_23 : decode cX8_begin 23 = .ok (.iload 5, 2) := by decide +kernel
theorem dX8_begin_25 : decode cX8_begin 25 = .ok (.baload, 1) := by decide +kernel
theorem dX8_begin_26 : decode cX8_begin 26 = .ok (.ifCond .ne 13, 3) := by decide +kernel
theorem dX8_begin_29 : decode cX8_begin 29 = .ok (.aload_n 0, 1) := by decide +kernel
theorem dX8_begin_30 : decode cX8_begin 30 = .ok (.dup, 1) := by decide +kernel
theorem dX8_begin_31 : decode cX8_begin 31 = .ok (.getfield 42, 3) := by decide +kernel
theorem dX8_begin_34 : decode cX8_begin 34 = .ok (.iconst 1, 1) := by decide +kernel
theorem dX8_begin_35 : decode cX8_begin 35 = .ok (.iadd, 1) := by decide +kernel
theorem dX8_begin_36 : decode cX8_begin 36 = .ok (.putfield 42, 3) := by decide +kernel
theorem dX8_begin_39 : decode cX8_begin 39 = .ok (.aload_n 0, 1) := by decide +kernel
theorem dX8_begin_40 : decode cX8_begin 40 = .ok (.getfield 9, 3) := by decide +kernel
theorem dX8_begin_43 : decode cX8_begin 43 = .ok (.iload 5, 2) := by decide +kernel
theorem dX8_begin_45 : decode cX8_begin 45 = .ok (.iconst 1, 1) := by decide +kernel
theorem dX8_begin_46 : decode cX8_begin 46 = .ok (.bastore, 1) := by decide +kernel
theorem dX8_begin_47 : decode cX8_begin 47 = .ok (.aload_n 0, 1) := by decide +kernel
theorem dX8_begin_48 : decode cX8_begin 48 = .ok (.getfield 15, 3) := by decide +kernel
theorem dX8_begin_51 : decode cX8_begin 51 = .ok (.iload 5, 2) := by decide +kernel
theorem dX8_begin_53 : decode cX8_begin 53 = .ok (.aload_n 1, 1) := by decide +kernel
theorem dX8_begin_54 : decode cX8_begin 54 = .ok (.getfield 45, 3) := by decide +kernel
theorem dX8_begin_57 : decode cX8_begin 57 = .ok (.iastore, 1) := by decide +kernel
theorem dX8_begin_58 : decode cX8_begin 58 = .ok (.aload_n 0, 1) := by decide +kernel
theorem dX8_begin_59 : decode cX8_begin 59 = .ok (.getfield 19, 3) := by decide +kernel
theorem dX8_begin_62 : decode cX8_begin 62 = .ok (.iload 5, 2) := by decide +kernel
theorem dX8_begin_64 : decode cX8_begin 64 = .ok (.aload_n 1, 1) := by decide +kernel
theorem dX8_begin_65 : decode cX8_begin 65 = .ok (.getfield 50, 3) := by decide +kernel
theorem dX8_begin_68 : decode cX8_begin 68 = .ok (.iastore, 1) := by decide +kernel
theorem dX8_begin_69 : decode cX8_begin 69 = .ok (.aload_n 0, 1) := by decide +kernel
theorem dX8_begin_70 : decode cX8_begin 70 = .ok (.getfield 22, 3) := by decide +kernel
theorem dX8_begin_73 : decode cX8_begin 73 = .ok (.iload 5, 2) := by decide +kernel
theorem dX8_begin_75 : decode cX8_begin 75 = .ok (.aload_n 1, 1) := by decide +kernel
theorem dX8_begin_76 : decode cX8_begin 76 = .ok (.getfield 52, 3) := by decide +kernel
theorem dX8_begin_79 : decode cX8_begin 79 = .ok (.iastore, 1) := by decide +kernel
theorem dX8_begin_80 : decode cX8_begin 80 = .ok (.aload_n 0, 1) := by decide +kernel
theorem dX8_begin_81 : decode cX8_begin 81 = .ok (.getfield 25, 3) := by decide +kernel
theorem dX8_begin_84 : decode cX8_begin 84 = .ok (.iload 5, 2) := by decide +kernel
theorem dX8_begin_86 : decode cX8_begin 86 = .ok (.iload_n 2, 1) := by decide +kernel
theorem dX8_begin_87 : decode cX8_begin 87 = .ok (.iastore, 1) := by decide +kernel
theorem dX8_begin_88 : decode cX8_begin 88 = .ok (.aload_n 0, 1) := by decide +kernel
theorem dX8_begin_89 : decode cX8_begin 89 = .ok (.getfield 28, 3) := by decide +kernel
theorem dX8_begin_92 : decode cX8_begin 92 = .ok (.iload 5, 2) := by decide +kernel
theorem dX8_begin_94 : decode cX8_begin 94 = .ok (.iload_n 3, 1) := by decide +kernel
theorem dX8_begin_95 : decode cX8_begin 95 = .ok (.iastore, 1) := by decide +kernel
theorem dX8_begin_96 : decode cX8_begin 96 = .ok (.aload_n 0, 1) := by decide +kernel
theorem dX8_begin_97 : decode cX8_begin 97 = .ok (.getfield 31, 3) := by decide +kernel
theorem dX8_begin_100 : decode cX8_begin 100 = .ok (.iload 5, 2) := by decide +kernel
theorem dX8_begin_102 : decode cX8_begin 102 = .ok (.iload 4, 2) := by decide +kernel
theorem dX8_begin_104 : decode cX8_begin 104 = .ok (.iastore, 1) := by decide +kernel
theorem dX8_begin_105 : decode cX8_begin 105 = .ok (.return_, 1) := by decide +kernel
theorem dX8_slotOf_0 : decode cX8_slotOf 0 = .ok (.iload_n 0, 1) := by decide +kernel
theorem dX8_slotOf_1 : decode cX8_slotOf 1 = .ok (.bipush 31, 2) := by decide +kernel
theorem dX8_slotOf_3 : decode cX8_slotOf 3 = .ok (.iand, 1) := by decide +kernel
theorem dX8_slotOf_4 : decode cX8_slotOf 4 = .ok (.ireturn, 1) := by decide +kernel
theorem dX8_drop_0 : decode cX8_drop 0 = .ok (.aload_n 0, 1) := by decide +kernel
theorem dX8_drop_1 : decode cX8_drop 1 = .ok (.getfield 9, 3) := by decide +kernel
theorem dX8_drop_4 : decode cX8_drop 4 = .ok (.iload_n 1, 1) := by decide +kernel
theorem dX8_drop_5 : decode cX8_drop 5 = .ok (.baload, 1) := by decide +kernel
theorem dX8_drop_6 : decode cX8_drop 6 = .ok (.ifCond .eq 20, 3) := by decide +kernel
theorem dX8_drop_9 : decode cX8_drop 9 = .ok (.aload_n 0, 1) := by decide +kernel
theorem dX8_drop_10 : decode cX8_drop 10 = .ok (.getfield 9, 3) := by decide +kernel
theorem dX8_drop_13 : decode cX8_drop 13 = .ok (.iload_n 1, 1) := by decide +kernel
theorem dX8_drop_14 : decode cX8_drop 14 = .ok (.iconst 0, 1) := by decide +kernel
theorem dX8_drop_15 : decode cX8_drop 15 = .ok (.bastore, 1) := by decide +kernel
theorem dX8_drop_16 : decode cX8_drop 16 = .ok (.aload_n 0, 1) := by decide +kernel
theorem dX8_drop_17 : decode cX8_drop 17 = .ok (.dup, 1) := by decide +kernel
theorem dX8_drop_18 : decode cX8_drop 18 = .ok (.getfield 42, 3) := by decide +kernel
theorem dX8_drop_21 : decode cX8_drop 21 = .ok (.iconst 1, 1) := by decide +kernel
theorem dX8_drop_22 : decode cX8_drop 22 = .ok (.isub, 1) := by decide +kernel
theorem dX8_drop_23 : decode cX8_drop 23 = .ok (.putfield 42, 3) := by decide +kernel
theorem dX8_drop_26 : decode cX8_drop 26 = .ok (.return_, 1) := by decide +kernel
theorem dX8_dropAll_0 : decode cX8_dropAll 0 = .ok (.iconst 0, 1) := by decide +kernel
theorem dX8_dropAll_1 : decode cX8_dropAll 1 = .ok (.istore_n 1, 1) := by decide +kernel
theorem dX8_dropAll_2 : decode cX8_dropAll 2 = .ok (.iload_n 1, 1) := by decide +kernel
theorem dX8_dropAll_3 : decode cX8_dropAll 3 = .ok (.bipush 32, 2) := by decide +kernel
theorem dX8_dropAll_5 : decode cX8_dropAll 5 = .ok (.if_icmp .ge 16, 3) := by decide +kernel
theorem dX8_dropAll_8 : decode cX8_dropAll 8 = .ok (.aload_n 0, 1) := by decide +kernel
theorem dX8_dropAll_9 : decode cX8_dropAll 9 = .ok (.getfield 9, 3) := by decide +kernel
theorem dX8_dropAll_12 : decode cX8_dropAll 12 = .ok (.iload_n 1, 1) := by decide +kernel
theorem dX8_dropAll_13 : decode cX8_dropAll 13 = .ok (.iconst 0, 1) := by decide +kernel
theorem dX8_dropAll_14 : decode cX8_dropAll 14 = .ok (.bastore, 1) := by decide +kernel
theorem dX8_dropAll_15 : decode cX8_dropAll 15 = .ok (.iinc 1 1, 3) := by decide +kernel
theorem dX8_dropAll_18 : decode cX8_dropAll 18 = .ok (.goto (-16), 3) := by decide +kernel
theorem dX8_dropAll_21 : decode cX8_dropAll 21 = .ok (.aload_n 0, 1) := by decide +kernel
theorem dX8_dropAll_22 : decode cX8_dropAll 22 = .ok (.iconst 0, 1) := by decide +kernel
theorem dX8_dropAll_23 : decode cX8_dropAll 23 = .ok (.putfield 42, 3) := by decide +kernel
theorem dX8_dropAll_26 : decode cX8_dropAll 26 = .ok (.return_, 1) := by decide +kernel
theorem dX8_waitsFor_0 : decode cX8_waitsFor 0 = .ok (.iconst 0, 1) := by decide +kernel
theorem dX8_waitsFor_1 : decode cX8_waitsFor 1 = .ok (.istore_n 2, 1) := by decide +kernel
theorem dX8_waitsFor_2 : decode cX8_waitsFor 2 = .ok (.aload_n 0, 1) := by decide +kernel
theorem dX8_waitsFor_3 : decode cX8_waitsFor 3 = .ok (.getfield 42, 3) := by decide +kernel
theorem dX8_waitsFor_6 : decode cX8_waitsFor 6 = .ok (.ifCond .le 46, 3) := by decide +kernel
theorem dX8_waitsFor_9 : decode cX8_waitsFor 9 = .ok (.iload_n 2, 1) := by decide +kernel
theorem dX8_waitsFor_10 : decode cX8_waitsFor 10 = .ok (.bipush 32, 2) := by decide +kernel
theorem dX8_waitsFor_12 : decode cX8_waitsFor 12 = .ok (.if_icmp .ge 40, 3) := by decide +kernel
theorem dX8_waitsFor_15 : decode cX8_waitsFor 15 = .ok (.aload_n 0, 1) := by decide +kernel
theorem dX8_waitsFor_16 : decode cX8_waitsFor 16 = .ok (.getfield 9, 3) := by decide +kernel
theorem dX8_waitsFor_19 : decode cX8_waitsFor 19 = .ok (.iload_n 2, 1) := by decide +kernel
theorem dX8_waitsFor_20 : decode cX8_waitsFor 20 = .ok (.baload, 1) := by decide +kernel
theorem dX8_waitsFor_21 : decode cX8_waitsFor 21 = .ok (.ifCond .eq 25, 3) := by decide +kernel
theorem dX8_waitsFor_24 : decode cX8_waitsFor 24 = .ok (.aload_n 0, 1) := by decide +kernel
theorem dX8_waitsFor_25 : decode cX8_waitsFor 25 = .ok (.getfield 31, 3) := by decide +kernel
theorem dX8_waitsFor_28 : decode cX8_waitsFor 28 = .ok (.iload_n 2, 1) := by decide +kernel
theorem dX8_waitsFor_29 : decode cX8_waitsFor 29 = .ok (.iaload, 1) := by decide +kernel
theorem dX8_waitsFor_30 : decode cX8_waitsFor 30 = .ok (.iconst (-1), 1) := by decide +kernel
theorem dX8_waitsFor_31 : decode cX8_waitsFor 31 = .ok (.if_icmp .ne 15, 3) := by decide +kernel
theorem dX8_waitsFor_34 : decode cX8_waitsFor 34 = .ok (.aload_n 0, 1) := by decide +kernel
theorem dX8_waitsFor_35 : decode cX8_waitsFor 35 = .ok (.getfield 25, 3) := by decide +kernel
theorem dX8_waitsFor_38 : decode cX8_waitsFor 38 = .ok (.iload_n 2, 1) := by decide +kernel
theorem dX8_waitsFor_39 : decode cX8_waitsFor 39 = .ok (.iaload, 1) := by decide +kernel
theorem dX8_waitsFor_40 : decode cX8_waitsFor 40 = .ok (.iload_n 1, 1) := by decide +kernel
theorem dX8_waitsFor_41 : decode cX8_waitsFor 41 = .ok (.if_icmp .ne 5, 3) := by decide +kernel
theorem dX8_waitsFor_44 : decode cX8_waitsFor 44 = .ok (.iload_n 2, 1) := by decide +kernel
theorem dX8_waitsFor_45 : decode cX8_waitsFor 45 = .ok (.ireturn, 1) := by decide +kernel
theorem dX8_waitsFor_46 : decode cX8_waitsFor 46 = .ok (.iinc 2 1, 3) := by decide +kernel
theorem dX8_waitsFor_49 : decode cX8_waitsFor 49 = .ok (.goto (-47), 3) := by decide +kernel
theorem dX8_waitsFor_52 : decode cX8_waitsFor 52 = .ok (.iconst (-1), 1) := by decide +kernel
theorem dX8_waitsFor_53 : decode cX8_waitsFor 53 = .ok (.ireturn, 1) := by decide +kernel
theorem dX9_init_0 : decode cX9_init 0 = .ok (.aload_n 0, 1) := by decide +kernel
theorem dX9_init_1 : decode cX9_init 1 = .ok (.invokespecial 3, 3) := by decide +kernel
theorem dX9_init_4 : decode cX9_init 4 = .ok (.aload_n 0, 1) := by decide +kernel
theorem dX9_init_5 : decode cX9_init 5 = .ok (.new 9, 3) := by decide +kernel
theorem dX9_init_8 : decode cX9_init 8 = .ok (.dup, 1) := by decide +kernel
theorem dX9_init_9 : decode cX9_init 9 = .ok (.invokespecial 11, 3) := by decide +kernel
theorem dX9_init_12 : decode cX9_init 12 = .ok (.putfield 12, 3) := by decide +kernel
theorem dX9_init_15 : decode cX9_init 15 = .ok (.aload_n 0, 1) := by decide +kernel
theorem dX9_init_16 : decode cX9_init 16 = .ok (.new 18, 3) := by decide +kernel
theorem dX9_init_19 : decode cX9_init 19 = .ok (.dup, 1) := by decide +kernel
theorem dX9_init_20 : decode cX9_init 20 = .ok (.invokespecial 20, 3) := by decide +kernel
theorem dX9_init_23 : decode cX9_init 23 = .ok (.putfield 21, 3) := by decide +kernel
theorem dX9_init_26 : decode cX9_init 26 = .ok (.aload_n 0, 1) := by decide +kernel
theorem dX9_init_27 : decode cX9_init 27 = .ok (.new 25, 3) := by decide +kernel
theorem dX9_init_30 : decode cX9_init 30 = .ok (.dup, 1) := by decide +kernel
theorem dX9_init_31 : decode cX9_init 31 = .ok (.invokespecial 27, 3) := by decide +kernel
theorem dX9_init_34 : decode cX9_init 34 = .ok (.putfield 28, 3) := by decide +kernel
theorem dX9_init_37 : decode cX9_init 37 = .ok (.aload_n 0, 1) := by decide +kernel
theorem dX9_init_38 : decode cX9_init 38 = .ok (.new 32, 3) := by decide +kernel
theorem dX9_init_41 : decode cX9_init 41 = .ok (.dup, 1) := by decide +kernel
theorem dX9_init_42 : decode cX9_init 42 = .ok (.invokespecial 34, 3) := by decide +kernel
theorem dX9_init_45 : decode cX9_init 45 = .ok (.putfield 35, 3) := by decide +kernel
theorem dX9_init_48 : decode cX9_init 48 = .ok (.aload_n 0, 1) := by decide +kernel
theorem dX9_init_49 : decode cX9_init 49 = .ok (.iconst 1, 1) := by decide +kernel
theorem dX9_init_50 : decode cX9_init 50 = .ok (.putfield 39, 3) := by decide +kernel
theorem dX9_init_53 : decode cX9_init 53 = .ok (.aload_n 0, 1) := by decide +kernel
theorem dX9_init_54 : decode cX9_init 54 = .ok (.iconst (-1), 1) := by decide +kernel
theorem dX9_init_55 : decode cX9_init 55 = .ok (.putfield 43, 3) := by decide +kernel
theorem dX9_init_58 : decode cX9_init 58 = .ok (.aload_n 0, 1) := by decide +kernel
theorem dX9_init_59 : decode cX9_init 59 = .ok (.iconst (-1), 1) := by decide +kernel
theorem dX9_init_60 : decode cX9_init 60 = .ok (.putfield 47, 3) := by decide +kernel
theorem dX9_init_63 : decode cX9_init 63 = .ok (.aload_n 0, 1) := by decide +kernel
theorem dX9_init_64 : decode cX9_init 64 = .ok (.iconst (-1), 1) := by decide +kernel
theorem dX9_init_65 : decode cX9_init 65 = .ok (.putfield 50, 3) := by decide +kernel
theorem dX9_init_68 : decode cX9_init 68 = .ok (.aload_n 0, 1) := by decide +kernel
theorem dX9_init_69 : decode cX9_init 69 = .ok (.iconst (-1), 1) := by decide +kernel
theorem dX9_init_70 : decode cX9_init 70 = .ok (.putfield 53, 3) := by decide +kernel
theorem dX9_init_73 : decode cX9_init 73 = .ok (.aload_n 0, 1) := by decide +kernel
theorem dX9_init_74 : decode cX9_init 74 = .ok (.iconst 0, 1) := by decide +kernel
theorem dX9_init_75 : decode cX9_init 75 = .ok (.newarray .byte, 2) := by decide +kernel
theorem dX9_init_77 : decode cX9_init 77 = .ok (.putfield 56, 3) := by decide +kernel
theorem dX9_init_80 : decode cX9_init 80 = .ok (.aload_n 0, 1) := by decide +kernel
theorem dX9_init_81 : decode cX9_init 81 = .ok (.iload_n 1, 1) := by decide +kernel
theorem dX9_init_82 : decode cX9_init 82 = .ok (.putfield 60, 3) := by decide +kernel
theorem dX9_init_85 : decode cX9_init 85 = .ok (.aload_n 0, 1) := by decide +kernel
theorem dX9_init_86 : decode cX9_init 86 = .ok (.aload_n 3, 1) := by decide +kernel
theorem dX9_init_87 : decode cX9_init 87 = .ok (.putfield 63, 3) := by decide +kernel
theorem dX9_init_90 : decode cX9_init 90 = .ok (.aload_n 0, 1) := by decide +kernel
theorem dX9_init_91 : decode cX9_init 91 = .ok (.new 67, 3) := by decide +kernel
theorem dX9_init_94 : decode cX9_init 94 = .ok (.dup, 1) := by decide +kernel
theorem dX9_init_95 : decode cX9_init 95 = .ok (.iload_n 2, 1) := by decide +kernel
theorem dX9_init_96 : decode cX9_init 96 = .ok (.invokespecial 69, 3) := by decide +kernel
theorem dX9_init_99 : decode cX9_init 99 = .ok (.putfield 72, 3) := by decide +kernel
theorem dX9_init_102 : decode cX9_init 102 = .ok (.aload_n 0, 1) := by decide +kernel
theorem dX9_init_103 : decode cX9_init 103 = .ok (.new 76, 3) := by decide +kernel
theorem dX9_init_106 : decode cX9_init 106 = .ok (.dup, 1) := by decide +kernel
theorem dX9_init_107 : decode cX9_init 107 = .ok (.aload 4, 2) := by decide +kernel
theorem dX9_init_109 : decode cX9_init 109 = .ok (.invokespecial 78, 3) := by decide +kernel
theorem dX9_init_112 : decode cX9_init 112 = .ok (.putfield 81, 3) := by decide +kernel
theorem dX9_init_115 : decode cX9_init 115 = .ok (.return_, 1) := by decide +kernel
theorem dX9_tell_0 : decode cX9_tell 0 = .ok (.iload_n 1, 1) := by decide +kernel
theorem dX9_tell_1 : decode cX9_tell 1 = .ok (.tableswitch 245 1 19 #[91, 96, 101, 106, 111, 119, 127, 135, 143, 151, 159, 164, 172, 185, 205, 213, 221, 229, 237], 91) := by decide +kernel
theorem dX9_tell_92 : decode cX9_tell 92 = .ok (.aload_n 0, 1) := by decide +kernel
theorem dX9_tell_93 : decode cX9_tell 93 = .ok (.getfield 85, 3) := by decide +kernel
theorem dX9_tell_96 : decode cX9_tell 96 = .ok (.ireturn, 1) := by decide +kernel
theorem dX9_tell_97 : decode cX9_tell 97 = .ok (.aload_n 0, 1) := by decide +kernel
theorem dX9_tell_98 : decode cX9_tell 98 = .ok (.getfield 88, 3) := by decide +kernel
theorem dX9_tell_101 : decode cX9_tell 101 = .ok (.ireturn, 1) := by decide +kernel
theorem dX9_tell_102 : decode cX9_tell 102 = .ok (.aload_n 0, 1) := by decide +kernel
theorem dX9_tell_103 : decode cX9_tell 103 = .ok (.getfield 43, 3) := by decide +kernel
theorem dX9_tell_106 : decode cX9_tell 106 = .ok (.ireturn, 1) := by decide +kernel
theorem dX9_tell_107 : decode cX9_tell 107 = .ok (.aload_n 0, 1) := by decide +kernel
theorem dX9_tell_108 : decode cX9_tell 108 = .ok (.getfield 47, 3) := by decide +kernel
theorem dX9_tell_111 : decode cX9_tell 111 = .ok (.ireturn, 1) := by decide +kernel
theorem dX9_tell_112 : decode cX9_tell 112 = .ok (.aload_n 0, 1) := by decide +kernel
theorem dX9_tell_113 : decode cX9_tell 113 = .ok (.getfield 72, 3) := by decide +kernel
theorem dX9_tell_116 : decode cX9_tell 116 = .ok (.getfield 91, 3) := by decide +kernel
theorem dX9_tell_119 : decode cX9_tell 119 = .ok (.ireturn, 1) := by decide +kernel
theorem dX9_tell_120 : decode cX9_tell 120 = .ok (.aload_n 0, 1) := by decide +kernel
theorem dX9_tell_121 : decode cX9_tell 121 = .ok (.getfield 72, 3) := by decide +kernel
theorem dX9_tell_124 : decode cX9_tell 124 = .ok (.getfield 94, 3) := by decide +kernel
theorem dX9_tell_127 : decode cX9_tell 127 = .ok (.ireturn, 1) := by decide +kernel
theorem dX9_tell_128 : decode cX9_tell 128 = .ok (.aload_n 0, 1) := by decide +kernel
theorem dX9_tell_129 : decode cX9_tell 129 = .ok (.getfield 72, 3) := by decide +kernel
theorem dX9_tell_132 : decode cX9_tell 132 = .ok (.getfield 97, 3) := by decide +kernel
theorem dX9_tell_135 : decode cX9_tell 135 = .ok (.ireturn, 1) := by decide +kernel
theorem dX9_tell_136 : decode cX9_tell 136 = .ok (.aload_n 0, 1) := by decide +kernel
theorem dX9_tell_137 : decode cX9_tell 137 = .ok (.getfield 72, 3) := by decide +kernel
theorem dX9_tell_140 : decode cX9_tell 140 = .ok (.getfield 100, 3) := by decide +kernel
theorem dX9_tell_143 : decode cX9_tell 143 = .ok (.ireturn, 1) := by decide +kernel
theorem dX9_tell_144 : decode cX9_tell 144 = .ok (.aload_n 0, 1) := by decide +kernel
theorem dX9_tell_145 : decode cX9_tell 145 = .ok (.getfield 72, 3) := by decide +kernel
theorem dX9_tell_148 : decode cX9_tell 148 = .ok (.getfield 103, 3) := by decide +kernel
theorem dX9_tell_151 : decode cX9_tell 151 = .ok (.ireturn, 1) := by decide +kernel
theorem dX9_tell_152 : decode cX9_tell 152 = .ok (.aload_n 0, 1) := by decide +kernel
theorem dX9_tell_153 : decode cX9_tell 153 = .ok (.getfield 72, 3) := by decide +kernel
theorem dX9_tell_156 : decode cX9_tell 156 = .ok (.getfield 106, 3) := by decide +kernel
theorem dX9_tell_159 : decode cX9_tell 159 = .ok (.ireturn, 1) := by decide +kernel
theorem dX9_tell_160 : decode cX9_tell 160 = .ok (.aload_n 0, 1) := by decide +kernel
theorem dX9_tell_161 : decode cX9_tell 161 = .ok (.getfield 109, 3) := by decide +kernel
theorem dX9_tell_164 : decode cX9_tell 164 = .ok (.ireturn, 1) := by decide +kernel
theorem dX9_tell_165 : decode cX9_tell 165 = .ok (.aload_n 0, 1) := by decide +kernel
theorem dX9_tell_166 : decode cX9_tell 166 = .ok (.getfield 21, 3) := by decide +kernel
theorem dX9_tell_169 : decode cX9_tell 169 = .ok (.getfield 112, 3) := by decide +kernel
theorem dX9_tell_172 : decode cX9_tell 172 = .ok (.ireturn, 1) := by decide +kernel
theorem dX9_tell_173 : decode cX9_tell 173 = .ok (.aload_n 0, 1) := by decide +kernel
theorem dX9_tell_174 : decode cX9_tell 174 = .ok (.getfield 115, 3) := by decide +kernel
theorem dX9_tell_177 : decode cX9_tell 177 = .ok (.ifCond .eq 7, 3) := by decide +kernel
theorem dX9_tell_180 : decode cX9_tell 180 = .ok (.iconst 1, 1) := by decide +kernel
theorem dX9_tell_181 : decode cX9_tell 181 = .ok (.goto 4, 3) := by decide +kernel
theorem dX9_tell_184 : decode cX9_tell 184 = .ok (.iconst 0, 1) := by decide +kernel
theorem dX9_tell_185 : decode cX9_tell 185 = .ok (.ireturn, 1) := by decide +kernel
theorem dX9_tell_186 : decode cX9_tell 186 = .ok (.aload_n 0, 1) := by decide +kernel
theorem dX9_tell_187 : decode cX9_tell 187 = .ok (.getfield 85, 3) := by decide +kernel
theorem dX9_tell_190 : decode cX9_tell 190 = .ok (.iconst 3, 1) := by decide +kernel
theorem dX9_tell_191 : decode cX9_tell 191 = .ok (.if_icmp .ne 13, 3) := by decide +kernel
theorem dX9_tell_194 : decode cX9_tell 194 = .ok (.aload_n 0, 1) := by decide +kernel
theorem dX9_tell_195 : decode cX9_tell 195 = .ok (.getfield 21, 3) := by decide +kernel
theorem dX9_tell_198 : decode cX9_tell 198 = .ok (.getfield 118, 3) := by decide +kernel
theorem dX9_tell_201 : decode cX9_tell 201 = .ok (.goto 4, 3) := by decide +kernel
theorem dX9_tell_204 : decode cX9_tell 204 = .ok (.iconst 0, 1) := by decide +kernel
theorem dX9_tell_205 : decode cX9_tell 205 = .ok (.ireturn, 1) := by decide +kernel
theorem dX9_tell_206 : decode cX9_tell 206 = .ok (.aload_n 0, 1) := by decide +kernel
theorem dX9_tell_207 : decode cX9_tell 207 = .ok (.getfield 35, 3) := by decide +kernel
theorem dX9_tell_210 : decode cX9_tell 210 = .ok (.invokevirtual 121, 3) := by decide +kernel
theorem dX9_tell_213 : decode cX9_tell 213 = .ok (.ireturn, 1) := by decide +kernel
theorem dX9_tell_214 : decode cX9_tell 214 = .ok (.aload_n 0, 1) := by decide +kernel
theorem dX9_tell_215 : decode cX9_tell 215 = .ok (.getfield 28, 3) := by decide +kernel
theorem dX9_tell_218 : decode cX9_tell 218 = .ok (.getfield 125, 3) := by decide +kernel
theorem dX9_tell_221 : decode cX9_tell 221 = .ok (.ireturn, 1) := by decide +kernel
theorem dX9_tell_222 : decode cX9_tell 222 = .ok (.aload_n 0, 1) := by decide +kernel
theorem dX9_tell_223 : decode cX9_tell 223 = .ok (.getfield 81, 3) := by decide +kernel
theorem dX9_tell_226 : decode cX9_tell 226 = .ok (.getfield 128, 3) := by decide +kernel
theorem dX9_tell_229 : decode cX9_tell 229 = .ok (.ireturn, 1) := by decide +kernel
theorem dX9_tell_230 : decode cX9_tell 230 = .ok (.aload_n 0, 1) := by decide +kernel
theorem dX9_tell_231 : decode cX9_tell 231 = .ok (.getfield 81, 3) := by decide +kernel
theorem dX9_tell_234 : decode cX9_tell 234 = .ok (.getfield 131, 3) := by decide +kernel
theorem dX9_tell_237 : decode cX9_tell 237 = .ok (.ireturn, 1) := by decide +kernel
theorem dX9_tell_238 : decode cX9_tell 238 = .ok (.aload_n 0, 1) := by decide +kernel
theorem dX9_tell_239 : decode cX9_tell 239 = .ok (.getfield 81, 3) := by decide +kernel
theorem dX9_tell_242 : decode cX9_tell 242 = .ok (.getfield 134, 3) := by decide +kernel
theorem dX9_tell_245 : decode cX9_tell 245 = .ok (.ireturn, 1) := by decide +kernel
theorem dX9_tell_246 : decode cX9_tell 246 = .ok (.aload_n 0, 1) := by decide +kernel
theorem dX9_tell_247 : decode cX9_tell 247 = .ok (.getfield 12, 3) := by decide +kernel
theorem dX9_tell_250 : decode cX9_tell 250 = .ok (.invokevirtual 137, 3) := by decide +kernel
theorem dX9_tell_253 : decode cX9_tell 253 = .ok (.ireturn, 1) := by decide +kernel
theorem dX9_voters_0 : decode cX9_voters 0 = .ok (.aload_n 0, 1) := by decide +kernel
theorem dX9_voters_1 : decode cX9_voters 1 = .ok (.getfield 72, 3) := by decide +kernel
theorem dX9_voters_4 : decode cX9_voters 4 = .ok (.getfield 106, 3) := by decide +kernel
theorem dX9_voters_7 : decode cX9_voters 7 = .ok (.aload_n 0, 1) := by decide +kernel
theorem dX9_voters_8 : decode cX9_voters 8 = .ok (.getfield 72, 3) := by decide +kernel
theorem dX9_voters_11 : decode cX9_voters 11 = .ok (.getfield 106, 3) := by decide +kernel
theorem dX9_voters_14 : decode cX9_voters 14 = .ok (.bipush 7, 2) := by decide +kernel
theorem dX9_voters_16 : decode cX9_voters 16 = .ok (.ishr, 1) := by decide +kernel
theorem dX9_voters_17 : decode cX9_voters 17 = .ok (.ior, 1) := by decide +kernel
theorem dX9_voters_18 : decode cX9_voters 18 = .ok (.bipush 127, 2) := by decide +kernel
theorem dX9_voters_20 : decode cX9_voters 20 = .ok (.iand, 1) := by decide +kernel
theorem dX9_voters_21 : decode cX9_voters 21 = .ok (.ireturn, 1) := by decide +kernel
theorem dX9_peers_0 : decode cX9_peers 0 = .ok (.aload_n 0, 1) := by decide +kernel
theorem dX9_peers_1 : decode cX9_peers 1 = .ok (.getfield 72, 3) := by decide +kernel
theorem dX9_peers_4 : decode cX9_peers 4 = .ok (.getfield 106, 3) := by decide +kernel
theorem dX9_peers_7 : decode cX9_peers 7 = .ok (.aload_n 0, 1) := by decide +kernel
theorem dX9_peers_8 : decode cX9_peers 8 = .ok (.getfield 72, 3) := by decide +kernel
theorem dX9_peers_11 : decode cX9_peers 11 = .ok (.getfield 106, 3) := by decide +kernel
theorem dX9_peers_14 : decode cX9_peers 14 = .ok (.bipush 7, 2) := by decide +kernel
theorem dX9_peers_16 : decode cX9_peers 16 = .ok (.ishr, 1) := by decide +kernel
theorem dX9_peers_17 : decode cX9_peers 17 = .ok (.ior, 1) := by decide +kernel
theorem dX9_peers_18 : decode cX9_peers 18 = .ok (.aload_n 0, 1) := by decide +kernel
theorem dX9_peers_19 : decode cX9_peers 19 = .ok (.getfield 72, 3) := by decide +kernel
theorem dX9_peers_22 : decode cX9_peers 22 = .ok (.getfield 106, 3) := by decide +kernel
theorem dX9_peers_25 : decode cX9_peers 25 = .ok (.bipush 14, 2) := by decide +kernel
theorem dX9_peers_27 : decode cX9_peers 27 = .ok (.ishr, 1) := by decide +kernel
theorem dX9_peers_28 : decode cX9_peers 28 = .ok (.ior, 1) := by decide +kernel
theorem dX9_peers_29 : decode cX9_peers 29 = .ok (.bipush 127, 2) := by decide +kernel
theorem dX9_peers_31 : decode cX9_peers 31 = .ok (.iand, 1) := by decide +kernel
theorem dX9_peers_32 : decode cX9_peers 32 = .ok (.iconst 1, 1) := by decide +kernel
theorem dX9_peers_33 : decode cX9_peers 33 = .ok (.aload_n 0, 1) := by decide +kernel
theorem dX9_peers_34 : decode cX9_peers 34 = .ok (.getfield 60, 3) := by decide +kernel
theorem dX9_peers_37 : decode cX9_peers 37 = .ok (.ishl, 1) := by decide +kernel
theorem dX9_peers_38 : decode cX9_peers 38 = .ok (.iconst (-1), 1) := by decide +kernel
theorem dX9_peers_39 : decode cX9_peers 39 = .ok (.ixor, 1) := by decide +kernel
theorem dX9_peers_40 : decode cX9_peers 40 = .ok (.iand, 1) := by decide +kernel
theorem dX9_peers_41 : decode cX9_peers 41 = .ok (.ireturn, 1) := by decide +kernel
theorem dX9_isMajority_0 : decode cX9_isMajority 0 = .ok (.aload_n 0, 1) := by decide +kernel
theorem dX9_isMajority_1 : decode cX9_isMajority 1 = .ok (.getfield 72, 3) := by decide +kernel
theorem dX9_isMajority_4 : decode cX9_isMajority 4 = .ok (.getfield 106, 3) := by decide +kernel
theorem dX9_isMajority_7 : decode cX9_isMajority 7 = .ok (.bipush 127, 2) := by decide +kernel
theorem dX9_isMajority_9 : decode cX9_isMajority 9 = .ok (.iand, 1) := by decide +kernel
theorem dX9_isMajority_10 : decode cX9_isMajority 10 = .ok (.istore_n 2, 1) := by decide +kernel
theorem dX9_isMajority_11 : decode cX9_isMajority 11 = .ok (.aload_n 0, 1) := by decide +kernel
theorem dX9_isMajority_12 : decode cX9_isMajority 12 = .ok (.getfield 72, 3) := by decide +kernel
theorem dX9_isMajority_15 : decode cX9_isMajority 15 = .ok (.getfield 106, 3) := by decide +kernel
theorem dX9_isMajority_18 : decode cX9_isMajority 18 = .ok (.bipush 7, 2) := by decide +kernel
theorem dX9_isMajority_20 : decode cX9_isMajority 20 = .ok (.ishr, 1) := by decide +kernel
theorem dX9_isMajority_21 : decode cX9_isMajority 21 = .ok (.bipush 127, 2) := by decide +kernel
theorem dX9_isMajority_23 : decode cX9_isMajority 23 = .ok (.iand, 1) := by decide +kernel
theorem dX9_isMajority_24 : decode cX9_isMajority 24 = .ok (.istore_n 3, 1) := by decide +kernel
theorem dX9_isMajority_25 : decode cX9_isMajority 25 = .ok (.iconst 2, 1) := by decide +kernel
theorem dX9_isMajority_26 : decode cX9_isMajority 26 = .ok (.iload_n 1, 1) := by decide +kernel
theorem dX9_isMajority_27 : decode cX9_isMajority 27 = .ok (.iload_n 2, 1) := by decide +kernel
theorem dX9_isMajority_28 : decode cX9_isMajority 28 = .ok (.iand, 1) := by decide +kernel
theorem dX9_isMajority_29 : decode cX9_isMajority 29 = .ok (.invokestatic 140, 3) := by decide +kernel
theorem dX9_isMajority_32 : decode cX9_isMajority 32 = .ok (.imul, 1) := by decide +kernel
theorem dX9_isMajority_33 : decode cX9_isMajority 33 = .ok (.iload_n 2, 1) := by decide +kernel
theorem dX9_isMajority_34 : decode cX9_isMajority 34 = .ok (.invokestatic 140, 3) := by decide +kernel
theorem dX9_isMajority_37 : decode cX9_isMajority 37 = .ok (.if_icmp .le 26, 3) := by decide +kernel
theorem dX9_isMajority_40 : decode cX9_isMajority 40 = .ok (.iload_n 3, 1) := by decide +kernel
theorem dX9_isMajority_41 : decode cX9_isMajority 41 = .ok (.ifCond .eq 18, 3) := by decide +kernel
theorem dX9_isMajority_44 : decode cX9_isMajority 44 = .ok (.iconst 2, 1) := by decide +kernel
theorem dX9_isMajority_45 : decode cX9_isMajority 45 = .ok (.iload_n 1, 1) := by decide +kernel
theorem dX9_isMajority_46 : decode cX9_isMajority 46 = .ok (.iload_n 3, 1) := by decide +kernel
theorem dX9_isMajority_47 : decode cX9_isMajority 47 = .ok (.iand, 1) := by decide +kernel
theorem dX9_isMajority_48 : decode cX9_isMajority 48 = .ok (.invokestatic 140, 3) := by decide +kernel
theorem dX9_isMajority_51 : decode cX9_isMajority 51 = .ok (.imul, 1) := by decide +kernel
theorem dX9_isMajority_52 : decode cX9_isMajority 52 = .ok (.iload_n 3, 1) := by decide +kernel
theorem dX9_isMajority_53 : decode cX9_isMajority 53 = .ok (.invokestatic 140, 3) := by decide +kernel
theorem dX9_isMajority_56 : decode cX9_isMajority 56 = .ok (.if_icmp .le 7, 3) := by decide +kernel
theorem dX9_isMajority_59 : decode cX9_isMajority 59 = .ok (.iconst 1, 1) := by decide +kernel
theorem dX9_isMajority_60 : decode cX9_isMajority 60 = .ok (.goto 4, 3) := by decide +kernel
theorem dX9_isMajority_63 : decode cX9_isMajority 63 = .ok (.iconst 0, 1) := by decide +kernel
theorem dX9_isMajority_64 : decode cX9_isMajority 64 = .ok (.ireturn, 1) := by decide +kernel
theorem dX9_takeDue_0 : decode cX9_takeDue 0 = .ok (.aload_n 0, 1) := by decide +kernel
theorem dX9_takeDue_1 : decode cX9_takeDue 1 = .ok (.getfield 146, 3) := by decide +kernel
theorem dX9_takeDue_4 : decode cX9_takeDue 4 = .ok (.iload_n 1, 1) := by decide +kernel
theorem dX9_takeDue_5 : decode cX9_takeDue 5 = .ok (.iand, 1) := by decide +kernel
theorem dX9_takeDue_6 : decode cX9_takeDue 6 = .ok (.ifCond .eq 7, 3) := by decide +kernel
theorem dX9_takeDue_9 : decode cX9_takeDue 9 = .ok (.iconst 1, 1) := by decide +kernel
theorem dX9_takeDue_10 : decode cX9_takeDue 10 = .ok (.goto 4, 3) := by decide +kernel
theorem dX9_takeDue_13 : decode cX9_takeDue 13 = .ok (.iconst 0, 1) := by decide +kernel
theorem dX9_takeDue_14 : decode cX9_takeDue 14 = .ok (.istore_n 2, 1) := by decide +kernel
theorem dX9_takeDue_15 : decode cX9_takeDue 15 = .ok (.aload_n 0, 1) := by decide +kernel
theorem dX9_takeDue_16 : decode cX9_takeDue 16 = .ok (.dup, 1) := by decide +kernel
theorem dX9_takeDue_17 : decode cX9_takeDue 17 = .ok (.getfield 146, 3) := by decide +kernel
theorem dX9_takeDue_20 : decode cX9_takeDue 20 = .ok (.iload_n 1, 1) := by decide +kernel
theorem dX9_takeDue_21 : decode cX9_takeDue 21 = .ok (.iconst (-1), 1) := by decide +kernel
theorem dX9_takeDue_22 : decode cX9_takeDue 22 = .ok (.ixor, 1) := by decide +kernel
theorem dX9_takeDue_23 : decode cX9_takeDue 23 = .ok (.iand, 1) := by decide +kernel
theorem dX9_takeDue_24 : decode cX9_takeDue 24 = .ok (.putfield 146, 3) := by decide +kernel
theorem dX9_takeDue_27 : decode cX9_takeDue 27 = .ok (.iload_n 2, 1) := by decide +kernel
theorem dX9_takeDue_28 : decode cX9_takeDue 28 = .ok (.ireturn, 1) := by decide +kernel
theorem dX9_settle_0 : decode cX9_settle 0 = .ok (.aload_n 0, 1) := by decide +kernel
theorem dX9_settle_1 : decode cX9_settle 1 = .ok (.iconst 1, 1) := by decide +kernel
theorem dX9_settle_2 : decode cX9_settle 2 = .ok (.invokevirtual 149, 3) := by decide +kernel
theorem dX9_settle_5 : decode cX9_settle 5 = .ok (.ifCond .eq 7, 3) := by decide +kernel
theorem dX9_settle_8 : decode cX9_settle 8 = .ok (.aload_n 0, 1) := by decide +kernel
theorem dX9_settle_9 : decode cX9_settle 9 = .ok (.invokevirtual 153, 3) := by decide +kernel
theorem dX9_settle_12 : decode cX9_settle 12 = .ok (.aload_n 0, 1) := by decide +kernel
theorem dX9_settle_13 : decode cX9_settle 13 = .ok (.iconst 2, 1) := by decide +kernel
theorem dX9_settle_14 : decode cX9_settle 14 = .ok (.invokevirtual 149, 3) := by decide +kernel
theorem dX9_settle_17 : decode cX9_settle 17 = .ok (.ifCond .eq 7, 3) := by decide +kernel
theorem dX9_settle_20 : decode cX9_settle 20 = .ok (.aload_n 0, 1) := by decide +kernel
theorem dX9_settle_21 : decode cX9_settle 21 = .ok (.invokevirtual 156, 3) := by decide +kernel
theorem dX9_settle_24 : decode cX9_settle 24 = .ok (.aload_n 0, 1) := by decide +kernel
theorem dX9_settle_25 : decode cX9_settle 25 = .ok (.iconst 4, 1) := by decide +kernel
theorem dX9_settle_26 : decode cX9_settle 26 = .ok (.invokevirtual 149, 3) := by decide +kernel
theorem dX9_settle_29 : decode cX9_settle 29 = .ok (.ifCond .eq 16, 3) := by decide +kernel
theorem dX9_settle_32 : decode cX9_settle 32 = .ok (.aload_n 0, 1) := by decide +kernel
theorem dX9_settle_33 : decode cX9_settle 33 = .ok (.invokevirtual 159, 3) := by decide +kernel
theorem dX9_settle_36 : decode cX9_settle 36 = .ok (.aload_n 0, 1) := by decide +kernel
theorem dX9_settle_37 : decode cX9_settle 37 = .ok (.iconst 1, 1) := by decide +kernel
theorem dX9_settle_38 : decode cX9_settle 38 = .ok (.invokevirtual 162, 3) := by decide +kernel
theorem dX9_settle_41 : decode cX9_settle 41 = .ok (.aload_n 0, 1) := by decide +kernel
theorem dX9_settle_42 : decode cX9_settle 42 = .ok (.invokevirtual 166, 3) := by decide +kernel
theorem dX9_settle_45 : decode cX9_settle 45 = .ok (.aload_n 0, 1) := by decide +kernel
theorem dX9_settle_46 : decode cX9_settle 46 = .ok (.bipush 8, 2) := by decide +kernel
theorem dX9_settle_48 : decode cX9_settle 48 = .ok (.invokevirtual 149, 3) := by decide +kernel
theorem dX9_settle_51 : decode cX9_settle 51 = .ok (.ifCond .eq 7, 3) := by decide +kernel
theorem dX9_settle_54 : decode cX9_settle 54 = .ok (.aload_n 0, 1) := by decide +kernel
theorem dX9_settle_55 : decode cX9_settle 55 = .ok (.invokevirtual 169, 3) := by decide +kernel
theorem dX9_settle_58 : decode cX9_settle 58 = .ok (.aload_n 0, 1) := by decide +kernel
theorem dX9_settle_59 : decode cX9_settle 59 = .ok (.bipush 16, 2) := by decide +kernel
theorem dX9_settle_61 : decode cX9_settle 61 = .ok (.invokevirtual 149, 3) := by decide +kernel
theorem dX9_settle_64 : decode cX9_settle 64 = .ok (.ifCond .eq 15, 3) := by decide +kernel
theorem dX9_settle_67 : decode cX9_settle 67 = .ok (.aload_n 0, 1) := by decide +kernel
theorem dX9_settle_68 : decode cX9_settle 68 = .ok (.invokevirtual 172, 3) := by decide +kernel
theorem dX9_settle_71 : decode cX9_settle 71 = .ok (.aload_n 0, 1) := by decide +kernel
theorem dX9_settle_72 : decode cX9_settle 72 = .ok (.invokevirtual 166, 3) := by decide +kernel
theorem dX9_settle_75 : decode cX9_settle 75 = .ok (.aload_n 0, 1) := by decide +kernel
theorem dX9_settle_76 : decode cX9_settle 76 = .ok (.invokevirtual 175, 3) := by decide +kernel
theorem dX9_settle_79 : decode cX9_settle 79 = .ok (.aload_n 0, 1) := by decide +kernel
theorem dX9_settle_80 : decode cX9_settle 80 = .ok (.bipush 32, 2) := by decide +kernel
theorem dX9_settle_82 : decode cX9_settle 82 = .ok (.invokevirtual 149, 3) := by decide +kernel
theorem dX9_settle_85 : decode cX9_settle 85 = .ok (.ifCond .eq 7, 3) := by decide +kernel
theorem dX9_settle_88 : decode cX9_settle 88 = .ok (.aload_n 0, 1) := by decide +kernel
theorem dX9_settle_89 : decode cX9_settle 89 = .ok (.invokevirtual 178, 3) := by decide +kernel
theorem dX9_settle_92 : decode cX9_settle 92 = .ok (.aload_n 0, 1) := by decide +kernel
theorem dX9_settle_93 : decode cX9_settle 93 = .ok (.bipush 64, 2) := by decide +kernel
theorem dX9_settle_95 : decode cX9_settle 95 = .ok (.invokevirtual 149, 3) := by decide +kernel
theorem dX9_settle_98 : decode cX9_settle 98 = .ok (.ifCond .eq 8, 3) := by decide +kernel
theorem dX9_settle_101 : decode cX9_settle 101 = .ok (.aload_n 0, 1) := by decide +kernel
theorem dX9_settle_102 : decode cX9_settle 102 = .ok (.iconst 0, 1) := by decide +kernel
theorem dX9_settle_103 : decode cX9_settle 103 = .ok (.invokevirtual 162, 3) := by decide +kernel
theorem dX9_settle_106 : decode cX9_settle 106 = .ok (.aload_n 0, 1) := by decide +kernel
theorem dX9_settle_107 : decode cX9_settle 107 = .ok (.sipush 128, 3) := by decide +kernel
theorem dX9_settle_110 : decode cX9_settle 110 = .ok (.invokevirtual 149, 3) := by decide +kernel
theorem dX9_settle_113 : decode cX9_settle 113 = .ok (.ifCond .eq 7, 3) := by decide +kernel
theorem dX9_settle_116 : decode cX9_settle 116 = .ok (.aload_n 0, 1) := by decide +kernel
theorem dX9_settle_117 : decode cX9_settle 117 = .ok (.invokevirtual 166, 3) := by decide +kernel
theorem dX9_settle_120 : decode cX9_settle 120 = .ok (.aload_n 0, 1) := by decide +kernel
theorem dX9_settle_121 : decode cX9_settle 121 = .ok (.sipush 256, 3) := by decide +kernel
theorem dX9_settle_124 : decode cX9_settle 124 = .ok (.invokevirtual 149, 3) := by decide +kernel
theorem dX9_settle_127 : decode cX9_settle 127 = .ok (.ifCond .eq 15, 3) := by decide +kernel
theorem dX9_settle_130 : decode cX9_settle 130 = .ok (.aload_n 1, 1) := by decide +kernel
theorem dX9_settle_131 : decode cX9_settle 131 = .ok (.ifnull 11, 3) := by decide +kernel
theorem dX9_settle_134 : decode cX9_settle 134 = .ok (.aload_n 0, 1) := by decide +kernel
theorem dX9_settle_135 : decode cX9_settle 135 = .ok (.aload_n 1, 1) := by decide +kernel
theorem dX9_settle_136 : decode cX9_settle 136 = .ok (.getfield 181, 3) := by decide +kernel
theorem dX9_settle_139 : decode cX9_settle 139 = .ok (.invokevirtual 186, 3) := by decide +kernel
theorem dX9_settle_142 : decode cX9_settle 142 = .ok (.aload_n 0, 1) := by decide +kernel
theorem dX9_settle_143 : decode cX9_settle 143 = .ok (.sipush 512, 3) := by decide +kernel
theorem dX9_settle_146 : decode cX9_settle 146 = .ok (.invokevirtual 149, 3) := by decide +kernel
theorem dX9_settle_149 : decode cX9_settle 149 = .ok (.ifCond .eq 24, 3) := by decide +kernel
theorem dX9_settle_152 : decode cX9_settle 152 = .ok (.aload_n 1, 1) := by decide +kernel
theorem dX9_settle_153 : decode cX9_settle 153 = .ok (.ifnull 20, 3) := by decide +kernel
theorem dX9_settle_156 : decode cX9_settle 156 = .ok (.aload_n 0, 1) := by decide +kernel
theorem dX9_settle_157 : decode cX9_settle 157 = .ok (.aload_n 1, 1) := by decide +kernel
theorem dX9_settle_158 : decode cX9_settle 158 = .ok (.getfield 181, 3) := by decide +kernel
theorem dX9_settle_161 : decode cX9_settle 161 = .ok (.iconst 1, 1) := by decide +kernel
theorem dX9_settle_162 : decode cX9_settle 162 = .ok (.aload_n 1, 1) := by decide +kernel
theorem dX9_settle_163 : decode cX9_settle 163 = .ok (.getfield 189, 3) := by decide +kernel
theorem dX9_settle_166 : decode cX9_settle 166 = .ok (.aload_n 1, 1) := by decide +kernel
theorem dX9_settle_167 : decode cX9_settle 167 = .ok (.getfield 192, 3) := by decide +kernel
theorem dX9_settle_170 : decode cX9_settle 170 = .ok (.invokevirtual 193, 3) := by decide +kernel
theorem dX9_settle_173 : decode cX9_settle 173 = .ok (.return_, 1) := by decide +kernel
theorem dX9_fall_0 : decode cX9_fall 0 = .ok (.aload_n 0, 1) := by decide +kernel
theorem dX9_fall_1 : decode cX9_fall 1 = .ok (.getfield 12, 3) := by decide +kernel
theorem dX9_fall_4 : decode cX9_fall 4 = .ok (.lload_n 1, 1) := by decide +kernel
theorem dX9_fall_5 : decode cX9_fall 5 = .ok (.invokevirtual 197, 3) := by decide +kernel
theorem dX9_fall_8 : decode cX9_fall 8 = .ok (.iconst 0, 1) := by decide +kernel
theorem dX9_fall_9 : decode cX9_fall 9 = .ok (.istore_n 3, 1) := by decide +kernel
theorem dX9_fall_10 : decode cX9_fall 10 = .ok (.iload_n 3, 1) := by decide +kernel
theorem dX9_fall_11 : decode cX9_fall 11 = .ok (.aload_n 0, 1) := by decide +kernel
theorem dX9_fall_12 : decode cX9_fall 12 = .ok (.getfield 35, 3) := by decide +kernel
theorem dX9_fall_15 : decode cX9_fall 15 = .ok (.invokevirtual 121, 3) := by decide +kernel
theorem dX9_fall_18 : decode cX9_fall 18 = .ok (.if_icmp .ge 31, 3) := by decide +kernel
theorem dX9_fall_21 : decode cX9_fall 21 = .ok (.aload_n 0, 1) := by decide +kernel
theorem dX9_fall_22 : decode cX9_fall 22 = .ok (.getfield 63, 3) := by decide +kernel
theorem dX9_fall_25 : decode cX9_fall 25 = .ok (.getfield 201, 3) := by decide +kernel
theorem dX9_fall_28 : decode cX9_fall 28 = .ok (.aload_n 0, 1) := by decide +kernel
theorem dX9_fall_29 : decode cX9_fall 29 = .ok (.getfield 35, 3) := by decide +kernel
theorem dX9_fall_32 : decode cX9_fall 32 = .ok (.iload_n 3, 1) := by decide +kernel
theorem dX9_fall_33 : decode cX9_fall 33 = .ok (.invokevirtual 206, 3) := by decide +kernel
theorem dX9_fall_36 : decode cX9_fall 36 = .ok (.checkcast 182, 3) := by decide +kernel
theorem dX9_fall_39 : decode cX9_fall 39 = .ok (.invokevirtual 210, 3) := by decide +kernel
theorem dX9_fall_42 : decode cX9_fall 42 = .ok (.pop, 1) := by decide +kernel
theorem dX9_fall_43 : decode cX9_fall 43 = .ok (.iinc 3 1, 3) := by decide +kernel
theorem dX9_fall_46 : decode cX9_fall 46 = .ok (.goto (-36), 3) := by decide +kernel
theorem dX9_fall_49 : decode cX9_fall 49 = .ok (.aload_n 0, 1) := by decide +kernel
theorem dX9_fall_50 : decode cX9_fall 50 = .ok (.getfield 35, 3) := by decide +kernel
theorem dX9_fall_53 : decode cX9_fall 53 = .ok (.invokevirtual 214, 3) := by decide +kernel
theorem dX9_fall_56 : decode cX9_fall 56 = .ok (.aload_n 0, 1) := by decide +kernel
theorem dX9_fall_57 : decode cX9_fall 57 = .ok (.invokevirtual 217, 3) := by decide +kernel
theorem dX9_fall_60 : decode cX9_fall 60 = .ok (.return_, 1) := by decide +kernel
theorem dX9_goDown_0 : decode cX9_goDown 0 = .ok (.aload_n 0, 1) := by decide +kernel
theorem dX9_goDown_1 : decode cX9_goDown 1 = .ok (.getfield 12, 3) := by decide +kernel
theorem dX9_goDown_4 : decode cX9_goDown 4 = .ok (.invokevirtual 220, 3) := by decide +kernel
theorem dX9_goDown_7 : decode cX9_goDown 7 = .ok (.aload_n 0, 1) := by decide +kernel
theorem dX9_goDown_8 : decode cX9_goDown 8 = .ok (.invokevirtual 223, 3) := by decide +kernel
theorem dX9_goDown_11 : decode cX9_goDown 11 = .ok (.aload_n 0, 1) := by decide +kernel
theorem dX9_goDown_12 : decode cX9_goDown 12 = .ok (.invokevirtual 217, 3) := by decide +kernel
theorem dX9_goDown_15 : decode cX9_goDown 15 = .ok (.return_, 1) := by decide +kernel
theorem dX9_beDown_0 : decode cX9_beDown 0 = .ok (.aload_n 0, 1) := by decide +kernel
theorem dX9_beDown_1 : decode cX9_beDown 1 = .ok (.iconst 0, 1) := by decide +kernel
theorem dX9_beDown_2 : decode cX9_beDown 2 = .ok (.putfield 39, 3) := by decide +kernel
theorem dX9_beDown_5 : decode cX9_beDown 5 = .ok (.aload_n 0, 1) := by decide +kernel
theorem dX9_beDown_6 : decode cX9_beDown 6 = .ok (.iconst 0, 1) := by decide +kernel
theorem dX9_beDown_7 : decode cX9_beDown 7 = .ok (.putfield 115, 3) := by decide +kernel
theorem dX9_beDown_10 : decode cX9_beDown 10 = .ok (.aload_n 0, 1) := by decide +kernel
theorem dX9_beDown_11 : decode cX9_beDown 11 = .ok (.getfield 63, 3) := by decide +kernel
theorem dX9_beDown_14 : decode cX9_beDown 14 = .ok (.aload_n 0, 1) := by decide +kernel
theorem dX9_beDown_15 : decode cX9_beDown 15 = .ok (.getfield 60, 3) := by decide +kernel
theorem dX9_beDown_18 : decode cX9_beDown 18 = .ok (.invokevirtual 226, 3) := by decide +kernel
theorem dX9_beDown_21 : decode cX9_beDown 21 = .ok (.aload_n 0, 1) := by decide +kernel
theorem dX9_beDown_22 : decode cX9_beDown 22 = .ok (.getfield 63, 3) := by decide +kernel
theorem dX9_beDown_25 : decode cX9_beDown 25 = .ok (.bipush 16, 2) := by decide +kernel
theorem dX9_beDown_27 : decode cX9_beDown 27 = .ok (.aload_n 0, 1) := by decide +kernel
theorem dX9_beDown_28 : decode cX9_beDown 28 = .ok (.getfield 60, 3) := by decide +kernel
theorem dX9_beDown_31 : decode cX9_beDown 31 = .ok (.iadd, 1) := by decide +kernel
theorem dX9_beDown_32 : decode cX9_beDown 32 = .ok (.invokevirtual 226, 3) := by decide +kernel
theorem dX9_beDown_35 : decode cX9_beDown 35 = .ok (.return_, 1) := by decide +kernel
theorem dX9_comeUp_0 : decode cX9_comeUp 0 = .ok (.aload_n 0, 1) := by decide +kernel
theorem dX9_comeUp_1 : decode cX9_comeUp 1 = .ok (.getfield 12, 3) := by decide +kernel
theorem dX9_comeUp_4 : decode cX9_comeUp 4 = .ok (.invokevirtual 229, 3) := by decide +kernel
theorem dX9_comeUp_7 : decode cX9_comeUp 7 = .ok (.aload_n 0, 1) := by decide +kernel
theorem dX9_comeUp_8 : decode cX9_comeUp 8 = .ok (.invokevirtual 232, 3) := by decide +kernel
theorem dX9_comeUp_11 : decode cX9_comeUp 11 = .ok (.aload_n 0, 1) := by decide +kernel
theorem dX9_comeUp_12 : decode cX9_comeUp 12 = .ok (.invokevirtual 235, 3) := by decide +kernel
theorem dX9_comeUp_15 : decode cX9_comeUp 15 = .ok (.aload_n 0, 1) := by decide +kernel
theorem dX9_comeUp_16 : decode cX9_comeUp 16 = .ok (.getfield 12, 3) := by decide +kernel
theorem dX9_comeUp_19 : decode cX9_comeUp 19 = .ok (.invokevirtual 220, 3) := by decide +kernel
theorem dX9_comeUp_22 : decode cX9_comeUp 22 = .ok (.aload_n 0, 1) := by decide +kernel
theorem dX9_comeUp_23 : decode cX9_comeUp 23 = .ok (.iconst 1, 1) := by decide +kernel
theorem dX9_comeUp_24 : decode cX9_comeUp 24 = .ok (.putfield 39, 3) := by decide +kernel
theorem dX9_comeUp_27 : decode cX9_comeUp 27 = .ok (.aload_n 0, 1) := by decide +kernel
theorem dX9_comeUp_28 : decode cX9_comeUp 28 = .ok (.iconst 0, 1) := by decide +kernel
theorem dX9_comeUp_29 : decode cX9_comeUp 29 = .ok (.putfield 115, 3) := by decide +kernel
theorem dX9_comeUp_32 : decode cX9_comeUp 32 = .ok (.aload_n 0, 1) := by decide +kernel
theorem dX9_comeUp_33 : decode cX9_comeUp 33 = .ok (.iconst 0, 1) := by decide +kernel
theorem dX9_comeUp_34 : decode cX9_comeUp 34 = .ok (.putfield 85, 3) := by decide +kernel
theorem dX9_comeUp_37 : decode cX9_comeUp 37 = .ok (.aload_n 0, 1) := by decide +kernel
theorem dX9_comeUp_38 : decode cX9_comeUp 38 = .ok (.iconst (-1), 1) := by decide +kernel
theorem dX9_comeUp_39 : decode cX9_comeUp 39 = .ok (.putfield 47, 3) := by decide +kernel
theorem dX9_comeUp_42 : decode cX9_comeUp 42 = .ok (.aload_n 0, 1) := by decide +kernel
theorem dX9_comeUp_43 : decode cX9_comeUp 43 = .ok (.iconst (-1), 1) := by decide +kernel
theorem dX9_comeUp_44 : decode cX9_comeUp 44 = .ok (.putfield 50, 3) := by decide +kernel
theorem dX9_comeUp_47 : decode cX9_comeUp 47 = .ok (.aload_n 0, 1) := by decide +kernel
theorem dX9_comeUp_48 : decode cX9_comeUp 48 = .ok (.iconst 0, 1) := by decide +kernel
theorem dX9_comeUp_49 : decode cX9_comeUp 49 = .ok (.putfield 109, 3) := by decide +kernel
theorem dX9_comeUp_52 : decode cX9_comeUp 52 = .ok (.aload_n 0, 1) := by decide +kernel
theorem dX9_comeUp_53 : decode cX9_comeUp 53 = .ok (.iconst (-1), 1) := by decide +kernel
theorem dX9_comeUp_54 : decode cX9_comeUp 54 = .ok (.putfield 53, 3) := by decide +kernel
theorem dX9_comeUp_57 : decode cX9_comeUp 57 = .ok (.aload_n 0, 1) := by decide +kernel
theorem dX9_comeUp_58 : decode cX9_comeUp 58 = .ok (.iconst 0, 1) := by decide +kernel
theorem dX9_comeUp_59 : decode cX9_comeUp 59 = .ok (.putfield 238, 3) := by decide +kernel
theorem dX9_comeUp_62 : decode cX9_comeUp 62 = .ok (.aload_n 0, 1) := by decide +kernel
theorem dX9_comeUp_63 : decode cX9_comeUp 63 = .ok (.iconst 0, 1) := by decide +kernel
theorem dX9_comeUp_64 : decode cX9_comeUp 64 = .ok (.putfield 146, 3) := by decide +kernel
theorem dX9_comeUp_67 : decode cX9_comeUp 67 = .ok (.aload_n 0, 1) := by decide +kernel
theorem dX9_comeUp_68 : decode cX9_comeUp 68 = .ok (.getfield 21, 3) := by decide +kernel
theorem dX9_comeUp_71 : decode cX9_comeUp 71 = .ok (.aload_n 0, 1) := by decide +kernel
theorem dX9_comeUp_72 : decode cX9_comeUp 72 = .ok (.getfield 72, 3) := by decide +kernel
theorem dX9_comeUp_75 : decode cX9_comeUp 75 = .ok (.getfield 103, 3) := by decide +kernel
theorem dX9_comeUp_78 : decode cX9_comeUp 78 = .ok (.aload_n 0, 1) := by decide +kernel
theorem dX9_comeUp_79 : decode cX9_comeUp 79 = .ok (.getfield 63, 3) := by decide +kernel
theorem dX9_comeUp_82 : decode cX9_comeUp 82 = .ok (.getfield 241, 3) := by decide +kernel
theorem dX9_comeUp_85 : decode cX9_comeUp 85 = .ok (.invokevirtual 244, 3) := by decide +kernel
theorem dX9_comeUp_88 : decode cX9_comeUp 88 = .ok (.aload_n 0, 1) := by decide +kernel
theorem dX9_comeUp_89 : decode cX9_comeUp 89 = .ok (.getfield 28, 3) := by decide +kernel
theorem dX9_comeUp_92 : decode cX9_comeUp 92 = .ok (.invokevirtual 248, 3) := by decide +kernel
theorem dX9_comeUp_95 : decode cX9_comeUp 95 = .ok (.aload_n 0, 1) := by decide +kernel
theorem dX9_comeUp_96 : decode cX9_comeUp 96 = .ok (.getfield 63, 3) := by decide +kernel
theorem dX9_comeUp_99 : decode cX9_comeUp 99 = .ok (.aload_n 0, 1) := by decide +kernel
theorem dX9_comeUp_100 : decode cX9_comeUp 100 = .ok (.getfield 60, 3) := by decide +kernel
theorem dX9_comeUp_103 : decode cX9_comeUp 103 = .ok (.invokevirtual 251, 3) := by decide +kernel
theorem dX9_comeUp_106 : decode cX9_comeUp 106 = .ok (.return_, 1) := by decide +kernel
theorem dX9_loadLog_0 : decode cX9_loadLog 0 = .ok (.aload_n 0, 1) := by decide +kernel
theorem dX9_loadLog_1 : decode cX9_loadLog 1 = .ok (.getfield 72, 3) := by decide +kernel
theorem dX9_loadLog_4 : decode cX9_loadLog 4 = .ok (.invokevirtual 254, 3) := by decide +kernel
theorem dX9_loadLog_7 : decode cX9_loadLog 7 = .ok (.aload_n 0, 1) := by decide +kernel
theorem dX9_loadLog_8 : decode cX9_loadLog 8 = .ok (.getfield 81, 3) := by decide +kernel
theorem dX9_loadLog_11 : decode cX9_loadLog 11 = .ok (.invokevirtual 255, 3) := by decide +kernel
theorem dX9_loadLog_14 : decode cX9_loadLog 14 = .ok (.aload_n 0, 1) := by decide +kernel
theorem dX9_loadLog_15 : decode cX9_loadLog 15 = .ok (.getfield 12, 3) := by decide +kernel
theorem dX9_loadLog_18 : decode cX9_loadLog 18 = .ok (.getfield 256, 3) := by decide +kernel
theorem dX9_loadLog_21 : decode cX9_loadLog 21 = .ok (.iconst (-1), 1) := by decide +kernel
theorem dX9_loadLog_22 : decode cX9_loadLog 22 = .ok (.if_icmp .eq 53, 3) := by decide +kernel
theorem dX9_loadLog_25 : decode cX9_loadLog 25 = .ok (.aload_n 0, 1) := by decide +kernel
theorem dX9_loadLog_26 : decode cX9_loadLog 26 = .ok (.getfield 12, 3) := by decide +kernel
theorem dX9_loadLog_29 : decode cX9_loadLog 29 = .ok (.getfield 259, 3) := by decide +kernel
theorem dX9_loadLog_32 : decode cX9_loadLog 32 = .ok (.aload_n 0, 1) := by decide +kernel
theorem dX9_loadLog_33 : decode cX9_loadLog 33 = .ok (.getfield 12, 3) := by decide +kernel
theorem dX9_loadLog_36 : decode cX9_loadLog 36 = .ok (.getfield 256, 3) := by decide +kernel
theorem dX9_loadLog_39 : decode cX9_loadLog 39 = .ok (.aaload, 1) := by decide +kernel
theorem dX9_loadLog_40 : decode cX9_loadLog 40 = .ok (.astore_n 1, 1) := by decide +kernel
theorem dX9_loadLog_41 : decode cX9_loadLog 41 = .ok (.aload_n 0, 1) := by decide +kernel
theorem dX9_loadLog_42 : decode cX9_loadLog 42 = .ok (.getfield 72, 3) := by decide +kernel
theorem dX9_loadLog_45 : decode cX9_loadLog 45 = .ok (.aload_n 1, 1) := by decide +kernel
theorem dX9_loadLog_46 : decode cX9_loadLog 46 = .ok (.getfield 263, 3) := by decide +kernel
theorem dX9_loadLog_49 : decode cX9_loadLog 49 = .ok (.aload_n 1, 1) := by decide +kernel
theorem dX9_loadLog_50 : decode cX9_loadLog 50 = .ok (.getfield 268, 3) := by decide +kernel
theorem dX9_loadLog_53 : decode cX9_loadLog 53 = .ok (.aload_n 1, 1) := by decide +kernel
theorem dX9_loadLog_54 : decode cX9_loadLog 54 = .ok (.getfield 269, 3) := by decide +kernel
theorem dX9_loadLog_57 : decode cX9_loadLog 57 = .ok (.invokevirtual 272, 3) := by decide +kernel
theorem dX9_loadLog_60 : decode cX9_loadLog 60 = .ok (.aload_n 0, 1) := by decide +kernel
theorem dX9_loadLog_61 : decode cX9_loadLog 61 = .ok (.getfield 81, 3) := by decide +kernel
theorem dX9_loadLog_64 : decode cX9_loadLog 64 = .ok (.aload_n 1, 1) := by decide +kernel
theorem dX9_loadLog_65 : decode cX9_loadLog 65 = .ok (.getfield 276, 3) := by decide +kernel
theorem dX9_loadLog_68 : decode cX9_loadLog 68 = .ok (.aload_n 1, 1) := by decide +kernel
theorem dX9_loadLog_69 : decode cX9_loadLog 69 = .ok (.getfield 279, 3) := by decide +kernel
theorem dX9_loadLog_72 : decode cX9_loadLog 72 = .ok (.invokevirtual 282, 3) := by decide +kernel
theorem dX9_loadLog_75 : decode cX9_loadLog 75 = .ok (.aload_n 0, 1) := by decide +kernel
theorem dX9_loadLog_76 : decode cX9_loadLog 76 = .ok (.getfield 72, 3) := by decide +kernel
theorem dX9_loadLog_79 : decode cX9_loadLog 79 = .ok (.aload_n 0, 1) := by decide +kernel
theorem dX9_loadLog_80 : decode cX9_loadLog 80 = .ok (.getfield 72, 3) := by decide +kernel
theorem dX9_loadLog_83 : decode cX9_loadLog 83 = .ok (.getfield 100, 3) := by decide +kernel
theorem dX9_loadLog_86 : decode cX9_loadLog 86 = .ok (.putfield 91, 3) := by decide +kernel
theorem dX9_loadLog_89 : decode cX9_loadLog 89 = .ok (.aload_n 0, 1) := by decide +kernel
theorem dX9_loadLog_90 : decode cX9_loadLog 90 = .ok (.getfield 72, 3) := by decide +kernel
theorem dX9_loadLog_93 : decode cX9_loadLog 93 = .ok (.aload_n 0, 1) := by decide +kernel
theorem dX9_loadLog_94 : decode cX9_loadLog 94 = .ok (.getfield 72, 3) := by decide +kernel
theorem dX9_loadLog_97 : decode cX9_loadLog 97 = .ok (.getfield 100, 3) := by decide +kernel
theorem dX9_loadLog_100 : decode cX9_loadLog 100 = .ok (.putfield 94, 3) := by decide +kernel
theorem dX9_loadLog_103 : decode cX9_loadLog 103 = .ok (.iconst 0, 1) := by decide +kernel
theorem dX9_loadLog_104 : decode cX9_loadLog 104 = .ok (.istore_n 1, 1) := by decide +kernel
theorem dX9_loadLog_105 : decode cX9_loadLog 105 = .ok (.iload_n 1, 1) := by decide +kernel
theorem dX9_loadLog_106 : decode cX9_loadLog 106 = .ok (.aload_n 0, 1) := by decide +kernel
theorem dX9_loadLog_107 : decode cX9_loadLog 107 = .ok (.getfield 12, 3) := by decide +kernel
theorem dX9_loadLog_110 : decode cX9_loadLog 110 = .ok (.getfield 286, 3) := by decide +kernel
theorem dX9_loadLog_113 : decode cX9_loadLog 113 = .ok (.if_icmp .ge 75, 3) := by decide +kernel
theorem dX9_loadLog_116 : decode cX9_loadLog 116 = .ok (.aload_n 0, 1) := by decide +kernel
theorem dX9_loadLog_117 : decode cX9_loadLog 117 = .ok (.getfield 12, 3) := by decide +kernel
theorem dX9_loadLog_120 : decode cX9_loadLog 120 = .ok (.getfield 259, 3) := by decide +kernel
theorem dX9_loadLog_123 : decode cX9_loadLog 123 = .ok (.aload_n 0, 1) := by decide +kernel
theorem dX9_loadLog_124 : decode cX9_loadLog 124 = .ok (.getfield 12, 3) := by decide +kernel
theorem dX9_loadLog_127 : decode cX9_loadLog 127 = .ok (.getfield 289, 3) := by decide +kernel
theorem dX9_loadLog_130 : decode cX9_loadLog 130 = .ok (.iload_n 1, 1) := by decide +kernel
theorem dX9_loadLog_131 : decode cX9_loadLog 131 = .ok (.iaload, 1) := by decide +kernel
theorem dX9_loadLog_132 : decode cX9_loadLog 132 = .ok (.aaload, 1) := by decide +kernel
theorem dX9_loadLog_133 : decode cX9_loadLog 133 = .ok (.astore_n 2, 1) := by decide +kernel
theorem dX9_loadLog_134 : decode cX9_loadLog 134 = .ok (.iconst 0, 1) := by decide +kernel
theorem dX9_loadLog_135 : decode cX9_loadLog 135 = .ok (.aload_n 0, 1) := by decide +kernel
theorem dX9_loadLog_136 : decode cX9_loadLog 136 = .ok (.getfield 72, 3) := by decide +kernel
theorem dX9_loadLog_139 : decode cX9_loadLog 139 = .ok (.getfield 100, 3) := by decide +kernel
theorem dX9_loadLog_142 : decode cX9_loadLog 142 = .ok (.iconst 1, 1) := by decide +kernel
theorem dX9_loadLog_143 : decode cX9_loadLog 143 = .ok (.iadd, 1) := by decide +kernel
theorem dX9_loadLog_144 : decode cX9_loadLog 144 = .ok (.aload_n 2, 1) := by decide +kernel
theorem dX9_loadLog_145 : decode cX9_loadLog 145 = .ok (.getfield 263, 3) := by decide +kernel
theorem dX9_loadLog_148 : decode cX9_loadLog 148 = .ok (.isub, 1) := by decide +kernel
theorem dX9_loadLog_149 : decode cX9_loadLog 149 = .ok (.invokestatic 293, 3) := by decide +kernel
theorem dX9_loadLog_152 : decode cX9_loadLog 152 = .ok (.istore_n 3, 1) := by decide +kernel
theorem dX9_loadLog_153 : decode cX9_loadLog 153 = .ok (.iload_n 3, 1) := by decide +kernel
theorem dX9_loadLog_154 : decode cX9_loadLog 154 = .ok (.aload_n 2, 1) := by decide +kernel
theorem dX9_loadLog_155 : decode cX9_loadLog 155 = .ok (.getfield 299, 3) := by decide +kernel
theorem dX9_loadLog_158 : decode cX9_loadLog 158 = .ok (.if_icmp .ge 24, 3) := by decide +kernel
theorem dX9_loadLog_161 : decode cX9_loadLog 161 = .ok (.aload_n 0, 1) := by decide +kernel
theorem dX9_loadLog_162 : decode cX9_loadLog 162 = .ok (.getfield 72, 3) := by decide +kernel
theorem dX9_loadLog_165 : decode cX9_loadLog 165 = .ok (.aload_n 2, 1) := by decide +kernel
theorem dX9_loadLog_166 : decode cX9_loadLog 166 = .ok (.getfield 302, 3) := by decide +kernel
theorem dX9_loadLog_169 : decode cX9_loadLog 169 = .ok (.iload_n 3, 1) := by decide +kernel
theorem dX9_loadLog_170 : decode cX9_loadLog 170 = .ok (.bipush 6, 2) := by decide +kernel
theorem dX9_loadLog_172 : decode cX9_loadLog 172 = .ok (.imul, 1) := by decide +kernel
theorem dX9_loadLog_173 : decode cX9_loadLog 173 = .ok (.invokevirtual 305, 3) := by decide +kernel
theorem dX9_loadLog_176 : decode cX9_loadLog 176 = .ok (.iinc 3 1, 3) := by decide +kernel
theorem dX9_loadLog_179 : decode cX9_loadLog 179 = .ok (.goto (-26), 3) := by decide +kernel
theorem dX9_loadLog_182 : decode cX9_loadLog 182 = .ok (.iinc 1 1, 3) := by decide +kernel
theorem dX9_loadLog_185 : decode cX9_loadLog 185 = .ok (.goto (-80), 3) := by decide +kernel
theorem dX9_loadLog_188 : decode cX9_loadLog 188 = .ok (.aload_n 0, 1) := by decide +kernel
theorem dX9_loadLog_189 : decode cX9_loadLog 189 = .ok (.getfield 72, 3) := by decide +kernel
theorem dX9_loadLog_192 : decode cX9_loadLog 192 = .ok (.aload_n 0, 1) := by decide +kernel
theorem dX9_loadLog_193 : decode cX9_loadLog 193 = .ok (.getfield 72, 3) := by decide +kernel
theorem dX9_loadLog_196 : decode cX9_loadLog 196 = .ok (.getfield 103, 3) := by decide +kernel
theorem dX9_loadLog_199 : decode cX9_loadLog 199 = .ok (.putfield 97, 3) := by decide +kernel
theorem dX9_loadLog_202 : decode cX9_loadLog 202 = .ok (.return_, 1) := by decide +kernel
theorem dX9_loadTerm_0 : decode cX9_loadTerm 0 = .ok (.aload_n 0, 1) := by decide +kernel
theorem dX9_loadTerm_1 : decode cX9_loadTerm 1 = .ok (.getfield 12, 3) := by decide +kernel
theorem dX9_loadTerm_4 : decode cX9_loadTerm 4 = .ok (.getfield 308, 3) := by decide +kernel
theorem dX9_loadTerm_7 : decode cX9_loadTerm 7 = .ok (.iconst (-1), 1) := by decide +kernel
theorem dX9_loadTerm_8 : decode cX9_loadTerm 8 = .ok (.if_icmp .eq 7, 3) := by decide +kernel
theorem dX9_loadTerm_11 : decode cX9_loadTerm 11 = .ok (.iconst 1, 1) := by decide +kernel
theorem dX9_loadTerm_12 : decode cX9_loadTerm 12 = .ok (.goto 4, 3) := by decide +kernel
theorem dX9_loadTerm_15 : decode cX9_loadTerm 15 = .ok (.iconst 0, 1) := by decide +kernel
theorem dX9_loadTerm_16 : decode cX9_loadTerm 16 = .ok (.istore_n 1, 1) := by decide +kernel
theorem dX9_loadTerm_17 : decode cX9_loadTerm 17 = .ok (.aload_n 0, 1) := by decide +kernel
theorem dX9_loadTerm_18 : decode cX9_loadTerm 18 = .ok (.iload_n 1, 1) := by decide +kernel
theorem dX9_loadTerm_19 : decode cX9_loadTerm 19 = .ok (.ifCond .eq 24, 3) := by decide +kernel
theorem dX9_loadTerm_22 : decode cX9_loadTerm 22 = .ok (.aload_n 0, 1) := by decide +kernel
theorem dX9_loadTerm_23 : decode cX9_loadTerm 23 = .ok (.getfield 12, 3) := by decide +kernel
theorem dX9_loadTerm_26 : decode cX9_loadTerm 26 = .ok (.getfield 259, 3) := by decide +kernel
theorem dX9_loadTerm_29 : decode cX9_loadTerm 29 = .ok (.aload_n 0, 1) := by decide +kernel
theorem dX9_loadTerm_30 : decode cX9_loadTerm 30 = .ok (.getfield 12, 3) := by decide +kernel
theorem dX9_loadTerm_33 : decode cX9_loadTerm 33 = .ok (.getfield 308, 3) := by decide +kernel
theorem dX9_loadTerm_36 : decode cX9_loadTerm 36 = .ok (.aaload, 1) := by decide +kernel
theorem dX9_loadTerm_37 : decode cX9_loadTerm 37 = .ok (.getfield 268, 3) := by decide +kernel
theorem dX9_loadTerm_40 : decode cX9_loadTerm 40 = .ok (.goto 4, 3) := by decide +kernel
theorem dX9_loadTerm_43 : decode cX9_loadTerm 43 = .ok (.iconst 0, 1) := by decide +kernel
theorem dX9_loadTerm_44 : decode cX9_loadTerm 44 = .ok (.putfield 88, 3) := by decide +kernel
theorem dX9_loadTerm_47 : decode cX9_loadTerm 47 = .ok (.aload_n 0, 1) := by decide +kernel
theorem dX9_loadTerm_48 : decode cX9_loadTerm 48 = .ok (.iload_n 1, 1) := by decide +kernel
theorem dX9_loadTerm_49 : decode cX9_loadTerm 49 = .ok (.ifCond .eq 24, 3) := by decide +kernel
theorem dX9_loadTerm_52 : decode cX9_loadTerm 52 = .ok (.aload_n 0, 1) := by decide +kernel
theorem dX9_loadTerm_53 : decode cX9_loadTerm 53 = .ok (.getfield 12, 3) := by decide +kernel
theorem dX9_loadTerm_56 : decode cX9_loadTerm 56 = .ok (.getfield 259, 3) := by decide +kernel
theorem dX9_loadTerm_59 : decode cX9_loadTerm 59 = .ok (.aload_n 0, 1) := by decide +kernel
theorem dX9_loadTerm_60 : decode cX9_loadTerm 60 = .ok (.getfield 12, 3) := by decide +kernel
theorem dX9_loadTerm_63 : decode cX9_loadTerm 63 = .ok (.getfield 308, 3) := by decide +kernel
theorem dX9_loadTerm_66 : decode cX9_loadTerm 66 = .ok (.aaload, 1) := by decide +kernel
theorem dX9_loadTerm_67 : decode cX9_loadTerm 67 = .ok (.getfield 269, 3) := by decide +kernel
theorem dX9_loadTerm_70 : decode cX9_loadTerm 70 = .ok (.goto 4, 3) := by decide +kernel
theorem dX9_loadTerm_73 : decode cX9_loadTerm 73 = .ok (.iconst (-1), 1) := by decide +kernel
theorem dX9_loadTerm_74 : decode cX9_loadTerm 74 = .ok (.putfield 43, 3) := by decide +kernel
theorem dX9_loadTerm_77 : decode cX9_loadTerm 77 = .ok (.aload_n 0, 1) := by decide +kernel
theorem dX9_loadTerm_78 : decode cX9_loadTerm 78 = .ok (.getfield 72, 3) := by decide +kernel
theorem dX9_loadTerm_81 : decode cX9_loadTerm 81 = .ok (.aload_n 0, 1) := by decide +kernel
theorem dX9_loadTerm_82 : decode cX9_loadTerm 82 = .ok (.getfield 72, 3) := by decide +kernel
theorem dX9_loadTerm_85 : decode cX9_loadTerm 85 = .ok (.getfield 103, 3) := by decide +kernel
theorem dX9_loadTerm_88 : decode cX9_loadTerm 88 = .ok (.invokevirtual 311, 3) := by decide +kernel
theorem dX9_loadTerm_91 : decode cX9_loadTerm 91 = .ok (.istore_n 2, 1) := by decide +kernel
theorem dX9_loadTerm_92 : decode cX9_loadTerm 92 = .ok (.iload_n 2, 1) := by decide +kernel
theorem dX9_loadTerm_93 : decode cX9_loadTerm 93 = .ok (.aload_n 0, 1) := by decide +kernel
theorem dX9_loadTerm_94 : decode cX9_loadTerm 94 = .ok (.getfield 88, 3) := by decide +kernel
theorem dX9_loadTerm_97 : decode cX9_loadTerm 97 = .ok (.if_icmp .le 28, 3) := by decide +kernel
theorem dX9_loadTerm_100 : decode cX9_loadTerm 100 = .ok (.aload_n 0, 1) := by decide +kernel
theorem dX9_loadTerm_101 : decode cX9_loadTerm 101 = .ok (.iload_n 2, 1) := by decide +kernel
theorem dX9_loadTerm_102 : decode cX9_loadTerm 102 = .ok (.putfield 88, 3) := by decide +kernel
theorem dX9_loadTerm_105 : decode cX9_loadTerm 105 = .ok (.aload_n 0, 1) := by decide +kernel
theorem dX9_loadTerm_106 : decode cX9_loadTerm 106 = .ok (.iconst (-1), 1) := by decide +kernel
theorem dX9_loadTerm_107 : decode cX9_loadTerm 107 = .ok (.putfield 43, 3) := by decide +kernel
theorem dX9_loadTerm_110 : decode cX9_loadTerm 110 = .ok (.aload_n 0, 1) := by decide +kernel
theorem dX9_loadTerm_111 : decode cX9_loadTerm 111 = .ok (.getfield 12, 3) := by decide +kernel
theorem dX9_loadTerm_114 : decode cX9_loadTerm 114 = .ok (.aload_n 0, 1) := by decide +kernel
theorem dX9_loadTerm_115 : decode cX9_loadTerm 115 = .ok (.getfield 88, 3) := by decide +kernel
theorem dX9_loadTerm_118 : decode cX9_loadTerm 118 = .ok (.aload_n 0, 1) := by decide +kernel
theorem dX9_loadTerm_119 : decode cX9_loadTerm 119 = .ok (.getfield 43, 3) := by decide +kernel
theorem dX9_loadTerm_122 : decode cX9_loadTerm 122 = .ok (.invokevirtual 314, 3) := by decide +kernel
theorem dX9_loadTerm_125 : decode cX9_loadTerm 125 = .ok (.return_, 1) := by decide +kernel
theorem dX9_soil_0 : decode cX9_soil 0 = .ok (.aload_n 0, 1) := by decide +kernel
theorem dX9_soil_1 : decode cX9_soil 1 = .ok (.getfield 115, 3) := by decide +kernel
theorem dX9_soil_4 : decode cX9_soil 4 = .ok (.ifCond .ne 42, 3) := by decide +kernel
theorem dX9_soil_7 : decode cX9_soil 7 = .ok (.aload_n 0, 1) := by decide +kernel
theorem dX9_soil_8 : decode cX9_soil 8 = .ok (.iconst 1, 1) := by decide +kernel
theorem dX9_soil_9 : decode cX9_soil 9 = .ok (.putfield 115, 3) := by decide +kernel
theorem dX9_soil_12 : decode cX9_soil 12 = .ok (.aload_n 0, 1) := by decide +kernel
theorem dX9_soil_13 : decode cX9_soil 13 = .ok (.getfield 63, 3) := by decide +kernel
theorem dX9_soil_16 : decode cX9_soil 16 = .ok (.bipush 16, 2) := by decide +kernel
theorem dX9_soil_18 : decode cX9_soil 18 = .ok (.aload_n 0, 1) := by decide +kernel
theorem dX9_soil_19 : decode cX9_soil 19 = .ok (.getfield 60, 3) := by decide +kernel
theorem dX9_soil_22 : decode cX9_soil 22 = .ok (.iadd, 1) := by decide +kernel
theorem dX9_soil_23 : decode cX9_soil 23 = .ok (.aload_n 0, 1) := by decide +kernel
theorem dX9_soil_24 : decode cX9_soil 24 = .ok (.getfield 63, 3) := by decide +kernel
theorem dX9_soil_27 : decode cX9_soil 27 = .ok (.getfield 241, 3) := by decide +kernel
theorem dX9_soil_30 : decode cX9_soil 30 = .ok (.aload_n 0, 1) := by decide +kernel
theorem dX9_soil_31 : decode cX9_soil 31 = .ok (.getfield 63, 3) := by decide +kernel
theorem dX9_soil_34 : decode cX9_soil 34 = .ok (.getfield 317, 3) := by decide +kernel
theorem dX9_soil_37 : decode cX9_soil 37 = .ok (.aload_n 0, 1) := by decide +kernel
theorem dX9_soil_38 : decode cX9_soil 38 = .ok (.getfield 60, 3) := by decide +kernel
theorem dX9_soil_41 : decode cX9_soil 41 = .ok (.iaload, 1) := by decide +kernel
theorem dX9_soil_42 : decode cX9_soil 42 = .ok (.iadd, 1) := by decide +kernel
theorem dX9_soil_43 : decode cX9_soil 43 = .ok (.invokevirtual 320, 3) := by decide +kernel
theorem dX9_soil_46 : decode cX9_soil 46 = .ok (.return_, 1) := by decide +kernel
theorem dX9_saveTerm_0 : decode cX9_saveTerm 0 = .ok (.aload_n 0, 1) := by decide +kernel
theorem dX9_saveTerm_1 : decode cX9_saveTerm 1 = .ok (.iload_n 1, 1) := by decide +kernel
theorem dX9_saveTerm_2 : decode cX9_saveTerm 2 = .ok (.putfield 88, 3) := by decide +kernel
theorem dX9_saveTerm_5 : decode cX9_saveTerm 5 = .ok (.aload_n 0, 1) := by decide +kernel
theorem dX9_saveTerm_6 : decode cX9_saveTerm 6 = .ok (.iload_n 2, 1) := by decide +kernel
theorem dX9_saveTerm_7 : decode cX9_saveTerm 7 = .ok (.putfield 43, 3) := by decide +kernel
theorem dX9_saveTerm_10 : decode cX9_saveTerm 10 = .ok (.aload_n 0, 1) := by decide +kernel
theorem dX9_saveTerm_11 : decode cX9_saveTerm 11 = .ok (.getfield 12, 3) := by decide +kernel
theorem dX9_saveTerm_14 : decode cX9_saveTerm 14 = .ok (.aload_n 0, 1) := by decide +kernel
theorem dX9_saveTerm_15 : decode cX9_saveTerm 15 = .ok (.getfield 88, 3) := by decide +kernel
theorem dX9_saveTerm_18 : decode cX9_saveTerm 18 = .ok (.aload_n 0, 1) := by decide +kernel
theorem dX9_saveTerm_19 : decode cX9_saveTerm 19 = .ok (.getfield 43, 3) := by decide +kernel
theorem dX9_saveTerm_22 : decode cX9_saveTerm 22 = .ok (.invokevirtual 314, 3) := by decide +kernel
theorem dX9_saveTerm_25 : decode cX9_saveTerm 25 = .ok (.aload_n 0, 1) := by decide +kernel
theorem dX9_saveTerm_26 : decode cX9_saveTerm 26 = .ok (.invokevirtual 323, 3) := by decide +kernel
theorem dX9_saveTerm_29 : decode cX9_saveTerm 29 = .ok (.return_, 1) := by decide +kernel
theorem dX9_append_0 : decode cX9_append 0 = .ok (.aload_n 0, 1) := by decide +kernel
theorem dX9_append_1 : decode cX9_append 1 = .ok (.getfield 72, 3) := by decide +kernel
theorem dX9_append_4 : decode cX9_append 4 = .ok (.invokevirtual 326, 3) := by decide +kernel
theorem dX9_append_7 : decode cX9_append 7 = .ok (.sipush 300, 3) := by decide +kernel
theorem dX9_append_10 : decode cX9_append 10 = .ok (.if_icmp .ge 48, 3) := by decide +kernel
theorem dX9_append_13 : decode cX9_append 13 = .ok (.aload_n 0, 1) := by decide +kernel
theorem dX9_append_14 : decode cX9_append 14 = .ok (.getfield 12, 3) := by decide +kernel
theorem dX9_append_17 : decode cX9_append 17 = .ok (.aload_n 1, 1) := by decide +kernel
theorem dX9_append_18 : decode cX9_append 18 = .ok (.iload_n 2, 1) := by decide +kernel
theorem dX9_append_19 : decode cX9_append 19 = .ok (.aload_n 0, 1) := by decide +kernel
theorem dX9_append_20 : decode cX9_append 20 = .ok (.getfield 72, 3) := by decide +kernel
theorem dX9_append_23 : decode cX9_append 23 = .ok (.getfield 103, 3) := by decide +kernel
theorem dX9_append_26 : decode cX9_append 26 = .ok (.iconst 1, 1) := by decide +kernel
theorem dX9_append_27 : decode cX9_append 27 = .ok (.iadd, 1) := by decide +kernel
theorem dX9_append_28 : decode cX9_append 28 = .ok (.aload_n 0, 1) := by decide +kernel
theorem dX9_append_29 : decode cX9_append 29 = .ok (.getfield 72, 3) := by decide +kernel
theorem dX9_append_32 : decode cX9_append 32 = .ok (.aload_n 0, 1) := by decide +kernel
theorem dX9_append_33 : decode cX9_append 33 = .ok (.getfield 72, 3) := by decide +kernel
theorem dX9_append_36 : decode cX9_append 36 = .ok (.getfield 103, 3) := by decide +kernel
theorem dX9_append_39 : decode cX9_append 39 = .ok (.invokevirtual 311, 3) := by decide +kernel
theorem dX9_append_42 : decode cX9_append 42 = .ok (.invokevirtual 328, 3) := by decide +kernel
theorem dX9_append_45 : decode cX9_append 45 = .ok (.aload_n 0, 1) := by decide +kernel
theorem dX9_append_46 : decode cX9_append 46 = .ok (.getfield 72, 3) := by decide +kernel
theorem dX9_append_49 : decode cX9_append 49 = .ok (.aload_n 1, 1) := by decide +kernel
theorem dX9_append_50 : decode cX9_append 50 = .ok (.iload_n 2, 1) := by decide +kernel
theorem dX9_append_51 : decode cX9_append 51 = .ok (.invokevirtual 305, 3) := by decide +kernel
theorem dX9_append_54 : decode cX9_append 54 = .ok (.aload_n 0, 1) := by decide +kernel
theorem dX9_append_55 : decode cX9_append 55 = .ok (.invokevirtual 323, 3) := by decide +kernel
theorem dX9_append_58 : decode cX9_append 58 = .ok (.return_, 1) := by decide +kernel
theorem dX9_letterTo_0 : decode cX9_letterTo 0 = .ok (.aload_n 0, 1) := by decide +kernel
theorem dX9_letterTo_1 : decode cX9_letterTo 1 = .ok (.getfield 63, 3) := by decide +kernel
theorem dX9_letterTo_4 : decode cX9_letterTo 4 = .ok (.invokevirtual 332, 3) := by decide +kernel
theorem dX9_letterTo_7 : decode cX9_letterTo 7 = .ok (.astore_n 3, 1) := by decide +kernel
theorem dX9_letterTo_8 : decode cX9_letterTo 8 = .ok (.aload_n 3, 1) := by decide +kernel
theorem dX9_letterTo_9 : decode cX9_letterTo 9 = .ok (.aload_n 0, 1) := by decide +kernel
theorem dX9_letterTo_10 : decode cX9_letterTo 10 = .ok (.getfield 60, 3) := by decide +kernel
theorem dX9_letterTo_13 : decode cX9_letterTo 13 = .ok (.putfield 181, 3) := by decide +kernel
theorem dX9_letterTo_16 : decode cX9_letterTo 16 = .ok (.aload_n 3, 1) := by decide +kernel
theorem dX9_letterTo_17 : decode cX9_letterTo 17 = .ok (.iload_n 1, 1) := by decide +kernel
theorem dX9_letterTo_18 : decode cX9_letterTo 18 = .ok (.putfield 336, 3) := by decide +kernel
theorem dX9_letterTo_21 : decode cX9_letterTo 21 = .ok (.aload_n 3, 1) := by decide +kernel
theorem dX9_letterTo_22 : decode cX9_letterTo 22 = .ok (.iload_n 2, 1) := by decide +kernel
theorem dX9_letterTo_23 : decode cX9_letterTo 23 = .ok (.putfield 339, 3) := by decide +kernel
theorem dX9_letterTo_26 : decode cX9_letterTo 26 = .ok (.aload_n 3, 1) := by decide +kernel
theorem dX9_letterTo_27 : decode cX9_letterTo 27 = .ok (.aload_n 0, 1) := by decide +kernel
theorem dX9_letterTo_28 : decode cX9_letterTo 28 = .ok (.getfield 88, 3) := by decide +kernel
theorem dX9_letterTo_31 : decode cX9_letterTo 31 = .ok (.putfield 342, 3) := by decide +kernel
theorem dX9_letterTo_34 : decode cX9_letterTo 34 = .ok (.aload_n 3, 1) := by decide +kernel
theorem dX9_letterTo_35 : decode cX9_letterTo 35 = .ok (.iconst 0, 1) := by decide +kernel
theorem dX9_letterTo_36 : decode cX9_letterTo 36 = .ok (.putfield 343, 3) := by decide +kernel
theorem dX9_letterTo_39 : decode cX9_letterTo 39 = .ok (.aload_n 3, 1) := by decide +kernel
theorem dX9_letterTo_40 : decode cX9_letterTo 40 = .ok (.iconst 0, 1) := by decide +kernel
theorem dX9_letterTo_41 : decode cX9_letterTo 41 = .ok (.putfield 346, 3) := by decide +kernel
theorem dX9_letterTo_44 : decode cX9_letterTo 44 = .ok (.aload_n 3, 1) := by decide +kernel
theorem dX9_letterTo_45 : decode cX9_letterTo 45 = .ok (.areturn, 1) := by decide +kernel
theorem dX9_dispatch_0 : decode cX9_dispatch 0 = .ok (.aload_n 0, 1) := by decide +kernel
theorem dX9_dispatch_1 : decode cX9_dispatch 1 = .ok (.getfield 115, 3) := by decide +kernel
theorem dX9_dispatch_4 : decode cX9_dispatch 4 = .ok (.ifCond .ne 14, 3) := by decide +kernel
theorem dX9_dispatch_7 : decode cX9_dispatch 7 = .ok (.aload_n 0, 1) := by decide +kernel
theorem dX9_dispatch_8 : decode cX9_dispatch 8 = .ok (.getfield 63, 3) := by decide +kernel
theorem dX9_dispatch_11 : decode cX9_dispatch 11 = .ok (.aload_n 1, 1) := by decide +kernel
theorem dX9_dispatch_12 : decode cX9_dispatch 12 = .ok (.invokevirtual 347, 3) := by decide +kernel
theorem dX9_dispatch_15 : decode cX9_dispatch 15 = .ok (.goto 39, 3) := by decide +kernel
theorem dX9_dispatch_18 : decode cX9_dispatch 18 = .ok (.aload_n 0, 1) := by decide +kernel
theorem dX9_dispatch_19 : decode cX9_dispatch 19 = .ok (.getfield 35, 3) := by decide +kernel
theorem dX9_dispatch_22 : decode cX9_dispatch 22 = .ok (.invokevirtual 121, 3) := by decide +kernel
theorem dX9_dispatch_25 : decode cX9_dispatch 25 = .ok (.bipush 32, 2) := by decide +kernel
theorem dX9_dispatch_27 : decode cX9_dispatch 27 = .ok (.if_icmp .ge 15, 3) := by decide +kernel
theorem dX9_dispatch_30 : decode cX9_dispatch 30 = .ok (.aload_n 0, 1) := by decide +kernel
theorem dX9_dispatch_31 : decode cX9_dispatch 31 = .ok (.getfield 35, 3) := by decide +kernel
theorem dX9_dispatch_34 : decode cX9_dispatch 34 = .ok (.aload_n 1, 1) := by decide +kernel
theorem dX9_dispatch_35 : decode cX9_dispatch 35 = .ok (.invokevirtual 210, 3) := by decide +kernel
theorem dX9_dispatch_38 : decode cX9_dispatch 38 = .ok (.pop, 1) := by decide +kernel
theorem dX9_dispatch_39 : decode cX9_dispatch 39 = .ok (.goto 15, 3) := by decide +kernel
theorem dX9_dispatch_42 : decode cX9_dispatch 42 = .ok (.aload_n 0, 1) := by decide +kernel
theorem dX9_dispatch_43 : decode cX9_dispatch 43 = .ok (.getfield 63, 3) := by decide +kernel
theorem dX9_dispatch_46 : decode cX9_dispatch 46 = .ok (.getfield 201, 3) := by decide +kernel
theorem dX9_dispatch_49 : decode cX9_dispatch 49 = .ok (.aload_n 1, 1) := by decide +kernel
theorem dX9_dispatch_50 : decode cX9_dispatch 50 = .ok (.invokevirtual 210, 3) := by decide +kernel
theorem dX9_dispatch_53 : decode cX9_dispatch 53 = .ok (.pop, 1) := by decide +kernel
theorem dX9_dispatch_54 : decode cX9_dispatch 54 = .ok (.return_, 1) := by decide +kernel
theorem dX9_postWaiting_0 : decode cX9_postWaiting 0 = .ok (.iconst 0, 1) := by decide +kernel
theorem dX9_postWaiting_1 : decode cX9_postWaiting 1 = .ok (.istore_n 1, 1) := by decide +kernel
theorem dX9_postWaiting_2 : decode cX9_postWaiting 2 = .ok (.iload_n 1, 1) := by decide +kernel
theorem dX9_postWaiting_3 : decode cX9_postWaiting 3 = .ok (.aload_n 0, 1) := by decide +kernel
theorem dX9_postWaiting_4 : decode cX9_postWaiting 4 = .ok (.getfield 35, 3) := by decide +kernel
theorem dX9_postWaiting_7 : decode cX9_postWaiting 7 = .ok (.invokevirtual 121, 3) := by decide +kernel
theorem dX9_postWaiting_10 : decode cX9_postWaiting 10 = .ok (.if_icmp .ge 27, 3) := by decide +kernel
theorem dX9_postWaiting_13 : decode cX9_postWaiting 13 = .ok (.aload_n 0, 1) := by decide +kernel
theorem dX9_postWaiting_14 : decode cX9_postWaiting 14 = .ok (.getfield 63, 3) := by decide +kernel
theorem dX9_postWaiting_17 : decode cX9_postWaiting 17 = .ok (.aload_n 0, 1) := by decide +kernel
theorem dX9_postWaiting_18 : decode cX9_postWaiting 18 = .ok (.getfield 35, 3) := by decide +kernel
theorem dX9_postWaiting_21 : decode cX9_postWaiting 21 = .ok (.iload_n 1, 1) := by decide +kernel
theorem dX9_postWaiting_22 : decode cX9_postWaiting 22 = .ok (.invokevirtual 206, 3) := by decide +kernel
theorem dX9_postWaiting_25 : decode cX9_postWaiting 25 = .ok (.checkcast 182, 3) := by decide +kernel
theorem dX9_postWaiting_28 : decode cX9_postWaiting 28 = .ok (.invokevirtual 347, 3) := by decide +kernel
theorem dX9_postWaiting_31 : decode cX9_postWaiting 31 = .ok (.iinc 1 1, 3) := by decide +kernel
theorem dX9_postWaiting_34 : decode cX9_postWaiting 34 = .ok (.goto (-32), 3) := by decide +kernel
theorem dX9_postWaiting_37 : decode cX9_postWaiting 37 = .ok (.aload_n 0, 1) := by decide +kernel
theorem dX9_postWaiting_38 : decode cX9_postWaiting 38 = .ok (.getfield 35, 3) := by decide +kernel
theorem dX9_postWaiting_41 : decode cX9_postWaiting 41 = .ok (.invokevirtual 214, 3) := by decide +kernel
theorem dX9_postWaiting_44 : decode cX9_postWaiting 44 = .ok (.return_, 1) := by decide +kernel
theorem dX9_reply_0 : decode cX9_reply 0 = .ok (.aload_n 0, 1) := by decide +kernel
theorem dX9_reply_1 : decode cX9_reply 1 = .ok (.iload_n 1, 1) := by decide +kernel
theorem dX9_reply_2 : decode cX9_reply 2 = .ok (.bipush 11, 2) := by decide +kernel
theorem dX9_reply_4 : decode cX9_reply 4 = .ok (.invokevirtual 351, 3) := by decide +kernel
theorem dX9_reply_7 : decode cX9_reply 7 = .ok (.astore 6, 2) := by decide +kernel
theorem dX9_reply_9 : decode cX9_reply 9 = .ok (.aload 6, 2) := by decide +kernel
theorem dX9_reply_11 : decode cX9_reply 11 = .ok (.iload_n 2, 1) := by decide +kernel
theorem dX9_reply_12 : decode cX9_reply 12 = .ok (.putfield 342, 3) := by decide +kernel
theorem dX9_reply_15 : decode cX9_reply 15 = .ok (.aload 6, 2) := by decide +kernel
theorem dX9_reply_17 : decode cX9_reply 17 = .ok (.iload_n 3, 1) := by decide +kernel
theorem dX9_reply_18 : decode cX9_reply 18 = .ok (.putfield 343, 3) := by decide +kernel
theorem dX9_reply_21 : decode cX9_reply 21 = .ok (.aload 6, 2) := by decide +kernel
theorem dX9_reply_23 : decode cX9_reply 23 = .ok (.iload 4, 2) := by decide +kernel
theorem dX9_reply_25 : decode cX9_reply 25 = .ok (.putfield 189, 3) := by decide +kernel
theorem dX9_reply_28 : decode cX9_reply 28 = .ok (.aload 6, 2) := by decide +kernel
theorem dX9_reply_30 : decode cX9_reply 30 = .ok (.aload_n 0, 1) := by decide +kernel
theorem dX9_reply_31 : decode cX9_reply 31 = .ok (.getfield 81, 3) := by decide +kernel
theorem dX9_reply_34 : decode cX9_reply 34 = .ok (.getfield 355, 3) := by decide +kernel
theorem dX9_reply_37 : decode cX9_reply 37 = .ok (.iconst 0, 1) := by decide +kernel
theorem dX9_reply_38 : decode cX9_reply 38 = .ok (.iload 5, 2) := by decide +kernel
theorem dX9_reply_40 : decode cX9_reply 40 = .ok (.invokevirtual 358, 3) := by decide +kernel
theorem dX9_reply_43 : decode cX9_reply 43 = .ok (.aload_n 0, 1) := by decide +kernel
theorem dX9_reply_44 : decode cX9_reply 44 = .ok (.aload 6, 2) := by decide +kernel
theorem dX9_reply_46 : decode cX9_reply 46 = .ok (.invokevirtual 362, 3) := by decide +kernel
theorem dX9_reply_49 : decode cX9_reply 49 = .ok (.return_, 1) := by decide +kernel
theorem dX9_sendAppended_0 : decode cX9_sendAppended 0 = .ok (.aload_n 0, 1) := by decide +kernel
theorem dX9_sendAppended_1 : decode cX9_sendAppended 1 = .ok (.iload_n 1, 1) := by decide +kernel
theorem dX9_sendAppended_2 : decode cX9_sendAppended 2 = .ok (.bipush 6, 2) := by decide +kernel
theorem dX9_sendAppended_4 : decode cX9_sendAppended 4 = .ok (.invokevirtual 351, 3) := by decide +kernel
theorem dX9_sendAppended_7 : decode cX9_sendAppended 7 = .ok (.astore 5, 2) := by decide +kernel
theorem dX9_sendAppended_9 : decode cX9_sendAppended 9 = .ok (.aload 5, 2) := by decide +kernel
theorem dX9_sendAppended_11 : decode cX9_sendAppended 11 = .ok (.iload_n 2, 1) := by decide +kernel
theorem dX9_sendAppended_12 : decode cX9_sendAppended 12 = .ok (.putfield 343, 3) := by decide +kernel
theorem dX9_sendAppended_15 : decode cX9_sendAppended 15 = .ok (.aload 5, 2) := by decide +kernel
theorem dX9_sendAppended_17 : decode cX9_sendAppended 17 = .ok (.iload_n 3, 1) := by decide +kernel
theorem dX9_sendAppended_18 : decode cX9_sendAppended 18 = .ok (.putfield 189, 3) := by decide +kernel
theorem dX9_sendAppended_21 : decode cX9_sendAppended 21 = .ok (.aload 5, 2) := by decide +kernel
theorem dX9_sendAppended_23 : decode cX9_sendAppended 23 = .ok (.iload 4, 2) := by decide +kernel
theorem dX9_sendAppended_25 : decode cX9_sendAppended 25 = .ok (.putfield 192, 3) := by decide +kernel
theorem dX9_sendAppended_28 : decode cX9_sendAppended 28 = .ok (.aload_n 0, 1) := by decide +kernel
theorem dX9_sendAppended_29 : decode cX9_sendAppended 29 = .ok (.aload 5, 2) := by decide +kernel
theorem dX9_sendAppended_31 : decode cX9_sendAppended 31 = .ok (.invokevirtual 362, 3) := by decide +kernel
theorem dX9_sendAppended_34 : decode cX9_sendAppended 34 = .ok (.return_, 1) := by decide +kernel
theorem dX9_sendStored_0 : decode cX9_sendStored 0 = .ok (.aload_n 0, 1) := by decide +kernel
theorem dX9_sendStored_1 : decode cX9_sendStored 1 = .ok (.iload_n 1, 1) := by decide +kernel
theorem dX9_sendStored_2 : decode cX9_sendStored 2 = .ok (.bipush 8, 2) := by decide +kernel
theorem dX9_sendStored_4 : decode cX9_sendStored 4 = .ok (.invokevirtual 351, 3) := by decide +kernel
theorem dX9_sendStored_7 : decode cX9_sendStored 7 = .ok (.astore 5, 2) := by decide +kernel
theorem dX9_sendStored_9 : decode cX9_sendStored 9 = .ok (.aload 5, 2) := by decide +kernel
theorem dX9_sendStored_11 : decode cX9_sendStored 11 = .ok (.iload_n 2, 1) := by decide +kernel
theorem dX9_sendStored_12 : decode cX9_sendStored 12 = .ok (.putfield 189, 3) := by decide +kernel
theorem dX9_sendStored_15 : decode cX9_sendStored 15 = .ok (.aload 5, 2) := by decide +kernel
theorem dX9_sendStored_17 : decode cX9_sendStored 17 = .ok (.iload_n 3, 1) := by decide +kernel
theorem dX9_sendStored_18 : decode cX9_sendStored 18 = .ok (.putfield 365, 3) := by decide +kernel
theorem dX9_sendStored_21 : decode cX9_sendStored 21 = .ok (.aload 5, 2) := by decide +kernel
theorem dX9_sendStored_23 : decode cX9_sendStored 23 = .ok (.iload 4, 2) := by decide +kernel
theorem dX9_sendStored_25 : decode cX9_sendStored 25 = .ok (.putfield 192, 3) := by decide +kernel
theorem dX9_sendStored_28 : decode cX9_sendStored 28 = .ok (.aload_n 0, 1) := by decide +kernel
theorem dX9_sendStored_29 : decode cX9_sendStored 29 = .ok (.aload 5, 2) := by decide +kernel
theorem dX9_sendStored_31 : decode cX9_sendStored 31 = .ok (.invokevirtual 362, 3) := by decide +kernel
theorem dX9_sendStored_34 : decode cX9_sendStored 34 = .ok (.return_, 1) := by decide +kernel
theorem dX9_sendVote_0 : decode cX9_sendVote 0 = .ok (.aload_n 0, 1) := by decide +kernel
theorem dX9_sendVote_1 : decode cX9_sendVote 1 = .ok (.iload_n 1, 1) := by decide +kernel
theorem dX9_sendVote_2 : decode cX9_sendVote 2 = .ok (.iload_n 2, 1) := by decide +kernel
theorem dX9_sendVote_3 : decode cX9_sendVote 3 = .ok (.invokevirtual 351, 3) := by decide +kernel
theorem dX9_sendVote_6 : decode cX9_sendVote 6 = .ok (.astore 5, 2) := by decide +kernel
theorem dX9_sendVote_8 : decode cX9_sendVote 8 = .ok (.aload 5, 2) := by decide +kernel
theorem dX9_sendVote_10 : decode cX9_sendVote 10 = .ok (.iload_n 3, 1) := by decide +kernel
theorem dX9_sendVote_11 : decode cX9_sendVote 11 = .ok (.putfield 342, 3) := by decide +kernel
theorem dX9_sendVote_14 : decode cX9_sendVote 14 = .ok (.aload 5, 2) := by decide +kernel
theorem dX9_sendVote_16 : decode cX9_sendVote 16 = .ok (.iload 4, 2) := by decide +kernel
theorem dX9_sendVote_18 : decode cX9_sendVote 18 = .ok (.ifCond .eq 7, 3) := by decide +kernel
theorem dX9_sendVote_21 : decode cX9_sendVote 21 = .ok (.iconst 1, 1) := by decide +kernel
theorem dX9_sendVote_22 : decode cX9_sendVote 22 = .ok (.goto 4, 3) := by decide +kernel
theorem dX9_sendVote_25 : decode cX9_sendVote 25 = .ok (.iconst 0, 1) := by decide +kernel
theorem dX9_sendVote_26 : decode cX9_sendVote 26 = .ok (.putfield 343, 3) := by decide +kernel
theorem dX9_sendVote_29 : decode cX9_sendVote 29 = .ok (.aload_n 0, 1) := by decide +kernel
theorem dX9_sendVote_30 : decode cX9_sendVote 30 = .ok (.aload 5, 2) := by decide +kernel
theorem dX9_sendVote_32 : decode cX9_sendVote 32 = .ok (.invokevirtual 362, 3) := by decide +kernel
theorem dX9_sendVote_35 : decode cX9_sendVote 35 = .ok (.return_, 1) := by decide +kernel
theorem dX9_askVoters_0 : decode cX9_askVoters 0 = .ok (.aload_n 0, 1) := by decide +kernel
theorem dX9_askVoters_1 : decode cX9_askVoters 1 = .ok (.invokevirtual 367, 3) := by decide +kernel
theorem dX9_askVoters_4 : decode cX9_askVoters 4 = .ok (.iconst 1, 1) := by decide +kernel
theorem dX9_askVoters_5 : decode cX9_askVoters 5 = .ok (.aload_n 0, 1) := by decide +kernel
theorem dX9_askVoters_6 : decode cX9_askVoters 6 = .ok (.getfield 60, 3) := by decide +kernel
theorem dX9_askVoters_9 : decode cX9_askVoters 9 = .ok (.ishl, 1) := by decide +kernel
theorem dX9_askVoters_10 : decode cX9_askVoters 10 = .ok (.iconst (-1), 1) := by decide +kernel
theorem dX9_askVoters_11 : decode cX9_askVoters 11 = .ok (.ixor, 1) := by decide +kernel
theorem dX9_askVoters_12 : decode cX9_askVoters 12 = .ok (.iand, 1) := by decide +kernel
theorem dX9_askVoters_13 : decode cX9_askVoters 13 = .ok (.istore_n 3, 1) := by decide +kernel
theorem dX9_askVoters_14 : decode cX9_askVoters 14 = .ok (.iconst 0, 1) := by decide +kernel
theorem dX9_askVoters_15 : decode cX9_askVoters 15 = .ok (.istore 4, 2) := by decide +kernel
theorem dX9_askVoters_17 : decode cX9_askVoters 17 = .ok (.iload 4, 2) := by decide +kernel
theorem dX9_askVoters_19 : decode cX9_askVoters 19 = .ok (.bipush 7, 2) := by decide +kernel
theorem dX9_askVoters_21 : decode cX9_askVoters 21 = .ok (.if_icmp .ge 70, 3) := by decide +kernel
theorem dX9_askVoters_24 : decode cX9_askVoters 24 = .ok (.iload_n 3, 1) := by decide +kernel
theorem dX9_askVoters_25 : decode cX9_askVoters 25 = .ok (.iload 4, 2) := by decide +kernel
theorem dX9_askVoters_27 : decode cX9_askVoters 27 = .ok (.ishr, 1) := by decide +kernel
theorem dX9_askVoters_28 : decode cX9_askVoters 28 = .ok (.iconst 1, 1) := by decide +kernel
theorem dX9_askVoters_29 : decode cX9_askVoters 29 = .ok (.iand, 1) := by decide +kernel
theorem dX9_askVoters_30 : decode cX9_askVoters 30 = .ok (.ifCond .eq 55, 3) := by decide +kernel
theorem dX9_askVoters_33 : decode cX9_askVoters 33 = .ok (.aload_n 0, 1) := by decide +kernel
theorem dX9_askVoters_34 : decode cX9_askVoters 34 = .ok (.iload 4, 2) := by decide +kernel
theorem dX9_askVoters_36 : decode cX9_askVoters 36 = .ok (.iload_n 1, 1) := by decide +kernel
theorem dX9_askVoters_37 : decode cX9_askVoters 37 = .ok (.invokevirtual 351, 3) := by decide +kernel
theorem dX9_askVoters_40 : decode cX9_askVoters 40 = .ok (.astore 5, 2) := by decide +kernel
theorem dX9_askVoters_42 : decode cX9_askVoters 42 = .ok (.aload 5, 2) := by decide +kernel
theorem dX9_askVoters_44 : decode cX9_askVoters 44 = .ok (.iload_n 2, 1) := by decide +kernel
theorem dX9_askVoters_45 : decode cX9_askVoters 45 = .ok (.putfield 342, 3) := by decide +kernel
theorem dX9_askVoters_48 : decode cX9_askVoters 48 = .ok (.aload 5, 2) := by decide +kernel
theorem dX9_askVoters_50 : decode cX9_askVoters 50 = .ok (.aload_n 0, 1) := by decide +kernel
theorem dX9_askVoters_51 : decode cX9_askVoters 51 = .ok (.getfield 72, 3) := by decide +kernel
theorem dX9_askVoters_54 : decode cX9_askVoters 54 = .ok (.getfield 103, 3) := by decide +kernel
theorem dX9_askVoters_57 : decode cX9_askVoters 57 = .ok (.putfield 189, 3) := by decide +kernel
theorem dX9_askVoters_60 : decode cX9_askVoters 60 = .ok (.aload 5, 2) := by decide +kernel
theorem dX9_askVoters_62 : decode cX9_askVoters 62 = .ok (.aload_n 0, 1) := by decide +kernel
theorem dX9_askVoters_63 : decode cX9_askVoters 63 = .ok (.getfield 72, 3) := by decide +kernel
theorem dX9_askVoters_66 : decode cX9_askVoters 66 = .ok (.aload_n 0, 1) := by decide +kernel
theorem dX9_askVoters_67 : decode cX9_askVoters 67 = .ok (.getfield 72, 3) := by decide +kernel
theorem dX9_askVoters_70 : decode cX9_askVoters 70 = .ok (.getfield 103, 3) := by decide +kernel
theorem dX9_askVoters_73 : decode cX9_askVoters 73 = .ok (.invokevirtual 311, 3) := by decide +kernel
theorem dX9_askVoters_76 : decode cX9_askVoters 76 = .ok (.putfield 370, 3) := by decide +kernel
theorem dX9_askVoters_79 : decode cX9_askVoters 79 = .ok (.aload_n 0, 1) := by decide +kernel
theorem dX9_askVoters_80 : decode cX9_askVoters 80 = .ok (.aload 5, 2) := by decide +kernel
theorem dX9_askVoters_82 : decode cX9_askVoters 82 = .ok (.invokevirtual 362, 3) := by decide +kernel
theorem dX9_askVoters_85 : decode cX9_askVoters 85 = .ok (.iinc 4 1, 3) := by decide +kernel
theorem dX9_askVoters_88 : decode cX9_askVoters 88 = .ok (.goto (-71), 3) := by decide +kernel
theorem dX9_askVoters_91 : decode cX9_askVoters 91 = .ok (.return_, 1) := by decide +kernel
theorem dX9_sendToAll_0 : decode cX9_sendToAll 0 = .ok (.aload_n 0, 1) := by decide +kernel
theorem dX9_sendToAll_1 : decode cX9_sendToAll 1 = .ok (.invokevirtual 373, 3) := by decide +kernel
theorem dX9_sendToAll_4 : decode cX9_sendToAll 4 = .ok (.istore_n 2, 1) := by decide +kernel
theorem dX9_sendToAll_5 : decode cX9_sendToAll 5 = .ok (.iconst 0, 1) := by decide +kernel
theorem dX9_sendToAll_6 : decode cX9_sendToAll 6 = .ok (.istore_n 3, 1) := by decide +kernel
theorem dX9_sendToAll_7 : decode cX9_sendToAll 7 = .ok (.iload_n 3, 1) := by decide +kernel
theorem dX9_sendToAll_8 : decode cX9_sendToAll 8 = .ok (.bipush 7, 2) := by decide +kernel
theorem dX9_sendToAll_10 : decode cX9_sendToAll 10 = .ok (.if_icmp .ge 23, 3) := by decide +kernel
theorem dX9_sendToAll_13 : decode cX9_sendToAll 13 = .ok (.iload_n 2, 1) := by decide +kernel
theorem dX9_sendToAll_14 : decode cX9_sendToAll 14 = .ok (.iload_n 3, 1) := by decide +kernel
theorem dX9_sendToAll_15 : decode cX9_sendToAll 15 = .ok (.ishr, 1) := by decide +kernel
theorem dX9_sendToAll_16 : decode cX9_sendToAll 16 = .ok (.iconst 1, 1) := by decide +kernel
theorem dX9_sendToAll_17 : decode cX9_sendToAll 17 = .ok (.iand, 1) := by decide +kernel
theorem dX9_sendToAll_18 : decode cX9_sendToAll 18 = .ok (.ifCond .eq 9, 3) := by decide +kernel
theorem dX9_sendToAll_21 : decode cX9_sendToAll 21 = .ok (.aload_n 0, 1) := by decide +kernel
theorem dX9_sendToAll_22 : decode cX9_sendToAll 22 = .ok (.iload_n 3, 1) := by decide +kernel
theorem dX9_sendToAll_23 : decode cX9_sendToAll 23 = .ok (.iload_n 1, 1) := by decide +kernel
theorem dX9_sendToAll_24 : decode cX9_sendToAll 24 = .ok (.invokevirtual 376, 3) := by decide +kernel
theorem dX9_sendToAll_27 : decode cX9_sendToAll 27 = .ok (.iinc 3 1, 3) := by decide +kernel
theorem dX9_sendToAll_30 : decode cX9_sendToAll 30 = .ok (.goto (-23), 3) := by decide +kernel
theorem dX9_sendToAll_33 : decode cX9_sendToAll 33 = .ok (.return_, 1) := by decide +kernel
theorem dX9_sendTo_0 : decode cX9_sendTo 0 = .ok (.aload_n 0, 1) := by decide +kernel
theorem dX9_sendTo_1 : decode cX9_sendTo 1 = .ok (.getfield 21, 3) := by decide +kernel
theorem dX9_sendTo_4 : decode cX9_sendTo 4 = .ok (.getfield 380, 3) := by decide +kernel
theorem dX9_sendTo_7 : decode cX9_sendTo 7 = .ok (.iload_n 1, 1) := by decide +kernel
theorem dX9_sendTo_8 : decode cX9_sendTo 8 = .ok (.iaload, 1) := by decide +kernel
theorem dX9_sendTo_9 : decode cX9_sendTo 9 = .ok (.aload_n 0, 1) := by decide +kernel
theorem dX9_sendTo_10 : decode cX9_sendTo 10 = .ok (.getfield 72, 3) := by decide +kernel
theorem dX9_sendTo_13 : decode cX9_sendTo 13 = .ok (.getfield 100, 3) := by decide +kernel
theorem dX9_sendTo_16 : decode cX9_sendTo 16 = .ok (.if_icmp .gt 53, 3) := by decide +kernel
theorem dX9_sendTo_19 : decode cX9_sendTo 19 = .ok (.aload_n 0, 1) := by decide +kernel
theorem dX9_sendTo_20 : decode cX9_sendTo 20 = .ok (.getfield 21, 3) := by decide +kernel
theorem dX9_sendTo_23 : decode cX9_sendTo 23 = .ok (.getfield 383, 3) := by decide +kernel
theorem dX9_sendTo_26 : decode cX9_sendTo 26 = .ok (.iload_n 1, 1) := by decide +kernel
theorem dX9_sendTo_27 : decode cX9_sendTo 27 = .ok (.iaload, 1) := by decide +kernel
theorem dX9_sendTo_28 : decode cX9_sendTo 28 = .ok (.ifCond .ne 40, 3) := by decide +kernel
theorem dX9_sendTo_31 : decode cX9_sendTo 31 = .ok (.aload_n 0, 1) := by decide +kernel
theorem dX9_sendTo_32 : decode cX9_sendTo 32 = .ok (.getfield 21, 3) := by decide +kernel
theorem dX9_sendTo_35 : decode cX9_sendTo 35 = .ok (.getfield 383, 3) := by decide +kernel
theorem dX9_sendTo_38 : decode cX9_sendTo 38 = .ok (.iload_n 1, 1) := by decide +kernel
theorem dX9_sendTo_39 : decode cX9_sendTo 39 = .ok (.iconst 1, 1) := by decide +kernel
theorem dX9_sendTo_40 : decode cX9_sendTo 40 = .ok (.iastore, 1) := by decide +kernel
theorem dX9_sendTo_41 : decode cX9_sendTo 41 = .ok (.aload_n 0, 1) := by decide +kernel
theorem dX9_sendTo_42 : decode cX9_sendTo 42 = .ok (.iload_n 1, 1) := by decide +kernel
theorem dX9_sendTo_43 : decode cX9_sendTo 43 = .ok (.bipush 7, 2) := by decide +kernel
theorem dX9_sendTo_45 : decode cX9_sendTo 45 = .ok (.invokevirtual 351, 3) := by decide +kernel
theorem dX9_sendTo_48 : decode cX9_sendTo 48 = .ok (.astore_n 3, 1) := by decide +kernel
theorem dX9_sendTo_49 : decode cX9_sendTo 49 = .ok (.aload_n 0, 1) := by decide +kernel
theorem dX9_sendTo_50 : decode cX9_sendTo 50 = .ok (.aload_n 3, 1) := by decide +kernel
theorem dX9_sendTo_51 : decode cX9_sendTo 51 = .ok (.aload_n 0, 1) := by decide +kernel
theorem dX9_sendTo_52 : decode cX9_sendTo 52 = .ok (.getfield 21, 3) := by decide +kernel
theorem dX9_sendTo_55 : decode cX9_sendTo 55 = .ok (.getfield 386, 3) := by decide +kernel
theorem dX9_sendTo_58 : decode cX9_sendTo 58 = .ok (.iload_n 1, 1) := by decide +kernel
theorem dX9_sendTo_59 : decode cX9_sendTo 59 = .ok (.iaload, 1) := by decide +kernel
theorem dX9_sendTo_60 : decode cX9_sendTo 60 = .ok (.invokevirtual 389, 3) := by decide +kernel
theorem dX9_sendTo_63 : decode cX9_sendTo 63 = .ok (.aload_n 0, 1) := by decide +kernel
theorem dX9_sendTo_64 : decode cX9_sendTo 64 = .ok (.aload_n 3, 1) := by decide +kernel
theorem dX9_sendTo_65 : decode cX9_sendTo 65 = .ok (.invokevirtual 362, 3) := by decide +kernel
theorem dX9_sendTo_68 : decode cX9_sendTo 68 = .ok (.return_, 1) := by decide +kernel
theorem dX9_sendTo_69 : decode cX9_sendTo 69 = .ok (.iconst 1, 1) := by decide +kernel
theorem dX9_sendTo_70 : decode cX9_sendTo 70 = .ok (.istore_n 3, 1) := by decide +kernel
theorem dX9_sendTo_71 : decode cX9_sendTo 71 = .ok (.aload_n 0, 1) := by decide +kernel
theorem dX9_sendTo_72 : decode cX9_sendTo 72 = .ok (.getfield 21, 3) := by decide +kernel
theorem dX9_sendTo_75 : decode cX9_sendTo 75 = .ok (.getfield 393, 3) := by decide +kernel
theorem dX9_sendTo_78 : decode cX9_sendTo 78 = .ok (.iload_n 1, 1) := by decide +kernel
theorem dX9_sendTo_79 : decode cX9_sendTo 79 = .ok (.baload, 1) := by decide +kernel
theorem dX9_sendTo_80 : decode cX9_sendTo 80 = .ok (.ifCond .eq 7, 3) := by decide +kernel
theorem dX9_sendTo_83 : decode cX9_sendTo 83 = .ok (.iconst 1, 1) := by decide +kernel
theorem dX9_sendTo_84 : decode cX9_sendTo 84 = .ok (.goto 4, 3) := by decide +kernel
theorem dX9_sendTo_87 : decode cX9_sendTo 87 = .ok (.iconst 4, 1) := by decide +kernel
theorem dX9_sendTo_88 : decode cX9_sendTo 88 = .ok (.istore 4, 2) := by decide +kernel
theorem dX9_sendTo_90 : decode cX9_sendTo 90 = .ok (.aload_n 0, 1) := by decide +kernel
theorem dX9_sendTo_91 : decode cX9_sendTo 91 = .ok (.getfield 21, 3) := by decide +kernel
theorem dX9_sendTo_94 : decode cX9_sendTo 94 = .ok (.getfield 380, 3) := by decide +kernel
theorem dX9_sendTo_97 : decode cX9_sendTo 97 = .ok (.iload_n 1, 1) := by decide +kernel
theorem dX9_sendTo_98 : decode cX9_sendTo 98 = .ok (.iaload, 1) := by decide +kernel
theorem dX9_sendTo_99 : decode cX9_sendTo 99 = .ok (.aload_n 0, 1) := by decide +kernel
theorem dX9_sendTo_100 : decode cX9_sendTo 100 = .ok (.getfield 72, 3) := by decide +kernel
theorem dX9_sendTo_103 : decode cX9_sendTo 103 = .ok (.getfield 103, 3) := by decide +kernel
theorem dX9_sendTo_106 : decode cX9_sendTo 106 = .ok (.if_icmp .gt 103, 3) := by decide +kernel
theorem dX9_sendTo_109 : decode cX9_sendTo 109 = .ok (.aload_n 0, 1) := by decide +kernel
theorem dX9_sendTo_110 : decode cX9_sendTo 110 = .ok (.getfield 21, 3) := by decide +kernel
theorem dX9_sendTo_113 : decode cX9_sendTo 113 = .ok (.getfield 383, 3) := by decide +kernel
theorem dX9_sendTo_116 : decode cX9_sendTo 116 = .ok (.iload_n 1, 1) := by decide +kernel
theorem dX9_sendTo_117 : decode cX9_sendTo 117 = .ok (.iaload, 1) := by decide +kernel
theorem dX9_sendTo_118 : decode cX9_sendTo 118 = .ok (.iload 4, 2) := by decide +kernel
theorem dX9_sendTo_120 : decode cX9_sendTo 120 = .ok (.if_icmp .ge 89, 3) := by decide +kernel
theorem dX9_sendTo_123 : decode cX9_sendTo 123 = .ok (.aload_n 0, 1) := by decide +kernel
theorem dX9_sendTo_124 : decode cX9_sendTo 124 = .ok (.getfield 21, 3) := by decide +kernel
theorem dX9_sendTo_127 : decode cX9_sendTo 127 = .ok (.getfield 380, 3) := by decide +kernel
theorem dX9_sendTo_130 : decode cX9_sendTo 130 = .ok (.iload_n 1, 1) := by decide +kernel
theorem dX9_sendTo_131 : decode cX9_sendTo 131 = .ok (.iaload, 1) := by decide +kernel
theorem dX9_sendTo_132 : decode cX9_sendTo 132 = .ok (.istore 5, 2) := by decide +kernel
theorem dX9_sendTo_134 : decode cX9_sendTo 134 = .ok (.bipush 6, 2) := by decide +kernel
theorem dX9_sendTo_136 : decode cX9_sendTo 136 = .ok (.aload_n 0, 1) := by decide +kernel
theorem dX9_sendTo_137 : decode cX9_sendTo 137 = .ok (.getfield 72, 3) := by decide +kernel
theorem dX9_sendTo_140 : decode cX9_sendTo 140 = .ok (.getfield 103, 3) := by decide +kernel
theorem dX9_sendTo_143 : decode cX9_sendTo 143 = .ok (.iload 5, 2) := by decide +kernel
theorem dX9_sendTo_145 : decode cX9_sendTo 145 = .ok (.isub, 1) := by decide +kernel
theorem dX9_sendTo_146 : decode cX9_sendTo 146 = .ok (.iconst 1, 1) := by decide +kernel
theorem dX9_sendTo_147 : decode cX9_sendTo 147 = .ok (.iadd, 1) := by decide +kernel
theorem dX9_sendTo_148 : decode cX9_sendTo 148 = .ok (.invokestatic 397, 3) := by decide +kernel
theorem dX9_sendTo_151 : decode cX9_sendTo 151 = .ok (.istore 6, 2) := by decide +kernel
theorem dX9_sendTo_153 : decode cX9_sendTo 153 = .ok (.aload_n 0, 1) := by decide +kernel
theorem dX9_sendTo_154 : decode cX9_sendTo 154 = .ok (.getfield 21, 3) := by decide +kernel
theorem dX9_sendTo_157 : decode cX9_sendTo 157 = .ok (.getfield 383, 3) := by decide +kernel
theorem dX9_sendTo_160 : decode cX9_sendTo 160 = .ok (.iload_n 1, 1) := by decide +kernel
theorem dX9_sendTo_161 : decode cX9_sendTo 161 = .ok (.dup2, 1) := by decide +kernel
theorem dX9_sendTo_162 : decode cX9_sendTo 162 = .ok (.iaload, 1) := by decide +kernel
theorem dX9_sendTo_163 : decode cX9_sendTo 163 = .ok (.iconst 1, 1) := by decide +kernel
theorem dX9_sendTo_164 : decode cX9_sendTo 164 = .ok (.iadd, 1) := by decide +kernel
theorem dX9_sendTo_165 : decode cX9_sendTo 165 = .ok (.iastore, 1) := by decide +kernel
theorem dX9_sendTo_166 : decode cX9_sendTo 166 = .ok (.aload_n 0, 1) := by decide +kernel
theorem dX9_sendTo_167 : decode cX9_sendTo 167 = .ok (.getfield 21, 3) := by decide +kernel
theorem dX9_sendTo_170 : decode cX9_sendTo 170 = .ok (.getfield 380, 3) := by decide +kernel
theorem dX9_sendTo_173 : decode cX9_sendTo 173 = .ok (.iload_n 1, 1) := by decide +kernel
theorem dX9_sendTo_174 : decode cX9_sendTo 174 = .ok (.iload 5, 2) := by decide +kernel
theorem dX9_sendTo_176 : decode cX9_sendTo 176 = .ok (.iload 6, 2) := by decide +kernel
theorem dX9_sendTo_178 : decode cX9_sendTo 178 = .ok (.iadd, 1) := by decide +kernel
theorem dX9_sendTo_179 : decode cX9_sendTo 179 = .ok (.iastore, 1) := by decide +kernel
theorem dX9_sendTo_180 : decode cX9_sendTo 180 = .ok (.aload_n 0, 1) := by decide +kernel
theorem dX9_sendTo_181 : decode cX9_sendTo 181 = .ok (.iload_n 1, 1) := by decide +kernel
theorem dX9_sendTo_182 : decode cX9_sendTo 182 = .ok (.iconst 5, 1) := by decide +kernel
theorem dX9_sendTo_183 : decode cX9_sendTo 183 = .ok (.invokevirtual 351, 3) := by decide +kernel
theorem dX9_sendTo_186 : decode cX9_sendTo 186 = .ok (.astore 7, 2) := by decide +kernel
theorem dX9_sendTo_188 : decode cX9_sendTo 188 = .ok (.aload_n 0, 1) := by decide +kernel
theorem dX9_sendTo_189 : decode cX9_sendTo 189 = .ok (.aload 7, 2) := by decide +kernel
theorem dX9_sendTo_191 : decode cX9_sendTo 191 = .ok (.iload 5, 2) := by decide +kernel
theorem dX9_sendTo_193 : decode cX9_sendTo 193 = .ok (.iload 6, 2) := by decide +kernel
theorem dX9_sendTo_195 : decode cX9_sendTo 195 = .ok (.invokevirtual 400, 3) := by decide +kernel
theorem dX9_sendTo_198 : decode cX9_sendTo 198 = .ok (.aload_n 0, 1) := by decide +kernel
theorem dX9_sendTo_199 : decode cX9_sendTo 199 = .ok (.aload 7, 2) := by decide +kernel
theorem dX9_sendTo_201 : decode cX9_sendTo 201 = .ok (.invokevirtual 362, 3) := by decide +kernel
theorem dX9_sendTo_204 : decode cX9_sendTo 204 = .ok (.iconst 0, 1) := by decide +kernel
theorem dX9_sendTo_205 : decode cX9_sendTo 205 = .ok (.istore_n 3, 1) := by decide +kernel
theorem dX9_sendTo_206 : decode cX9_sendTo 206 = .ok (.goto (-116), 3) := by decide +kernel
theorem dX9_sendTo_209 : decode cX9_sendTo 209 = .ok (.iload_n 3, 1) := by decide +kernel
theorem dX9_sendTo_210 : decode cX9_sendTo 210 = .ok (.ifCond .eq 37, 3) := by decide +kernel
theorem dX9_sendTo_213 : decode cX9_sendTo 213 = .ok (.iload_n 2, 1) := by decide +kernel
theorem dX9_sendTo_214 : decode cX9_sendTo 214 = .ok (.ifCond .eq 33, 3) := by decide +kernel
theorem dX9_sendTo_217 : decode cX9_sendTo 217 = .ok (.aload_n 0, 1) := by decide +kernel
theorem dX9_sendTo_218 : decode cX9_sendTo 218 = .ok (.iload_n 1, 1) := by decide +kernel
theorem dX9_sendTo_219 : decode cX9_sendTo 219 = .ok (.iconst 5, 1) := by decide +kernel
theorem dX9_sendTo_220 : decode cX9_sendTo 220 = .ok (.invokevirtual 351, 3) := by decide +kernel
theorem dX9_sendTo_223 : decode cX9_sendTo 223 = .ok (.astore 5, 2) := by decide +kernel
theorem dX9_sendTo_225 : decode cX9_sendTo 225 = .ok (.aload_n 0, 1) := by decide +kernel
theorem dX9_sendTo_226 : decode cX9_sendTo 226 = .ok (.aload 5, 2) := by decide +kernel
theorem dX9_sendTo_228 : decode cX9_sendTo 228 = .ok (.aload_n 0, 1) := by decide +kernel
theorem dX9_sendTo_229 : decode cX9_sendTo 229 = .ok (.getfield 21, 3) := by decide +kernel
theorem dX9_sendTo_232 : decode cX9_sendTo 232 = .ok (.getfield 380, 3) := by decide +kernel
theorem dX9_sendTo_235 : decode cX9_sendTo 235 = .ok (.iload_n 1, 1) := by decide +kernel
theorem dX9_sendTo_236 : decode cX9_sendTo 236 = .ok (.iaload, 1) := by decide +kernel
theorem dX9_sendTo_237 : decode cX9_sendTo 237 = .ok (.iconst 0, 1) := by decide +kernel
theorem dX9_sendTo_238 : decode cX9_sendTo 238 = .ok (.invokevirtual 400, 3) := by decide +kernel
theorem dX9_sendTo_241 : decode cX9_sendTo 241 = .ok (.aload_n 0, 1) := by decide +kernel
theorem dX9_sendTo_242 : decode cX9_sendTo 242 = .ok (.aload 5, 2) := by decide +kernel
theorem dX9_sendTo_244 : decode cX9_sendTo 244 = .ok (.invokevirtual 362, 3) := by decide +kernel
theorem dX9_sendTo_247 : decode cX9_sendTo 247 = .ok (.return_, 1) := by decide +kernel
theorem dX9_putEntries_0 : decode cX9_putEntries 0 = .ok (.aload_n 1, 1) := by decide +kernel
theorem dX9_putEntries_1 : decode cX9_putEntries 1 = .ok (.iload_n 2, 1) := by decide +kernel
theorem dX9_putEntries_2 : decode cX9_putEntries 2 = .ok (.iconst 1, 1) := by decide +kernel
theorem dX9_putEntries_3 : decode cX9_putEntries 3 = .ok (.isub, 1) := by decide +kernel
theorem dX9_putEntries_4 : decode cX9_putEntries 4 = .ok (.putfield 189, 3) := by decide +kernel
theorem dX9_putEntries_7 : decode cX9_putEntries 7 = .ok (.aload_n 1, 1) := by decide +kernel
theorem dX9_putEntries_8 : decode cX9_putEntries 8 = .ok (.aload_n 0, 1) := by decide +kernel
theorem dX9_putEntries_9 : decode cX9_putEntries 9 = .ok (.getfield 72, 3) := by decide +kernel
theorem dX9_putEntries_12 : decode cX9_putEntries 12 = .ok (.iload_n 2, 1) := by decide +kernel
theorem dX9_putEntries_13 : decode cX9_putEntries 13 = .ok (.iconst 1, 1) := by decide +kernel
theorem dX9_putEntries_14 : decode cX9_putEntries 14 = .ok (.isub, 1) := by decide +kernel
theorem dX9_putEntries_15 : decode cX9_putEntries 15 = .ok (.invokevirtual 311, 3) := by decide +kernel
theorem dX9_putEntries_18 : decode cX9_putEntries 18 = .ok (.putfield 370, 3) := by decide +kernel
theorem dX9_putEntries_21 : decode cX9_putEntries 21 = .ok (.aload_n 1, 1) := by decide +kernel
theorem dX9_putEntries_22 : decode cX9_putEntries 22 = .ok (.aload_n 0, 1) := by decide +kernel
theorem dX9_putEntries_23 : decode cX9_putEntries 23 = .ok (.getfield 72, 3) := by decide +kernel
theorem dX9_putEntries_26 : decode cX9_putEntries 26 = .ok (.getfield 91, 3) := by decide +kernel
theorem dX9_putEntries_29 : decode cX9_putEntries 29 = .ok (.putfield 404, 3) := by decide +kernel
theorem dX9_putEntries_32 : decode cX9_putEntries 32 = .ok (.aload_n 1, 1) := by decide +kernel
theorem dX9_putEntries_33 : decode cX9_putEntries 33 = .ok (.aload_n 0, 1) := by decide +kernel
theorem dX9_putEntries_34 : decode cX9_putEntries 34 = .ok (.getfield 21, 3) := by decide +kernel
theorem dX9_putEntries_37 : decode cX9_putEntries 37 = .ok (.getfield 118, 3) := by decide +kernel
theorem dX9_putEntries_40 : decode cX9_putEntries 40 = .ok (.putfield 192, 3) := by decide +kernel
theorem dX9_putEntries_43 : decode cX9_putEntries 43 = .ok (.aload_n 1, 1) := by decide +kernel
theorem dX9_putEntries_44 : decode cX9_putEntries 44 = .ok (.iload_n 3, 1) := by decide +kernel
theorem dX9_putEntries_45 : decode cX9_putEntries 45 = .ok (.putfield 346, 3) := by decide +kernel
theorem dX9_putEntries_48 : decode cX9_putEntries 48 = .ok (.iload_n 3, 1) := by decide +kernel
theorem dX9_putEntries_49 : decode cX9_putEntries 49 = .ok (.ifCond .le 30, 3) := by decide +kernel
theorem dX9_putEntries_52 : decode cX9_putEntries 52 = .ok (.aload_n 0, 1) := by decide +kernel
theorem dX9_putEntries_53 : decode cX9_putEntries 53 = .ok (.getfield 72, 3) := by decide +kernel
theorem dX9_putEntries_56 : decode cX9_putEntries 56 = .ok (.getfield 405, 3) := by decide +kernel
theorem dX9_putEntries_59 : decode cX9_putEntries 59 = .ok (.aload_n 0, 1) := by decide +kernel
theorem dX9_putEntries_60 : decode cX9_putEntries 60 = .ok (.getfield 72, 3) := by decide +kernel
theorem dX9_putEntries_63 : decode cX9_putEntries 63 = .ok (.iload_n 2, 1) := by decide +kernel
theorem dX9_putEntries_64 : decode cX9_putEntries 64 = .ok (.invokevirtual 406, 3) := by decide +kernel
theorem dX9_putEntries_67 : decode cX9_putEntries 67 = .ok (.aload_n 1, 1) := by decide +kernel
theorem dX9_putEntries_68 : decode cX9_putEntries 68 = .ok (.getfield 409, 3) := by decide +kernel
theorem dX9_putEntries_71 : decode cX9_putEntries 71 = .ok (.iconst 0, 1) := by decide +kernel
theorem dX9_putEntries_72 : decode cX9_putEntries 72 = .ok (.iload_n 3, 1) := by decide +kernel
theorem dX9_putEntries_73 : decode cX9_putEntries 73 = .ok (.bipush 6, 2) := by decide +kernel
theorem dX9_putEntries_75 : decode cX9_putEntries 75 = .ok (.imul, 1) := by decide +kernel
theorem dX9_putEntries_76 : decode cX9_putEntries 76 = .ok (.invokestatic 410, 3) := by decide +kernel
theorem dX9_putEntries_79 : decode cX9_putEntries 79 = .ok (.return_, 1) := by decide +kernel
theorem dX9_putPiece_0 : decode cX9_putPiece 0 = .ok (.aload_n 1, 1) := by decide +kernel
theorem dX9_putPiece_1 : decode cX9_putPiece 1 = .ok (.aload_n 0, 1) := by decide +kernel
theorem dX9_putPiece_2 : decode cX9_putPiece 2 = .ok (.getfield 72, 3) := by decide +kernel
theorem dX9_putPiece_5 : decode cX9_putPiece 5 = .ok (.getfield 100, 3) := by decide +kernel
theorem dX9_putPiece_8 : decode cX9_putPiece 8 = .ok (.putfield 189, 3) := by decide +kernel
theorem dX9_putPiece_11 : decode cX9_putPiece 11 = .ok (.aload_n 1, 1) := by decide +kernel
theorem dX9_putPiece_12 : decode cX9_putPiece 12 = .ok (.aload_n 0, 1) := by decide +kernel
theorem dX9_putPiece_13 : decode cX9_putPiece 13 = .ok (.getfield 72, 3) := by decide +kernel
theorem dX9_putPiece_16 : decode cX9_putPiece 16 = .ok (.getfield 416, 3) := by decide +kernel
theorem dX9_putPiece_19 : decode cX9_putPiece 19 = .ok (.putfield 370, 3) := by decide +kernel
theorem dX9_putPiece_22 : decode cX9_putPiece 22 = .ok (.aload_n 1, 1) := by decide +kernel
theorem dX9_putPiece_23 : decode cX9_putPiece 23 = .ok (.aload_n 0, 1) := by decide +kernel
theorem dX9_putPiece_24 : decode cX9_putPiece 24 = .ok (.getfield 72, 3) := by decide +kernel
theorem dX9_putPiece_27 : decode cX9_putPiece 27 = .ok (.getfield 419, 3) := by decide +kernel
theorem dX9_putPiece_30 : decode cX9_putPiece 30 = .ok (.putfield 422, 3) := by decide +kernel
theorem dX9_putPiece_33 : decode cX9_putPiece 33 = .ok (.aload_n 1, 1) := by decide +kernel
theorem dX9_putPiece_34 : decode cX9_putPiece 34 = .ok (.aload_n 0, 1) := by decide +kernel
theorem dX9_putPiece_35 : decode cX9_putPiece 35 = .ok (.getfield 12, 3) := by decide +kernel
theorem dX9_putPiece_38 : decode cX9_putPiece 38 = .ok (.invokevirtual 137, 3) := by decide +kernel
theorem dX9_putPiece_41 : decode cX9_putPiece 41 = .ok (.putfield 365, 3) := by decide +kernel
theorem dX9_putPiece_44 : decode cX9_putPiece 44 = .ok (.aload_n 1, 1) := by decide +kernel
theorem dX9_putPiece_45 : decode cX9_putPiece 45 = .ok (.iload_n 2, 1) := by decide +kernel
theorem dX9_putPiece_46 : decode cX9_putPiece 46 = .ok (.putfield 423, 3) := by decide +kernel
theorem dX9_putPiece_49 : decode cX9_putPiece 49 = .ok (.aload_n 1, 1) := by decide +kernel
theorem dX9_putPiece_50 : decode cX9_putPiece 50 = .ok (.aload_n 0, 1) := by decide +kernel
theorem dX9_putPiece_51 : decode cX9_putPiece 51 = .ok (.getfield 21, 3) := by decide +kernel
theorem dX9_putPiece_54 : decode cX9_putPiece 54 = .ok (.getfield 118, 3) := by decide +kernel
theorem dX9_putPiece_57 : decode cX9_putPiece 57 = .ok (.putfield 192, 3) := by decide +kernel
theorem dX9_putPiece_60 : decode cX9_putPiece 60 = .ok (.aload_n 0, 1) := by decide +kernel
theorem dX9_putPiece_61 : decode cX9_putPiece 61 = .ok (.getfield 12, 3) := by decide +kernel
theorem dX9_putPiece_64 : decode cX9_putPiece 64 = .ok (.getfield 256, 3) := by decide +kernel
theorem dX9_putPiece_67 : decode cX9_putPiece 67 = .ok (.iconst (-1), 1) := by decide +kernel
theorem dX9_putPiece_68 : decode cX9_putPiece 68 = .ok (.if_icmp .eq 32, 3) := by decide +kernel
theorem dX9_putPiece_71 : decode cX9_putPiece 71 = .ok (.aload_n 1, 1) := by decide +kernel
theorem dX9_putPiece_72 : decode cX9_putPiece 72 = .ok (.aload_n 0, 1) := by decide +kernel
theorem dX9_putPiece_73 : decode cX9_putPiece 73 = .ok (.getfield 12, 3) := by decide +kernel
theorem dX9_putPiece_76 : decode cX9_putPiece 76 = .ok (.getfield 259, 3) := by decide +kernel
theorem dX9_putPiece_79 : decode cX9_putPiece 79 = .ok (.aload_n 0, 1) := by decide +kernel
theorem dX9_putPiece_80 : decode cX9_putPiece 80 = .ok (.getfield 12, 3) := by decide +kernel
theorem dX9_putPiece_83 : decode cX9_putPiece 83 = .ok (.getfield 256, 3) := by decide +kernel
theorem dX9_putPiece_86 : decode cX9_putPiece 86 = .ok (.aaload, 1) := by decide +kernel
theorem dX9_putPiece_87 : decode cX9_putPiece 87 = .ok (.getfield 276, 3) := by decide +kernel
theorem dX9_putPiece_90 : decode cX9_putPiece 90 = .ok (.iload_n 2, 1) := by decide +kernel
theorem dX9_putPiece_91 : decode cX9_putPiece 91 = .ok (.aload_n 1, 1) := by decide +kernel
theorem dX9_putPiece_92 : decode cX9_putPiece 92 = .ok (.getfield 365, 3) := by decide +kernel
theorem dX9_putPiece_95 : decode cX9_putPiece 95 = .ok (.iload_n 2, 1) := by decide +kernel
theorem dX9_putPiece_96 : decode cX9_putPiece 96 = .ok (.isub, 1) := by decide +kernel
theorem dX9_putPiece_97 : decode cX9_putPiece 97 = .ok (.invokevirtual 358, 3) := by decide +kernel
theorem dX9_putPiece_100 : decode cX9_putPiece 100 = .ok (.return_, 1) := by decide +kernel
theorem dX9_stepDown_0 : decode cX9_stepDown 0 = .ok (.iload_n 1, 1) := by decide +kernel
theorem dX9_stepDown_1 : decode cX9_stepDown 1 = .ok (.aload_n 0, 1) := by decide +kernel
theorem dX9_stepDown_2 : decode cX9_stepDown 2 = .ok (.getfield 88, 3) := by decide +kernel
theorem dX9_stepDown_5 : decode cX9_stepDown 5 = .ok (.if_icmp .le 9, 3) := by decide +kernel
theorem dX9_stepDown_8 : decode cX9_stepDown 8 = .ok (.aload_n 0, 1) := by decide +kernel
theorem dX9_stepDown_9 : decode cX9_stepDown 9 = .ok (.iload_n 1, 1) := by decide +kernel
theorem dX9_stepDown_10 : decode cX9_stepDown 10 = .ok (.iconst (-1), 1) := by decide +kernel
theorem dX9_stepDown_11 : decode cX9_stepDown 11 = .ok (.invokevirtual 425, 3) := by decide +kernel
theorem dX9_stepDown_14 : decode cX9_stepDown 14 = .ok (.aload_n 0, 1) := by decide +kernel
theorem dX9_stepDown_15 : decode cX9_stepDown 15 = .ok (.getfield 85, 3) := by decide +kernel
theorem dX9_stepDown_18 : decode cX9_stepDown 18 = .ok (.iconst 3, 1) := by decide +kernel
theorem dX9_stepDown_19 : decode cX9_stepDown 19 = .ok (.if_icmp .ne 29, 3) := by decide +kernel
theorem dX9_stepDown_22 : decode cX9_stepDown 22 = .ok (.aload_n 0, 1) := by decide +kernel
theorem dX9_stepDown_23 : decode cX9_stepDown 23 = .ok (.getfield 63, 3) := by decide +kernel
theorem dX9_stepDown_26 : decode cX9_stepDown 26 = .ok (.aload_n 0, 1) := by decide +kernel
theorem dX9_stepDown_27 : decode cX9_stepDown 27 = .ok (.getfield 60, 3) := by decide +kernel
theorem dX9_stepDown_30 : decode cX9_stepDown 30 = .ok (.invokevirtual 251, 3) := by decide +kernel
theorem dX9_stepDown_33 : decode cX9_stepDown 33 = .ok (.aload_n 0, 1) := by decide +kernel
theorem dX9_stepDown_34 : decode cX9_stepDown 34 = .ok (.getfield 28, 3) := by decide +kernel
theorem dX9_stepDown_37 : decode cX9_stepDown 37 = .ok (.invokevirtual 248, 3) := by decide +kernel
theorem dX9_stepDown_40 : decode cX9_stepDown 40 = .ok (.aload_n 0, 1) := by decide +kernel
theorem dX9_stepDown_41 : decode cX9_stepDown 41 = .ok (.getfield 21, 3) := by decide +kernel
theorem dX9_stepDown_44 : decode cX9_stepDown 44 = .ok (.iconst (-1), 1) := by decide +kernel
theorem dX9_stepDown_45 : decode cX9_stepDown 45 = .ok (.putfield 112, 3) := by decide +kernel
theorem dX9_stepDown_48 : decode cX9_stepDown 48 = .ok (.aload_n 0, 1) := by decide +kernel
theorem dX9_stepDown_49 : decode cX9_stepDown 49 = .ok (.iload_n 2, 1) := by decide +kernel
theorem dX9_stepDown_50 : decode cX9_stepDown 50 = .ok (.invokevirtual 428, 3) := by decide +kernel
theorem dX9_stepDown_53 : decode cX9_stepDown 53 = .ok (.return_, 1) := by decide +kernel
theorem dX9_follow_0 : decode cX9_follow 0 = .ok (.aload_n 0, 1) := by decide +kernel
theorem dX9_follow_1 : decode cX9_follow 1 = .ok (.iconst 0, 1) := by decide +kernel
theorem dX9_follow_2 : decode cX9_follow 2 = .ok (.putfield 85, 3) := by decide +kernel
theorem dX9_follow_5 : decode cX9_follow 5 = .ok (.aload_n 0, 1) := by decide +kernel
theorem dX9_follow_6 : decode cX9_follow 6 = .ok (.iload_n 1, 1) := by decide +kernel
theorem dX9_follow_7 : decode cX9_follow 7 = .ok (.putfield 47, 3) := by decide +kernel
theorem dX9_follow_10 : decode cX9_follow 10 = .ok (.return_, 1) := by decide +kernel
theorem dX9_wake_0 : decode cX9_wake 0 = .ok (.aload_n 0, 1) := by decide +kernel
theorem dX9_wake_1 : decode cX9_wake 1 = .ok (.getfield 85, 3) := by decide +kernel
theorem dX9_wake_4 : decode cX9_wake 4 = .ok (.iconst 3, 1) := by decide +kernel
theorem dX9_wake_5 : decode cX9_wake 5 = .ok (.if_icmp .ne 75, 3) := by decide +kernel
theorem dX9_wake_8 : decode cX9_wake 8 = .ok (.aload_n 0, 1) := by decide +kernel
theorem dX9_wake_9 : decode cX9_wake 9 = .ok (.getfield 21, 3) := by decide +kernel
theorem dX9_wake_12 : decode cX9_wake 12 = .ok (.getfield 431, 3) := by decide +kernel
theorem dX9_wake_15 : decode cX9_wake 15 = .ok (.aload_n 0, 1) := by decide +kernel
theorem dX9_wake_16 : decode cX9_wake 16 = .ok (.getfield 60, 3) := by decide +kernel
theorem dX9_wake_19 : decode cX9_wake 19 = .ok (.aload_n 0, 1) := by decide +kernel
theorem dX9_wake_20 : decode cX9_wake 20 = .ok (.getfield 63, 3) := by decide +kernel
theorem dX9_wake_23 : decode cX9_wake 23 = .ok (.getfield 241, 3) := by decide +kernel
theorem dX9_wake_26 : decode cX9_wake 26 = .ok (.iastore, 1) := by decide +kernel
theorem dX9_wake_27 : decode cX9_wake 27 = .ok (.aload_n 0, 1) := by decide +kernel
theorem dX9_wake_28 : decode cX9_wake 28 = .ok (.getfield 21, 3) := by decide +kernel
theorem dX9_wake_31 : decode cX9_wake 31 = .ok (.getfield 431, 3) := by decide +kernel
theorem dX9_wake_34 : decode cX9_wake 34 = .ok (.aload_n 0, 1) := by decide +kernel
theorem dX9_wake_35 : decode cX9_wake 35 = .ok (.getfield 72, 3) := by decide +kernel
theorem dX9_wake_38 : decode cX9_wake 38 = .ok (.getfield 106, 3) := by decide +kernel
theorem dX9_wake_41 : decode cX9_wake 41 = .ok (.invokestatic 434, 3) := by decide +kernel
theorem dX9_wake_44 : decode cX9_wake 44 = .ok (.aload_n 0, 1) := by decide +kernel
theorem dX9_wake_45 : decode cX9_wake 45 = .ok (.getfield 63, 3) := by decide +kernel
theorem dX9_wake_48 : decode cX9_wake 48 = .ok (.getfield 241, 3) := by decide +kernel
theorem dX9_wake_51 : decode cX9_wake 51 = .ok (.bipush 100, 2) := by decide +kernel
theorem dX9_wake_53 : decode cX9_wake 53 = .ok (.isub, 1) := by decide +kernel
theorem dX9_wake_54 : decode cX9_wake 54 = .ok (.if_icmp .ge 15, 3) := by decide +kernel
theorem dX9_wake_57 : decode cX9_wake 57 = .ok (.aload_n 0, 1) := by decide +kernel
theorem dX9_wake_58 : decode cX9_wake 58 = .ok (.aload_n 0, 1) := by decide +kernel
theorem dX9_wake_59 : decode cX9_wake 59 = .ok (.getfield 88, 3) := by decide +kernel
theorem dX9_wake_62 : decode cX9_wake 62 = .ok (.iconst (-1), 1) := by decide +kernel
theorem dX9_wake_63 : decode cX9_wake 63 = .ok (.invokevirtual 438, 3) := by decide +kernel
theorem dX9_wake_66 : decode cX9_wake 66 = .ok (.goto 13, 3) := by decide +kernel
theorem dX9_wake_69 : decode cX9_wake 69 = .ok (.aload_n 0, 1) := by decide +kernel
theorem dX9_wake_70 : decode cX9_wake 70 = .ok (.dup, 1) := by decide +kernel
theorem dX9_wake_71 : decode cX9_wake 71 = .ok (.getfield 146, 3) := by decide +kernel
theorem dX9_wake_74 : decode cX9_wake 74 = .ok (.iconst 4, 1) := by decide +kernel
theorem dX9_wake_75 : decode cX9_wake 75 = .ok (.ior, 1) := by decide +kernel
theorem dX9_wake_76 : decode cX9_wake 76 = .ok (.putfield 146, 3) := by decide +kernel
theorem dX9_wake_79 : decode cX9_wake 79 = .ok (.return_, 1) := by decide +kernel
theorem dX9_wake_80 : decode cX9_wake 80 = .ok (.aload_n 0, 1) := by decide +kernel
theorem dX9_wake_81 : decode cX9_wake 81 = .ok (.getfield 63, 3) := by decide +kernel
theorem dX9_wake_84 : decode cX9_wake 84 = .ok (.aload_n 0, 1) := by decide +kernel
theorem dX9_wake_85 : decode cX9_wake 85 = .ok (.getfield 60, 3) := by decide +kernel
theorem dX9_wake_88 : decode cX9_wake 88 = .ok (.invokevirtual 251, 3) := by decide +kernel
theorem dX9_wake_91 : decode cX9_wake 91 = .ok (.aload_n 0, 1) := by decide +kernel
theorem dX9_wake_92 : decode cX9_wake 92 = .ok (.invokevirtual 367, 3) := by decide +kernel
theorem dX9_wake_95 : decode cX9_wake 95 = .ok (.aload_n 0, 1) := by decide +kernel
theorem dX9_wake_96 : decode cX9_wake 96 = .ok (.getfield 60, 3) := by decide +kernel
theorem dX9_wake_99 : decode cX9_wake 99 = .ok (.ishr, 1) := by decide +kernel
theorem dX9_wake_100 : decode cX9_wake 100 = .ok (.iconst 1, 1) := by decide +kernel
theorem dX9_wake_101 : decode cX9_wake 101 = .ok (.iand, 1) := by decide +kernel
theorem dX9_wake_102 : decode cX9_wake 102 = .ok (.ifCond .eq 55, 3) := by decide +kernel
theorem dX9_wake_105 : decode cX9_wake 105 = .ok (.aload_n 0, 1) := by decide +kernel
theorem dX9_wake_106 : decode cX9_wake 106 = .ok (.iconst 1, 1) := by decide +kernel
theorem dX9_wake_107 : decode cX9_wake 107 = .ok (.putfield 85, 3) := by decide +kernel
theorem dX9_wake_110 : decode cX9_wake 110 = .ok (.aload_n 0, 1) := by decide +kernel
theorem dX9_wake_111 : decode cX9_wake 111 = .ok (.iconst (-1), 1) := by decide +kernel
theorem dX9_wake_112 : decode cX9_wake 112 = .ok (.putfield 47, 3) := by decide +kernel
theorem dX9_wake_115 : decode cX9_wake 115 = .ok (.aload_n 0, 1) := by decide +kernel
theorem dX9_wake_116 : decode cX9_wake 116 = .ok (.iconst 1, 1) := by decide +kernel
theorem dX9_wake_117 : decode cX9_wake 117 = .ok (.aload_n 0, 1) := by decide +kernel
theorem dX9_wake_118 : decode cX9_wake 118 = .ok (.getfield 60, 3) := by decide +kernel
theorem dX9_wake_121 : decode cX9_wake 121 = .ok (.ishl, 1) := by decide +kernel
theorem dX9_wake_122 : decode cX9_wake 122 = .ok (.putfield 109, 3) := by decide +kernel
theorem dX9_wake_125 : decode cX9_wake 125 = .ok (.aload_n 0, 1) := by decide +kernel
theorem dX9_wake_126 : decode cX9_wake 126 = .ok (.iconst 1, 1) := by decide +kernel
theorem dX9_wake_127 : decode cX9_wake 127 = .ok (.aload_n 0, 1) := by decide +kernel
theorem dX9_wake_128 : decode cX9_wake 128 = .ok (.getfield 88, 3) := by decide +kernel
theorem dX9_wake_131 : decode cX9_wake 131 = .ok (.iconst 1, 1) := by decide +kernel
theorem dX9_wake_132 : decode cX9_wake 132 = .ok (.iadd, 1) := by decide +kernel
theorem dX9_wake_133 : decode cX9_wake 133 = .ok (.invokevirtual 441, 3) := by decide +kernel
theorem dX9_wake_136 : decode cX9_wake 136 = .ok (.aload_n 0, 1) := by decide +kernel
theorem dX9_wake_137 : decode cX9_wake 137 = .ok (.aload_n 0, 1) := by decide +kernel
theorem dX9_wake_138 : decode cX9_wake 138 = .ok (.getfield 109, 3) := by decide +kernel
theorem dX9_wake_141 : decode cX9_wake 141 = .ok (.invokevirtual 444, 3) := by decide +kernel
theorem dX9_wake_144 : decode cX9_wake 144 = .ok (.ifCond .eq 13, 3) := by decide +kernel
theorem dX9_wake_147 : decode cX9_wake 147 = .ok (.aload_n 0, 1) := by decide +kernel
theorem dX9_wake_148 : decode cX9_wake 148 = .ok (.dup, 1) := by decide +kernel
theorem dX9_wake_149 : decode cX9_wake 149 = .ok (.getfield 146, 3) := by decide +kernel
theorem dX9_wake_152 : decode cX9_wake 152 = .ok (.iconst 1, 1) := by decide +kernel
theorem dX9_wake_153 : decode cX9_wake 153 = .ok (.ior, 1) := by decide +kernel
theorem dX9_wake_154 : decode cX9_wake 154 = .ok (.putfield 146, 3) := by decide +kernel
theorem dX9_wake_157 : decode cX9_wake 157 = .ok (.return_, 1) := by decide +kernel
theorem dX9_campaign_0 : decode cX9_campaign 0 = .ok (.aload_n 0, 1) := by decide +kernel
theorem dX9_campaign_1 : decode cX9_campaign 1 = .ok (.iconst 2, 1) := by decide +kernel
theorem dX9_campaign_2 : decode cX9_campaign 2 = .ok (.putfield 85, 3) := by decide +kernel
theorem dX9_campaign_5 : decode cX9_campaign 5 = .ok (.aload_n 0, 1) := by decide +kernel
theorem dX9_campaign_6 : decode cX9_campaign 6 = .ok (.iconst (-1), 1) := by decide +kernel
theorem dX9_campaign_7 : decode cX9_campaign 7 = .ok (.putfield 47, 3) := by decide +kernel
theorem dX9_campaign_10 : decode cX9_campaign 10 = .ok (.aload_n 0, 1) := by decide +kernel
theorem dX9_campaign_11 : decode cX9_campaign 11 = .ok (.aload_n 0, 1) := by decide +kernel
theorem dX9_campaign_12 : decode cX9_campaign 12 = .ok (.getfield 88, 3) := by decide +kernel
theorem dX9_campaign_15 : decode cX9_campaign 15 = .ok (.iconst 1, 1) := by decide +kernel
theorem dX9_campaign_16 : decode cX9_campaign 16 = .ok (.iadd, 1) := by decide +kernel
theorem dX9_campaign_17 : decode cX9_campaign 17 = .ok (.aload_n 0, 1) := by decide +kernel
theorem dX9_campaign_18 : decode cX9_campaign 18 = .ok (.getfield 60, 3) := by decide +kernel
theorem dX9_campaign_21 : decode cX9_campaign 21 = .ok (.invokevirtual 425, 3) := by decide +kernel
theorem dX9_campaign_24 : decode cX9_campaign 24 = .ok (.aload_n 0, 1) := by decide +kernel
theorem dX9_campaign_25 : decode cX9_campaign 25 = .ok (.iconst 0, 1) := by decide +kernel
theorem dX9_campaign_26 : decode cX9_campaign 26 = .ok (.putfield 109, 3) := by decide +kernel
theorem dX9_campaign_29 : decode cX9_campaign 29 = .ok (.aload_n 0, 1) := by decide +kernel
theorem dX9_campaign_30 : decode cX9_campaign 30 = .ok (.getfield 63, 3) := by decide +kernel
theorem dX9_campaign_33 : decode cX9_campaign 33 = .ok (.aload_n 0, 1) := by decide +kernel
theorem dX9_campaign_34 : decode cX9_campaign 34 = .ok (.getfield 60, 3) := by decide +kernel
theorem dX9_campaign_37 : decode cX9_campaign 37 = .ok (.invokevirtual 251, 3) := by decide +kernel
theorem dX9_campaign_40 : decode cX9_campaign 40 = .ok (.aload_n 0, 1) := by decide +kernel
theorem dX9_campaign_41 : decode cX9_campaign 41 = .ok (.iconst 3, 1) := by decide +kernel
theorem dX9_campaign_42 : decode cX9_campaign 42 = .ok (.aload_n 0, 1) := by decide +kernel
theorem dX9_campaign_43 : decode cX9_campaign 43 = .ok (.getfield 88, 3) := by decide +kernel
theorem dX9_campaign_46 : decode cX9_campaign 46 = .ok (.invokevirtual 441, 3) := by decide +kernel
theorem dX9_campaign_49 : decode cX9_campaign 49 = .ok (.return_, 1) := by decide +kernel
theorem dX9_takeLead_0 : decode cX9_takeLead 0 = .ok (.aload_n 0, 1) := by decide +kernel
theorem dX9_takeLead_1 : decode cX9_takeLead 1 = .ok (.getfield 72, 3) := by decide +kernel
theorem dX9_takeLead_4 : decode cX9_takeLead 4 = .ok (.invokevirtual 326, 3) := by decide +kernel
theorem dX9_takeLead_7 : decode cX9_takeLead 7 = .ok (.sipush 300, 3) := by decide +kernel
theorem dX9_takeLead_10 : decode cX9_takeLead 10 = .ok (.if_icmp .lt 13, 3) := by decide +kernel
theorem dX9_takeLead_13 : decode cX9_takeLead 13 = .ok (.aload_n 0, 1) := by decide +kernel
theorem dX9_takeLead_14 : decode cX9_takeLead 14 = .ok (.aload_n 0, 1) := by decide +kernel
theorem dX9_takeLead_15 : decode cX9_takeLead 15 = .ok (.getfield 88, 3) := by decide +kernel
theorem dX9_takeLead_18 : decode cX9_takeLead 18 = .ok (.iconst (-1), 1) := by decide +kernel
theorem dX9_takeLead_19 : decode cX9_takeLead 19 = .ok (.invokevirtual 438, 3) := by decide +kernel
theorem dX9_takeLead_22 : decode cX9_takeLead 22 = .ok (.return_, 1) := by decide +kernel
theorem dX9_takeLead_23 : decode cX9_takeLead 23 = .ok (.aload_n 0, 1) := by decide +kernel
theorem dX9_takeLead_24 : decode cX9_takeLead 24 = .ok (.iconst 3, 1) := by decide +kernel
theorem dX9_takeLead_25 : decode cX9_takeLead 25 = .ok (.putfield 85, 3) := by decide +kernel
theorem dX9_takeLead_28 : decode cX9_takeLead 28 = .ok (.aload_n 0, 1) := by decide +kernel
theorem dX9_takeLead_29 : decode cX9_takeLead 29 = .ok (.aload_n 0, 1) := by decide +kernel
theorem dX9_takeLead_30 : decode cX9_takeLead 30 = .ok (.getfield 60, 3) := by decide +kernel
theorem dX9_takeLead_33 : decode cX9_takeLead 33 = .ok (.putfield 47, 3) := by decide +kernel
theorem dX9_takeLead_36 : decode cX9_takeLead 36 = .ok (.aload_n 0, 1) := by decide +kernel
theorem dX9_takeLead_37 : decode cX9_takeLead 37 = .ok (.getfield 21, 3) := by decide +kernel
theorem dX9_takeLead_40 : decode cX9_takeLead 40 = .ok (.aload_n 0, 1) := by decide +kernel
theorem dX9_takeLead_41 : decode cX9_takeLead 41 = .ok (.getfield 72, 3) := by decide +kernel
theorem dX9_takeLead_44 : decode cX9_takeLead 44 = .ok (.getfield 103, 3) := by decide +kernel
theorem dX9_takeLead_47 : decode cX9_takeLead 47 = .ok (.aload_n 0, 1) := by decide +kernel
theorem dX9_takeLead_48 : decode cX9_takeLead 48 = .ok (.getfield 63, 3) := by decide +kernel
theorem dX9_takeLead_51 : decode cX9_takeLead 51 = .ok (.getfield 241, 3) := by decide +kernel
theorem dX9_takeLead_54 : decode cX9_takeLead 54 = .ok (.invokevirtual 244, 3) := by decide +kernel
theorem dX9_takeLead_57 : decode cX9_takeLead 57 = .ok (.aload_n 0, 1) := by decide +kernel
theorem dX9_takeLead_58 : decode cX9_takeLead 58 = .ok (.aload_n 0, 1) := by decide +kernel
theorem dX9_takeLead_59 : decode cX9_takeLead 59 = .ok (.getfield 72, 3) := by decide +kernel
theorem dX9_takeLead_62 : decode cX9_takeLead 62 = .ok (.aload_n 0, 1) := by decide +kernel
theorem dX9_takeLead_63 : decode cX9_takeLead 63 = .ok (.getfield 88, 3) := by decide +kernel
theorem dX9_takeLead_66 : decode cX9_takeLead 66 = .ok (.iconst 0, 1) := by decide +kernel
theorem dX9_takeLead_67 : decode cX9_takeLead 67 = .ok (.iconst 0, 1) := by decide +kernel
theorem dX9_takeLead_68 : decode cX9_takeLead 68 = .ok (.iconst 0, 1) := by decide +kernel
theorem dX9_takeLead_69 : decode cX9_takeLead 69 = .ok (.iconst 0, 1) := by decide +kernel
theorem dX9_takeLead_70 : decode cX9_takeLead 70 = .ok (.iconst (-1), 1) := by decide +kernel
theorem dX9_takeLead_71 : decode cX9_takeLead 71 = .ok (.invokevirtual 447, 3) := by decide +kernel
theorem dX9_takeLead_74 : decode cX9_takeLead 74 = .ok (.iconst 0, 1) := by decide +kernel
theorem dX9_takeLead_75 : decode cX9_takeLead 75 = .ok (.invokevirtual 451, 3) := by decide +kernel
theorem dX9_takeLead_78 : decode cX9_takeLead 78 = .ok (.aload_n 0, 1) := by decide +kernel
theorem dX9_takeLead_79 : decode cX9_takeLead 79 = .ok (.dup, 1) := by decide +kernel
theorem dX9_takeLead_80 : decode cX9_takeLead 80 = .ok (.getfield 146, 3) := by decide +kernel
theorem dX9_takeLead_83 : decode cX9_takeLead 83 = .ok (.iconst 4, 1) := by decide +kernel
theorem dX9_takeLead_84 : decode cX9_takeLead 84 = .ok (.ior, 1) := by decide +kernel
theorem dX9_takeLead_85 : decode cX9_takeLead 85 = .ok (.putfield 146, 3) := by decide +kernel
theorem dX9_takeLead_88 : decode cX9_takeLead 88 = .ok (.return_, 1) := by decide +kernel
theorem dX9_beat_0 : decode cX9_beat 0 = .ok (.aload_n 0, 1) := by decide +kernel
theorem dX9_beat_1 : decode cX9_beat 1 = .ok (.getfield 21, 3) := by decide +kernel
theorem dX9_beat_4 : decode cX9_beat 4 = .ok (.getfield 112, 3) := by decide +kernel
theorem dX9_beat_7 : decode cX9_beat 7 = .ok (.iconst (-1), 1) := by decide +kernel
theorem dX9_beat_8 : decode cX9_beat 8 = .ok (.if_icmp .eq 31, 3) := by decide +kernel
theorem dX9_beat_11 : decode cX9_beat 11 = .ok (.aload_n 0, 1) := by decide +kernel
theorem dX9_beat_12 : decode cX9_beat 12 = .ok (.getfield 63, 3) := by decide +kernel
theorem dX9_beat_15 : decode cX9_beat 15 = .ok (.getfield 241, 3) := by decide +kernel
theorem dX9_beat_18 : decode cX9_beat 18 = .ok (.aload_n 0, 1) := by decide +kernel
theorem dX9_beat_19 : decode cX9_beat 19 = .ok (.getfield 21, 3) := by decide +kernel
theorem dX9_beat_22 : decode cX9_beat 22 = .ok (.getfield 453, 3) := by decide +kernel
theorem dX9_beat_25 : decode cX9_beat 25 = .ok (.isub, 1) := by decide +kernel
theorem dX9_beat_26 : decode cX9_beat 26 = .ok (.bipush 50, 2) := by decide +kernel
theorem dX9_beat_28 : decode cX9_beat 28 = .ok (.if_icmp .le 11, 3) := by decide +kernel
theorem dX9_beat_31 : decode cX9_beat 31 = .ok (.aload_n 0, 1) := by decide +kernel
theorem dX9_beat_32 : decode cX9_beat 32 = .ok (.getfield 21, 3) := by decide +kernel
theorem dX9_beat_35 : decode cX9_beat 35 = .ok (.iconst (-1), 1) := by decide +kernel
theorem dX9_beat_36 : decode cX9_beat 36 = .ok (.putfield 112, 3) := by decide +kernel
theorem dX9_beat_39 : decode cX9_beat 39 = .ok (.aload_n 0, 1) := by decide +kernel
theorem dX9_beat_40 : decode cX9_beat 40 = .ok (.getfield 63, 3) := by decide +kernel
theorem dX9_beat_43 : decode cX9_beat 43 = .ok (.aload_n 0, 1) := by decide +kernel
theorem dX9_beat_44 : decode cX9_beat 44 = .ok (.getfield 60, 3) := by decide +kernel
theorem dX9_beat_47 : decode cX9_beat 47 = .ok (.aload_n 0, 1) := by decide +kernel
theorem dX9_beat_48 : decode cX9_beat 48 = .ok (.getfield 63, 3) := by decide +kernel
theorem dX9_beat_51 : decode cX9_beat 51 = .ok (.getfield 241, 3) := by decide +kernel
theorem dX9_beat_54 : decode cX9_beat 54 = .ok (.bipush 10, 2) := by decide +kernel
theorem dX9_beat_56 : decode cX9_beat 56 = .ok (.iadd, 1) := by decide +kernel
theorem dX9_beat_57 : decode cX9_beat 57 = .ok (.invokevirtual 320, 3) := by decide +kernel
theorem dX9_beat_60 : decode cX9_beat 60 = .ok (.aload_n 0, 1) := by decide +kernel
theorem dX9_beat_61 : decode cX9_beat 61 = .ok (.getfield 21, 3) := by decide +kernel
theorem dX9_beat_64 : decode cX9_beat 64 = .ok (.dup, 1) := by decide +kernel
theorem dX9_beat_65 : decode cX9_beat 65 = .ok (.getfield 118, 3) := by decide +kernel
theorem dX9_beat_68 : decode cX9_beat 68 = .ok (.iconst 1, 1) := by decide +kernel
theorem dX9_beat_69 : decode cX9_beat 69 = .ok (.iadd, 1) := by decide +kernel
theorem dX9_beat_70 : decode cX9_beat 70 = .ok (.putfield 118, 3) := by decide +kernel
theorem dX9_beat_73 : decode cX9_beat 73 = .ok (.aload_n 0, 1) := by decide +kernel
theorem dX9_beat_74 : decode cX9_beat 74 = .ok (.invokevirtual 373, 3) := by decide +kernel
theorem dX9_beat_77 : decode cX9_beat 77 = .ok (.istore_n 1, 1) := by decide +kernel
theorem dX9_beat_78 : decode cX9_beat 78 = .ok (.iconst 0, 1) := by decide +kernel
theorem dX9_beat_79 : decode cX9_beat 79 = .ok (.istore_n 2, 1) := by decide +kernel
theorem dX9_beat_80 : decode cX9_beat 80 = .ok (.iload_n 2, 1) := by decide +kernel
theorem dX9_beat_81 : decode cX9_beat 81 = .ok (.bipush 7, 2) := by decide +kernel
theorem dX9_beat_83 : decode cX9_beat 83 = .ok (.if_icmp .ge 91, 3) := by decide +kernel
theorem dX9_beat_86 : decode cX9_beat 86 = .ok (.iload_n 1, 1) := by decide +kernel
theorem dX9_beat_87 : decode cX9_beat 87 = .ok (.iload_n 2, 1) := by decide +kernel
theorem dX9_beat_88 : decode cX9_beat 88 = .ok (.ishr, 1) := by decide +kernel
theorem dX9_beat_89 : decode cX9_beat 89 = .ok (.iconst 1, 1) := by decide +kernel
theorem dX9_beat_90 : decode cX9_beat 90 = .ok (.iand, 1) := by decide +kernel
theorem dX9_beat_91 : decode cX9_beat 91 = .ok (.ifCond .eq 67, 3) := by decide +kernel
theorem dX9_beat_94 : decode cX9_beat 94 = .ok (.aload_n 0, 1) := by decide +kernel
theorem dX9_beat_95 : decode cX9_beat 95 = .ok (.getfield 21, 3) := by decide +kernel
theorem dX9_beat_98 : decode cX9_beat 98 = .ok (.getfield 383, 3) := by decide +kernel
theorem dX9_beat_101 : decode cX9_beat 101 = .ok (.iload_n 2, 1) := by decide +kernel
theorem dX9_beat_102 : decode cX9_beat 102 = .ok (.iaload, 1) := by decide +kernel
theorem dX9_beat_103 : decode cX9_beat 103 = .ok (.ifCond .le 55, 3) := by decide +kernel
